/-! THE CODE AS PURE PROGRAMS, 18: by wip/whole/dc.py -/
section D59
variable {sc : Nat × (Nat → Int32)} {fm : Value}
theorem wf_130_292 : rx_ft (rt_P sc fm) 130 292 = some (15, 97) := (by decide +kernel : rt_ft 130 292 = some (15, 97))
theorem wf_130_305 : rx_ft (rt_P sc fm) 130 305 = some (15, 103) := (by decide +kernel : rt_ft 130 305 = some (15, 103))
theorem wf_130_874 : rx_ft (rt_P sc fm) 130 874 = some (15, 102) := (by decide +kernel : rt_ft 130 874 = some (15, 102))
theorem wi_130_0 : ri (rt_P sc fm) 130 0 (.aload_n 0) (1) := ri_of (by decide +kernel) rfl
theorem wi_130_1 : ri (rt_P sc fm) 130 1 (.iconst 0) (2) := ri_of (by decide +kernel) rfl
theorem wi_130_12 : ri (rt_P sc fm) 130 12 (.iload_n 1) (13) := ri_of (by decide +kernel) rfl
theorem wi_130_13 : ri (rt_P sc fm) 130 13 (.ifCond .lt 20) (16) := ri_of (by decide +kernel) rfl
theorem wi_130_16 : ri (rt_P sc fm) 130 16 (.iload_n 1) (17) := ri_of (by decide +kernel) rfl
theorem wi_130_17 : ri (rt_P sc fm) 130 17 (.aload_n 0) (18) := ri_of (by decide +kernel) rfl
theorem wi_130_18 : ri (rt_P sc fm) 130 18 (.getfield 874) (21) := ri_of (by decide +kernel) rfl
theorem wi_130_2 : ri (rt_P sc fm) 130 2 (.putfield 356) (5) := ri_of (by decide +kernel) rfl
theorem wi_130_21 : ri (rt_P sc fm) 130 21 (.if_icmp .ge 12) (24) := ri_of (by decide +kernel) rfl
theorem wi_130_24 : ri (rt_P sc fm) 130 24 (.aload_n 0) (25) := ri_of (by decide +kernel) rfl
theorem wi_130_25 : ri (rt_P sc fm) 130 25 (.getfield 305) (28) := ri_of (by decide +kernel) rfl
theorem wi_130_28 : ri (rt_P sc fm) 130 28 (.iload_n 1) (29) := ri_of (by decide +kernel) rfl
theorem wi_130_29 : ri (rt_P sc fm) 130 29 (.iaload) (30) := ri_of (by decide +kernel) rfl
theorem wi_130_30 : ri (rt_P sc fm) 130 30 (.goto 4) (33) := ri_of (by decide +kernel) rfl
theorem wi_130_33 : ri (rt_P sc fm) 130 33 (.iconst (-1)) (34) := ri_of (by decide +kernel) rfl
theorem wi_130_34 : ri (rt_P sc fm) 130 34 (.ireturn) (35) := ri_of (by decide +kernel) rfl
theorem wi_130_5 : ri (rt_P sc fm) 130 5 (.aload_n 0) (6) := ri_of (by decide +kernel) rfl
theorem wi_130_6 : ri (rt_P sc fm) 130 6 (.getfield 292) (9) := ri_of (by decide +kernel) rfl
theorem wi_130_9 : ri (rt_P sc fm) 130 9 (.ifCond .lt 24) (12) := ri_of (by decide +kernel) rfl
theorem wp_130_356 : rx_pt (rt_P sc fm) 130 356 = some (15, 0, .int) := (by decide +kernel : rt_pt 130 356 = some (15, 0, .int))
theorem wr_130 : rx_rt (rt_P sc fm) 130 = (some FieldType.int) := (by decide +kernel : rt_rt 130 = (some FieldType.int))
/-- MarkHouseModel.step(I)I -/
def d_130 (n : Nat) (a1 : Int32) (c : cS) : Option (Int32 × cS) :=
  lt (pI c 174 0 0) (fun c1 =>
  jn (fun p3 : Int32 =>
    some (p3, c1))
  (fun j34 =>
  jn (fun p4 : Unit =>
    j34 (-1))
  (fun j33 =>
  if (c1.1 174 97) < 0 then
    j33 ()
  else
    if a1 < 0 then
      j33 ()
    else
      if (c1.1 174 102) ≤ a1 then
        j33 ()
      else
        if ib a1 400 then
        j34 (c1.1 249 (ix a1))
        else none)))
theorem sp_130 {F Lo n : Nat} {a1 : Int32} {c y : cS} {w : cW} {K : Int32 × cS → Prop} {Q : ((Option Value) ⊕ String) → List va_E → Prop} (hw : rOK fm w) (hF : 0 ≤ F) (hLo : 0 ≤ Lo)  (h : wp (d_130 n a1 c) K) (hQ : ∀ r, K r → Q (.inl (some (.int r.1))) (hq false r.2 y w)) : rs (rt_P sc fm) 130 F Lo 0 [(0, .ref 174), (1, .int a1)] [] (hq false c y w) Q := by
  unfold d_130 at h
  obtain ⟨lv, elv⟩ : ∃ lv : rx_L, lv = [(0, .ref 174), (1, .int a1)] := ⟨_, rfl⟩
  rw [← elv]
  have l0 : rx_ld lv 0 = some (.ref 174) := by rw [elv]; rfl
  have l1 : rx_ld lv 1 = some (.int a1) := by rw [elv]; rfl
  refine rs_aldn wi_130_0 l0 ?_
  refine rs_pure wi_130_1 rfl ?_
  refine rs_topi (v := 0) (by decide) ?_
  obtain ⟨c1, e2, h⟩ := wp_lt h
  refine dq_pi wi_130_2 wp_130_356 tf_174_0 rfl rfl e2 ?_
  refine rs_aldn wi_130_5 l0 ?_
  refine dq_gi wi_130_6 wf_130_292 tf_174_97 ?_
  refine wp_jn (B := fun p3 : Int32 => ∀ lv, rs (rt_P sc fm) 130 F Lo 34 lv [.int p3] (hq false c1 y w) Q) h (fun p3 h lv => ?_) (fun j34 hj34 h => ?_)
  ·
    exact rs_iret wi_130_34 wr_130 rfl (hQ (p3, c1) h)
  refine wp_jn (B := fun p4 : Unit => ∀ lv, rs (rt_P sc fm) 130 F Lo 33 lv [] (hq false c1 y w) Q) h (fun p4 h lv => ?_) (fun j33 hj33 h => ?_)
  ·
    refine rs_pure wi_130_33 rfl ?_
    refine rs_topi (v := (-1)) (by decide) ?_
    exact hj34 _ h _
  refine rs_iflt (tg := 33) wi_130_9 ⟨by decide, by decide⟩ (fun q => ?_) (fun q => ?_)
  ·
    have h := wp_pos h q
    exact hj33 _ h _
  ·
    have h := wp_neg h q
    refine rs_ildn wi_130_12 l1 ?_
    refine rs_iflt (tg := 33) wi_130_13 ⟨by decide, by decide⟩ (fun q => ?_) (fun q => ?_)
    ·
      have h := wp_pos h q
      exact hj33 _ h _
    ·
      have h := wp_neg h q
      refine rs_ildn wi_130_16 l1 ?_
      refine rs_aldn wi_130_17 l0 ?_
      refine dq_gi wi_130_18 wf_130_874 tf_174_102 ?_
      refine rs_icge (tg := 33) wi_130_21 ⟨by decide, by decide⟩ (fun q => ?_) (fun q => ?_)
      ·
        have h := wp_pos h q
        exact hj33 _ h _
      ·
        have h := wp_neg h q
        refine rs_aldn wi_130_24 l0 ?_
        refine dq_gr wi_130_25 wf_130_305 tf_174_103 ?_
        refine rs_ildn wi_130_28 l1 ?_
        obtain ⟨g5, h⟩ := wp_gd h
        refine dq_iald wi_130_29 t_249 g5 ?_
        refine rs_goto (tg := 34) wi_130_30 ⟨by decide, by decide⟩ ?_
        exact hj34 _ h _
theorem wc_131_535 : rx_ct (rt_P sc fm) 131 535 = some (0, 387, 3) := (by decide +kernel : rt_ct 131 535 = some (0, 387, 3))
theorem wc_131_614 : rx_ct (rt_P sc fm) 131 614 = some (0, 105, 1) := (by decide +kernel : rt_ct 131 614 = some (0, 105, 1))
theorem wc_131_637 : rx_ct (rt_P sc fm) 131 637 = some (0, 133, 0) := (by decide +kernel : rt_ct 131 637 = some (0, 133, 0))
theorem wc_131_712 : rx_ct (rt_P sc fm) 131 712 = some (0, 428, 2) := (by decide +kernel : rt_ct 131 712 = some (0, 428, 2))
theorem wc_131_724 : rx_ct (rt_P sc fm) 131 724 = some (0, 119, 1) := (by decide +kernel : rt_ct 131 724 = some (0, 119, 1))
theorem wc_131_727 : rx_ct (rt_P sc fm) 131 727 = some (0, 390, 3) := (by decide +kernel : rt_ct 131 727 = some (0, 390, 3))
theorem wc_131_829 : rx_ct (rt_P sc fm) 131 829 = some (0, 112, 1) := (by decide +kernel : rt_ct 131 829 = some (0, 112, 1))
theorem wc_131_853 : rx_ct (rt_P sc fm) 131 853 = some (0, 457, 1) := (by decide +kernel : rt_ct 131 853 = some (0, 457, 1))
theorem wc_131_856 : rx_ct (rt_P sc fm) 131 856 = some (0, 450, 1) := (by decide +kernel : rt_ct 131 856 = some (0, 450, 1))
theorem wc_131_862 : rx_ct (rt_P sc fm) 131 862 = some (0, 456, 2) := (by decide +kernel : rt_ct 131 862 = some (0, 456, 2))
theorem wc_131_865 : rx_ct (rt_P sc fm) 131 865 = some (0, 459, 2) := (by decide +kernel : rt_ct 131 865 = some (0, 459, 2))
theorem wc_131_868 : rx_ct (rt_P sc fm) 131 868 = some (0, 458, 3) := (by decide +kernel : rt_ct 131 868 = some (0, 458, 3))
theorem wf_131_116 : rx_ft (rt_P sc fm) 131 116 = some (15, 23) := (by decide +kernel : rt_ft 131 116 = some (15, 23))
theorem wf_131_182 : rx_ft (rt_P sc fm) 131 182 = some (15, 48) := (by decide +kernel : rt_ft 131 182 = some (15, 48))
theorem wf_131_243 : rx_ft (rt_P sc fm) 131 243 = some (15, 70) := (by decide +kernel : rt_ft 131 243 = some (15, 70))
theorem wf_131_258 : rx_ft (rt_P sc fm) 131 258 = some (15, 84) := (by decide +kernel : rt_ft 131 258 = some (15, 84))
theorem wf_131_264 : rx_ft (rt_P sc fm) 131 264 = some (15, 86) := (by decide +kernel : rt_ft 131 264 = some (15, 86))
theorem wf_131_268 : rx_ft (rt_P sc fm) 131 268 = some (15, 87) := (by decide +kernel : rt_ft 131 268 = some (15, 87))
theorem wf_131_271 : rx_ft (rt_P sc fm) 131 271 = some (15, 88) := (by decide +kernel : rt_ft 131 271 = some (15, 88))
theorem wf_131_678 : rx_ft (rt_P sc fm) 131 678 = some (15, 74) := (by decide +kernel : rt_ft 131 678 = some (15, 74))
theorem wi_131_0 : ri (rt_P sc fm) 131 0 (.aload_n 0) (1) := ri_of (by decide +kernel) rfl
theorem wi_131_1 : ri (rt_P sc fm) 131 1 (.iconst 0) (2) := ri_of (by decide +kernel) rfl
theorem wi_131_10 : ri (rt_P sc fm) 131 10 (.ifCond .ne 5) (13) := ri_of (by decide +kernel) rfl
theorem wi_131_100 : ri (rt_P sc fm) 131 100 (.iconst 0) (101) := ri_of (by decide +kernel) rfl
theorem wi_131_101 : ri (rt_P sc fm) 131 101 (.istore 4) (103) := ri_of (by decide +kernel) rfl
theorem wi_131_103 : ri (rt_P sc fm) 131 103 (.iload 4) (105) := ri_of (by decide +kernel) rfl
theorem wi_131_105 : ri (rt_P sc fm) 131 105 (.bipush 96) (107) := ri_of (by decide +kernel) rfl
theorem wi_131_107 : ri (rt_P sc fm) 131 107 (.if_icmp .ge 206) (110) := ri_of (by decide +kernel) rfl
theorem wi_131_110 : ri (rt_P sc fm) 131 110 (.aload_n 0) (111) := ri_of (by decide +kernel) rfl
theorem wi_131_111 : ri (rt_P sc fm) 131 111 (.iload 4) (113) := ri_of (by decide +kernel) rfl
theorem wi_131_113 : ri (rt_P sc fm) 131 113 (.invokevirtual 614) (116) := ri_of (by decide +kernel) rfl
theorem wi_131_116 : ri (rt_P sc fm) 131 116 (.ifCond .ne 6) (119) := ri_of (by decide +kernel) rfl
theorem wi_131_119 : ri (rt_P sc fm) 131 119 (.goto 188) (122) := ri_of (by decide +kernel) rfl
theorem wi_131_122 : ri (rt_P sc fm) 131 122 (.aload_n 0) (123) := ri_of (by decide +kernel) rfl
theorem wi_131_123 : ri (rt_P sc fm) 131 123 (.iload 4) (125) := ri_of (by decide +kernel) rfl
theorem wi_131_125 : ri (rt_P sc fm) 131 125 (.iload_n 1) (126) := ri_of (by decide +kernel) rfl
theorem wi_131_126 : ri (rt_P sc fm) 131 126 (.invokevirtual 862) (129) := ri_of (by decide +kernel) rfl
theorem wi_131_129 : ri (rt_P sc fm) 131 129 (.bipush 40) (131) := ri_of (by decide +kernel) rfl
theorem wi_131_13 : ri (rt_P sc fm) 131 13 (.iconst (-1)) (14) := ri_of (by decide +kernel) rfl
theorem wi_131_131 : ri (rt_P sc fm) 131 131 (.iload 4) (133) := ri_of (by decide +kernel) rfl
theorem wi_131_133 : ri (rt_P sc fm) 131 133 (.imul) (134) := ri_of (by decide +kernel) rfl
theorem wi_131_134 : ri (rt_P sc fm) 131 134 (.istore 5) (136) := ri_of (by decide +kernel) rfl
theorem wi_131_136 : ri (rt_P sc fm) 131 136 (.iload 5) (138) := ri_of (by decide +kernel) rfl
theorem wi_131_138 : ri (rt_P sc fm) 131 138 (.bipush 40) (140) := ri_of (by decide +kernel) rfl
theorem wi_131_14 : ri (rt_P sc fm) 131 14 (.ireturn) (15) := ri_of (by decide +kernel) rfl
theorem wi_131_140 : ri (rt_P sc fm) 131 140 (.iload 4) (142) := ri_of (by decide +kernel) rfl
theorem wi_131_142 : ri (rt_P sc fm) 131 142 (.imul) (143) := ri_of (by decide +kernel) rfl
theorem wi_131_143 : ri (rt_P sc fm) 131 143 (.aload_n 0) (144) := ri_of (by decide +kernel) rfl
theorem wi_131_144 : ri (rt_P sc fm) 131 144 (.getfield 182) (147) := ri_of (by decide +kernel) rfl
theorem wi_131_147 : ri (rt_P sc fm) 131 147 (.iload 4) (149) := ri_of (by decide +kernel) rfl
theorem wi_131_149 : ri (rt_P sc fm) 131 149 (.iaload) (150) := ri_of (by decide +kernel) rfl
theorem wi_131_15 : ri (rt_P sc fm) 131 15 (.aload_n 0) (16) := ri_of (by decide +kernel) rfl
theorem wi_131_150 : ri (rt_P sc fm) 131 150 (.iadd) (151) := ri_of (by decide +kernel) rfl
theorem wi_131_151 : ri (rt_P sc fm) 131 151 (.if_icmp .ge 156) (154) := ri_of (by decide +kernel) rfl
theorem wi_131_154 : ri (rt_P sc fm) 131 154 (.iconst 0) (155) := ri_of (by decide +kernel) rfl
theorem wi_131_155 : ri (rt_P sc fm) 131 155 (.istore 6) (157) := ri_of (by decide +kernel) rfl
theorem wi_131_157 : ri (rt_P sc fm) 131 157 (.iload 6) (159) := ri_of (by decide +kernel) rfl
theorem wi_131_159 : ri (rt_P sc fm) 131 159 (.aload_n 0) (160) := ri_of (by decide +kernel) rfl
theorem wi_131_16 : ri (rt_P sc fm) 131 16 (.invokevirtual 637) (19) := ri_of (by decide +kernel) rfl
theorem wi_131_160 : ri (rt_P sc fm) 131 160 (.iload 5) (162) := ri_of (by decide +kernel) rfl
theorem wi_131_162 : ri (rt_P sc fm) 131 162 (.invokevirtual 853) (165) := ri_of (by decide +kernel) rfl
theorem wi_131_165 : ri (rt_P sc fm) 131 165 (.if_icmp .ge 136) (168) := ri_of (by decide +kernel) rfl
theorem wi_131_168 : ri (rt_P sc fm) 131 168 (.aload_n 0) (169) := ri_of (by decide +kernel) rfl
theorem wi_131_169 : ri (rt_P sc fm) 131 169 (.getfield 271) (172) := ri_of (by decide +kernel) rfl
theorem wi_131_172 : ri (rt_P sc fm) 131 172 (.iload 5) (174) := ri_of (by decide +kernel) rfl
theorem wi_131_174 : ri (rt_P sc fm) 131 174 (.baload) (175) := ri_of (by decide +kernel) rfl
theorem wi_131_175 : ri (rt_P sc fm) 131 175 (.ifCond .eq 126) (178) := ri_of (by decide +kernel) rfl
theorem wi_131_178 : ri (rt_P sc fm) 131 178 (.aload_n 0) (179) := ri_of (by decide +kernel) rfl
theorem wi_131_179 : ri (rt_P sc fm) 131 179 (.iload 4) (181) := ri_of (by decide +kernel) rfl
theorem wi_131_181 : ri (rt_P sc fm) 131 181 (.iload 5) (183) := ri_of (by decide +kernel) rfl
theorem wi_131_183 : ri (rt_P sc fm) 131 183 (.iload 6) (185) := ri_of (by decide +kernel) rfl
theorem wi_131_185 : ri (rt_P sc fm) 131 185 (.invokevirtual 868) (188) := ri_of (by decide +kernel) rfl
theorem wi_131_188 : ri (rt_P sc fm) 131 188 (.istore 7) (190) := ri_of (by decide +kernel) rfl
theorem wi_131_19 : ri (rt_P sc fm) 131 19 (.iconst 0) (20) := ri_of (by decide +kernel) rfl
theorem wi_131_190 : ri (rt_P sc fm) 131 190 (.aload_n 0) (191) := ri_of (by decide +kernel) rfl
theorem wi_131_191 : ri (rt_P sc fm) 131 191 (.getfield 268) (194) := ri_of (by decide +kernel) rfl
theorem wi_131_194 : ri (rt_P sc fm) 131 194 (.bipush 16) (196) := ri_of (by decide +kernel) rfl
theorem wi_131_196 : ri (rt_P sc fm) 131 196 (.iload 5) (198) := ri_of (by decide +kernel) rfl
theorem wi_131_198 : ri (rt_P sc fm) 131 198 (.imul) (199) := ri_of (by decide +kernel) rfl
theorem wi_131_199 : ri (rt_P sc fm) 131 199 (.bipush 8) (201) := ri_of (by decide +kernel) rfl
theorem wi_131_2 : ri (rt_P sc fm) 131 2 (.putfield 356) (5) := ri_of (by decide +kernel) rfl
theorem wi_131_20 : ri (rt_P sc fm) 131 20 (.istore_n 2) (21) := ri_of (by decide +kernel) rfl
theorem wi_131_201 : ri (rt_P sc fm) 131 201 (.iadd) (202) := ri_of (by decide +kernel) rfl
theorem wi_131_202 : ri (rt_P sc fm) 131 202 (.aload_n 0) (203) := ri_of (by decide +kernel) rfl
theorem wi_131_203 : ri (rt_P sc fm) 131 203 (.getfield 243) (206) := ri_of (by decide +kernel) rfl
theorem wi_131_206 : ri (rt_P sc fm) 131 206 (.iload 5) (208) := ri_of (by decide +kernel) rfl
theorem wi_131_208 : ri (rt_P sc fm) 131 208 (.iaload) (209) := ri_of (by decide +kernel) rfl
theorem wi_131_209 : ri (rt_P sc fm) 131 209 (.iadd) (210) := ri_of (by decide +kernel) rfl
theorem wi_131_21 : ri (rt_P sc fm) 131 21 (.iconst 0) (22) := ri_of (by decide +kernel) rfl
theorem wi_131_210 : ri (rt_P sc fm) 131 210 (.iconst 1) (211) := ri_of (by decide +kernel) rfl
theorem wi_131_211 : ri (rt_P sc fm) 131 211 (.isub) (212) := ri_of (by decide +kernel) rfl
theorem wi_131_212 : ri (rt_P sc fm) 131 212 (.aload_n 0) (213) := ri_of (by decide +kernel) rfl
theorem wi_131_213 : ri (rt_P sc fm) 131 213 (.iload 5) (215) := ri_of (by decide +kernel) rfl
theorem wi_131_215 : ri (rt_P sc fm) 131 215 (.iload 6) (217) := ri_of (by decide +kernel) rfl
theorem wi_131_217 : ri (rt_P sc fm) 131 217 (.invokevirtual 865) (220) := ri_of (by decide +kernel) rfl
theorem wi_131_22 : ri (rt_P sc fm) 131 22 (.istore_n 3) (23) := ri_of (by decide +kernel) rfl
theorem wi_131_220 : ri (rt_P sc fm) 131 220 (.isub) (221) := ri_of (by decide +kernel) rfl
theorem wi_131_221 : ri (rt_P sc fm) 131 221 (.iaload) (222) := ri_of (by decide +kernel) rfl
theorem wi_131_222 : ri (rt_P sc fm) 131 222 (.istore 8) (224) := ri_of (by decide +kernel) rfl
theorem wi_131_224 : ri (rt_P sc fm) 131 224 (.aload_n 0) (225) := ri_of (by decide +kernel) rfl
theorem wi_131_225 : ri (rt_P sc fm) 131 225 (.getfield 264) (228) := ri_of (by decide +kernel) rfl
theorem wi_131_228 : ri (rt_P sc fm) 131 228 (.iload 7) (230) := ri_of (by decide +kernel) rfl
theorem wi_131_23 : ri (rt_P sc fm) 131 23 (.iload_n 3) (24) := ri_of (by decide +kernel) rfl
theorem wi_131_230 : ri (rt_P sc fm) 131 230 (.baload) (231) := ri_of (by decide +kernel) rfl
theorem wi_131_231 : ri (rt_P sc fm) 131 231 (.ifCond .ne 64) (234) := ri_of (by decide +kernel) rfl
theorem wi_131_234 : ri (rt_P sc fm) 131 234 (.aload_n 0) (235) := ri_of (by decide +kernel) rfl
theorem wi_131_235 : ri (rt_P sc fm) 131 235 (.iload_n 1) (236) := ri_of (by decide +kernel) rfl
theorem wi_131_236 : ri (rt_P sc fm) 131 236 (.iload 8) (238) := ri_of (by decide +kernel) rfl
theorem wi_131_238 : ri (rt_P sc fm) 131 238 (.aload_n 0) (239) := ri_of (by decide +kernel) rfl
theorem wi_131_239 : ri (rt_P sc fm) 131 239 (.getfield 258) (242) := ri_of (by decide +kernel) rfl
theorem wi_131_24 : ri (rt_P sc fm) 131 24 (.sipush 1200) (27) := ri_of (by decide +kernel) rfl
theorem wi_131_242 : ri (rt_P sc fm) 131 242 (.sipush 1200) (245) := ri_of (by decide +kernel) rfl
theorem wi_131_245 : ri (rt_P sc fm) 131 245 (.iload_n 1) (246) := ri_of (by decide +kernel) rfl
theorem wi_131_246 : ri (rt_P sc fm) 131 246 (.imul) (247) := ri_of (by decide +kernel) rfl
theorem wi_131_247 : ri (rt_P sc fm) 131 247 (.iload 7) (249) := ri_of (by decide +kernel) rfl
theorem wi_131_249 : ri (rt_P sc fm) 131 249 (.iadd) (250) := ri_of (by decide +kernel) rfl
theorem wi_131_250 : ri (rt_P sc fm) 131 250 (.iaload) (251) := ri_of (by decide +kernel) rfl
theorem wi_131_251 : ri (rt_P sc fm) 131 251 (.invokevirtual 535) (254) := ri_of (by decide +kernel) rfl
theorem wi_131_254 : ri (rt_P sc fm) 131 254 (.ifCond .eq 6) (257) := ri_of (by decide +kernel) rfl
theorem wi_131_257 : ri (rt_P sc fm) 131 257 (.goto 38) (260) := ri_of (by decide +kernel) rfl
theorem wi_131_260 : ri (rt_P sc fm) 131 260 (.aload_n 0) (261) := ri_of (by decide +kernel) rfl
theorem wi_131_261 : ri (rt_P sc fm) 131 261 (.getfield 258) (264) := ri_of (by decide +kernel) rfl
theorem wi_131_264 : ri (rt_P sc fm) 131 264 (.sipush 1200) (267) := ri_of (by decide +kernel) rfl
theorem wi_131_267 : ri (rt_P sc fm) 131 267 (.iload_n 1) (268) := ri_of (by decide +kernel) rfl
theorem wi_131_268 : ri (rt_P sc fm) 131 268 (.imul) (269) := ri_of (by decide +kernel) rfl
theorem wi_131_269 : ri (rt_P sc fm) 131 269 (.iload 7) (271) := ri_of (by decide +kernel) rfl
theorem wi_131_27 : ri (rt_P sc fm) 131 27 (.if_icmp .ge 60) (30) := ri_of (by decide +kernel) rfl
theorem wi_131_271 : ri (rt_P sc fm) 131 271 (.iadd) (272) := ri_of (by decide +kernel) rfl
theorem wi_131_272 : ri (rt_P sc fm) 131 272 (.aload_n 0) (273) := ri_of (by decide +kernel) rfl
theorem wi_131_273 : ri (rt_P sc fm) 131 273 (.iload_n 1) (274) := ri_of (by decide +kernel) rfl
theorem wi_131_274 : ri (rt_P sc fm) 131 274 (.iload 8) (276) := ri_of (by decide +kernel) rfl
theorem wi_131_276 : ri (rt_P sc fm) 131 276 (.aload_n 0) (277) := ri_of (by decide +kernel) rfl
theorem wi_131_277 : ri (rt_P sc fm) 131 277 (.getfield 258) (280) := ri_of (by decide +kernel) rfl
theorem wi_131_280 : ri (rt_P sc fm) 131 280 (.sipush 1200) (283) := ri_of (by decide +kernel) rfl
theorem wi_131_283 : ri (rt_P sc fm) 131 283 (.iload_n 1) (284) := ri_of (by decide +kernel) rfl
theorem wi_131_284 : ri (rt_P sc fm) 131 284 (.imul) (285) := ri_of (by decide +kernel) rfl
theorem wi_131_285 : ri (rt_P sc fm) 131 285 (.iload 7) (287) := ri_of (by decide +kernel) rfl
theorem wi_131_287 : ri (rt_P sc fm) 131 287 (.iadd) (288) := ri_of (by decide +kernel) rfl
theorem wi_131_288 : ri (rt_P sc fm) 131 288 (.iaload) (289) := ri_of (by decide +kernel) rfl
theorem wi_131_289 : ri (rt_P sc fm) 131 289 (.invokevirtual 727) (292) := ri_of (by decide +kernel) rfl
theorem wi_131_292 : ri (rt_P sc fm) 131 292 (.iastore) (293) := ri_of (by decide +kernel) rfl
theorem wi_131_293 : ri (rt_P sc fm) 131 293 (.iconst 1) (294) := ri_of (by decide +kernel) rfl
theorem wi_131_294 : ri (rt_P sc fm) 131 294 (.istore_n 3) (295) := ri_of (by decide +kernel) rfl
theorem wi_131_295 : ri (rt_P sc fm) 131 295 (.iinc 6 1) (298) := ri_of (by decide +kernel) rfl
theorem wi_131_298 : ri (rt_P sc fm) 131 298 (.goto (-141)) (301) := ri_of (by decide +kernel) rfl
theorem wi_131_30 : ri (rt_P sc fm) 131 30 (.aload_n 0) (31) := ri_of (by decide +kernel) rfl
theorem wi_131_301 : ri (rt_P sc fm) 131 301 (.iinc 5 1) (304) := ri_of (by decide +kernel) rfl
theorem wi_131_304 : ri (rt_P sc fm) 131 304 (.goto (-168)) (307) := ri_of (by decide +kernel) rfl
theorem wi_131_307 : ri (rt_P sc fm) 131 307 (.iinc 4 1) (310) := ri_of (by decide +kernel) rfl
theorem wi_131_31 : ri (rt_P sc fm) 131 31 (.iload_n 3) (32) := ri_of (by decide +kernel) rfl
theorem wi_131_310 : ri (rt_P sc fm) 131 310 (.goto (-207)) (313) := ri_of (by decide +kernel) rfl
theorem wi_131_313 : ri (rt_P sc fm) 131 313 (.goto (-224)) (316) := ri_of (by decide +kernel) rfl
theorem wi_131_316 : ri (rt_P sc fm) 131 316 (.iload_n 2) (317) := ri_of (by decide +kernel) rfl
theorem wi_131_317 : ri (rt_P sc fm) 131 317 (.ireturn) (318) := ri_of (by decide +kernel) rfl
theorem wi_131_32 : ri (rt_P sc fm) 131 32 (.invokevirtual 829) (35) := ri_of (by decide +kernel) rfl
theorem wi_131_35 : ri (rt_P sc fm) 131 35 (.ifCond .ne 6) (38) := ri_of (by decide +kernel) rfl
theorem wi_131_38 : ri (rt_P sc fm) 131 38 (.goto 43) (41) := ri_of (by decide +kernel) rfl
theorem wi_131_41 : ri (rt_P sc fm) 131 41 (.aload_n 0) (42) := ri_of (by decide +kernel) rfl
theorem wi_131_42 : ri (rt_P sc fm) 131 42 (.iload_n 3) (43) := ri_of (by decide +kernel) rfl
theorem wi_131_43 : ri (rt_P sc fm) 131 43 (.bipush 100) (45) := ri_of (by decide +kernel) rfl
theorem wi_131_45 : ri (rt_P sc fm) 131 45 (.iload_n 1) (46) := ri_of (by decide +kernel) rfl
theorem wi_131_46 : ri (rt_P sc fm) 131 46 (.iadd) (47) := ri_of (by decide +kernel) rfl
theorem wi_131_47 : ri (rt_P sc fm) 131 47 (.invokevirtual 712) (50) := ri_of (by decide +kernel) rfl
theorem wi_131_5 : ri (rt_P sc fm) 131 5 (.aload_n 0) (6) := ri_of (by decide +kernel) rfl
theorem wi_131_50 : ri (rt_P sc fm) 131 50 (.aload_n 0) (51) := ri_of (by decide +kernel) rfl
theorem wi_131_51 : ri (rt_P sc fm) 131 51 (.getfield 678) (54) := ri_of (by decide +kernel) rfl
theorem wi_131_54 : ri (rt_P sc fm) 131 54 (.ifCond .le 6) (57) := ri_of (by decide +kernel) rfl
theorem wi_131_57 : ri (rt_P sc fm) 131 57 (.goto 24) (60) := ri_of (by decide +kernel) rfl
theorem wi_131_6 : ri (rt_P sc fm) 131 6 (.iload_n 1) (7) := ri_of (by decide +kernel) rfl
theorem wi_131_60 : ri (rt_P sc fm) 131 60 (.aload_n 0) (61) := ri_of (by decide +kernel) rfl
theorem wi_131_61 : ri (rt_P sc fm) 131 61 (.getfield 258) (64) := ri_of (by decide +kernel) rfl
theorem wi_131_64 : ri (rt_P sc fm) 131 64 (.sipush 1200) (67) := ri_of (by decide +kernel) rfl
theorem wi_131_67 : ri (rt_P sc fm) 131 67 (.iload_n 1) (68) := ri_of (by decide +kernel) rfl
theorem wi_131_68 : ri (rt_P sc fm) 131 68 (.imul) (69) := ri_of (by decide +kernel) rfl
theorem wi_131_69 : ri (rt_P sc fm) 131 69 (.iload_n 3) (70) := ri_of (by decide +kernel) rfl
theorem wi_131_7 : ri (rt_P sc fm) 131 7 (.invokevirtual 724) (10) := ri_of (by decide +kernel) rfl
theorem wi_131_70 : ri (rt_P sc fm) 131 70 (.iadd) (71) := ri_of (by decide +kernel) rfl
theorem wi_131_71 : ri (rt_P sc fm) 131 71 (.aload_n 0) (72) := ri_of (by decide +kernel) rfl
theorem wi_131_72 : ri (rt_P sc fm) 131 72 (.getfield 116) (75) := ri_of (by decide +kernel) rfl
theorem wi_131_75 : ri (rt_P sc fm) 131 75 (.iload_n 1) (76) := ri_of (by decide +kernel) rfl
theorem wi_131_76 : ri (rt_P sc fm) 131 76 (.iaload) (77) := ri_of (by decide +kernel) rfl
theorem wi_131_77 : ri (rt_P sc fm) 131 77 (.iastore) (78) := ri_of (by decide +kernel) rfl
theorem wi_131_78 : ri (rt_P sc fm) 131 78 (.iinc 2 1) (81) := ri_of (by decide +kernel) rfl
theorem wi_131_81 : ri (rt_P sc fm) 131 81 (.iinc 3 1) (84) := ri_of (by decide +kernel) rfl
theorem wi_131_84 : ri (rt_P sc fm) 131 84 (.goto (-61)) (87) := ri_of (by decide +kernel) rfl
theorem wi_131_87 : ri (rt_P sc fm) 131 87 (.iconst 1) (88) := ri_of (by decide +kernel) rfl
theorem wi_131_88 : ri (rt_P sc fm) 131 88 (.istore_n 3) (89) := ri_of (by decide +kernel) rfl
theorem wi_131_89 : ri (rt_P sc fm) 131 89 (.iload_n 3) (90) := ri_of (by decide +kernel) rfl
theorem wi_131_90 : ri (rt_P sc fm) 131 90 (.ifCond .eq 226) (93) := ri_of (by decide +kernel) rfl
theorem wi_131_93 : ri (rt_P sc fm) 131 93 (.iconst 0) (94) := ri_of (by decide +kernel) rfl
theorem wi_131_94 : ri (rt_P sc fm) 131 94 (.istore_n 3) (95) := ri_of (by decide +kernel) rfl
theorem wi_131_95 : ri (rt_P sc fm) 131 95 (.aload_n 0) (96) := ri_of (by decide +kernel) rfl
theorem wi_131_96 : ri (rt_P sc fm) 131 96 (.iload_n 1) (97) := ri_of (by decide +kernel) rfl
theorem wi_131_97 : ri (rt_P sc fm) 131 97 (.invokevirtual 856) (100) := ri_of (by decide +kernel) rfl
theorem wp_131_356 : rx_pt (rt_P sc fm) 131 356 = some (15, 0, .int) := (by decide +kernel : rt_pt 131 356 = some (15, 0, .int))
theorem wr_131 : rx_rt (rt_P sc fm) 131 = (some FieldType.int) := (by decide +kernel : rt_rt 131 = (some FieldType.int))
/-- MarkHouseModel.find(I)I -/
def d_131 (n : Nat) (a1 : Int32) (c : cS) : Option (Int32 × cS) :=
  lt (pI c 174 0 0) (fun c1 =>
  Option.bind (d_119 n a1 c1) (fun v3 =>
  if v3 = 0 then
    some ((-1), c1)
  else
    Option.bind (d_133 n c1) (fun r4 =>
    Option.bind (whl (R := (Int32 × cS)) (fun s7 : Int32 × Int32 × cS =>
      if 1200 ≤ s7.2.1 then
        some (.inr (s7.1, s7.2.2))
      else
        Option.bind (d_112 n s7.2.1 s7.2.2) (fun v8 =>
        jn (fun p9 : Int32 × cS =>
          lt (s7.2.1 + 1 : Int32) (fun v11 =>
          some (.inl (p9.1, v11, p9.2))))
        (fun j81 =>
        if v8 = 0 then
          j81 (s7.1, s7.2.2)
        else
          Option.bind (d_428 n s7.2.1 (100 + a1) s7.2.2) (fun r13 =>
          if (r13.1 174 74) ≤ 0 then
            if ib a1 4 then
            if ib ((1200 * a1) + s7.2.1) 4800 then
            lt (pI r13 235 (ix ((1200 * a1) + s7.2.1)) (r13.1 188 (ix a1))) (fun c16 =>
            lt (s7.1 + 1 : Int32) (fun v19 =>
            j81 (v19, c16)))
            else none
            else none
          else
            j81 (s7.1, r13))))) n (0, 0, r4))
    (fun x21 : Int32 × cS =>
      Option.bind (whl (R := (cS)) (fun s23 : Int32 × cS =>
        if s23.1 = 0 then
          some (.inr s23.2)
        else
          Option.bind (d_450 n a1 s23.2) (fun r25 =>
          Option.bind (whl (R := (Int32 × cS)) (fun s27 : Int32 × Int32 × cS =>
            if 96 ≤ s27.2.1 then
              some (.inr (s27.1, s27.2.2))
            else
              Option.bind (d_105 n s27.2.1 s27.2.2) (fun v28 =>
              jn (fun p29 : Int32 × cS =>
                lt (s27.2.1 + 1 : Int32) (fun v31 =>
                some (.inl (p29.1, v31, p29.2))))
              (fun j307 =>
              if v28 = 0 then
                j307 (s27.1, s27.2.2)
              else
                Option.bind (d_456 n s27.2.1 a1 s27.2.2) (fun r33 =>
                lt ((40 * s27.2.1) : Int32) (fun v35 =>
                Option.bind (whl (R := (Int32 × cS)) (fun s37 : Int32 × Int32 × cS =>
                  if ib s27.2.1 96 then
                  if ((40 * s27.2.1) + (s37.2.2.1 210 (ix s27.2.1))) ≤ s37.2.1 then
                    some (.inr (s37.1, s37.2.2))
                  else
                    Option.bind (whl (R := (Int32 × cS)) (fun s40 : Int32 × Int32 × cS =>
                      Option.bind (d_457 n s37.2.1 s40.2.2) (fun v41 =>
                      if v41 ≤ s40.2.1 then
                        some (.inr (s40.1, s40.2.2))
                      else
                        if ib s37.2.1 3840 then
                        if (s40.2.2.1 239 (ix s37.2.1)) = 0 then
                          some (.inr (s40.1, s40.2.2))
                        else
                          Option.bind (d_458 n s27.2.1 s37.2.1 s40.2.1 s40.2.2) (fun v43 =>
                          if ib s37.2.1 3840 then
                          Option.bind (d_459 n s37.2.1 s40.2.1 s40.2.2) (fun v46 =>
                          if ib (((((16 * s37.2.1) + 8) + (s40.2.2.1 230 (ix s37.2.1))) - 1) - v46) 61440 then
                          lt ((s40.2.2.1 238 (ix (((((16 * s37.2.1) + 8) + (s40.2.2.1 230 (ix s37.2.1))) - 1) - v46))) : Int32) (fun v49 =>
                          if ib v43 1200 then
                          jn (fun p52 : Int32 × cS =>
                            lt (s40.2.1 + 1 : Int32) (fun v54 =>
                            some (.inl (p52.1, v54, p52.2))))
                          (fun j295 =>
                          if (s40.2.2.1 237 (ix v43)) = 0 then
                            if ib ((1200 * a1) + v43) 4800 then
                            Option.bind (d_387 n a1 v49 (s40.2.2.1 235 (ix ((1200 * a1) + v43))) s40.2.2) (fun v57 =>
                            if v57 = 0 then
                              if ib ((1200 * a1) + v43) 4800 then
                              Option.bind (d_390 n a1 v49 (s40.2.2.1 235 (ix ((1200 * a1) + v43))) s40.2.2) (fun v59 =>
                              if ib ((1200 * a1) + v43) 4800 then
                              lt (pI s40.2.2 235 (ix ((1200 * a1) + v43)) v59) (fun c61 =>
                              j295 (1, c61))
                              else none)
                              else none
                            else
                              j295 (s40.1, s40.2.2))
                            else none
                          else
                            j295 (s40.1, s40.2.2))
                          else none)
                          else none)
                          else none)
                        else none)) n (s37.1, 0, s37.2.2))
                    (fun x64 : Int32 × cS =>
                      lt (s37.2.1 + 1 : Int32) (fun v66 =>
                      some (.inl (x64.1, v66, x64.2))))
                  else none) n (s27.1, v35, r33))
                (fun x68 : Int32 × cS =>
                  j307 (x68.1, x68.2))))))) n (0, 0, r25))
          (fun x69 : Int32 × cS =>
            some (.inl (x69.1, x69.2))))) n (1, x21.2))
      (fun x70 : cS =>
        some (x21.1, x70))))))
theorem sp_131 {F Lo n : Nat} {a1 : Int32} {c y : cS} {w : cW} {K : Int32 × cS → Prop} {Q : ((Option Value) ⊕ String) → List va_E → Prop} (hw : rOK fm w) (hF : 6 ≤ F) (hLo : 149 ≤ Lo)  (h : wp (d_131 n a1 c) K) (hQ : ∀ r, K r → Q (.inl (some (.int r.1))) (hq false r.2 y w)) : rs (rt_P sc fm) 131 F Lo 0 [(0, .ref 174), (1, .int a1)] [] (hq false c y w) Q := by
  unfold d_131 at h
  obtain ⟨lv, elv⟩ : ∃ lv : rx_L, lv = [(0, .ref 174), (1, .int a1)] := ⟨_, rfl⟩
  rw [← elv]
  have l0 : rx_ld lv 0 = some (.ref 174) := by rw [elv]; rfl
  have l1 : rx_ld lv 1 = some (.int a1) := by rw [elv]; rfl
  refine rs_aldn wi_131_0 l0 ?_
  refine rs_pure wi_131_1 rfl ?_
  refine rs_topi (v := 0) (by decide) ?_
  obtain ⟨c1, e2, h⟩ := wp_lt h
  refine dq_pi wi_131_2 wp_131_356 tf_174_0 rfl rfl e2 ?_
  refine rs_aldn wi_131_5 l0 ?_
  refine rs_ildn wi_131_6 l1 ?_
  refine rs_V wi_131_7 wc_131_724 rfl (dq_isa tf_174_0 wa_15_119) (Nat.le_trans (by decide) hF) (ml_le wm_119 (Nat.le_trans (by decide) hLo)) rfl (sp_119 hw (Nat.le_trans (by decide : 0 ≤ 6 - 1) (Nat.sub_le_sub_right hF 1)) (ml_sub wm_119 (Nat.le_trans (by decide : 0 ≤ 149 - 21) (Nat.sub_le_sub_right hLo 21))) (wp_bind h) (fun v3 h => rs_back1 ?_))
  refine rs_ifne (tg := 15) wi_131_10 ⟨by decide, by decide⟩ (fun q => ?_) (fun q => ?_)
  ·
    have h := wp_neg h q
    refine rs_aldn wi_131_15 l0 ?_
    refine rs_V wi_131_16 wc_131_637 rfl (dq_isa tf_174_0 wa_15_133) (Nat.le_trans (by decide) hF) (ml_le wm_133 (Nat.le_trans (by decide) hLo)) rfl (sp_133 hw (Nat.le_trans (by decide : 0 ≤ 6 - 1) (Nat.sub_le_sub_right hF 1)) (ml_sub wm_133 (Nat.le_trans (by decide : 0 ≤ 149 - 20) (Nat.sub_le_sub_right hLo 20))) (wp_bind h) (fun r4 h => rs_back0 ?_))
    refine rs_pure wi_131_19 rfl ?_
    refine rs_topi (v := 0) (by decide) ?_
    refine dl_istn wi_131_20 rfl (fun lv l2 t5 => ?_)
    have l0 := t5 _ _ (by decide) (Or.inl rfl) l0
    have l1 := t5 _ _ (by decide) (Or.inl rfl) l1
    refine rs_pure wi_131_21 rfl ?_
    refine rs_topi (v := 0) (by decide) ?_
    refine dl_istn wi_131_22 rfl (fun lv l3 t6 => ?_)
    have l0 := t6 _ _ (by decide) (Or.inl rfl) l0
    have l1 := t6 _ _ (by decide) (Or.inl rfl) l1
    have l2 := t6 _ _ (by decide) (Or.inl rfl) l2
    refine whl_ex (A := fun s7 : Int32 × Int32 × cS => ∀ lv, rx_ld lv 0 = some (.ref 174) → rx_ld lv 1 = some (.int a1) → rx_ld lv 2 = some (.int s7.1) → rx_ld lv 3 = some (.int s7.2.1) → rs (rt_P sc fm) 131 F Lo 23 lv [] (hq false s7.2.2 y w) Q) (B := (fun x21 : Int32 × cS => ∀ lv, rx_ld lv 0 = some (.ref 174) → rx_ld lv 1 = some (.int a1) → rx_ld lv 2 = some (.int x21.1) → rs (rt_P sc fm) 131 F Lo 87 lv [] (hq false x21.2 y w) Q)) ?_ ?_ _ _ (wp_bind h) _ l0 l1 l2 l3
    · intro s7 h lv l0 l1 l2 l3
      refine rs_ildn wi_131_23 l3 ?_
      refine rs_pure wi_131_24 rfl ?_
      refine rs_topi (v := 1200) (by decide) ?_
      refine rs_icge (tg := 87) wi_131_27 ⟨by decide, by decide⟩ (fun q => ?_) (fun q => ?_)
      ·
        have h := wp_pos h q
        exact h _ l0 l1 l2
      ·
        have h := wp_neg h q
        refine rs_aldn wi_131_30 l0 ?_
        refine rs_ildn wi_131_31 l3 ?_
        refine rs_V wi_131_32 wc_131_829 rfl (dq_isa tf_174_0 wa_15_112) (Nat.le_trans (by decide) hF) (ml_le wm_112 (Nat.le_trans (by decide) hLo)) rfl (sp_112 hw (Nat.le_trans (by decide : 1 ≤ 6 - 1) (Nat.sub_le_sub_right hF 1)) (ml_sub wm_112 (Nat.le_trans (by decide : 24 ≤ 149 - 21) (Nat.sub_le_sub_right hLo 21))) (wp_bind h) (fun v8 h => rs_back1 ?_))
        refine wp_jn (B := fun p9 : Int32 × cS => ∀ lv, rx_ld lv 0 = some (.ref 174) → rx_ld lv 1 = some (.int a1) → rx_ld lv 2 = some (.int p9.1) → rx_ld lv 3 = some (.int s7.2.1) → rs (rt_P sc fm) 131 F Lo 81 lv [] (hq false p9.2 y w) Q) h (fun p9 h lv l0 l1 l2 l3 => ?_) (fun j81 hj81 h => ?_)
        ·
          obtain ⟨v11, e12, h⟩ := wp_lt h
          refine dl_inc wi_131_81 l3 rfl e12 (fun lv l3 t10 => ?_)
          have l0 := t10 _ _ (by decide) (Or.inl rfl) l0
          have l1 := t10 _ _ (by decide) (Or.inl rfl) l1
          have l2 := t10 _ _ (by decide) (Or.inl rfl) l2
          refine rs_goto (tg := 23) wi_131_84 ⟨by decide, by decide⟩ ?_
          exact h _ l0 l1 l2 l3
        refine rs_ifne (tg := 41) wi_131_35 ⟨by decide, by decide⟩ (fun q => ?_) (fun q => ?_)
        ·
          have h := wp_neg h q
          refine rs_aldn wi_131_41 l0 ?_
          refine rs_ildn wi_131_42 l3 ?_
          refine rs_pure wi_131_43 rfl ?_
          refine rs_topi (v := 100) (by decide) ?_
          refine rs_ildn wi_131_45 l1 ?_
          refine rs_pure wi_131_46 rfl ?_
          refine rs_V wi_131_47 wc_131_712 rfl (dq_isa tf_174_0 wa_15_428) (Nat.le_trans (by decide) hF) (ml_le wm_428 (Nat.le_trans (by decide) hLo)) rfl (sp_428 hw (Nat.le_trans (by decide : 3 ≤ 6 - 1) (Nat.sub_le_sub_right hF 1)) (ml_sub wm_428 (Nat.le_trans (by decide : 77 ≤ 149 - 28) (Nat.sub_le_sub_right hLo 28))) (wp_bind h) (fun r13 h => rs_back0 ?_))
          refine rs_aldn wi_131_50 l0 ?_
          refine dq_gi wi_131_51 wf_131_678 tf_174_74 ?_
          refine rs_ifle (tg := 60) wi_131_54 ⟨by decide, by decide⟩ (fun q => ?_) (fun q => ?_)
          ·
            have h := wp_pos h q
            refine rs_aldn wi_131_60 l0 ?_
            refine dq_gr wi_131_61 wf_131_258 tf_174_84 ?_
            refine rs_pure wi_131_64 rfl ?_
            refine rs_topi (v := 1200) (by decide) ?_
            refine rs_ildn wi_131_67 l1 ?_
            refine rs_pure wi_131_68 rfl ?_
            refine rs_ildn wi_131_69 l3 ?_
            refine rs_pure wi_131_70 rfl ?_
            refine rs_aldn wi_131_71 l0 ?_
            refine dq_gr wi_131_72 wf_131_116 tf_174_23 ?_
            refine rs_ildn wi_131_75 l1 ?_
            obtain ⟨g14, h⟩ := wp_gd h
            refine dq_iald wi_131_76 t_188 g14 ?_
            obtain ⟨g15, h⟩ := wp_gd h
            obtain ⟨c16, e17, h⟩ := wp_lt h
            refine dq_iast wi_131_77 t_235 g15 e17 ?_
            obtain ⟨v19, e20, h⟩ := wp_lt h
            refine dl_inc wi_131_78 l2 rfl e20 (fun lv l2 t18 => ?_)
            have l0 := t18 _ _ (by decide) (Or.inl rfl) l0
            have l1 := t18 _ _ (by decide) (Or.inl rfl) l1
            have l3 := t18 _ _ (by decide) (Or.inl rfl) l3
            exact hj81 _ h _ l0 l1 l2 l3
          ·
            have h := wp_neg h q
            refine rs_goto (tg := 81) wi_131_57 ⟨by decide, by decide⟩ ?_
            exact hj81 _ h _ l0 l1 l2 l3
        ·
          have h := wp_pos h q
          refine rs_goto (tg := 81) wi_131_38 ⟨by decide, by decide⟩ ?_
          exact hj81 _ h _ l0 l1 l2 l3
    ·
      intro x21 h lv l0 l1 l2
      refine rs_pure wi_131_87 rfl ?_
      refine rs_topi (v := 1) (by decide) ?_
      refine dl_istn wi_131_88 rfl (fun lv l3 t22 => ?_)
      have l0 := t22 _ _ (by decide) (Or.inl rfl) l0
      have l1 := t22 _ _ (by decide) (Or.inl rfl) l1
      have l2 := t22 _ _ (by decide) (Or.inl rfl) l2
      refine whl_ex (A := fun s23 : Int32 × cS => ∀ lv, rx_ld lv 0 = some (.ref 174) → rx_ld lv 1 = some (.int a1) → rx_ld lv 2 = some (.int x21.1) → rx_ld lv 3 = some (.int s23.1) → rs (rt_P sc fm) 131 F Lo 89 lv [] (hq false s23.2 y w) Q) (B := (fun x70 : cS => ∀ lv, rx_ld lv 2 = some (.int x21.1) → rs (rt_P sc fm) 131 F Lo 316 lv [] (hq false x70 y w) Q)) ?_ ?_ _ _ (wp_bind h) _ l0 l1 l2 l3
      · intro s23 h lv l0 l1 l2 l3
        refine rs_ildn wi_131_89 l3 ?_
        refine rs_ifeq (tg := 316) wi_131_90 ⟨by decide, by decide⟩ (fun q => ?_) (fun q => ?_)
        ·
          have h := wp_pos h q
          exact h _ l2
        ·
          have h := wp_neg h q
          refine rs_pure wi_131_93 rfl ?_
          refine rs_topi (v := 0) (by decide) ?_
          refine dl_istn wi_131_94 rfl (fun lv l3 t24 => ?_)
          have l0 := t24 _ _ (by decide) (Or.inl rfl) l0
          have l1 := t24 _ _ (by decide) (Or.inl rfl) l1
          have l2 := t24 _ _ (by decide) (Or.inl rfl) l2
          refine rs_aldn wi_131_95 l0 ?_
          refine rs_ildn wi_131_96 l1 ?_
          refine rs_V wi_131_97 wc_131_856 rfl (dq_isa tf_174_0 wa_15_450) (Nat.le_trans (by decide) hF) (ml_le wm_450 (Nat.le_trans (by decide) hLo)) rfl (sp_450 hw (Nat.le_trans (by decide : 5 ≤ 6 - 1) (Nat.sub_le_sub_right hF 1)) (ml_sub wm_450 (Nat.le_trans (by decide : 127 ≤ 149 - 22) (Nat.sub_le_sub_right hLo 22))) (wp_bind h) (fun r25 h => rs_back0 ?_))
          refine rs_pure wi_131_100 rfl ?_
          refine rs_topi (v := 0) (by decide) ?_
          refine dl_ist wi_131_101 rfl (fun lv l4 t26 => ?_)
          have l0 := t26 _ _ (by decide) (Or.inl rfl) l0
          have l1 := t26 _ _ (by decide) (Or.inl rfl) l1
          have l2 := t26 _ _ (by decide) (Or.inl rfl) l2
          have l3 := t26 _ _ (by decide) (Or.inl rfl) l3
          refine whl_ex (A := fun s27 : Int32 × Int32 × cS => ∀ lv, rx_ld lv 0 = some (.ref 174) → rx_ld lv 1 = some (.int a1) → rx_ld lv 2 = some (.int x21.1) → rx_ld lv 3 = some (.int s27.1) → rx_ld lv 4 = some (.int s27.2.1) → rs (rt_P sc fm) 131 F Lo 103 lv [] (hq false s27.2.2 y w) Q) (B := (fun x69 : Int32 × cS => ∀ lv, rx_ld lv 0 = some (.ref 174) → rx_ld lv 1 = some (.int a1) → rx_ld lv 2 = some (.int x21.1) → rx_ld lv 3 = some (.int x69.1) → rs (rt_P sc fm) 131 F Lo 313 lv [] (hq false x69.2 y w) Q)) ?_ ?_ _ _ (wp_bind h) _ l0 l1 l2 l3 l4
          · intro s27 h lv l0 l1 l2 l3 l4
            refine rs_ild wi_131_103 l4 ?_
            refine rs_pure wi_131_105 rfl ?_
            refine rs_topi (v := 96) (by decide) ?_
            refine rs_icge (tg := 313) wi_131_107 ⟨by decide, by decide⟩ (fun q => ?_) (fun q => ?_)
            ·
              have h := wp_pos h q
              exact h _ l0 l1 l2 l3
            ·
              have h := wp_neg h q
              refine rs_aldn wi_131_110 l0 ?_
              refine rs_ild wi_131_111 l4 ?_
              refine rs_V wi_131_113 wc_131_614 rfl (dq_isa tf_174_0 wa_15_105) (Nat.le_trans (by decide) hF) (ml_le wm_105 (Nat.le_trans (by decide) hLo)) rfl (sp_105 hw (Nat.le_trans (by decide : 0 ≤ 6 - 1) (Nat.sub_le_sub_right hF 1)) (ml_sub wm_105 (Nat.le_trans (by decide : 0 ≤ 149 - 21) (Nat.sub_le_sub_right hLo 21))) (wp_bind h) (fun v28 h => rs_back1 ?_))
              refine wp_jn (B := fun p29 : Int32 × cS => ∀ lv, rx_ld lv 0 = some (.ref 174) → rx_ld lv 1 = some (.int a1) → rx_ld lv 2 = some (.int x21.1) → rx_ld lv 3 = some (.int p29.1) → rx_ld lv 4 = some (.int s27.2.1) → rs (rt_P sc fm) 131 F Lo 307 lv [] (hq false p29.2 y w) Q) h (fun p29 h lv l0 l1 l2 l3 l4 => ?_) (fun j307 hj307 h => ?_)
              ·
                obtain ⟨v31, e32, h⟩ := wp_lt h
                refine dl_inc wi_131_307 l4 rfl e32 (fun lv l4 t30 => ?_)
                have l0 := t30 _ _ (by decide) (Or.inl rfl) l0
                have l1 := t30 _ _ (by decide) (Or.inl rfl) l1
                have l2 := t30 _ _ (by decide) (Or.inl rfl) l2
                have l3 := t30 _ _ (by decide) (Or.inl rfl) l3
                refine rs_goto (tg := 103) wi_131_310 ⟨by decide, by decide⟩ ?_
                exact h _ l0 l1 l2 l3 l4
              refine rs_ifne (tg := 122) wi_131_116 ⟨by decide, by decide⟩ (fun q => ?_) (fun q => ?_)
              ·
                have h := wp_neg h q
                refine rs_aldn wi_131_122 l0 ?_
                refine rs_ild wi_131_123 l4 ?_
                refine rs_ildn wi_131_125 l1 ?_
                refine rs_V wi_131_126 wc_131_862 rfl (dq_isa tf_174_0 wa_15_456) (Nat.le_trans (by decide) hF) (ml_le wm_456 (Nat.le_trans (by decide) hLo)) rfl (sp_456 hw (Nat.le_trans (by decide : 3 ≤ 6 - 1) (Nat.sub_le_sub_right hF 1)) (ml_sub wm_456 (Nat.le_trans (by decide : 70 ≤ 149 - 25) (Nat.sub_le_sub_right hLo 25))) (wp_bind h) (fun r33 h => rs_back0 ?_))
                refine rs_pure wi_131_129 rfl ?_
                refine rs_topi (v := 40) (by decide) ?_
                refine rs_ild wi_131_131 l4 ?_
                refine rs_pure wi_131_133 rfl ?_
                obtain ⟨v35, e36, h⟩ := wp_lt h
                refine rs_topi e36 ?_
                refine dl_ist wi_131_134 rfl (fun lv l5 t34 => ?_)
                have l0 := t34 _ _ (by decide) (Or.inl rfl) l0
                have l1 := t34 _ _ (by decide) (Or.inl rfl) l1
                have l2 := t34 _ _ (by decide) (Or.inl rfl) l2
                have l3 := t34 _ _ (by decide) (Or.inl rfl) l3
                have l4 := t34 _ _ (by decide) (Or.inl rfl) l4
                refine whl_ex (A := fun s37 : Int32 × Int32 × cS => ∀ lv, rx_ld lv 0 = some (.ref 174) → rx_ld lv 1 = some (.int a1) → rx_ld lv 2 = some (.int x21.1) → rx_ld lv 3 = some (.int s37.1) → rx_ld lv 4 = some (.int s27.2.1) → rx_ld lv 5 = some (.int s37.2.1) → rs (rt_P sc fm) 131 F Lo 136 lv [] (hq false s37.2.2 y w) Q) (B := (fun x68 : Int32 × cS => ∀ lv, rx_ld lv 0 = some (.ref 174) → rx_ld lv 1 = some (.int a1) → rx_ld lv 2 = some (.int x21.1) → rx_ld lv 3 = some (.int x68.1) → rx_ld lv 4 = some (.int s27.2.1) → rs (rt_P sc fm) 131 F Lo 307 lv [] (hq false x68.2 y w) Q)) ?_ ?_ _ _ (wp_bind h) _ l0 l1 l2 l3 l4 l5
                · intro s37 h lv l0 l1 l2 l3 l4 l5
                  refine rs_ild wi_131_136 l5 ?_
                  refine rs_pure wi_131_138 rfl ?_
                  refine rs_topi (v := 40) (by decide) ?_
                  refine rs_ild wi_131_140 l4 ?_
                  refine rs_pure wi_131_142 rfl ?_
                  refine rs_aldn wi_131_143 l0 ?_
                  refine dq_gr wi_131_144 wf_131_182 tf_174_48 ?_
                  refine rs_ild wi_131_147 l4 ?_
                  obtain ⟨g38, h⟩ := wp_gd h
                  refine dq_iald wi_131_149 t_210 g38 ?_
                  refine rs_pure wi_131_150 rfl ?_
                  refine rs_icge (tg := 307) wi_131_151 ⟨by decide, by decide⟩ (fun q => ?_) (fun q => ?_)
                  ·
                    have h := wp_pos h q
                    exact h _ l0 l1 l2 l3 l4
                  ·
                    have h := wp_neg h q
                    refine rs_pure wi_131_154 rfl ?_
                    refine rs_topi (v := 0) (by decide) ?_
                    refine dl_ist wi_131_155 rfl (fun lv l6 t39 => ?_)
                    have l0 := t39 _ _ (by decide) (Or.inl rfl) l0
                    have l1 := t39 _ _ (by decide) (Or.inl rfl) l1
                    have l2 := t39 _ _ (by decide) (Or.inl rfl) l2
                    have l3 := t39 _ _ (by decide) (Or.inl rfl) l3
                    have l4 := t39 _ _ (by decide) (Or.inl rfl) l4
                    have l5 := t39 _ _ (by decide) (Or.inl rfl) l5
                    refine whl_ex (A := fun s40 : Int32 × Int32 × cS => ∀ lv, rx_ld lv 0 = some (.ref 174) → rx_ld lv 1 = some (.int a1) → rx_ld lv 2 = some (.int x21.1) → rx_ld lv 3 = some (.int s40.1) → rx_ld lv 4 = some (.int s27.2.1) → rx_ld lv 5 = some (.int s37.2.1) → rx_ld lv 6 = some (.int s40.2.1) → rs (rt_P sc fm) 131 F Lo 157 lv [] (hq false s40.2.2 y w) Q) (B := (fun x64 : Int32 × cS => ∀ lv, rx_ld lv 0 = some (.ref 174) → rx_ld lv 1 = some (.int a1) → rx_ld lv 2 = some (.int x21.1) → rx_ld lv 3 = some (.int x64.1) → rx_ld lv 4 = some (.int s27.2.1) → rx_ld lv 5 = some (.int s37.2.1) → rs (rt_P sc fm) 131 F Lo 301 lv [] (hq false x64.2 y w) Q)) ?_ ?_ _ _ (wp_bind h) _ l0 l1 l2 l3 l4 l5 l6
                    · intro s40 h lv l0 l1 l2 l3 l4 l5 l6
                      refine rs_ild wi_131_157 l6 ?_
                      refine rs_aldn wi_131_159 l0 ?_
                      refine rs_ild wi_131_160 l5 ?_
                      refine rs_V wi_131_162 wc_131_853 rfl (dq_isa tf_174_0 wa_15_457) (Nat.le_trans (by decide) hF) (ml_le wm_457 (Nat.le_trans (by decide) hLo)) rfl (sp_457 hw (Nat.le_trans (by decide : 0 ≤ 6 - 1) (Nat.sub_le_sub_right hF 1)) (ml_sub wm_457 (Nat.le_trans (by decide : 0 ≤ 149 - 21) (Nat.sub_le_sub_right hLo 21))) (wp_bind h) (fun v41 h => rs_back1 ?_))
                      refine rs_icge (tg := 301) wi_131_165 ⟨by decide, by decide⟩ (fun q => ?_) (fun q => ?_)
                      ·
                        have h := wp_pos h q
                        exact h _ l0 l1 l2 l3 l4 l5
                      ·
                        have h := wp_neg h q
                        refine rs_aldn wi_131_168 l0 ?_
                        refine dq_gr wi_131_169 wf_131_271 tf_174_88 ?_
                        refine rs_ild wi_131_172 l5 ?_
                        obtain ⟨g42, h⟩ := wp_gd h
                        refine dq_zald wi_131_174 t_239 g42 ?_
                        refine rs_ifeq (tg := 301) wi_131_175 ⟨by decide, by decide⟩ (fun q => ?_) (fun q => ?_)
                        ·
                          have h := wp_pos h q
                          exact h _ l0 l1 l2 l3 l4 l5
                        ·
                          have h := wp_neg h q
                          refine rs_aldn wi_131_178 l0 ?_
                          refine rs_ild wi_131_179 l4 ?_
                          refine rs_ild wi_131_181 l5 ?_
                          refine rs_ild wi_131_183 l6 ?_
                          refine rs_V wi_131_185 wc_131_868 rfl (dq_isa tf_174_0 wa_15_458) (Nat.le_trans (by decide) hF) (ml_le wm_458 (Nat.le_trans (by decide) hLo)) rfl (sp_458 hw (Nat.le_trans (by decide : 1 ≤ 6 - 1) (Nat.sub_le_sub_right hF 1)) (ml_sub wm_458 (Nat.le_trans (by decide : 21 ≤ 149 - 23) (Nat.sub_le_sub_right hLo 23))) (wp_bind h) (fun v43 h => rs_back1 ?_))
                          refine dl_ist wi_131_188 rfl (fun lv l7 t44 => ?_)
                          have l0 := t44 _ _ (by decide) (Or.inl rfl) l0
                          have l1 := t44 _ _ (by decide) (Or.inl rfl) l1
                          have l2 := t44 _ _ (by decide) (Or.inl rfl) l2
                          have l3 := t44 _ _ (by decide) (Or.inl rfl) l3
                          have l4 := t44 _ _ (by decide) (Or.inl rfl) l4
                          have l5 := t44 _ _ (by decide) (Or.inl rfl) l5
                          have l6 := t44 _ _ (by decide) (Or.inl rfl) l6
                          refine rs_aldn wi_131_190 l0 ?_
                          refine dq_gr wi_131_191 wf_131_268 tf_174_87 ?_
                          refine rs_pure wi_131_194 rfl ?_
                          refine rs_topi (v := 16) (by decide) ?_
                          refine rs_ild wi_131_196 l5 ?_
                          refine rs_pure wi_131_198 rfl ?_
                          refine rs_pure wi_131_199 rfl ?_
                          refine rs_topi (v := 8) (by decide) ?_
                          refine rs_pure wi_131_201 rfl ?_
                          refine rs_aldn wi_131_202 l0 ?_
                          refine dq_gr wi_131_203 wf_131_243 tf_174_70 ?_
                          refine rs_ild wi_131_206 l5 ?_
                          obtain ⟨g45, h⟩ := wp_gd h
                          refine dq_iald wi_131_208 t_230 g45 ?_
                          refine rs_pure wi_131_209 rfl ?_
                          refine rs_pure wi_131_210 rfl ?_
                          refine rs_topi (v := 1) (by decide) ?_
                          refine rs_pure wi_131_211 rfl ?_
                          refine rs_aldn wi_131_212 l0 ?_
                          refine rs_ild wi_131_213 l5 ?_
                          refine rs_ild wi_131_215 l6 ?_
                          refine rs_V wi_131_217 wc_131_865 rfl (dq_isa tf_174_0 wa_15_459) (Nat.le_trans (by decide) hF) (ml_le wm_459 (Nat.le_trans (by decide) hLo)) rfl (sp_459 hw (Nat.le_trans (by decide : 1 ≤ 6 - 1) (Nat.sub_le_sub_right hF 1)) (ml_sub wm_459 (Nat.le_trans (by decide : 21 ≤ 149 - 22) (Nat.sub_le_sub_right hLo 22))) (wp_bind h) (fun v46 h => rs_back1 ?_))
                          refine rs_pure wi_131_220 rfl ?_
                          obtain ⟨g47, h⟩ := wp_gd h
                          refine dq_iald wi_131_221 t_238 g47 ?_
                          obtain ⟨v49, e50, h⟩ := wp_lt h
                          refine rs_topi e50 ?_
                          refine dl_ist wi_131_222 rfl (fun lv l8 t48 => ?_)
                          have l0 := t48 _ _ (by decide) (Or.inl rfl) l0
                          have l1 := t48 _ _ (by decide) (Or.inl rfl) l1
                          have l2 := t48 _ _ (by decide) (Or.inl rfl) l2
                          have l3 := t48 _ _ (by decide) (Or.inl rfl) l3
                          have l4 := t48 _ _ (by decide) (Or.inl rfl) l4
                          have l5 := t48 _ _ (by decide) (Or.inl rfl) l5
                          have l6 := t48 _ _ (by decide) (Or.inl rfl) l6
                          have l7 := t48 _ _ (by decide) (Or.inl rfl) l7
                          refine rs_aldn wi_131_224 l0 ?_
                          refine dq_gr wi_131_225 wf_131_264 tf_174_86 ?_
                          refine rs_ild wi_131_228 l7 ?_
                          obtain ⟨g51, h⟩ := wp_gd h
                          refine dq_zald wi_131_230 t_237 g51 ?_
                          refine wp_jn (B := fun p52 : Int32 × cS => ∀ lv, rx_ld lv 0 = some (.ref 174) → rx_ld lv 1 = some (.int a1) → rx_ld lv 2 = some (.int x21.1) → rx_ld lv 3 = some (.int p52.1) → rx_ld lv 4 = some (.int s27.2.1) → rx_ld lv 5 = some (.int s37.2.1) → rx_ld lv 6 = some (.int s40.2.1) → rs (rt_P sc fm) 131 F Lo 295 lv [] (hq false p52.2 y w) Q) h (fun p52 h lv l0 l1 l2 l3 l4 l5 l6 => ?_) (fun j295 hj295 h => ?_)
                          ·
                            obtain ⟨v54, e55, h⟩ := wp_lt h
                            refine dl_inc wi_131_295 l6 rfl e55 (fun lv l6 t53 => ?_)
                            have l0 := t53 _ _ (by decide) (Or.inl rfl) l0
                            have l1 := t53 _ _ (by decide) (Or.inl rfl) l1
                            have l2 := t53 _ _ (by decide) (Or.inl rfl) l2
                            have l3 := t53 _ _ (by decide) (Or.inl rfl) l3
                            have l4 := t53 _ _ (by decide) (Or.inl rfl) l4
                            have l5 := t53 _ _ (by decide) (Or.inl rfl) l5
                            refine rs_goto (tg := 157) wi_131_298 ⟨by decide, by decide⟩ ?_
                            exact h _ l0 l1 l2 l3 l4 l5 l6
                          refine rs_ifne (tg := 295) wi_131_231 ⟨by decide, by decide⟩ (fun q => ?_) (fun q => ?_)
                          ·
                            have h := wp_neg h q
                            exact hj295 _ h _ l0 l1 l2 l3 l4 l5 l6
                          ·
                            have h := wp_pos h q
                            refine rs_aldn wi_131_234 l0 ?_
                            refine rs_ildn wi_131_235 l1 ?_
                            refine rs_ild wi_131_236 l8 ?_
                            refine rs_aldn wi_131_238 l0 ?_
                            refine dq_gr wi_131_239 wf_131_258 tf_174_84 ?_
                            refine rs_pure wi_131_242 rfl ?_
                            refine rs_topi (v := 1200) (by decide) ?_
                            refine rs_ildn wi_131_245 l1 ?_
                            refine rs_pure wi_131_246 rfl ?_
                            refine rs_ild wi_131_247 l7 ?_
                            refine rs_pure wi_131_249 rfl ?_
                            obtain ⟨g56, h⟩ := wp_gd h
                            refine dq_iald wi_131_250 t_235 g56 ?_
                            refine rs_V wi_131_251 wc_131_535 rfl (dq_isa tf_174_0 wa_15_387) (Nat.le_trans (by decide) hF) (ml_le wm_387 (Nat.le_trans (by decide) hLo)) rfl (sp_387 hw (Nat.le_trans (by decide : 1 ≤ 6 - 1) (Nat.sub_le_sub_right hF 1)) (ml_sub wm_387 (Nat.le_trans (by decide : 23 ≤ 149 - 23) (Nat.sub_le_sub_right hLo 23))) (wp_bind h) (fun v57 h => rs_back1 ?_))
                            refine rs_ifeq (tg := 260) wi_131_254 ⟨by decide, by decide⟩ (fun q => ?_) (fun q => ?_)
                            ·
                              have h := wp_pos h q
                              refine rs_aldn wi_131_260 l0 ?_
                              refine dq_gr wi_131_261 wf_131_258 tf_174_84 ?_
                              refine rs_pure wi_131_264 rfl ?_
                              refine rs_topi (v := 1200) (by decide) ?_
                              refine rs_ildn wi_131_267 l1 ?_
                              refine rs_pure wi_131_268 rfl ?_
                              refine rs_ild wi_131_269 l7 ?_
                              refine rs_pure wi_131_271 rfl ?_
                              refine rs_aldn wi_131_272 l0 ?_
                              refine rs_ildn wi_131_273 l1 ?_
                              refine rs_ild wi_131_274 l8 ?_
                              refine rs_aldn wi_131_276 l0 ?_
                              refine dq_gr wi_131_277 wf_131_258 tf_174_84 ?_
                              refine rs_pure wi_131_280 rfl ?_
                              refine rs_topi (v := 1200) (by decide) ?_
                              refine rs_ildn wi_131_283 l1 ?_
                              refine rs_pure wi_131_284 rfl ?_
                              refine rs_ild wi_131_285 l7 ?_
                              refine rs_pure wi_131_287 rfl ?_
                              obtain ⟨g58, h⟩ := wp_gd h
                              refine dq_iald wi_131_288 t_235 g58 ?_
                              refine rs_V wi_131_289 wc_131_727 rfl (dq_isa tf_174_0 wa_15_390) (Nat.le_trans (by decide) hF) (ml_le wm_390 (Nat.le_trans (by decide) hLo)) rfl (sp_390 hw (Nat.le_trans (by decide : 1 ≤ 6 - 1) (Nat.sub_le_sub_right hF 1)) (ml_sub wm_390 (Nat.le_trans (by decide : 23 ≤ 149 - 23) (Nat.sub_le_sub_right hLo 23))) (wp_bind h) (fun v59 h => rs_back1 ?_))
                              obtain ⟨g60, h⟩ := wp_gd h
                              obtain ⟨c61, e62, h⟩ := wp_lt h
                              refine dq_iast wi_131_292 t_235 g60 e62 ?_
                              refine rs_pure wi_131_293 rfl ?_
                              refine rs_topi (v := 1) (by decide) ?_
                              refine dl_istn wi_131_294 rfl (fun lv l3 t63 => ?_)
                              have l0 := t63 _ _ (by decide) (Or.inl rfl) l0
                              have l1 := t63 _ _ (by decide) (Or.inl rfl) l1
                              have l2 := t63 _ _ (by decide) (Or.inl rfl) l2
                              have l4 := t63 _ _ (by decide) (Or.inl rfl) l4
                              have l5 := t63 _ _ (by decide) (Or.inl rfl) l5
                              have l6 := t63 _ _ (by decide) (Or.inl rfl) l6
                              exact hj295 _ h _ l0 l1 l2 l3 l4 l5 l6
                            ·
                              have h := wp_neg h q
                              refine rs_goto (tg := 295) wi_131_257 ⟨by decide, by decide⟩ ?_
                              exact hj295 _ h _ l0 l1 l2 l3 l4 l5 l6
                    ·
                      intro x64 h lv l0 l1 l2 l3 l4 l5
                      obtain ⟨v66, e67, h⟩ := wp_lt h
                      refine dl_inc wi_131_301 l5 rfl e67 (fun lv l5 t65 => ?_)
                      have l0 := t65 _ _ (by decide) (Or.inl rfl) l0
                      have l1 := t65 _ _ (by decide) (Or.inl rfl) l1
                      have l2 := t65 _ _ (by decide) (Or.inl rfl) l2
                      have l3 := t65 _ _ (by decide) (Or.inl rfl) l3
                      have l4 := t65 _ _ (by decide) (Or.inl rfl) l4
                      refine rs_goto (tg := 136) wi_131_304 ⟨by decide, by decide⟩ ?_
                      exact h _ l0 l1 l2 l3 l4 l5
                ·
                  intro x68 h lv l0 l1 l2 l3 l4
                  exact hj307 _ h _ l0 l1 l2 l3 l4
              ·
                have h := wp_pos h q
                refine rs_goto (tg := 307) wi_131_119 ⟨by decide, by decide⟩ ?_
                exact hj307 _ h _ l0 l1 l2 l3 l4
          ·
            intro x69 h lv l0 l1 l2 l3
            refine rs_goto (tg := 89) wi_131_313 ⟨by decide, by decide⟩ ?_
            exact h _ l0 l1 l2 l3
      ·
        intro x70 h lv l2
        refine rs_ildn wi_131_316 l2 ?_
        exact rs_iret wi_131_317 wr_131 rfl (hQ (x21.1, x70) h)
  ·
    have h := wp_pos h q
    refine rs_pure wi_131_13 rfl ?_
    refine rs_topi (v := (-1)) (by decide) ?_
    exact rs_iret wi_131_14 wr_131 rfl (hQ ((-1), c1) h)
theorem wc_132_637 : rx_ct (rt_P sc fm) 132 637 = some (0, 133, 0) := (by decide +kernel : rt_ct 132 637 = some (0, 133, 0))
theorem wc_132_724 : rx_ct (rt_P sc fm) 132 724 = some (0, 119, 1) := (by decide +kernel : rt_ct 132 724 = some (0, 119, 1))
theorem wf_132_113 : rx_ft (rt_P sc fm) 132 113 = some (15, 22) := (by decide +kernel : rt_ft 132 113 = some (15, 22))
theorem wf_132_258 : rx_ft (rt_P sc fm) 132 258 = some (15, 84) := (by decide +kernel : rt_ft 132 258 = some (15, 84))
theorem wi_132_0 : ri (rt_P sc fm) 132 0 (.aload_n 0) (1) := ri_of (by decide +kernel) rfl
theorem wi_132_1 : ri (rt_P sc fm) 132 1 (.iconst 0) (2) := ri_of (by decide +kernel) rfl
theorem wi_132_10 : ri (rt_P sc fm) 132 10 (.ifCond .ne 5) (13) := ri_of (by decide +kernel) rfl
theorem wi_132_13 : ri (rt_P sc fm) 132 13 (.iconst 0) (14) := ri_of (by decide +kernel) rfl
theorem wi_132_14 : ri (rt_P sc fm) 132 14 (.ireturn) (15) := ri_of (by decide +kernel) rfl
theorem wi_132_15 : ri (rt_P sc fm) 132 15 (.aload_n 0) (16) := ri_of (by decide +kernel) rfl
theorem wi_132_16 : ri (rt_P sc fm) 132 16 (.invokevirtual 637) (19) := ri_of (by decide +kernel) rfl
theorem wi_132_19 : ri (rt_P sc fm) 132 19 (.iconst 0) (20) := ri_of (by decide +kernel) rfl
theorem wi_132_2 : ri (rt_P sc fm) 132 2 (.putfield 356) (5) := ri_of (by decide +kernel) rfl
theorem wi_132_20 : ri (rt_P sc fm) 132 20 (.istore_n 2) (21) := ri_of (by decide +kernel) rfl
theorem wi_132_21 : ri (rt_P sc fm) 132 21 (.iload_n 2) (22) := ri_of (by decide +kernel) rfl
theorem wi_132_22 : ri (rt_P sc fm) 132 22 (.sipush 1200) (25) := ri_of (by decide +kernel) rfl
theorem wi_132_25 : ri (rt_P sc fm) 132 25 (.if_icmp .ge 27) (28) := ri_of (by decide +kernel) rfl
theorem wi_132_28 : ri (rt_P sc fm) 132 28 (.aload_n 0) (29) := ri_of (by decide +kernel) rfl
theorem wi_132_29 : ri (rt_P sc fm) 132 29 (.getfield 258) (32) := ri_of (by decide +kernel) rfl
theorem wi_132_32 : ri (rt_P sc fm) 132 32 (.sipush 1200) (35) := ri_of (by decide +kernel) rfl
theorem wi_132_35 : ri (rt_P sc fm) 132 35 (.iload_n 1) (36) := ri_of (by decide +kernel) rfl
theorem wi_132_36 : ri (rt_P sc fm) 132 36 (.imul) (37) := ri_of (by decide +kernel) rfl
theorem wi_132_37 : ri (rt_P sc fm) 132 37 (.iload_n 2) (38) := ri_of (by decide +kernel) rfl
theorem wi_132_38 : ri (rt_P sc fm) 132 38 (.iadd) (39) := ri_of (by decide +kernel) rfl
theorem wi_132_39 : ri (rt_P sc fm) 132 39 (.aload_n 0) (40) := ri_of (by decide +kernel) rfl
theorem wi_132_40 : ri (rt_P sc fm) 132 40 (.getfield 113) (43) := ri_of (by decide +kernel) rfl
theorem wi_132_43 : ri (rt_P sc fm) 132 43 (.iload_n 1) (44) := ri_of (by decide +kernel) rfl
theorem wi_132_44 : ri (rt_P sc fm) 132 44 (.iaload) (45) := ri_of (by decide +kernel) rfl
theorem wi_132_45 : ri (rt_P sc fm) 132 45 (.iastore) (46) := ri_of (by decide +kernel) rfl
theorem wi_132_46 : ri (rt_P sc fm) 132 46 (.iinc 2 1) (49) := ri_of (by decide +kernel) rfl
theorem wi_132_49 : ri (rt_P sc fm) 132 49 (.goto (-28)) (52) := ri_of (by decide +kernel) rfl
theorem wi_132_5 : ri (rt_P sc fm) 132 5 (.aload_n 0) (6) := ri_of (by decide +kernel) rfl
theorem wi_132_52 : ri (rt_P sc fm) 132 52 (.iconst 1) (53) := ri_of (by decide +kernel) rfl
theorem wi_132_53 : ri (rt_P sc fm) 132 53 (.ireturn) (54) := ri_of (by decide +kernel) rfl
theorem wi_132_6 : ri (rt_P sc fm) 132 6 (.iload_n 1) (7) := ri_of (by decide +kernel) rfl
theorem wi_132_7 : ri (rt_P sc fm) 132 7 (.invokevirtual 724) (10) := ri_of (by decide +kernel) rfl
theorem wp_132_356 : rx_pt (rt_P sc fm) 132 356 = some (15, 0, .int) := (by decide +kernel : rt_pt 132 356 = some (15, 0, .int))
theorem wr_132 : rx_rt (rt_P sc fm) 132 = (some FieldType.boolean) := (by decide +kernel : rt_rt 132 = (some FieldType.boolean))
/-- MarkHouseModel.plain(I)Z -/
def d_132 (n : Nat) (a1 : Int32) (c : cS) : Option (Int32 × cS) :=
  lt (pI c 174 0 0) (fun c1 =>
  Option.bind (d_119 n a1 c1) (fun v3 =>
  if v3 = 0 then
    some (0, c1)
  else
    Option.bind (d_133 n c1) (fun r4 =>
    Option.bind (whl (R := (cS)) (fun s6 : Int32 × cS =>
      if 1200 ≤ s6.1 then
        some (.inr s6.2)
      else
        if ib a1 4 then
        if ib ((1200 * a1) + s6.1) 4800 then
        lt (pI s6.2 235 (ix ((1200 * a1) + s6.1)) (s6.2.1 187 (ix a1))) (fun c9 =>
        lt (s6.1 + 1 : Int32) (fun v12 =>
        some (.inl (v12, c9))))
        else none
        else none) n (0, r4))
    (fun x14 : cS =>
      some (1, x14)))))
theorem sp_132 {F Lo n : Nat} {a1 : Int32} {c y : cS} {w : cW} {K : Int32 × cS → Prop} {Q : ((Option Value) ⊕ String) → List va_E → Prop} (hw : rOK fm w) (hF : 1 ≤ F) (hLo : 21 ≤ Lo)  (h : wp (d_132 n a1 c) K) (hQ : ∀ r, K r → Q (.inl (some (.int r.1))) (hq false r.2 y w)) : rs (rt_P sc fm) 132 F Lo 0 [(0, .ref 174), (1, .int a1)] [] (hq false c y w) Q := by
  unfold d_132 at h
  obtain ⟨lv, elv⟩ : ∃ lv : rx_L, lv = [(0, .ref 174), (1, .int a1)] := ⟨_, rfl⟩
  rw [← elv]
  have l0 : rx_ld lv 0 = some (.ref 174) := by rw [elv]; rfl
  have l1 : rx_ld lv 1 = some (.int a1) := by rw [elv]; rfl
  refine rs_aldn wi_132_0 l0 ?_
  refine rs_pure wi_132_1 rfl ?_
  refine rs_topi (v := 0) (by decide) ?_
  obtain ⟨c1, e2, h⟩ := wp_lt h
  refine dq_pi wi_132_2 wp_132_356 tf_174_0 rfl rfl e2 ?_
  refine rs_aldn wi_132_5 l0 ?_
  refine rs_ildn wi_132_6 l1 ?_
  refine rs_V wi_132_7 wc_132_724 rfl (dq_isa tf_174_0 wa_15_119) (Nat.le_trans (by decide) hF) (ml_le wm_119 (Nat.le_trans (by decide) hLo)) rfl (sp_119 hw (Nat.le_trans (by decide : 0 ≤ 1 - 1) (Nat.sub_le_sub_right hF 1)) (ml_sub wm_119 (Nat.le_trans (by decide : 0 ≤ 21 - 21) (Nat.sub_le_sub_right hLo 21))) (wp_bind h) (fun v3 h => rs_back1 ?_))
  refine rs_ifne (tg := 15) wi_132_10 ⟨by decide, by decide⟩ (fun q => ?_) (fun q => ?_)
  ·
    have h := wp_neg h q
    refine rs_aldn wi_132_15 l0 ?_
    refine rs_V wi_132_16 wc_132_637 rfl (dq_isa tf_174_0 wa_15_133) (Nat.le_trans (by decide) hF) (ml_le wm_133 (Nat.le_trans (by decide) hLo)) rfl (sp_133 hw (Nat.le_trans (by decide : 0 ≤ 1 - 1) (Nat.sub_le_sub_right hF 1)) (ml_sub wm_133 (Nat.le_trans (by decide : 0 ≤ 21 - 20) (Nat.sub_le_sub_right hLo 20))) (wp_bind h) (fun r4 h => rs_back0 ?_))
    refine rs_pure wi_132_19 rfl ?_
    refine rs_topi (v := 0) (by decide) ?_
    refine dl_istn wi_132_20 rfl (fun lv l2 t5 => ?_)
    have l0 := t5 _ _ (by decide) (Or.inl rfl) l0
    have l1 := t5 _ _ (by decide) (Or.inl rfl) l1
    refine whl_ex (A := fun s6 : Int32 × cS => ∀ lv, rx_ld lv 0 = some (.ref 174) → rx_ld lv 1 = some (.int a1) → rx_ld lv 2 = some (.int s6.1) → rs (rt_P sc fm) 132 F Lo 21 lv [] (hq false s6.2 y w) Q) (B := (fun x14 : cS => ∀ lv, rs (rt_P sc fm) 132 F Lo 52 lv [] (hq false x14 y w) Q)) ?_ ?_ _ _ (wp_bind h) _ l0 l1 l2
    · intro s6 h lv l0 l1 l2
      refine rs_ildn wi_132_21 l2 ?_
      refine rs_pure wi_132_22 rfl ?_
      refine rs_topi (v := 1200) (by decide) ?_
      refine rs_icge (tg := 52) wi_132_25 ⟨by decide, by decide⟩ (fun q => ?_) (fun q => ?_)
      ·
        have h := wp_pos h q
        exact h _
      ·
        have h := wp_neg h q
        refine rs_aldn wi_132_28 l0 ?_
        refine dq_gr wi_132_29 wf_132_258 tf_174_84 ?_
        refine rs_pure wi_132_32 rfl ?_
        refine rs_topi (v := 1200) (by decide) ?_
        refine rs_ildn wi_132_35 l1 ?_
        refine rs_pure wi_132_36 rfl ?_
        refine rs_ildn wi_132_37 l2 ?_
        refine rs_pure wi_132_38 rfl ?_
        refine rs_aldn wi_132_39 l0 ?_
        refine dq_gr wi_132_40 wf_132_113 tf_174_22 ?_
        refine rs_ildn wi_132_43 l1 ?_
        obtain ⟨g7, h⟩ := wp_gd h
        refine dq_iald wi_132_44 t_187 g7 ?_
        obtain ⟨g8, h⟩ := wp_gd h
        obtain ⟨c9, e10, h⟩ := wp_lt h
        refine dq_iast wi_132_45 t_235 g8 e10 ?_
        obtain ⟨v12, e13, h⟩ := wp_lt h
        refine dl_inc wi_132_46 l2 rfl e13 (fun lv l2 t11 => ?_)
        have l0 := t11 _ _ (by decide) (Or.inl rfl) l0
        have l1 := t11 _ _ (by decide) (Or.inl rfl) l1
        refine rs_goto (tg := 21) wi_132_49 ⟨by decide, by decide⟩ ?_
        exact h _ l0 l1 l2
    ·
      intro x14 h lv
      refine rs_pure wi_132_52 rfl ?_
      refine rs_topi (v := 1) (by decide) ?_
      exact rs_iret wi_132_53 wr_132 (nb_n (by decide)) (hQ (1, x14) h)
  ·
    have h := wp_pos h q
    refine rs_pure wi_132_13 rfl ?_
    refine rs_topi (v := 0) (by decide) ?_
    exact rs_iret wi_132_14 wr_132 (nb_n (by decide)) (hQ (0, c1) h)
theorem wi_463_0 : ri (rt_P sc fm) 463 0 (.iload_n 0) (1) := ri_of (by decide +kernel) rfl
theorem wi_463_1 : ri (rt_P sc fm) 463 1 (.iconst 4) (2) := ri_of (by decide +kernel) rfl
theorem wi_463_2 : ri (rt_P sc fm) 463 2 (.imul) (3) := ri_of (by decide +kernel) rfl
theorem wi_463_3 : ri (rt_P sc fm) 463 3 (.iload_n 1) (4) := ri_of (by decide +kernel) rfl
theorem wi_463_4 : ri (rt_P sc fm) 463 4 (.iadd) (5) := ri_of (by decide +kernel) rfl
theorem wi_463_5 : ri (rt_P sc fm) 463 5 (.iconst 4) (6) := ri_of (by decide +kernel) rfl
theorem wi_463_6 : ri (rt_P sc fm) 463 6 (.imul) (7) := ri_of (by decide +kernel) rfl
theorem wi_463_7 : ri (rt_P sc fm) 463 7 (.iload_n 2) (8) := ri_of (by decide +kernel) rfl
theorem wi_463_8 : ri (rt_P sc fm) 463 8 (.iadd) (9) := ri_of (by decide +kernel) rfl
theorem wi_463_9 : ri (rt_P sc fm) 463 9 (.ireturn) (10) := ri_of (by decide +kernel) rfl
theorem wr_463 : rx_rt (rt_P sc fm) 463 = (some FieldType.int) := (by decide +kernel : rt_rt 463 = (some FieldType.int))
/-- MarkHouseModel.checkAt(III)I -/
def d_463 (n : Nat) (a0 : Int32) (a1 : Int32) (a2 : Int32) : Option (Int32) :=
  some ((((a0 * 4) + a1) * 4) + a2)
theorem sp_463 {F Lo n : Nat} {a0 : Int32} {a1 : Int32} {a2 : Int32} {L : List va_E} {K : Int32 → Prop} {Q : ((Option Value) ⊕ String) → List va_E → Prop} (hF : 0 ≤ F) (hLo : 0 ≤ Lo)  (h : wp (d_463 n a0 a1 a2) K) (hQ : ∀ r, K r → Q (.inl (some (.int r))) L) : rs (rt_P sc fm) 463 F Lo 0 [(0, .int a0), (1, .int a1), (2, .int a2)] [] L Q := by
  unfold d_463 at h
  obtain ⟨lv, elv⟩ : ∃ lv : rx_L, lv = [(0, .int a0), (1, .int a1), (2, .int a2)] := ⟨_, rfl⟩
  rw [← elv]
  have l0 : rx_ld lv 0 = some (.int a0) := by rw [elv]; rfl
  have l1 : rx_ld lv 1 = some (.int a1) := by rw [elv]; rfl
  have l2 : rx_ld lv 2 = some (.int a2) := by rw [elv]; rfl
  refine rs_ildn wi_463_0 l0 ?_
  refine rs_pure wi_463_1 rfl ?_
  refine rs_topi (v := 4) (by decide) ?_
  refine rs_pure wi_463_2 rfl ?_
  refine rs_ildn wi_463_3 l1 ?_
  refine rs_pure wi_463_4 rfl ?_
  refine rs_pure wi_463_5 rfl ?_
  refine rs_topi (v := 4) (by decide) ?_
  refine rs_pure wi_463_6 rfl ?_
  refine rs_ildn wi_463_7 l2 ?_
  refine rs_pure wi_463_8 rfl ?_
  exact rs_iret wi_463_9 wr_463 rfl (hQ ((((a0 * 4) + a1) * 4) + a2) h)
theorem wc_134_871 : rx_ct (rt_P sc fm) 134 871 = some (0, 460, 1) := (by decide +kernel : rt_ct 134 871 = some (0, 460, 1))
theorem wc_134_903 : rx_ct (rt_P sc fm) 134 903 = some (1, 463, 3) := (by decide +kernel : rt_ct 134 903 = some (1, 463, 3))
theorem wf_134_277 : rx_ft (rt_P sc fm) 134 277 = some (15, 92) := (by decide +kernel : rt_ft 134 277 = some (15, 92))
theorem wf_134_280 : rx_ft (rt_P sc fm) 134 280 = some (15, 93) := (by decide +kernel : rt_ft 134 280 = some (15, 93))
theorem wf_134_283 : rx_ft (rt_P sc fm) 134 283 = some (15, 94) := (by decide +kernel : rt_ft 134 283 = some (15, 94))
theorem wf_134_289 : rx_ft (rt_P sc fm) 134 289 = some (15, 96) := (by decide +kernel : rt_ft 134 289 = some (15, 96))
theorem wf_134_292 : rx_ft (rt_P sc fm) 134 292 = some (15, 97) := (by decide +kernel : rt_ft 134 292 = some (15, 97))
theorem wf_134_308 : rx_ft (rt_P sc fm) 134 308 = some (15, 107) := (by decide +kernel : rt_ft 134 308 = some (15, 107))
theorem wf_134_447 : rx_ft (rt_P sc fm) 134 447 = some (15, 15) := (by decide +kernel : rt_ft 134 447 = some (15, 15))
theorem wf_134_634 : rx_ft (rt_P sc fm) 134 634 = some (15, 14) := (by decide +kernel : rt_ft 134 634 = some (15, 14))
theorem wf_134_859 : rx_ft (rt_P sc fm) 134 859 = some (15, 91) := (by decide +kernel : rt_ft 134 859 = some (15, 91))
theorem wi_134_0 : ri (rt_P sc fm) 134 0 (.aload_n 0) (1) := ri_of (by decide +kernel) rfl
theorem wi_134_1 : ri (rt_P sc fm) 134 1 (.iconst 0) (2) := ri_of (by decide +kernel) rfl
theorem wi_134_100 : ri (rt_P sc fm) 134 100 (.iinc 3 1) (103) := ri_of (by decide +kernel) rfl
theorem wi_134_103 : ri (rt_P sc fm) 134 103 (.goto (-48)) (106) := ri_of (by decide +kernel) rfl
theorem wi_134_106 : ri (rt_P sc fm) 134 106 (.iload_n 1) (107) := ri_of (by decide +kernel) rfl
theorem wi_134_107 : ri (rt_P sc fm) 134 107 (.aload_n 0) (108) := ri_of (by decide +kernel) rfl
theorem wi_134_108 : ri (rt_P sc fm) 134 108 (.getfield 859) (111) := ri_of (by decide +kernel) rfl
theorem wi_134_111 : ri (rt_P sc fm) 134 111 (.iadd) (112) := ri_of (by decide +kernel) rfl
theorem wi_134_112 : ri (rt_P sc fm) 134 112 (.istore_n 1) (113) := ri_of (by decide +kernel) rfl
theorem wi_134_113 : ri (rt_P sc fm) 134 113 (.iinc 2 1) (116) := ri_of (by decide +kernel) rfl
theorem wi_134_116 : ri (rt_P sc fm) 134 116 (.goto (-76)) (119) := ri_of (by decide +kernel) rfl
theorem wi_134_119 : ri (rt_P sc fm) 134 119 (.aload_n 0) (120) := ri_of (by decide +kernel) rfl
theorem wi_134_12 : ri (rt_P sc fm) 134 12 (.iconst (-1)) (13) := ri_of (by decide +kernel) rfl
theorem wi_134_120 : ri (rt_P sc fm) 134 120 (.iconst 1) (121) := ri_of (by decide +kernel) rfl
theorem wi_134_121 : ri (rt_P sc fm) 134 121 (.putfield 894) (124) := ri_of (by decide +kernel) rfl
theorem wi_134_124 : ri (rt_P sc fm) 134 124 (.aload_n 0) (125) := ri_of (by decide +kernel) rfl
theorem wi_134_125 : ri (rt_P sc fm) 134 125 (.getfield 292) (128) := ri_of (by decide +kernel) rfl
theorem wi_134_128 : ri (rt_P sc fm) 134 128 (.ifCond .lt 11) (131) := ri_of (by decide +kernel) rfl
theorem wi_134_13 : ri (rt_P sc fm) 134 13 (.ireturn) (14) := ri_of (by decide +kernel) rfl
theorem wi_134_131 : ri (rt_P sc fm) 134 131 (.aload_n 0) (132) := ri_of (by decide +kernel) rfl
theorem wi_134_132 : ri (rt_P sc fm) 134 132 (.aload_n 0) (133) := ri_of (by decide +kernel) rfl
theorem wi_134_133 : ri (rt_P sc fm) 134 133 (.getfield 292) (136) := ri_of (by decide +kernel) rfl
theorem wi_134_136 : ri (rt_P sc fm) 134 136 (.invokevirtual 871) (139) := ri_of (by decide +kernel) rfl
theorem wi_134_139 : ri (rt_P sc fm) 134 139 (.iload_n 1) (140) := ri_of (by decide +kernel) rfl
theorem wi_134_14 : ri (rt_P sc fm) 134 14 (.iconst 0) (15) := ri_of (by decide +kernel) rfl
theorem wi_134_140 : ri (rt_P sc fm) 134 140 (.ireturn) (141) := ri_of (by decide +kernel) rfl
theorem wi_134_15 : ri (rt_P sc fm) 134 15 (.istore_n 1) (16) := ri_of (by decide +kernel) rfl
theorem wi_134_16 : ri (rt_P sc fm) 134 16 (.iload_n 1) (17) := ri_of (by decide +kernel) rfl
theorem wi_134_17 : ri (rt_P sc fm) 134 17 (.ldc_w 267) (20) := ri_of (by decide +kernel) rfl
theorem wi_134_2 : ri (rt_P sc fm) 134 2 (.putfield 356) (5) := ri_of (by decide +kernel) rfl
theorem wi_134_20 : ri (rt_P sc fm) 134 20 (.if_icmp .ge 16) (23) := ri_of (by decide +kernel) rfl
theorem wi_134_23 : ri (rt_P sc fm) 134 23 (.aload_n 0) (24) := ri_of (by decide +kernel) rfl
theorem wi_134_24 : ri (rt_P sc fm) 134 24 (.getfield 308) (27) := ri_of (by decide +kernel) rfl
theorem wi_134_27 : ri (rt_P sc fm) 134 27 (.iload_n 1) (28) := ri_of (by decide +kernel) rfl
theorem wi_134_28 : ri (rt_P sc fm) 134 28 (.iconst (-1)) (29) := ri_of (by decide +kernel) rfl
theorem wi_134_29 : ri (rt_P sc fm) 134 29 (.iastore) (30) := ri_of (by decide +kernel) rfl
theorem wi_134_30 : ri (rt_P sc fm) 134 30 (.iinc 1 1) (33) := ri_of (by decide +kernel) rfl
theorem wi_134_33 : ri (rt_P sc fm) 134 33 (.goto (-17)) (36) := ri_of (by decide +kernel) rfl
theorem wi_134_36 : ri (rt_P sc fm) 134 36 (.iconst 0) (37) := ri_of (by decide +kernel) rfl
theorem wi_134_37 : ri (rt_P sc fm) 134 37 (.istore_n 1) (38) := ri_of (by decide +kernel) rfl
theorem wi_134_38 : ri (rt_P sc fm) 134 38 (.iconst 0) (39) := ri_of (by decide +kernel) rfl
theorem wi_134_39 : ri (rt_P sc fm) 134 39 (.istore_n 2) (40) := ri_of (by decide +kernel) rfl
theorem wi_134_40 : ri (rt_P sc fm) 134 40 (.iload_n 2) (41) := ri_of (by decide +kernel) rfl
theorem wi_134_41 : ri (rt_P sc fm) 134 41 (.aload_n 0) (42) := ri_of (by decide +kernel) rfl
theorem wi_134_42 : ri (rt_P sc fm) 134 42 (.getfield 447) (45) := ri_of (by decide +kernel) rfl
theorem wi_134_45 : ri (rt_P sc fm) 134 45 (.if_icmp .ge 74) (48) := ri_of (by decide +kernel) rfl
theorem wi_134_48 : ri (rt_P sc fm) 134 48 (.aload_n 0) (49) := ri_of (by decide +kernel) rfl
theorem wi_134_49 : ri (rt_P sc fm) 134 49 (.iload_n 2) (50) := ri_of (by decide +kernel) rfl
theorem wi_134_5 : ri (rt_P sc fm) 134 5 (.aload_n 0) (6) := ri_of (by decide +kernel) rfl
theorem wi_134_50 : ri (rt_P sc fm) 134 50 (.invokevirtual 871) (53) := ri_of (by decide +kernel) rfl
theorem wi_134_53 : ri (rt_P sc fm) 134 53 (.iconst 0) (54) := ri_of (by decide +kernel) rfl
theorem wi_134_54 : ri (rt_P sc fm) 134 54 (.istore_n 3) (55) := ri_of (by decide +kernel) rfl
theorem wi_134_55 : ri (rt_P sc fm) 134 55 (.iload_n 3) (56) := ri_of (by decide +kernel) rfl
theorem wi_134_56 : ri (rt_P sc fm) 134 56 (.aload_n 0) (57) := ri_of (by decide +kernel) rfl
theorem wi_134_57 : ri (rt_P sc fm) 134 57 (.getfield 859) (60) := ri_of (by decide +kernel) rfl
theorem wi_134_6 : ri (rt_P sc fm) 134 6 (.getfield 634) (9) := ri_of (by decide +kernel) rfl
theorem wi_134_60 : ri (rt_P sc fm) 134 60 (.if_icmp .ge 46) (63) := ri_of (by decide +kernel) rfl
theorem wi_134_63 : ri (rt_P sc fm) 134 63 (.aload_n 0) (64) := ri_of (by decide +kernel) rfl
theorem wi_134_64 : ri (rt_P sc fm) 134 64 (.getfield 308) (67) := ri_of (by decide +kernel) rfl
theorem wi_134_67 : ri (rt_P sc fm) 134 67 (.bipush 40) (69) := ri_of (by decide +kernel) rfl
theorem wi_134_69 : ri (rt_P sc fm) 134 69 (.aload_n 0) (70) := ri_of (by decide +kernel) rfl
theorem wi_134_70 : ri (rt_P sc fm) 134 70 (.getfield 277) (73) := ri_of (by decide +kernel) rfl
theorem wi_134_73 : ri (rt_P sc fm) 134 73 (.iload_n 3) (74) := ri_of (by decide +kernel) rfl
theorem wi_134_74 : ri (rt_P sc fm) 134 74 (.iaload) (75) := ri_of (by decide +kernel) rfl
theorem wi_134_75 : ri (rt_P sc fm) 134 75 (.imul) (76) := ri_of (by decide +kernel) rfl
theorem wi_134_76 : ri (rt_P sc fm) 134 76 (.aload_n 0) (77) := ri_of (by decide +kernel) rfl
theorem wi_134_77 : ri (rt_P sc fm) 134 77 (.getfield 280) (80) := ri_of (by decide +kernel) rfl
theorem wi_134_80 : ri (rt_P sc fm) 134 80 (.iload_n 3) (81) := ri_of (by decide +kernel) rfl
theorem wi_134_81 : ri (rt_P sc fm) 134 81 (.iaload) (82) := ri_of (by decide +kernel) rfl
theorem wi_134_82 : ri (rt_P sc fm) 134 82 (.iadd) (83) := ri_of (by decide +kernel) rfl
theorem wi_134_83 : ri (rt_P sc fm) 134 83 (.iload_n 2) (84) := ri_of (by decide +kernel) rfl
theorem wi_134_84 : ri (rt_P sc fm) 134 84 (.aload_n 0) (85) := ri_of (by decide +kernel) rfl
theorem wi_134_85 : ri (rt_P sc fm) 134 85 (.getfield 283) (88) := ri_of (by decide +kernel) rfl
theorem wi_134_88 : ri (rt_P sc fm) 134 88 (.iload_n 3) (89) := ri_of (by decide +kernel) rfl
theorem wi_134_89 : ri (rt_P sc fm) 134 89 (.iaload) (90) := ri_of (by decide +kernel) rfl
theorem wi_134_9 : ri (rt_P sc fm) 134 9 (.ifCond .ne 5) (12) := ri_of (by decide +kernel) rfl
theorem wi_134_90 : ri (rt_P sc fm) 134 90 (.invokestatic 903) (93) := ri_of (by decide +kernel) rfl
theorem wi_134_93 : ri (rt_P sc fm) 134 93 (.aload_n 0) (94) := ri_of (by decide +kernel) rfl
theorem wi_134_94 : ri (rt_P sc fm) 134 94 (.getfield 289) (97) := ri_of (by decide +kernel) rfl
theorem wi_134_97 : ri (rt_P sc fm) 134 97 (.iload_n 3) (98) := ri_of (by decide +kernel) rfl
theorem wi_134_98 : ri (rt_P sc fm) 134 98 (.iaload) (99) := ri_of (by decide +kernel) rfl
theorem wi_134_99 : ri (rt_P sc fm) 134 99 (.iastore) (100) := ri_of (by decide +kernel) rfl
theorem wk_134_267 : rx_kt (rt_P sc fm) 134 267 = some (.int (61440)) := (by decide +kernel : rt_kt 134 267 = some (.int (61440)))
theorem wm_463 : rx_ml (rt_P sc fm) 463 = 3 := (by decide +kernel : rt_ml 463 = 3)
theorem wp_134_356 : rx_pt (rt_P sc fm) 134 356 = some (15, 0, .int) := (by decide +kernel : rt_pt 134 356 = some (15, 0, .int))
theorem wp_134_894 : rx_pt (rt_P sc fm) 134 894 = some (15, 106, .boolean) := (by decide +kernel : rt_pt 134 894 = some (15, 106, .boolean))
theorem wr_134 : rx_rt (rt_P sc fm) 134 = (some FieldType.int) := (by decide +kernel : rt_rt 134 = (some FieldType.int))
/-- MarkHouseModel.weave()I -/
def d_134 (n : Nat)  (c : cS) : Option (Int32 × cS) :=
  lt (pI c 174 0 0) (fun c1 =>
  if (c1.1 174 14) = 0 then
    some ((-1), c1)
  else
    Option.bind (whl (R := (cS)) (fun s4 : Int32 × cS =>
      if 61440 ≤ s4.1 then
        some (.inr s4.2)
      else
        if ib s4.1 61440 then
        lt (pI s4.2 250 (ix s4.1) (-1)) (fun c6 =>
        lt (s4.1 + 1 : Int32) (fun v9 =>
        some (.inl (v9, c6))))
        else none) n (0, c1))
    (fun x11 : cS =>
      Option.bind (whl (R := (Int32 × cS)) (fun s14 : Int32 × Int32 × cS =>
        if (s14.2.2.1 174 15) ≤ s14.2.1 then
          some (.inr (s14.1, s14.2.2))
        else
          Option.bind (d_460 n s14.2.1 s14.2.2) (fun r15 =>
          Option.bind (whl (R := (cS)) (fun s17 : Int32 × cS =>
            if (s17.2.1 174 91) ≤ s17.1 then
              some (.inr s17.2)
            else
              if ib s17.1 15360 then
              if ib s17.1 15360 then
              if ib s17.1 15360 then
              Option.bind (d_463 n ((40 * (s17.2.1 241 (ix s17.1))) + (s17.2.1 242 (ix s17.1))) s14.2.1 (s17.2.1 243 (ix s17.1))) (fun v21 =>
              if ib s17.1 15360 then
              if ib v21 61440 then
              lt (pI s17.2 250 (ix v21) (s17.2.1 245 (ix s17.1))) (fun c24 =>
              lt (s17.1 + 1 : Int32) (fun v27 =>
              some (.inl (v27, c24))))
              else none
              else none)
              else none
              else none
              else none) n (0, r15))
          (fun x29 : cS =>
            lt ((s14.1 + (x29.1 174 91)) : Int32) (fun v31 =>
            lt (s14.2.1 + 1 : Int32) (fun v34 =>
            some (.inl (v31, v34, x29))))))) n (0, 0, x11))
      (fun x36 : Int32 × cS =>
        lt (pI x36.2 174 106 1) (fun c37 =>
        jn (fun p39 : cS =>
          some (x36.1, p39))
        (fun j139 =>
        if (c37.1 174 97) < 0 then
          j139 c37
        else
          Option.bind (d_460 n (c37.1 174 97) c37) (fun r40 =>
          j139 r40))))))
theorem sp_134 {F Lo n : Nat}  {c y : cS} {w : cW} {K : Int32 × cS → Prop} {Q : ((Option Value) ⊕ String) → List va_E → Prop} (hw : rOK fm w) (hF : 7 ≤ F) (hLo : 176 ≤ Lo)  (h : wp (d_134 n  c) K) (hQ : ∀ r, K r → Q (.inl (some (.int r.1))) (hq false r.2 y w)) : rs (rt_P sc fm) 134 F Lo 0 [(0, .ref 174)] [] (hq false c y w) Q := by
  unfold d_134 at h
  obtain ⟨lv, elv⟩ : ∃ lv : rx_L, lv = [(0, .ref 174)] := ⟨_, rfl⟩
  rw [← elv]
  have l0 : rx_ld lv 0 = some (.ref 174) := by rw [elv]; rfl
  refine rs_aldn wi_134_0 l0 ?_
  refine rs_pure wi_134_1 rfl ?_
  refine rs_topi (v := 0) (by decide) ?_
  obtain ⟨c1, e2, h⟩ := wp_lt h
  refine dq_pi wi_134_2 wp_134_356 tf_174_0 rfl rfl e2 ?_
  refine rs_aldn wi_134_5 l0 ?_
  refine dq_gi wi_134_6 wf_134_634 tf_174_14 ?_
  refine rs_ifne (tg := 14) wi_134_9 ⟨by decide, by decide⟩ (fun q => ?_) (fun q => ?_)
  ·
    have h := wp_neg h q
    refine rs_pure wi_134_14 rfl ?_
    refine rs_topi (v := 0) (by decide) ?_
    refine dl_istn wi_134_15 rfl (fun lv l1 t3 => ?_)
    have l0 := t3 _ _ (by decide) (Or.inl rfl) l0
    refine whl_ex (A := fun s4 : Int32 × cS => ∀ lv, rx_ld lv 0 = some (.ref 174) → rx_ld lv 1 = some (.int s4.1) → rs (rt_P sc fm) 134 F Lo 16 lv [] (hq false s4.2 y w) Q) (B := (fun x11 : cS => ∀ lv, rx_ld lv 0 = some (.ref 174) → rs (rt_P sc fm) 134 F Lo 36 lv [] (hq false x11 y w) Q)) ?_ ?_ _ _ (wp_bind h) _ l0 l1
    · intro s4 h lv l0 l1
      refine rs_ildn wi_134_16 l1 ?_
      refine rs_ldcw wi_134_17 wk_134_267 ?_
      refine rs_icge (tg := 36) wi_134_20 ⟨by decide, by decide⟩ (fun q => ?_) (fun q => ?_)
      ·
        have h := wp_pos h q
        exact h _ l0
      ·
        have h := wp_neg h q
        refine rs_aldn wi_134_23 l0 ?_
        refine dq_gr wi_134_24 wf_134_308 tf_174_107 ?_
        refine rs_ildn wi_134_27 l1 ?_
        refine rs_pure wi_134_28 rfl ?_
        refine rs_topi (v := (-1)) (by decide) ?_
        obtain ⟨g5, h⟩ := wp_gd h
        obtain ⟨c6, e7, h⟩ := wp_lt h
        refine dq_iast wi_134_29 t_250 g5 e7 ?_
        obtain ⟨v9, e10, h⟩ := wp_lt h
        refine dl_inc wi_134_30 l1 rfl e10 (fun lv l1 t8 => ?_)
        have l0 := t8 _ _ (by decide) (Or.inl rfl) l0
        refine rs_goto (tg := 16) wi_134_33 ⟨by decide, by decide⟩ ?_
        exact h _ l0 l1
    ·
      intro x11 h lv l0
      refine rs_pure wi_134_36 rfl ?_
      refine rs_topi (v := 0) (by decide) ?_
      refine dl_istn wi_134_37 rfl (fun lv l1 t12 => ?_)
      have l0 := t12 _ _ (by decide) (Or.inl rfl) l0
      refine rs_pure wi_134_38 rfl ?_
      refine rs_topi (v := 0) (by decide) ?_
      refine dl_istn wi_134_39 rfl (fun lv l2 t13 => ?_)
      have l0 := t13 _ _ (by decide) (Or.inl rfl) l0
      have l1 := t13 _ _ (by decide) (Or.inl rfl) l1
      refine whl_ex (A := fun s14 : Int32 × Int32 × cS => ∀ lv, rx_ld lv 0 = some (.ref 174) → rx_ld lv 1 = some (.int s14.1) → rx_ld lv 2 = some (.int s14.2.1) → rs (rt_P sc fm) 134 F Lo 40 lv [] (hq false s14.2.2 y w) Q) (B := (fun x36 : Int32 × cS => ∀ lv, rx_ld lv 0 = some (.ref 174) → rx_ld lv 1 = some (.int x36.1) → rs (rt_P sc fm) 134 F Lo 119 lv [] (hq false x36.2 y w) Q)) ?_ ?_ _ _ (wp_bind h) _ l0 l1 l2
      · intro s14 h lv l0 l1 l2
        refine rs_ildn wi_134_40 l2 ?_
        refine rs_aldn wi_134_41 l0 ?_
        refine dq_gi wi_134_42 wf_134_447 tf_174_15 ?_
        refine rs_icge (tg := 119) wi_134_45 ⟨by decide, by decide⟩ (fun q => ?_) (fun q => ?_)
        ·
          have h := wp_pos h q
          exact h _ l0 l1
        ·
          have h := wp_neg h q
          refine rs_aldn wi_134_48 l0 ?_
          refine rs_ildn wi_134_49 l2 ?_
          refine rs_V wi_134_50 wc_134_871 rfl (dq_isa tf_174_0 wa_15_460) (Nat.le_trans (by decide) hF) (ml_le wm_460 (Nat.le_trans (by decide) hLo)) rfl (sp_460 hw (Nat.le_trans (by decide : 6 ≤ 7 - 1) (Nat.sub_le_sub_right hF 1)) (ml_sub wm_460 (Nat.le_trans (by decide : 149 ≤ 176 - 27) (Nat.sub_le_sub_right hLo 27))) (wp_bind h) (fun r15 h => rs_back0 ?_))
          refine rs_pure wi_134_53 rfl ?_
          refine rs_topi (v := 0) (by decide) ?_
          refine dl_istn wi_134_54 rfl (fun lv l3 t16 => ?_)
          have l0 := t16 _ _ (by decide) (Or.inl rfl) l0
          have l1 := t16 _ _ (by decide) (Or.inl rfl) l1
          have l2 := t16 _ _ (by decide) (Or.inl rfl) l2
          refine whl_ex (A := fun s17 : Int32 × cS => ∀ lv, rx_ld lv 0 = some (.ref 174) → rx_ld lv 1 = some (.int s14.1) → rx_ld lv 2 = some (.int s14.2.1) → rx_ld lv 3 = some (.int s17.1) → rs (rt_P sc fm) 134 F Lo 55 lv [] (hq false s17.2 y w) Q) (B := (fun x29 : cS => ∀ lv, rx_ld lv 0 = some (.ref 174) → rx_ld lv 1 = some (.int s14.1) → rx_ld lv 2 = some (.int s14.2.1) → rs (rt_P sc fm) 134 F Lo 106 lv [] (hq false x29 y w) Q)) ?_ ?_ _ _ (wp_bind h) _ l0 l1 l2 l3
          · intro s17 h lv l0 l1 l2 l3
            refine rs_ildn wi_134_55 l3 ?_
            refine rs_aldn wi_134_56 l0 ?_
            refine dq_gi wi_134_57 wf_134_859 tf_174_91 ?_
            refine rs_icge (tg := 106) wi_134_60 ⟨by decide, by decide⟩ (fun q => ?_) (fun q => ?_)
            ·
              have h := wp_pos h q
              exact h _ l0 l1 l2
            ·
              have h := wp_neg h q
              refine rs_aldn wi_134_63 l0 ?_
              refine dq_gr wi_134_64 wf_134_308 tf_174_107 ?_
              refine rs_pure wi_134_67 rfl ?_
              refine rs_topi (v := 40) (by decide) ?_
              refine rs_aldn wi_134_69 l0 ?_
              refine dq_gr wi_134_70 wf_134_277 tf_174_92 ?_
              refine rs_ildn wi_134_73 l3 ?_
              obtain ⟨g18, h⟩ := wp_gd h
              refine dq_iald wi_134_74 t_241 g18 ?_
              refine rs_pure wi_134_75 rfl ?_
              refine rs_aldn wi_134_76 l0 ?_
              refine dq_gr wi_134_77 wf_134_280 tf_174_93 ?_
              refine rs_ildn wi_134_80 l3 ?_
              obtain ⟨g19, h⟩ := wp_gd h
              refine dq_iald wi_134_81 t_242 g19 ?_
              refine rs_pure wi_134_82 rfl ?_
              refine rs_ildn wi_134_83 l2 ?_
              refine rs_aldn wi_134_84 l0 ?_
              refine dq_gr wi_134_85 wf_134_283 tf_174_94 ?_
              refine rs_ildn wi_134_88 l3 ?_
              obtain ⟨g20, h⟩ := wp_gd h
              refine dq_iald wi_134_89 t_243 g20 ?_
              refine rs_S wi_134_90 wc_134_903 (Or.inl rfl) rfl (Nat.le_trans (by decide) hF) (ml_le wm_463 (Nat.le_trans (by decide) hLo)) rfl (sp_463 (Nat.le_trans (by decide : 0 ≤ 7 - 1) (Nat.sub_le_sub_right hF 1)) (ml_sub wm_463 (Nat.le_trans (by decide : 0 ≤ 176 - 22) (Nat.sub_le_sub_right hLo 22))) (wp_bind h) (fun v21 h => rs_back1 ?_))
              refine rs_aldn wi_134_93 l0 ?_
              refine dq_gr wi_134_94 wf_134_289 tf_174_96 ?_
              refine rs_ildn wi_134_97 l3 ?_
              obtain ⟨g22, h⟩ := wp_gd h
              refine dq_iald wi_134_98 t_245 g22 ?_
              obtain ⟨g23, h⟩ := wp_gd h
              obtain ⟨c24, e25, h⟩ := wp_lt h
              refine dq_iast wi_134_99 t_250 g23 e25 ?_
              obtain ⟨v27, e28, h⟩ := wp_lt h
              refine dl_inc wi_134_100 l3 rfl e28 (fun lv l3 t26 => ?_)
              have l0 := t26 _ _ (by decide) (Or.inl rfl) l0
              have l1 := t26 _ _ (by decide) (Or.inl rfl) l1
              have l2 := t26 _ _ (by decide) (Or.inl rfl) l2
              refine rs_goto (tg := 55) wi_134_103 ⟨by decide, by decide⟩ ?_
              exact h _ l0 l1 l2 l3
          ·
            intro x29 h lv l0 l1 l2
            refine rs_ildn wi_134_106 l1 ?_
            refine rs_aldn wi_134_107 l0 ?_
            refine dq_gi wi_134_108 wf_134_859 tf_174_91 ?_
            refine rs_pure wi_134_111 rfl ?_
            obtain ⟨v31, e32, h⟩ := wp_lt h
            refine rs_topi e32 ?_
            refine dl_istn wi_134_112 rfl (fun lv l1 t30 => ?_)
            have l0 := t30 _ _ (by decide) (Or.inl rfl) l0
            have l2 := t30 _ _ (by decide) (Or.inl rfl) l2
            obtain ⟨v34, e35, h⟩ := wp_lt h
            refine dl_inc wi_134_113 l2 rfl e35 (fun lv l2 t33 => ?_)
            have l0 := t33 _ _ (by decide) (Or.inl rfl) l0
            have l1 := t33 _ _ (by decide) (Or.inl rfl) l1
            refine rs_goto (tg := 40) wi_134_116 ⟨by decide, by decide⟩ ?_
            exact h _ l0 l1 l2
      ·
        intro x36 h lv l0 l1
        refine rs_aldn wi_134_119 l0 ?_
        refine rs_pure wi_134_120 rfl ?_
        refine rs_topi (v := 1) (by decide) ?_
        obtain ⟨c37, e38, h⟩ := wp_lt h
        refine dq_pi wi_134_121 wp_134_894 tf_174_106 (nb_n (by decide)) (nb_f (by decide)) e38 ?_
        refine rs_aldn wi_134_124 l0 ?_
        refine dq_gi wi_134_125 wf_134_292 tf_174_97 ?_
        refine wp_jn (B := fun p39 : cS => ∀ lv, rx_ld lv 1 = some (.int x36.1) → rs (rt_P sc fm) 134 F Lo 139 lv [] (hq false p39 y w) Q) h (fun p39 h lv l1 => ?_) (fun j139 hj139 h => ?_)
        ·
          refine rs_ildn wi_134_139 l1 ?_
          exact rs_iret wi_134_140 wr_134 rfl (hQ (x36.1, p39) h)
        refine rs_iflt (tg := 139) wi_134_128 ⟨by decide, by decide⟩ (fun q => ?_) (fun q => ?_)
        ·
          have h := wp_pos h q
          exact hj139 _ h _ l1
        ·
          have h := wp_neg h q
          refine rs_aldn wi_134_131 l0 ?_
          refine rs_aldn wi_134_132 l0 ?_
          refine dq_gi wi_134_133 wf_134_292 tf_174_97 ?_
          refine rs_V wi_134_136 wc_134_871 rfl (dq_isa tf_174_0 wa_15_460) (Nat.le_trans (by decide) hF) (ml_le wm_460 (Nat.le_trans (by decide) hLo)) rfl (sp_460 hw (Nat.le_trans (by decide : 6 ≤ 7 - 1) (Nat.sub_le_sub_right hF 1)) (ml_sub wm_460 (Nat.le_trans (by decide : 149 ≤ 176 - 27) (Nat.sub_le_sub_right hLo 27))) (wp_bind h) (fun r40 h => rs_back0 ?_))
          exact hj139 _ h _ l1
  ·
    have h := wp_pos h q
    refine rs_pure wi_134_12 rfl ?_
    refine rs_topi (v := (-1)) (by decide) ?_
    exact rs_iret wi_134_13 wr_134 rfl (hQ ((-1), c1) h)
theorem wc_135_402 : rx_ct (rt_P sc fm) 135 402 = some (0, 362, 1) := (by decide +kernel : rt_ct 135 402 = some (0, 362, 1))
theorem wc_135_406 : rx_ct (rt_P sc fm) 135 406 = some (0, 364, 1) := (by decide +kernel : rt_ct 135 406 = some (0, 364, 1))
theorem wc_135_658 : rx_ct (rt_P sc fm) 135 658 = some (1, 421, 1) := (by decide +kernel : rt_ct 135 658 = some (1, 421, 1))
theorem wc_135_721 : rx_ct (rt_P sc fm) 135 721 = some (0, 111, 1) := (by decide +kernel : rt_ct 135 721 = some (0, 111, 1))
theorem wc_135_808 : rx_ct (rt_P sc fm) 135 808 = some (0, 447, 4) := (by decide +kernel : rt_ct 135 808 = some (0, 447, 4))
theorem wc_135_813 : rx_ct (rt_P sc fm) 135 813 = some (0, 448, 2) := (by decide +kernel : rt_ct 135 813 = some (0, 448, 2))
theorem wc_135_865 : rx_ct (rt_P sc fm) 135 865 = some (0, 459, 2) := (by decide +kernel : rt_ct 135 865 = some (0, 459, 2))
theorem wc_135_903 : rx_ct (rt_P sc fm) 135 903 = some (1, 463, 3) := (by decide +kernel : rt_ct 135 903 = some (1, 463, 3))
theorem wf_135_182 : rx_ft (rt_P sc fm) 135 182 = some (15, 48) := (by decide +kernel : rt_ft 135 182 = some (15, 48))
theorem wf_135_308 : rx_ft (rt_P sc fm) 135 308 = some (15, 107) := (by decide +kernel : rt_ft 135 308 = some (15, 107))
theorem wf_135_366 : rx_ft (rt_P sc fm) 135 366 = some (15, 4) := (by decide +kernel : rt_ft 135 366 = some (15, 4))
theorem wf_135_447 : rx_ft (rt_P sc fm) 135 447 = some (15, 15) := (by decide +kernel : rt_ft 135 447 = some (15, 15))
theorem wf_135_894 : rx_ft (rt_P sc fm) 135 894 = some (15, 106) := (by decide +kernel : rt_ft 135 894 = some (15, 106))
theorem wi_135_0 : ri (rt_P sc fm) 135 0 (.aload_n 0) (1) := ri_of (by decide +kernel) rfl
theorem wi_135_1 : ri (rt_P sc fm) 135 1 (.iconst 0) (2) := ri_of (by decide +kernel) rfl
theorem wi_135_10 : ri (rt_P sc fm) 135 10 (.ifCond .ne 5) (13) := ri_of (by decide +kernel) rfl
theorem wi_135_102 : ri (rt_P sc fm) 135 102 (.goto 50) (105) := ri_of (by decide +kernel) rfl
theorem wi_135_105 : ri (rt_P sc fm) 135 105 (.aload_n 0) (106) := ri_of (by decide +kernel) rfl
theorem wi_135_106 : ri (rt_P sc fm) 135 106 (.ldc_w 909) (109) := ri_of (by decide +kernel) rfl
theorem wi_135_109 : ri (rt_P sc fm) 135 109 (.invokevirtual 402) (112) := ri_of (by decide +kernel) rfl
theorem wi_135_112 : ri (rt_P sc fm) 135 112 (.aload_n 0) (113) := ri_of (by decide +kernel) rfl
theorem wi_135_113 : ri (rt_P sc fm) 135 113 (.iload 6) (115) := ri_of (by decide +kernel) rfl
theorem wi_135_115 : ri (rt_P sc fm) 135 115 (.aload_n 0) (116) := ri_of (by decide +kernel) rfl
theorem wi_135_116 : ri (rt_P sc fm) 135 116 (.getfield 308) (119) := ri_of (by decide +kernel) rfl
theorem wi_135_119 : ri (rt_P sc fm) 135 119 (.iload 5) (121) := ri_of (by decide +kernel) rfl
theorem wi_135_121 : ri (rt_P sc fm) 135 121 (.iload 6) (123) := ri_of (by decide +kernel) rfl
theorem wi_135_123 : ri (rt_P sc fm) 135 123 (.iload 7) (125) := ri_of (by decide +kernel) rfl
theorem wi_135_125 : ri (rt_P sc fm) 135 125 (.invokestatic 903) (128) := ri_of (by decide +kernel) rfl
theorem wi_135_128 : ri (rt_P sc fm) 135 128 (.iaload) (129) := ri_of (by decide +kernel) rfl
theorem wi_135_129 : ri (rt_P sc fm) 135 129 (.invokevirtual 813) (132) := ri_of (by decide +kernel) rfl
theorem wi_135_13 : ri (rt_P sc fm) 135 13 (.iconst (-1)) (14) := ri_of (by decide +kernel) rfl
theorem wi_135_132 : ri (rt_P sc fm) 135 132 (.aload_n 0) (133) := ri_of (by decide +kernel) rfl
theorem wi_135_133 : ri (rt_P sc fm) 135 133 (.aload_n 0) (134) := ri_of (by decide +kernel) rfl
theorem wi_135_134 : ri (rt_P sc fm) 135 134 (.iload 5) (136) := ri_of (by decide +kernel) rfl
theorem wi_135_136 : ri (rt_P sc fm) 135 136 (.iload 7) (138) := ri_of (by decide +kernel) rfl
theorem wi_135_138 : ri (rt_P sc fm) 135 138 (.invokevirtual 865) (141) := ri_of (by decide +kernel) rfl
theorem wi_135_14 : ri (rt_P sc fm) 135 14 (.ireturn) (15) := ri_of (by decide +kernel) rfl
theorem wi_135_141 : ri (rt_P sc fm) 135 141 (.i2l) (142) := ri_of (by decide +kernel) rfl
theorem wi_135_142 : ri (rt_P sc fm) 135 142 (.invokevirtual 406) (145) := ri_of (by decide +kernel) rfl
theorem wi_135_145 : ri (rt_P sc fm) 135 145 (.aload_n 0) (146) := ri_of (by decide +kernel) rfl
theorem wi_135_146 : ri (rt_P sc fm) 135 146 (.ldc_w 801) (149) := ri_of (by decide +kernel) rfl
theorem wi_135_149 : ri (rt_P sc fm) 135 149 (.invokevirtual 402) (152) := ri_of (by decide +kernel) rfl
theorem wi_135_15 : ri (rt_P sc fm) 135 15 (.iload_n 1) (16) := ri_of (by decide +kernel) rfl
theorem wi_135_152 : ri (rt_P sc fm) 135 152 (.iinc 7 1) (155) := ri_of (by decide +kernel) rfl
theorem wi_135_155 : ri (rt_P sc fm) 135 155 (.goto (-76)) (158) := ri_of (by decide +kernel) rfl
theorem wi_135_158 : ri (rt_P sc fm) 135 158 (.iinc 6 1) (161) := ri_of (by decide +kernel) rfl
theorem wi_135_16 : ri (rt_P sc fm) 135 16 (.invokestatic 658) (19) := ri_of (by decide +kernel) rfl
theorem wi_135_161 : ri (rt_P sc fm) 135 161 (.goto (-105)) (164) := ri_of (by decide +kernel) rfl
theorem wi_135_164 : ri (rt_P sc fm) 135 164 (.aload_n 0) (165) := ri_of (by decide +kernel) rfl
theorem wi_135_165 : ri (rt_P sc fm) 135 165 (.iload_n 3) (166) := ri_of (by decide +kernel) rfl
theorem wi_135_166 : ri (rt_P sc fm) 135 166 (.iload 5) (168) := ri_of (by decide +kernel) rfl
theorem wi_135_168 : ri (rt_P sc fm) 135 168 (.iconst 1) (169) := ri_of (by decide +kernel) rfl
theorem wi_135_169 : ri (rt_P sc fm) 135 169 (.iload_n 2) (170) := ri_of (by decide +kernel) rfl
theorem wi_135_170 : ri (rt_P sc fm) 135 170 (.invokevirtual 808) (173) := ri_of (by decide +kernel) rfl
theorem wi_135_173 : ri (rt_P sc fm) 135 173 (.aload_n 0) (174) := ri_of (by decide +kernel) rfl
theorem wi_135_174 : ri (rt_P sc fm) 135 174 (.ldc_w 801) (177) := ri_of (by decide +kernel) rfl
theorem wi_135_177 : ri (rt_P sc fm) 135 177 (.invokevirtual 402) (180) := ri_of (by decide +kernel) rfl
theorem wi_135_180 : ri (rt_P sc fm) 135 180 (.iinc 4 1) (183) := ri_of (by decide +kernel) rfl
theorem wi_135_183 : ri (rt_P sc fm) 135 183 (.goto (-150)) (186) := ri_of (by decide +kernel) rfl
theorem wi_135_186 : ri (rt_P sc fm) 135 186 (.aload_n 0) (187) := ri_of (by decide +kernel) rfl
theorem wi_135_187 : ri (rt_P sc fm) 135 187 (.getfield 366) (190) := ri_of (by decide +kernel) rfl
theorem wi_135_19 : ri (rt_P sc fm) 135 19 (.istore_n 3) (20) := ri_of (by decide +kernel) rfl
theorem wi_135_190 : ri (rt_P sc fm) 135 190 (.ireturn) (191) := ri_of (by decide +kernel) rfl
theorem wi_135_2 : ri (rt_P sc fm) 135 2 (.putfield 356) (5) := ri_of (by decide +kernel) rfl
theorem wi_135_20 : ri (rt_P sc fm) 135 20 (.aload_n 0) (21) := ri_of (by decide +kernel) rfl
theorem wi_135_21 : ri (rt_P sc fm) 135 21 (.iconst 0) (22) := ri_of (by decide +kernel) rfl
theorem wi_135_22 : ri (rt_P sc fm) 135 22 (.putfield 366) (25) := ri_of (by decide +kernel) rfl
theorem wi_135_25 : ri (rt_P sc fm) 135 25 (.aload_n 0) (26) := ri_of (by decide +kernel) rfl
theorem wi_135_26 : ri (rt_P sc fm) 135 26 (.iconst 0) (27) := ri_of (by decide +kernel) rfl
theorem wi_135_27 : ri (rt_P sc fm) 135 27 (.putfield 378) (30) := ri_of (by decide +kernel) rfl
theorem wi_135_30 : ri (rt_P sc fm) 135 30 (.iconst 0) (31) := ri_of (by decide +kernel) rfl
theorem wi_135_31 : ri (rt_P sc fm) 135 31 (.istore 4) (33) := ri_of (by decide +kernel) rfl
theorem wi_135_33 : ri (rt_P sc fm) 135 33 (.iload 4) (35) := ri_of (by decide +kernel) rfl
theorem wi_135_35 : ri (rt_P sc fm) 135 35 (.aload_n 0) (36) := ri_of (by decide +kernel) rfl
theorem wi_135_36 : ri (rt_P sc fm) 135 36 (.getfield 182) (39) := ri_of (by decide +kernel) rfl
theorem wi_135_39 : ri (rt_P sc fm) 135 39 (.iload_n 3) (40) := ri_of (by decide +kernel) rfl
theorem wi_135_40 : ri (rt_P sc fm) 135 40 (.iaload) (41) := ri_of (by decide +kernel) rfl
theorem wi_135_41 : ri (rt_P sc fm) 135 41 (.if_icmp .ge 145) (44) := ri_of (by decide +kernel) rfl
theorem wi_135_44 : ri (rt_P sc fm) 135 44 (.bipush 40) (46) := ri_of (by decide +kernel) rfl
theorem wi_135_46 : ri (rt_P sc fm) 135 46 (.iload_n 3) (47) := ri_of (by decide +kernel) rfl
theorem wi_135_47 : ri (rt_P sc fm) 135 47 (.imul) (48) := ri_of (by decide +kernel) rfl
theorem wi_135_48 : ri (rt_P sc fm) 135 48 (.iload 4) (50) := ri_of (by decide +kernel) rfl
theorem wi_135_5 : ri (rt_P sc fm) 135 5 (.aload_n 0) (6) := ri_of (by decide +kernel) rfl
theorem wi_135_50 : ri (rt_P sc fm) 135 50 (.iadd) (51) := ri_of (by decide +kernel) rfl
theorem wi_135_51 : ri (rt_P sc fm) 135 51 (.istore 5) (53) := ri_of (by decide +kernel) rfl
theorem wi_135_53 : ri (rt_P sc fm) 135 53 (.iconst 0) (54) := ri_of (by decide +kernel) rfl
theorem wi_135_54 : ri (rt_P sc fm) 135 54 (.istore 6) (56) := ri_of (by decide +kernel) rfl
theorem wi_135_56 : ri (rt_P sc fm) 135 56 (.iload 6) (58) := ri_of (by decide +kernel) rfl
theorem wi_135_58 : ri (rt_P sc fm) 135 58 (.aload_n 0) (59) := ri_of (by decide +kernel) rfl
theorem wi_135_59 : ri (rt_P sc fm) 135 59 (.getfield 447) (62) := ri_of (by decide +kernel) rfl
theorem wi_135_6 : ri (rt_P sc fm) 135 6 (.iload_n 1) (7) := ri_of (by decide +kernel) rfl
theorem wi_135_62 : ri (rt_P sc fm) 135 62 (.if_icmp .ge 102) (65) := ri_of (by decide +kernel) rfl
theorem wi_135_65 : ri (rt_P sc fm) 135 65 (.iload_n 2) (66) := ri_of (by decide +kernel) rfl
theorem wi_135_66 : ri (rt_P sc fm) 135 66 (.ifCond .eq 98) (69) := ri_of (by decide +kernel) rfl
theorem wi_135_69 : ri (rt_P sc fm) 135 69 (.aload_n 0) (70) := ri_of (by decide +kernel) rfl
theorem wi_135_7 : ri (rt_P sc fm) 135 7 (.invokevirtual 721) (10) := ri_of (by decide +kernel) rfl
theorem wi_135_70 : ri (rt_P sc fm) 135 70 (.getfield 894) (73) := ri_of (by decide +kernel) rfl
theorem wi_135_73 : ri (rt_P sc fm) 135 73 (.ifCond .eq 91) (76) := ri_of (by decide +kernel) rfl
theorem wi_135_76 : ri (rt_P sc fm) 135 76 (.iconst 0) (77) := ri_of (by decide +kernel) rfl
theorem wi_135_77 : ri (rt_P sc fm) 135 77 (.istore 7) (79) := ri_of (by decide +kernel) rfl
theorem wi_135_79 : ri (rt_P sc fm) 135 79 (.iload 7) (81) := ri_of (by decide +kernel) rfl
theorem wi_135_81 : ri (rt_P sc fm) 135 81 (.iconst 4) (82) := ri_of (by decide +kernel) rfl
theorem wi_135_82 : ri (rt_P sc fm) 135 82 (.if_icmp .ge 76) (85) := ri_of (by decide +kernel) rfl
theorem wi_135_85 : ri (rt_P sc fm) 135 85 (.aload_n 0) (86) := ri_of (by decide +kernel) rfl
theorem wi_135_86 : ri (rt_P sc fm) 135 86 (.getfield 308) (89) := ri_of (by decide +kernel) rfl
theorem wi_135_89 : ri (rt_P sc fm) 135 89 (.iload 5) (91) := ri_of (by decide +kernel) rfl
theorem wi_135_91 : ri (rt_P sc fm) 135 91 (.iload 6) (93) := ri_of (by decide +kernel) rfl
theorem wi_135_93 : ri (rt_P sc fm) 135 93 (.iload 7) (95) := ri_of (by decide +kernel) rfl
theorem wi_135_95 : ri (rt_P sc fm) 135 95 (.invokestatic 903) (98) := ri_of (by decide +kernel) rfl
theorem wi_135_98 : ri (rt_P sc fm) 135 98 (.iaload) (99) := ri_of (by decide +kernel) rfl
theorem wi_135_99 : ri (rt_P sc fm) 135 99 (.ifCond .ge 6) (102) := ri_of (by decide +kernel) rfl
theorem wk_135_801 : rx_kt (rt_P sc fm) 135 801 = some (.ref (rx_K 34)) := (by decide +kernel : rt_kt 135 801 = some (.ref (rx_K 34)))
theorem wk_135_909 : rx_kt (rt_P sc fm) 135 909 = some (.ref (rx_K 35)) := (by decide +kernel : rt_kt 135 909 = some (.ref (rx_K 35)))
theorem wp_135_356 : rx_pt (rt_P sc fm) 135 356 = some (15, 0, .int) := (by decide +kernel : rt_pt 135 356 = some (15, 0, .int))
theorem wp_135_366 : rx_pt (rt_P sc fm) 135 366 = some (15, 4, .int) := (by decide +kernel : rt_pt 135 366 = some (15, 4, .int))
theorem wp_135_378 : rx_pt (rt_P sc fm) 135 378 = some (15, 5, .boolean) := (by decide +kernel : rt_pt 135 378 = some (15, 5, .boolean))
theorem wr_135 : rx_rt (rt_P sc fm) 135 = (some FieldType.int) := (by decide +kernel : rt_rt 135 = (some FieldType.int))
/-- MarkHouseModel.code(IZ)I -/
def d_135 (n : Nat) (a1 : Int32) (a2 : Int32) (c : cS) : Option (Int32 × cS) :=
  lt (pI c 174 0 0) (fun c1 =>
  Option.bind (d_111 n a1 c1) (fun v3 =>
  if v3 = 0 then
    some ((-1), c1)
  else
    Option.bind (d_421 n a1) (fun v4 =>
    lt (pI c1 174 4 0) (fun c6 =>
    lt (pI c6 174 5 0) (fun c8 =>
    Option.bind (whl (R := (cS)) (fun s11 : Int32 × cS =>
      if ib v4 96 then
      if (s11.2.1 210 (ix v4)) ≤ s11.1 then
        some (.inr s11.2)
      else
        lt (((40 * v4) + s11.1) : Int32) (fun v14 =>
        Option.bind (whl (R := (cS)) (fun s17 : Int32 × cS =>
          if (s17.2.1 174 15) ≤ s17.1 then
            some (.inr s17.2)
          else
            if a2 = 0 then
              some (.inr s17.2)
            else
              if (s17.2.1 174 106) = 0 then
                some (.inr s17.2)
              else
                Option.bind (whl (R := (cS)) (fun s19 : Int32 × cS =>
                  if 4 ≤ s19.1 then
                    some (.inr s19.2)
                  else
                    Option.bind (d_463 n v14 s17.1 s19.1) (fun v20 =>
                    if ib v20 61440 then
                    jn (fun p22 : cS =>
                      lt (s19.1 + 1 : Int32) (fun v24 =>
                      some (.inl (v24, p22))))
                    (fun j152 =>
                    if 0 ≤ (s19.2.1 250 (ix v20)) then
                      Option.bind (d_362 n 35 s19.2) (fun r26 =>
                      Option.bind (d_463 n v14 s17.1 s19.1) (fun v27 =>
                      if ib v27 61440 then
                      Option.bind (d_448 n s17.1 (r26.1 250 (ix v27)) r26) (fun r29 =>
                      Option.bind (d_459 n v14 s19.1 r29) (fun v30 =>
                      Option.bind (d_364 n ((v30 : Int32).toInt64) r29) (fun r31 =>
                      Option.bind (d_362 n 34 r31) (fun r32 =>
                      j152 r32))))
                      else none))
                    else
                      j152 s19.2)
                    else none)) n (0, s17.2))
                (fun x33 : cS =>
                  lt (s17.1 + 1 : Int32) (fun v35 =>
                  some (.inl (v35, x33))))) n (0, s11.2))
        (fun x37 : cS =>
          Option.bind (d_447 n v4 v14 1 a2 x37) (fun r38 =>
          Option.bind (d_362 n 34 r38) (fun r39 =>
          lt (s11.1 + 1 : Int32) (fun v41 =>
          some (.inl (v41, r39)))))))
      else none) n (0, c8))
    (fun x43 : cS =>
      some ((x43.1 174 4), x43)))))))
theorem sp_135 {F Lo n : Nat} {a1 : Int32} {a2 : Int32} {c y : cS} {w : cW} {K : Int32 × cS → Prop} {Q : ((Option Value) ⊕ String) → List va_E → Prop} (hw : rOK fm w) (hF : 7 ≤ F) (hLo : 154 ≤ Lo)  (h : wp (d_135 n a1 a2 c) K) (hQ : ∀ r, K r → Q (.inl (some (.int r.1))) (hq false r.2 y w)) : rs (rt_P sc fm) 135 F Lo 0 [(0, .ref 174), (1, .int a1), (2, .int a2)] [] (hq false c y w) Q := by
  unfold d_135 at h
  obtain ⟨lv, elv⟩ : ∃ lv : rx_L, lv = [(0, .ref 174), (1, .int a1), (2, .int a2)] := ⟨_, rfl⟩
  rw [← elv]
  have l0 : rx_ld lv 0 = some (.ref 174) := by rw [elv]; rfl
  have l1 : rx_ld lv 1 = some (.int a1) := by rw [elv]; rfl
  have l2 : rx_ld lv 2 = some (.int a2) := by rw [elv]; rfl
  refine rs_aldn wi_135_0 l0 ?_
  refine rs_pure wi_135_1 rfl ?_
  refine rs_topi (v := 0) (by decide) ?_
  obtain ⟨c1, e2, h⟩ := wp_lt h
  refine dq_pi wi_135_2 wp_135_356 tf_174_0 rfl rfl e2 ?_
  refine rs_aldn wi_135_5 l0 ?_
  refine rs_ildn wi_135_6 l1 ?_
  refine rs_V wi_135_7 wc_135_721 rfl (dq_isa tf_174_0 wa_15_111) (Nat.le_trans (by decide) hF) (ml_le wm_111 (Nat.le_trans (by decide) hLo)) rfl (sp_111 hw (Nat.le_trans (by decide : 1 ≤ 7 - 1) (Nat.sub_le_sub_right hF 1)) (ml_sub wm_111 (Nat.le_trans (by decide : 24 ≤ 154 - 21) (Nat.sub_le_sub_right hLo 21))) (wp_bind h) (fun v3 h => rs_back1 ?_))
  refine rs_ifne (tg := 15) wi_135_10 ⟨by decide, by decide⟩ (fun q => ?_) (fun q => ?_)
  ·
    have h := wp_neg h q
    refine rs_ildn wi_135_15 l1 ?_
    refine rs_S wi_135_16 wc_135_658 (Or.inl rfl) rfl (Nat.le_trans (by decide) hF) (ml_le wm_421 (Nat.le_trans (by decide) hLo)) rfl (sp_421 (Nat.le_trans (by decide : 0 ≤ 7 - 1) (Nat.sub_le_sub_right hF 1)) (ml_sub wm_421 (Nat.le_trans (by decide : 0 ≤ 154 - 20) (Nat.sub_le_sub_right hLo 20))) (wp_bind h) (fun v4 h => rs_back1 ?_))
    refine dl_istn wi_135_19 rfl (fun lv l3 t5 => ?_)
    have l0 := t5 _ _ (by decide) (Or.inl rfl) l0
    have l2 := t5 _ _ (by decide) (Or.inl rfl) l2
    refine rs_aldn wi_135_20 l0 ?_
    refine rs_pure wi_135_21 rfl ?_
    refine rs_topi (v := 0) (by decide) ?_
    obtain ⟨c6, e7, h⟩ := wp_lt h
    refine dq_pi wi_135_22 wp_135_366 tf_174_4 rfl rfl e7 ?_
    refine rs_aldn wi_135_25 l0 ?_
    refine rs_pure wi_135_26 rfl ?_
    refine rs_topi (v := 0) (by decide) ?_
    obtain ⟨c8, e9, h⟩ := wp_lt h
    refine dq_pi wi_135_27 wp_135_378 tf_174_5 (nb_n (by decide)) (nb_f (by decide)) e9 ?_
    refine rs_pure wi_135_30 rfl ?_
    refine rs_topi (v := 0) (by decide) ?_
    refine dl_ist wi_135_31 rfl (fun lv l4 t10 => ?_)
    have l0 := t10 _ _ (by decide) (Or.inl rfl) l0
    have l2 := t10 _ _ (by decide) (Or.inl rfl) l2
    have l3 := t10 _ _ (by decide) (Or.inl rfl) l3
    refine whl_ex (A := fun s11 : Int32 × cS => ∀ lv, rx_ld lv 0 = some (.ref 174) → rx_ld lv 2 = some (.int a2) → rx_ld lv 3 = some (.int v4) → rx_ld lv 4 = some (.int s11.1) → rs (rt_P sc fm) 135 F Lo 33 lv [] (hq false s11.2 y w) Q) (B := (fun x43 : cS => ∀ lv, rx_ld lv 0 = some (.ref 174) → rs (rt_P sc fm) 135 F Lo 186 lv [] (hq false x43 y w) Q)) ?_ ?_ _ _ (wp_bind h) _ l0 l2 l3 l4
    · intro s11 h lv l0 l2 l3 l4
      refine rs_ild wi_135_33 l4 ?_
      refine rs_aldn wi_135_35 l0 ?_
      refine dq_gr wi_135_36 wf_135_182 tf_174_48 ?_
      refine rs_ildn wi_135_39 l3 ?_
      obtain ⟨g12, h⟩ := wp_gd h
      refine dq_iald wi_135_40 t_210 g12 ?_
      refine rs_icge (tg := 186) wi_135_41 ⟨by decide, by decide⟩ (fun q => ?_) (fun q => ?_)
      ·
        have h := wp_pos h q
        exact h _ l0
      ·
        have h := wp_neg h q
        refine rs_pure wi_135_44 rfl ?_
        refine rs_topi (v := 40) (by decide) ?_
        refine rs_ildn wi_135_46 l3 ?_
        refine rs_pure wi_135_47 rfl ?_
        refine rs_ild wi_135_48 l4 ?_
        refine rs_pure wi_135_50 rfl ?_
        obtain ⟨v14, e15, h⟩ := wp_lt h
        refine rs_topi e15 ?_
        refine dl_ist wi_135_51 rfl (fun lv l5 t13 => ?_)
        have l0 := t13 _ _ (by decide) (Or.inl rfl) l0
        have l2 := t13 _ _ (by decide) (Or.inl rfl) l2
        have l3 := t13 _ _ (by decide) (Or.inl rfl) l3
        have l4 := t13 _ _ (by decide) (Or.inl rfl) l4
        refine rs_pure wi_135_53 rfl ?_
        refine rs_topi (v := 0) (by decide) ?_
        refine dl_ist wi_135_54 rfl (fun lv l6 t16 => ?_)
        have l0 := t16 _ _ (by decide) (Or.inl rfl) l0
        have l2 := t16 _ _ (by decide) (Or.inl rfl) l2
        have l3 := t16 _ _ (by decide) (Or.inl rfl) l3
        have l4 := t16 _ _ (by decide) (Or.inl rfl) l4
        have l5 := t16 _ _ (by decide) (Or.inl rfl) l5
        refine whl_ex (A := fun s17 : Int32 × cS => ∀ lv, rx_ld lv 0 = some (.ref 174) → rx_ld lv 2 = some (.int a2) → rx_ld lv 3 = some (.int v4) → rx_ld lv 4 = some (.int s11.1) → rx_ld lv 5 = some (.int v14) → rx_ld lv 6 = some (.int s17.1) → rs (rt_P sc fm) 135 F Lo 56 lv [] (hq false s17.2 y w) Q) (B := (fun x37 : cS => ∀ lv, rx_ld lv 0 = some (.ref 174) → rx_ld lv 2 = some (.int a2) → rx_ld lv 3 = some (.int v4) → rx_ld lv 4 = some (.int s11.1) → rx_ld lv 5 = some (.int v14) → rs (rt_P sc fm) 135 F Lo 164 lv [] (hq false x37 y w) Q)) ?_ ?_ _ _ (wp_bind h) _ l0 l2 l3 l4 l5 l6
        · intro s17 h lv l0 l2 l3 l4 l5 l6
          refine rs_ild wi_135_56 l6 ?_
          refine rs_aldn wi_135_58 l0 ?_
          refine dq_gi wi_135_59 wf_135_447 tf_174_15 ?_
          refine rs_icge (tg := 164) wi_135_62 ⟨by decide, by decide⟩ (fun q => ?_) (fun q => ?_)
          ·
            have h := wp_pos h q
            exact h _ l0 l2 l3 l4 l5
          ·
            have h := wp_neg h q
            refine rs_ildn wi_135_65 l2 ?_
            refine rs_ifeq (tg := 164) wi_135_66 ⟨by decide, by decide⟩ (fun q => ?_) (fun q => ?_)
            ·
              have h := wp_pos h q
              exact h _ l0 l2 l3 l4 l5
            ·
              have h := wp_neg h q
              refine rs_aldn wi_135_69 l0 ?_
              refine dq_gi wi_135_70 wf_135_894 tf_174_106 ?_
              refine rs_ifeq (tg := 164) wi_135_73 ⟨by decide, by decide⟩ (fun q => ?_) (fun q => ?_)
              ·
                have h := wp_pos h q
                exact h _ l0 l2 l3 l4 l5
              ·
                have h := wp_neg h q
                refine rs_pure wi_135_76 rfl ?_
                refine rs_topi (v := 0) (by decide) ?_
                refine dl_ist wi_135_77 rfl (fun lv l7 t18 => ?_)
                have l0 := t18 _ _ (by decide) (Or.inl rfl) l0
                have l2 := t18 _ _ (by decide) (Or.inl rfl) l2
                have l3 := t18 _ _ (by decide) (Or.inl rfl) l3
                have l4 := t18 _ _ (by decide) (Or.inl rfl) l4
                have l5 := t18 _ _ (by decide) (Or.inl rfl) l5
                have l6 := t18 _ _ (by decide) (Or.inl rfl) l6
                refine whl_ex (A := fun s19 : Int32 × cS => ∀ lv, rx_ld lv 0 = some (.ref 174) → rx_ld lv 2 = some (.int a2) → rx_ld lv 3 = some (.int v4) → rx_ld lv 4 = some (.int s11.1) → rx_ld lv 5 = some (.int v14) → rx_ld lv 6 = some (.int s17.1) → rx_ld lv 7 = some (.int s19.1) → rs (rt_P sc fm) 135 F Lo 79 lv [] (hq false s19.2 y w) Q) (B := (fun x33 : cS => ∀ lv, rx_ld lv 0 = some (.ref 174) → rx_ld lv 2 = some (.int a2) → rx_ld lv 3 = some (.int v4) → rx_ld lv 4 = some (.int s11.1) → rx_ld lv 5 = some (.int v14) → rx_ld lv 6 = some (.int s17.1) → rs (rt_P sc fm) 135 F Lo 158 lv [] (hq false x33 y w) Q)) ?_ ?_ _ _ (wp_bind h) _ l0 l2 l3 l4 l5 l6 l7
                · intro s19 h lv l0 l2 l3 l4 l5 l6 l7
                  refine rs_ild wi_135_79 l7 ?_
                  refine rs_pure wi_135_81 rfl ?_
                  refine rs_topi (v := 4) (by decide) ?_
                  refine rs_icge (tg := 158) wi_135_82 ⟨by decide, by decide⟩ (fun q => ?_) (fun q => ?_)
                  ·
                    have h := wp_pos h q
                    exact h _ l0 l2 l3 l4 l5 l6
                  ·
                    have h := wp_neg h q
                    refine rs_aldn wi_135_85 l0 ?_
                    refine dq_gr wi_135_86 wf_135_308 tf_174_107 ?_
                    refine rs_ild wi_135_89 l5 ?_
                    refine rs_ild wi_135_91 l6 ?_
                    refine rs_ild wi_135_93 l7 ?_
                    refine rs_S wi_135_95 wc_135_903 (Or.inl rfl) rfl (Nat.le_trans (by decide) hF) (ml_le wm_463 (Nat.le_trans (by decide) hLo)) rfl (sp_463 (Nat.le_trans (by decide : 0 ≤ 7 - 1) (Nat.sub_le_sub_right hF 1)) (ml_sub wm_463 (Nat.le_trans (by decide : 0 ≤ 154 - 22) (Nat.sub_le_sub_right hLo 22))) (wp_bind h) (fun v20 h => rs_back1 ?_))
                    obtain ⟨g21, h⟩ := wp_gd h
                    refine dq_iald wi_135_98 t_250 g21 ?_
                    refine wp_jn (B := fun p22 : cS => ∀ lv, rx_ld lv 0 = some (.ref 174) → rx_ld lv 2 = some (.int a2) → rx_ld lv 3 = some (.int v4) → rx_ld lv 4 = some (.int s11.1) → rx_ld lv 5 = some (.int v14) → rx_ld lv 6 = some (.int s17.1) → rx_ld lv 7 = some (.int s19.1) → rs (rt_P sc fm) 135 F Lo 152 lv [] (hq false p22 y w) Q) h (fun p22 h lv l0 l2 l3 l4 l5 l6 l7 => ?_) (fun j152 hj152 h => ?_)
                    ·
                      obtain ⟨v24, e25, h⟩ := wp_lt h
                      refine dl_inc wi_135_152 l7 rfl e25 (fun lv l7 t23 => ?_)
                      have l0 := t23 _ _ (by decide) (Or.inl rfl) l0
                      have l2 := t23 _ _ (by decide) (Or.inl rfl) l2
                      have l3 := t23 _ _ (by decide) (Or.inl rfl) l3
                      have l4 := t23 _ _ (by decide) (Or.inl rfl) l4
                      have l5 := t23 _ _ (by decide) (Or.inl rfl) l5
                      have l6 := t23 _ _ (by decide) (Or.inl rfl) l6
                      refine rs_goto (tg := 79) wi_135_155 ⟨by decide, by decide⟩ ?_
                      exact h _ l0 l2 l3 l4 l5 l6 l7
                    refine rs_ifge (tg := 105) wi_135_99 ⟨by decide, by decide⟩ (fun q => ?_) (fun q => ?_)
                    ·
                      have h := wp_pos h q
                      refine rs_aldn wi_135_105 l0 ?_
                      refine rs_ldcwS wi_135_106 wk_135_909 ?_
                      refine rs_V wi_135_109 wc_135_402 rfl (dq_isa tf_174_0 wa_15_362) (Nat.le_trans (by decide) hF) (ml_le wm_362 (Nat.le_trans (by decide) hLo)) rfl (sp_362 hw (Nat.le_trans (by decide : 4 ≤ 7 - 1) (Nat.sub_le_sub_right hF 1)) (ml_sub wm_362 (Nat.le_trans (by decide : 85 ≤ 154 - 22) (Nat.sub_le_sub_right hLo 22))) (by decide +kernel) (wp_bind h) (fun r26 h => rs_back0 ?_))
                      refine rs_aldn wi_135_112 l0 ?_
                      refine rs_ild wi_135_113 l6 ?_
                      refine rs_aldn wi_135_115 l0 ?_
                      refine dq_gr wi_135_116 wf_135_308 tf_174_107 ?_
                      refine rs_ild wi_135_119 l5 ?_
                      refine rs_ild wi_135_121 l6 ?_
                      refine rs_ild wi_135_123 l7 ?_
                      refine rs_S wi_135_125 wc_135_903 (Or.inl rfl) rfl (Nat.le_trans (by decide) hF) (ml_le wm_463 (Nat.le_trans (by decide) hLo)) rfl (sp_463 (Nat.le_trans (by decide : 0 ≤ 7 - 1) (Nat.sub_le_sub_right hF 1)) (ml_sub wm_463 (Nat.le_trans (by decide : 0 ≤ 154 - 22) (Nat.sub_le_sub_right hLo 22))) (wp_bind h) (fun v27 h => rs_back1 ?_))
                      obtain ⟨g28, h⟩ := wp_gd h
                      refine dq_iald wi_135_128 t_250 g28 ?_
                      refine rs_V wi_135_129 wc_135_813 rfl (dq_isa tf_174_0 wa_15_448) (Nat.le_trans (by decide) hF) (ml_le wm_448 (Nat.le_trans (by decide) hLo)) rfl (sp_448 hw (Nat.le_trans (by decide : 5 ≤ 7 - 1) (Nat.sub_le_sub_right hF 1)) (ml_sub wm_448 (Nat.le_trans (by decide : 107 ≤ 154 - 22) (Nat.sub_le_sub_right hLo 22))) (wp_bind h) (fun r29 h => rs_back0 ?_))
                      refine rs_aldn wi_135_132 l0 ?_
                      refine rs_aldn wi_135_133 l0 ?_
                      refine rs_ild wi_135_134 l5 ?_
                      refine rs_ild wi_135_136 l7 ?_
                      refine rs_V wi_135_138 wc_135_865 rfl (dq_isa tf_174_0 wa_15_459) (Nat.le_trans (by decide) hF) (ml_le wm_459 (Nat.le_trans (by decide) hLo)) rfl (sp_459 hw (Nat.le_trans (by decide : 1 ≤ 7 - 1) (Nat.sub_le_sub_right hF 1)) (ml_sub wm_459 (Nat.le_trans (by decide : 21 ≤ 154 - 22) (Nat.sub_le_sub_right hLo 22))) (wp_bind h) (fun v30 h => rs_back1 ?_))
                      refine rs_pure wi_135_141 rfl ?_
                      refine rs_V wi_135_142 wc_135_406 rfl (dq_isa tf_174_0 wa_15_364) (Nat.le_trans (by decide) hF) (ml_le wm_364 (Nat.le_trans (by decide) hLo)) rfl (sp_364 hw (Nat.le_trans (by decide : 2 ≤ 7 - 1) (Nat.sub_le_sub_right hF 1)) (ml_sub wm_364 (Nat.le_trans (by decide : 45 ≤ 154 - 22) (Nat.sub_le_sub_right hLo 22))) (wp_bind h) (fun r31 h => rs_back0 ?_))
                      refine rs_aldn wi_135_145 l0 ?_
                      refine rs_ldcwS wi_135_146 wk_135_801 ?_
                      refine rs_V wi_135_149 wc_135_402 rfl (dq_isa tf_174_0 wa_15_362) (Nat.le_trans (by decide) hF) (ml_le wm_362 (Nat.le_trans (by decide) hLo)) rfl (sp_362 hw (Nat.le_trans (by decide : 4 ≤ 7 - 1) (Nat.sub_le_sub_right hF 1)) (ml_sub wm_362 (Nat.le_trans (by decide : 85 ≤ 154 - 22) (Nat.sub_le_sub_right hLo 22))) (by decide +kernel) (wp_bind h) (fun r32 h => rs_back0 ?_))
                      exact hj152 _ h _ l0 l2 l3 l4 l5 l6 l7
                    ·
                      have h := wp_neg h q
                      refine rs_goto (tg := 152) wi_135_102 ⟨by decide, by decide⟩ ?_
                      exact hj152 _ h _ l0 l2 l3 l4 l5 l6 l7
                ·
                  intro x33 h lv l0 l2 l3 l4 l5 l6
                  obtain ⟨v35, e36, h⟩ := wp_lt h
                  refine dl_inc wi_135_158 l6 rfl e36 (fun lv l6 t34 => ?_)
                  have l0 := t34 _ _ (by decide) (Or.inl rfl) l0
                  have l2 := t34 _ _ (by decide) (Or.inl rfl) l2
                  have l3 := t34 _ _ (by decide) (Or.inl rfl) l3
                  have l4 := t34 _ _ (by decide) (Or.inl rfl) l4
                  have l5 := t34 _ _ (by decide) (Or.inl rfl) l5
                  refine rs_goto (tg := 56) wi_135_161 ⟨by decide, by decide⟩ ?_
                  exact h _ l0 l2 l3 l4 l5 l6
        ·
          intro x37 h lv l0 l2 l3 l4 l5
          refine rs_aldn wi_135_164 l0 ?_
          refine rs_ildn wi_135_165 l3 ?_
          refine rs_ild wi_135_166 l5 ?_
          refine rs_pure wi_135_168 rfl ?_
          refine rs_topi (v := 1) (by decide) ?_
          refine rs_ildn wi_135_169 l2 ?_
          refine rs_V wi_135_170 wc_135_808 rfl (dq_isa tf_174_0 wa_15_447) (Nat.le_trans (by decide) hF) (ml_le wm_447 (Nat.le_trans (by decide) hLo)) rfl (sp_447 hw (Nat.le_trans (by decide : 6 ≤ 7 - 1) (Nat.sub_le_sub_right hF 1)) (ml_sub wm_447 (Nat.le_trans (by decide : 129 ≤ 154 - 25) (Nat.sub_le_sub_right hLo 25))) (wp_bind h) (fun r38 h => rs_back0 ?_))
          refine rs_aldn wi_135_173 l0 ?_
          refine rs_ldcwS wi_135_174 wk_135_801 ?_
          refine rs_V wi_135_177 wc_135_402 rfl (dq_isa tf_174_0 wa_15_362) (Nat.le_trans (by decide) hF) (ml_le wm_362 (Nat.le_trans (by decide) hLo)) rfl (sp_362 hw (Nat.le_trans (by decide : 4 ≤ 7 - 1) (Nat.sub_le_sub_right hF 1)) (ml_sub wm_362 (Nat.le_trans (by decide : 85 ≤ 154 - 22) (Nat.sub_le_sub_right hLo 22))) (by decide +kernel) (wp_bind h) (fun r39 h => rs_back0 ?_))
          obtain ⟨v41, e42, h⟩ := wp_lt h
          refine dl_inc wi_135_180 l4 rfl e42 (fun lv l4 t40 => ?_)
          have l0 := t40 _ _ (by decide) (Or.inl rfl) l0
          have l2 := t40 _ _ (by decide) (Or.inl rfl) l2
          have l3 := t40 _ _ (by decide) (Or.inl rfl) l3
          refine rs_goto (tg := 33) wi_135_183 ⟨by decide, by decide⟩ ?_
          exact h _ l0 l2 l3 l4
    ·
      intro x43 h lv l0
      refine rs_aldn wi_135_186 l0 ?_
      refine dq_gi wi_135_187 wf_135_366 tf_174_4 ?_
      exact rs_iret wi_135_190 wr_135 rfl (hQ ((x43.1 174 4), x43) h)
  ·
    have h := wp_pos h q
    refine rs_pure wi_135_13 rfl ?_
    refine rs_topi (v := (-1)) (by decide) ?_
    exact rs_iret wi_135_14 wr_135 rfl (hQ ((-1), c1) h)
theorem t_251 : ta false 251 0 4 := ⟨rfl, by decide, by decide⟩
theorem tf_174_108 : fo false 174 15 108 (.ref 251) := ⟨_, rfl, rfl, by decide, by decide⟩
theorem wf_136_311 : rx_ft (rt_P sc fm) 136 311 = some (15, 108) := (by decide +kernel : rt_ft 136 311 = some (15, 108))
theorem wi_136_0 : ri (rt_P sc fm) 136 0 (.aload_n 0) (1) := ri_of (by decide +kernel) rfl
theorem wi_136_1 : ri (rt_P sc fm) 136 1 (.iconst 0) (2) := ri_of (by decide +kernel) rfl
theorem wi_136_10 : ri (rt_P sc fm) 136 10 (.iconst 3) (11) := ri_of (by decide +kernel) rfl
theorem wi_136_11 : ri (rt_P sc fm) 136 11 (.if_icmp .le 5) (14) := ri_of (by decide +kernel) rfl
theorem wi_136_14 : ri (rt_P sc fm) 136 14 (.iconst 0) (15) := ri_of (by decide +kernel) rfl
theorem wi_136_15 : ri (rt_P sc fm) 136 15 (.ireturn) (16) := ri_of (by decide +kernel) rfl
theorem wi_136_16 : ri (rt_P sc fm) 136 16 (.aload_n 0) (17) := ri_of (by decide +kernel) rfl
theorem wi_136_17 : ri (rt_P sc fm) 136 17 (.getfield 311) (20) := ri_of (by decide +kernel) rfl
theorem wi_136_2 : ri (rt_P sc fm) 136 2 (.putfield 356) (5) := ri_of (by decide +kernel) rfl
theorem wi_136_20 : ri (rt_P sc fm) 136 20 (.iload_n 1) (21) := ri_of (by decide +kernel) rfl
theorem wi_136_21 : ri (rt_P sc fm) 136 21 (.iload_n 2) (22) := ri_of (by decide +kernel) rfl
theorem wi_136_22 : ri (rt_P sc fm) 136 22 (.iastore) (23) := ri_of (by decide +kernel) rfl
theorem wi_136_23 : ri (rt_P sc fm) 136 23 (.iconst 1) (24) := ri_of (by decide +kernel) rfl
theorem wi_136_24 : ri (rt_P sc fm) 136 24 (.ireturn) (25) := ri_of (by decide +kernel) rfl
theorem wi_136_5 : ri (rt_P sc fm) 136 5 (.iload_n 1) (6) := ri_of (by decide +kernel) rfl
theorem wi_136_6 : ri (rt_P sc fm) 136 6 (.ifCond .lt 8) (9) := ri_of (by decide +kernel) rfl
theorem wi_136_9 : ri (rt_P sc fm) 136 9 (.iload_n 1) (10) := ri_of (by decide +kernel) rfl
theorem wp_136_356 : rx_pt (rt_P sc fm) 136 356 = some (15, 0, .int) := (by decide +kernel : rt_pt 136 356 = some (15, 0, .int))
theorem wr_136 : rx_rt (rt_P sc fm) 136 = (some FieldType.boolean) := (by decide +kernel : rt_rt 136 = (some FieldType.boolean))
/-- MarkHouseModel.argument(II)Z -/
def d_136 (n : Nat) (a1 : Int32) (a2 : Int32) (c : cS) : Option (Int32 × cS) :=
  lt (pI c 174 0 0) (fun c1 =>
  jn (fun p3 : Unit =>
    some (0, c1))
  (fun j14 =>
  if a1 < 0 then
    j14 ()
  else
    if a1 ≤ 3 then
      if ib a1 4 then
      lt (pI c1 251 (ix a1) a2) (fun c5 =>
      some (1, c5))
      else none
    else
      j14 ()))
theorem sp_136 {F Lo n : Nat} {a1 : Int32} {a2 : Int32} {c y : cS} {w : cW} {K : Int32 × cS → Prop} {Q : ((Option Value) ⊕ String) → List va_E → Prop} (hw : rOK fm w) (hF : 0 ≤ F) (hLo : 0 ≤ Lo)  (h : wp (d_136 n a1 a2 c) K) (hQ : ∀ r, K r → Q (.inl (some (.int r.1))) (hq false r.2 y w)) : rs (rt_P sc fm) 136 F Lo 0 [(0, .ref 174), (1, .int a1), (2, .int a2)] [] (hq false c y w) Q := by
  unfold d_136 at h
  obtain ⟨lv, elv⟩ : ∃ lv : rx_L, lv = [(0, .ref 174), (1, .int a1), (2, .int a2)] := ⟨_, rfl⟩
  rw [← elv]
  have l0 : rx_ld lv 0 = some (.ref 174) := by rw [elv]; rfl
  have l1 : rx_ld lv 1 = some (.int a1) := by rw [elv]; rfl
  have l2 : rx_ld lv 2 = some (.int a2) := by rw [elv]; rfl
  refine rs_aldn wi_136_0 l0 ?_
  refine rs_pure wi_136_1 rfl ?_
  refine rs_topi (v := 0) (by decide) ?_
  obtain ⟨c1, e2, h⟩ := wp_lt h
  refine dq_pi wi_136_2 wp_136_356 tf_174_0 rfl rfl e2 ?_
  refine rs_ildn wi_136_5 l1 ?_
  refine wp_jn (B := fun p3 : Unit => ∀ lv, rs (rt_P sc fm) 136 F Lo 14 lv [] (hq false c1 y w) Q) h (fun p3 h lv => ?_) (fun j14 hj14 h => ?_)
  ·
    refine rs_pure wi_136_14 rfl ?_
    refine rs_topi (v := 0) (by decide) ?_
    exact rs_iret wi_136_15 wr_136 (nb_n (by decide)) (hQ (0, c1) h)
  refine rs_iflt (tg := 14) wi_136_6 ⟨by decide, by decide⟩ (fun q => ?_) (fun q => ?_)
  ·
    have h := wp_pos h q
    exact hj14 _ h _
  ·
    have h := wp_neg h q
    refine rs_ildn wi_136_9 l1 ?_
    refine rs_pure wi_136_10 rfl ?_
    refine rs_topi (v := 3) (by decide) ?_
    refine rs_icle (tg := 16) wi_136_11 ⟨by decide, by decide⟩ (fun q => ?_) (fun q => ?_)
    ·
      have h := wp_pos h q
      refine rs_aldn wi_136_16 l0 ?_
      refine dq_gr wi_136_17 wf_136_311 tf_174_108 ?_
      refine rs_ildn wi_136_20 l1 ?_
      refine rs_ildn wi_136_21 l2 ?_
      obtain ⟨g4, h⟩ := wp_gd h
      obtain ⟨c5, e6, h⟩ := wp_lt h
      refine dq_iast wi_136_22 t_251 g4 e6 ?_
      refine rs_pure wi_136_23 rfl ?_
      refine rs_topi (v := 1) (by decide) ?_
      exact rs_iret wi_136_24 wr_136 (nb_n (by decide)) (hQ (1, c5) h)
    ·
      have h := wp_neg h q
      exact hj14 _ h _
theorem t_252 : ta false 252 0 64 := ⟨rfl, by decide, by decide⟩
theorem tf_174_109 : fo false 174 15 109 (.ref 252) := ⟨_, rfl, rfl, by decide, by decide⟩
theorem tf_174_110 : fo false 174 15 110 (.int 0) := ⟨_, rfl, rfl, by decide, by decide⟩
theorem wf_137_314 : rx_ft (rt_P sc fm) 137 314 = some (15, 109) := (by decide +kernel : rt_ft 137 314 = some (15, 109))
theorem wf_137_910 : rx_ft (rt_P sc fm) 137 910 = some (15, 110) := (by decide +kernel : rt_ft 137 910 = some (15, 110))
theorem wi_137_0 : ri (rt_P sc fm) 137 0 (.aload_n 0) (1) := ri_of (by decide +kernel) rfl
theorem wi_137_1 : ri (rt_P sc fm) 137 1 (.iconst 0) (2) := ri_of (by decide +kernel) rfl
theorem wi_137_11 : ri (rt_P sc fm) 137 11 (.if_icmp .ne 5) (14) := ri_of (by decide +kernel) rfl
theorem wi_137_14 : ri (rt_P sc fm) 137 14 (.iconst (-1)) (15) := ri_of (by decide +kernel) rfl
theorem wi_137_15 : ri (rt_P sc fm) 137 15 (.ireturn) (16) := ri_of (by decide +kernel) rfl
theorem wi_137_16 : ri (rt_P sc fm) 137 16 (.aload_n 0) (17) := ri_of (by decide +kernel) rfl
theorem wi_137_17 : ri (rt_P sc fm) 137 17 (.getfield 314) (20) := ri_of (by decide +kernel) rfl
theorem wi_137_2 : ri (rt_P sc fm) 137 2 (.putfield 356) (5) := ri_of (by decide +kernel) rfl
theorem wi_137_20 : ri (rt_P sc fm) 137 20 (.aload_n 0) (21) := ri_of (by decide +kernel) rfl
theorem wi_137_21 : ri (rt_P sc fm) 137 21 (.getfield 910) (24) := ri_of (by decide +kernel) rfl
theorem wi_137_24 : ri (rt_P sc fm) 137 24 (.iload_n 1) (25) := ri_of (by decide +kernel) rfl
theorem wi_137_25 : ri (rt_P sc fm) 137 25 (.iastore) (26) := ri_of (by decide +kernel) rfl
theorem wi_137_26 : ri (rt_P sc fm) 137 26 (.aload_n 0) (27) := ri_of (by decide +kernel) rfl
theorem wi_137_27 : ri (rt_P sc fm) 137 27 (.dup) (28) := ri_of (by decide +kernel) rfl
theorem wi_137_28 : ri (rt_P sc fm) 137 28 (.getfield 910) (31) := ri_of (by decide +kernel) rfl
theorem wi_137_31 : ri (rt_P sc fm) 137 31 (.iconst 1) (32) := ri_of (by decide +kernel) rfl
theorem wi_137_32 : ri (rt_P sc fm) 137 32 (.iadd) (33) := ri_of (by decide +kernel) rfl
theorem wi_137_33 : ri (rt_P sc fm) 137 33 (.putfield 910) (36) := ri_of (by decide +kernel) rfl
theorem wi_137_36 : ri (rt_P sc fm) 137 36 (.aload_n 0) (37) := ri_of (by decide +kernel) rfl
theorem wi_137_37 : ri (rt_P sc fm) 137 37 (.getfield 910) (40) := ri_of (by decide +kernel) rfl
theorem wi_137_40 : ri (rt_P sc fm) 137 40 (.ireturn) (41) := ri_of (by decide +kernel) rfl
theorem wi_137_5 : ri (rt_P sc fm) 137 5 (.aload_n 0) (6) := ri_of (by decide +kernel) rfl
theorem wi_137_6 : ri (rt_P sc fm) 137 6 (.getfield 910) (9) := ri_of (by decide +kernel) rfl
theorem wi_137_9 : ri (rt_P sc fm) 137 9 (.bipush 64) (11) := ri_of (by decide +kernel) rfl
theorem wp_137_356 : rx_pt (rt_P sc fm) 137 356 = some (15, 0, .int) := (by decide +kernel : rt_pt 137 356 = some (15, 0, .int))
theorem wp_137_910 : rx_pt (rt_P sc fm) 137 910 = some (15, 110, .int) := (by decide +kernel : rt_pt 137 910 = some (15, 110, .int))
theorem wr_137 : rx_rt (rt_P sc fm) 137 = (some FieldType.int) := (by decide +kernel : rt_rt 137 = (some FieldType.int))
/-- MarkHouseModel.input(I)I -/
def d_137 (n : Nat) (a1 : Int32) (c : cS) : Option (Int32 × cS) :=
  lt (pI c 174 0 0) (fun c1 =>
  if (c1.1 174 110) = 64 then
    some ((-1), c1)
  else
    if ib (c1.1 174 110) 64 then
    lt (pI c1 252 (ix (c1.1 174 110)) a1) (fun c4 =>
    lt (pI c4 174 110 ((c4.1 174 110) + 1)) (fun c6 =>
    some ((c6.1 174 110), c6)))
    else none)
theorem sp_137 {F Lo n : Nat} {a1 : Int32} {c y : cS} {w : cW} {K : Int32 × cS → Prop} {Q : ((Option Value) ⊕ String) → List va_E → Prop} (hw : rOK fm w) (hF : 0 ≤ F) (hLo : 0 ≤ Lo)  (h : wp (d_137 n a1 c) K) (hQ : ∀ r, K r → Q (.inl (some (.int r.1))) (hq false r.2 y w)) : rs (rt_P sc fm) 137 F Lo 0 [(0, .ref 174), (1, .int a1)] [] (hq false c y w) Q := by
  unfold d_137 at h
  obtain ⟨lv, elv⟩ : ∃ lv : rx_L, lv = [(0, .ref 174), (1, .int a1)] := ⟨_, rfl⟩
  rw [← elv]
  have l0 : rx_ld lv 0 = some (.ref 174) := by rw [elv]; rfl
  have l1 : rx_ld lv 1 = some (.int a1) := by rw [elv]; rfl
  refine rs_aldn wi_137_0 l0 ?_
  refine rs_pure wi_137_1 rfl ?_
  refine rs_topi (v := 0) (by decide) ?_
  obtain ⟨c1, e2, h⟩ := wp_lt h
  refine dq_pi wi_137_2 wp_137_356 tf_174_0 rfl rfl e2 ?_
  refine rs_aldn wi_137_5 l0 ?_
  refine dq_gi wi_137_6 wf_137_910 tf_174_110 ?_
  refine rs_pure wi_137_9 rfl ?_
  refine rs_topi (v := 64) (by decide) ?_
  refine rs_icne (tg := 16) wi_137_11 ⟨by decide, by decide⟩ (fun q => ?_) (fun q => ?_)
  ·
    have h := wp_neg h q
    refine rs_aldn wi_137_16 l0 ?_
    refine dq_gr wi_137_17 wf_137_314 tf_174_109 ?_
    refine rs_aldn wi_137_20 l0 ?_
    refine dq_gi wi_137_21 wf_137_910 tf_174_110 ?_
    refine rs_ildn wi_137_24 l1 ?_
    obtain ⟨g3, h⟩ := wp_gd h
    obtain ⟨c4, e5, h⟩ := wp_lt h
    refine dq_iast wi_137_25 t_252 g3 e5 ?_
    refine rs_aldn wi_137_26 l0 ?_
    refine rs_pure wi_137_27 rfl ?_
    refine dq_gi wi_137_28 wf_137_910 tf_174_110 ?_
    refine rs_pure wi_137_31 rfl ?_
    refine rs_topi (v := 1) (by decide) ?_
    refine rs_pure wi_137_32 rfl ?_
    obtain ⟨c6, e7, h⟩ := wp_lt h
    refine dq_pi wi_137_33 wp_137_910 tf_174_110 rfl rfl e7 ?_
    refine rs_aldn wi_137_36 l0 ?_
    refine dq_gi wi_137_37 wf_137_910 tf_174_110 ?_
    exact rs_iret wi_137_40 wr_137 rfl (hQ ((c6.1 174 110), c6) h)
  ·
    have h := wp_pos h q
    refine rs_pure wi_137_14 rfl ?_
    refine rs_topi (v := (-1)) (by decide) ?_
    exact rs_iret wi_137_15 wr_137 rfl (hQ ((-1), c1) h)
theorem t_256 : ta false 256 0 192 := ⟨rfl, by decide, by decide⟩
theorem t_257 : ta false 257 0 768 := ⟨rfl, by decide, by decide⟩
theorem tf_174_117 : fo false 174 15 117 (.ref 256) := ⟨_, rfl, rfl, by decide, by decide⟩
theorem tf_174_118 : fo false 174 15 118 (.ref 257) := ⟨_, rfl, rfl, by decide, by decide⟩
theorem wf_138_116 : rx_ft (rt_P sc fm) 138 116 = some (15, 23) := (by decide +kernel : rt_ft 138 116 = some (15, 23))
theorem wf_138_326 : rx_ft (rt_P sc fm) 138 326 = some (15, 117) := (by decide +kernel : rt_ft 138 326 = some (15, 117))
theorem wf_138_329 : rx_ft (rt_P sc fm) 138 329 = some (15, 118) := (by decide +kernel : rt_ft 138 329 = some (15, 118))
theorem wf_138_447 : rx_ft (rt_P sc fm) 138 447 = some (15, 15) := (by decide +kernel : rt_ft 138 447 = some (15, 15))
theorem wi_138_0 : ri (rt_P sc fm) 138 0 (.aload_n 0) (1) := ri_of (by decide +kernel) rfl
theorem wi_138_1 : ri (rt_P sc fm) 138 1 (.getfield 326) (4) := ri_of (by decide +kernel) rfl
theorem wi_138_10 : ri (rt_P sc fm) 138 10 (.aload_n 0) (11) := ri_of (by decide +kernel) rfl
theorem wi_138_11 : ri (rt_P sc fm) 138 11 (.getfield 447) (14) := ri_of (by decide +kernel) rfl
theorem wi_138_14 : ri (rt_P sc fm) 138 14 (.if_icmp .ge 25) (17) := ri_of (by decide +kernel) rfl
theorem wi_138_17 : ri (rt_P sc fm) 138 17 (.aload_n 0) (18) := ri_of (by decide +kernel) rfl
theorem wi_138_18 : ri (rt_P sc fm) 138 18 (.getfield 329) (21) := ri_of (by decide +kernel) rfl
theorem wi_138_21 : ri (rt_P sc fm) 138 21 (.iconst 4) (22) := ri_of (by decide +kernel) rfl
theorem wi_138_22 : ri (rt_P sc fm) 138 22 (.iload_n 1) (23) := ri_of (by decide +kernel) rfl
theorem wi_138_23 : ri (rt_P sc fm) 138 23 (.imul) (24) := ri_of (by decide +kernel) rfl
theorem wi_138_24 : ri (rt_P sc fm) 138 24 (.iload_n 3) (25) := ri_of (by decide +kernel) rfl
theorem wi_138_25 : ri (rt_P sc fm) 138 25 (.iadd) (26) := ri_of (by decide +kernel) rfl
theorem wi_138_26 : ri (rt_P sc fm) 138 26 (.aload_n 0) (27) := ri_of (by decide +kernel) rfl
theorem wi_138_27 : ri (rt_P sc fm) 138 27 (.getfield 116) (30) := ri_of (by decide +kernel) rfl
theorem wi_138_30 : ri (rt_P sc fm) 138 30 (.iload_n 3) (31) := ri_of (by decide +kernel) rfl
theorem wi_138_31 : ri (rt_P sc fm) 138 31 (.iaload) (32) := ri_of (by decide +kernel) rfl
theorem wi_138_32 : ri (rt_P sc fm) 138 32 (.iastore) (33) := ri_of (by decide +kernel) rfl
theorem wi_138_33 : ri (rt_P sc fm) 138 33 (.iinc 3 1) (36) := ri_of (by decide +kernel) rfl
theorem wi_138_36 : ri (rt_P sc fm) 138 36 (.goto (-27)) (39) := ri_of (by decide +kernel) rfl
theorem wi_138_39 : ri (rt_P sc fm) 138 39 (.return_) (40) := ri_of (by decide +kernel) rfl
theorem wi_138_4 : ri (rt_P sc fm) 138 4 (.iload_n 1) (5) := ri_of (by decide +kernel) rfl
theorem wi_138_5 : ri (rt_P sc fm) 138 5 (.iload_n 2) (6) := ri_of (by decide +kernel) rfl
theorem wi_138_6 : ri (rt_P sc fm) 138 6 (.iastore) (7) := ri_of (by decide +kernel) rfl
theorem wi_138_7 : ri (rt_P sc fm) 138 7 (.iconst 0) (8) := ri_of (by decide +kernel) rfl
theorem wi_138_8 : ri (rt_P sc fm) 138 8 (.istore_n 3) (9) := ri_of (by decide +kernel) rfl
theorem wi_138_9 : ri (rt_P sc fm) 138 9 (.iload_n 3) (10) := ri_of (by decide +kernel) rfl
theorem wr_138 : rx_rt (rt_P sc fm) 138 = none := (by decide +kernel : rt_rt 138 = none)
/-- MarkHouseModel.plain(II)V -/
def d_138 (n : Nat) (a1 : Int32) (a2 : Int32) (c : cS) : Option (cS) :=
  if ib a1 192 then
  lt (pI c 256 (ix a1) a2) (fun c2 =>
  Option.bind (whl (R := (cS)) (fun s5 : Int32 × cS =>
    if (s5.2.1 174 15) ≤ s5.1 then
      some (.inr s5.2)
    else
      if ib s5.1 4 then
      if ib ((4 * a1) + s5.1) 768 then
      lt (pI s5.2 257 (ix ((4 * a1) + s5.1)) (s5.2.1 188 (ix s5.1))) (fun c8 =>
      lt (s5.1 + 1 : Int32) (fun v11 =>
      some (.inl (v11, c8))))
      else none
      else none) n (0, c2))
  (fun x13 : cS =>
    some x13))
  else none
theorem sp_138 {F Lo n : Nat} {a1 : Int32} {a2 : Int32} {c y : cS} {w : cW} {K : cS → Prop} {Q : ((Option Value) ⊕ String) → List va_E → Prop} (hw : rOK fm w) (hF : 0 ≤ F) (hLo : 0 ≤ Lo)  (h : wp (d_138 n a1 a2 c) K) (hQ : ∀ r, K r → Q (.inl none) (hq false r y w)) : rs (rt_P sc fm) 138 F Lo 0 [(0, .ref 174), (1, .int a1), (2, .int a2)] [] (hq false c y w) Q := by
  unfold d_138 at h
  obtain ⟨lv, elv⟩ : ∃ lv : rx_L, lv = [(0, .ref 174), (1, .int a1), (2, .int a2)] := ⟨_, rfl⟩
  rw [← elv]
  have l0 : rx_ld lv 0 = some (.ref 174) := by rw [elv]; rfl
  have l1 : rx_ld lv 1 = some (.int a1) := by rw [elv]; rfl
  have l2 : rx_ld lv 2 = some (.int a2) := by rw [elv]; rfl
  refine rs_aldn wi_138_0 l0 ?_
  refine dq_gr wi_138_1 wf_138_326 tf_174_117 ?_
  refine rs_ildn wi_138_4 l1 ?_
  refine rs_ildn wi_138_5 l2 ?_
  obtain ⟨g1, h⟩ := wp_gd h
  obtain ⟨c2, e3, h⟩ := wp_lt h
  refine dq_iast wi_138_6 t_256 g1 e3 ?_
  refine rs_pure wi_138_7 rfl ?_
  refine rs_topi (v := 0) (by decide) ?_
  refine dl_istn wi_138_8 rfl (fun lv l3 t4 => ?_)
  have l0 := t4 _ _ (by decide) (Or.inl rfl) l0
  have l1 := t4 _ _ (by decide) (Or.inl rfl) l1
  refine whl_ex (A := fun s5 : Int32 × cS => ∀ lv, rx_ld lv 0 = some (.ref 174) → rx_ld lv 1 = some (.int a1) → rx_ld lv 3 = some (.int s5.1) → rs (rt_P sc fm) 138 F Lo 9 lv [] (hq false s5.2 y w) Q) (B := (fun x13 : cS => ∀ lv, rs (rt_P sc fm) 138 F Lo 39 lv [] (hq false x13 y w) Q)) ?_ ?_ _ _ (wp_bind h) _ l0 l1 l3
  · intro s5 h lv l0 l1 l3
    refine rs_ildn wi_138_9 l3 ?_
    refine rs_aldn wi_138_10 l0 ?_
    refine dq_gi wi_138_11 wf_138_447 tf_174_15 ?_
    refine rs_icge (tg := 39) wi_138_14 ⟨by decide, by decide⟩ (fun q => ?_) (fun q => ?_)
    ·
      have h := wp_pos h q
      exact h _
    ·
      have h := wp_neg h q
      refine rs_aldn wi_138_17 l0 ?_
      refine dq_gr wi_138_18 wf_138_329 tf_174_118 ?_
      refine rs_pure wi_138_21 rfl ?_
      refine rs_topi (v := 4) (by decide) ?_
      refine rs_ildn wi_138_22 l1 ?_
      refine rs_pure wi_138_23 rfl ?_
      refine rs_ildn wi_138_24 l3 ?_
      refine rs_pure wi_138_25 rfl ?_
      refine rs_aldn wi_138_26 l0 ?_
      refine dq_gr wi_138_27 wf_138_116 tf_174_23 ?_
      refine rs_ildn wi_138_30 l3 ?_
      obtain ⟨g6, h⟩ := wp_gd h
      refine dq_iald wi_138_31 t_188 g6 ?_
      obtain ⟨g7, h⟩ := wp_gd h
      obtain ⟨c8, e9, h⟩ := wp_lt h
      refine dq_iast wi_138_32 t_257 g7 e9 ?_
      obtain ⟨v11, e12, h⟩ := wp_lt h
      refine dl_inc wi_138_33 l3 rfl e12 (fun lv l3 t10 => ?_)
      have l0 := t10 _ _ (by decide) (Or.inl rfl) l0
      have l1 := t10 _ _ (by decide) (Or.inl rfl) l1
      refine rs_goto (tg := 9) wi_138_36 ⟨by decide, by decide⟩ ?_
      exact h _ l0 l1 l3
  ·
    intro x13 h lv
    exact rs_vret wi_138_39 wr_138 (hQ x13 h)
theorem t_253 : ta false 253 0 12 := ⟨rfl, by decide, by decide⟩
theorem t_254 : ta false 254 0 12 := ⟨rfl, by decide, by decide⟩
theorem t_255 : ta false 255 0 12 := ⟨rfl, by decide, by decide⟩
theorem tf_174_113 : fo false 174 15 113 (.int 0) := ⟨_, rfl, rfl, by decide, by decide⟩
theorem tf_174_114 : fo false 174 15 114 (.ref 253) := ⟨_, rfl, rfl, by decide, by decide⟩
theorem tf_174_115 : fo false 174 15 115 (.ref 254) := ⟨_, rfl, rfl, by decide, by decide⟩
theorem tf_174_116 : fo false 174 15 116 (.ref 255) := ⟨_, rfl, rfl, by decide, by decide⟩
theorem wa_15_138 : rz_cn 15 (rx_yn (rt_P sc fm) 138).cls = true := (by decide +kernel : rz_cn 15 (rt_yn 138).cls = true)
theorem wc_466_916 : rx_ct (rt_P sc fm) 466 916 = some (0, 138, 2) := (by decide +kernel : rt_ct 466 916 = some (0, 138, 2))
theorem wf_466_317 : rx_ft (rt_P sc fm) 466 317 = some (15, 114) := (by decide +kernel : rt_ft 466 317 = some (15, 114))
theorem wf_466_320 : rx_ft (rt_P sc fm) 466 320 = some (15, 115) := (by decide +kernel : rt_ft 466 320 = some (15, 115))
theorem wf_466_323 : rx_ft (rt_P sc fm) 466 323 = some (15, 116) := (by decide +kernel : rt_ft 466 323 = some (15, 116))
theorem wf_466_913 : rx_ft (rt_P sc fm) 466 913 = some (15, 113) := (by decide +kernel : rt_ft 466 913 = some (15, 113))
theorem wi_466_0 : ri (rt_P sc fm) 466 0 (.aload_n 0) (1) := ri_of (by decide +kernel) rfl
theorem wi_466_1 : ri (rt_P sc fm) 466 1 (.getfield 913) (4) := ri_of (by decide +kernel) rfl
theorem wi_466_10 : ri (rt_P sc fm) 466 10 (.iconst 1) (11) := ri_of (by decide +kernel) rfl
theorem wi_466_11 : ri (rt_P sc fm) 466 11 (.iadd) (12) := ri_of (by decide +kernel) rfl
theorem wi_466_12 : ri (rt_P sc fm) 466 12 (.putfield 913) (15) := ri_of (by decide +kernel) rfl
theorem wi_466_15 : ri (rt_P sc fm) 466 15 (.aload_n 0) (16) := ri_of (by decide +kernel) rfl
theorem wi_466_16 : ri (rt_P sc fm) 466 16 (.getfield 317) (19) := ri_of (by decide +kernel) rfl
theorem wi_466_19 : ri (rt_P sc fm) 466 19 (.iload_n 2) (20) := ri_of (by decide +kernel) rfl
theorem wi_466_20 : ri (rt_P sc fm) 466 20 (.iload_n 1) (21) := ri_of (by decide +kernel) rfl
theorem wi_466_21 : ri (rt_P sc fm) 466 21 (.iastore) (22) := ri_of (by decide +kernel) rfl
theorem wi_466_22 : ri (rt_P sc fm) 466 22 (.aload_n 0) (23) := ri_of (by decide +kernel) rfl
theorem wi_466_23 : ri (rt_P sc fm) 466 23 (.getfield 320) (26) := ri_of (by decide +kernel) rfl
theorem wi_466_26 : ri (rt_P sc fm) 466 26 (.iload_n 2) (27) := ri_of (by decide +kernel) rfl
theorem wi_466_27 : ri (rt_P sc fm) 466 27 (.iconst 0) (28) := ri_of (by decide +kernel) rfl
theorem wi_466_28 : ri (rt_P sc fm) 466 28 (.iastore) (29) := ri_of (by decide +kernel) rfl
theorem wi_466_29 : ri (rt_P sc fm) 466 29 (.aload_n 0) (30) := ri_of (by decide +kernel) rfl
theorem wi_466_30 : ri (rt_P sc fm) 466 30 (.getfield 323) (33) := ri_of (by decide +kernel) rfl
theorem wi_466_33 : ri (rt_P sc fm) 466 33 (.iload_n 2) (34) := ri_of (by decide +kernel) rfl
theorem wi_466_34 : ri (rt_P sc fm) 466 34 (.bipush 8) (36) := ri_of (by decide +kernel) rfl
theorem wi_466_36 : ri (rt_P sc fm) 466 36 (.iastore) (37) := ri_of (by decide +kernel) rfl
theorem wi_466_37 : ri (rt_P sc fm) 466 37 (.iconst 0) (38) := ri_of (by decide +kernel) rfl
theorem wi_466_38 : ri (rt_P sc fm) 466 38 (.istore_n 3) (39) := ri_of (by decide +kernel) rfl
theorem wi_466_39 : ri (rt_P sc fm) 466 39 (.iload_n 3) (40) := ri_of (by decide +kernel) rfl
theorem wi_466_4 : ri (rt_P sc fm) 466 4 (.istore_n 2) (5) := ri_of (by decide +kernel) rfl
theorem wi_466_40 : ri (rt_P sc fm) 466 40 (.bipush 16) (42) := ri_of (by decide +kernel) rfl
theorem wi_466_42 : ri (rt_P sc fm) 466 42 (.if_icmp .ge 20) (45) := ri_of (by decide +kernel) rfl
theorem wi_466_45 : ri (rt_P sc fm) 466 45 (.aload_n 0) (46) := ri_of (by decide +kernel) rfl
theorem wi_466_46 : ri (rt_P sc fm) 466 46 (.bipush 16) (48) := ri_of (by decide +kernel) rfl
theorem wi_466_48 : ri (rt_P sc fm) 466 48 (.iload_n 2) (49) := ri_of (by decide +kernel) rfl
theorem wi_466_49 : ri (rt_P sc fm) 466 49 (.imul) (50) := ri_of (by decide +kernel) rfl
theorem wi_466_5 : ri (rt_P sc fm) 466 5 (.aload_n 0) (6) := ri_of (by decide +kernel) rfl
theorem wi_466_50 : ri (rt_P sc fm) 466 50 (.iload_n 3) (51) := ri_of (by decide +kernel) rfl
theorem wi_466_51 : ri (rt_P sc fm) 466 51 (.iadd) (52) := ri_of (by decide +kernel) rfl
theorem wi_466_52 : ri (rt_P sc fm) 466 52 (.iconst 0) (53) := ri_of (by decide +kernel) rfl
theorem wi_466_53 : ri (rt_P sc fm) 466 53 (.invokevirtual 916) (56) := ri_of (by decide +kernel) rfl
theorem wi_466_56 : ri (rt_P sc fm) 466 56 (.iinc 3 1) (59) := ri_of (by decide +kernel) rfl
theorem wi_466_59 : ri (rt_P sc fm) 466 59 (.goto (-20)) (62) := ri_of (by decide +kernel) rfl
theorem wi_466_6 : ri (rt_P sc fm) 466 6 (.dup) (7) := ri_of (by decide +kernel) rfl
theorem wi_466_62 : ri (rt_P sc fm) 466 62 (.return_) (63) := ri_of (by decide +kernel) rfl
theorem wi_466_7 : ri (rt_P sc fm) 466 7 (.getfield 913) (10) := ri_of (by decide +kernel) rfl
theorem wm_138 : rx_ml (rt_P sc fm) 138 = 4 := (by decide +kernel : rt_ml 138 = 4)
theorem wp_466_913 : rx_pt (rt_P sc fm) 466 913 = some (15, 113, .int) := (by decide +kernel : rt_pt 466 913 = some (15, 113, .int))
theorem wr_466 : rx_rt (rt_P sc fm) 466 = none := (by decide +kernel : rt_rt 466 = none)
/-- MarkHouseModel.frame(I)V -/
def d_466 (n : Nat) (a1 : Int32) (c : cS) : Option (cS) :=
  lt ((c.1 174 113) : Int32) (fun v2 =>
  lt (pI c 174 113 ((c.1 174 113) + 1)) (fun c4 =>
  if ib v2 12 then
  lt (pI c4 253 (ix v2) a1) (fun c7 =>
  if ib v2 12 then
  lt (pI c7 254 (ix v2) 0) (fun c10 =>
  if ib v2 12 then
  lt (pI c10 255 (ix v2) 8) (fun c13 =>
  Option.bind (whl (R := (cS)) (fun s16 : Int32 × cS =>
    if 16 ≤ s16.1 then
      some (.inr s16.2)
    else
      Option.bind (d_138 n ((16 * v2) + s16.1) 0 s16.2) (fun r17 =>
      lt (s16.1 + 1 : Int32) (fun v19 =>
      some (.inl (v19, r17))))) n (0, c13))
  (fun x21 : cS =>
    some x21))
  else none)
  else none)
  else none))
theorem sp_466 {F Lo n : Nat} {a1 : Int32} {c y : cS} {w : cW} {K : cS → Prop} {Q : ((Option Value) ⊕ String) → List va_E → Prop} (hw : rOK fm w) (hF : 1 ≤ F) (hLo : 23 ≤ Lo)  (h : wp (d_466 n a1 c) K) (hQ : ∀ r, K r → Q (.inl none) (hq false r y w)) : rs (rt_P sc fm) 466 F Lo 0 [(0, .ref 174), (1, .int a1)] [] (hq false c y w) Q := by
  unfold d_466 at h
  obtain ⟨lv, elv⟩ : ∃ lv : rx_L, lv = [(0, .ref 174), (1, .int a1)] := ⟨_, rfl⟩
  rw [← elv]
  have l0 : rx_ld lv 0 = some (.ref 174) := by rw [elv]; rfl
  have l1 : rx_ld lv 1 = some (.int a1) := by rw [elv]; rfl
  refine rs_aldn wi_466_0 l0 ?_
  refine dq_gi wi_466_1 wf_466_913 tf_174_113 ?_
  obtain ⟨v2, e3, h⟩ := wp_lt h
  refine rs_topi e3 ?_
  refine dl_istn wi_466_4 rfl (fun lv l2 t1 => ?_)
  have l0 := t1 _ _ (by decide) (Or.inl rfl) l0
  have l1 := t1 _ _ (by decide) (Or.inl rfl) l1
  refine rs_aldn wi_466_5 l0 ?_
  refine rs_pure wi_466_6 rfl ?_
  refine dq_gi wi_466_7 wf_466_913 tf_174_113 ?_
  refine rs_pure wi_466_10 rfl ?_
  refine rs_topi (v := 1) (by decide) ?_
  refine rs_pure wi_466_11 rfl ?_
  obtain ⟨c4, e5, h⟩ := wp_lt h
  refine dq_pi wi_466_12 wp_466_913 tf_174_113 rfl rfl e5 ?_
  refine rs_aldn wi_466_15 l0 ?_
  refine dq_gr wi_466_16 wf_466_317 tf_174_114 ?_
  refine rs_ildn wi_466_19 l2 ?_
  refine rs_ildn wi_466_20 l1 ?_
  obtain ⟨g6, h⟩ := wp_gd h
  obtain ⟨c7, e8, h⟩ := wp_lt h
  refine dq_iast wi_466_21 t_253 g6 e8 ?_
  refine rs_aldn wi_466_22 l0 ?_
  refine dq_gr wi_466_23 wf_466_320 tf_174_115 ?_
  refine rs_ildn wi_466_26 l2 ?_
  refine rs_pure wi_466_27 rfl ?_
  refine rs_topi (v := 0) (by decide) ?_
  obtain ⟨g9, h⟩ := wp_gd h
  obtain ⟨c10, e11, h⟩ := wp_lt h
  refine dq_iast wi_466_28 t_254 g9 e11 ?_
  refine rs_aldn wi_466_29 l0 ?_
  refine dq_gr wi_466_30 wf_466_323 tf_174_116 ?_
  refine rs_ildn wi_466_33 l2 ?_
  refine rs_pure wi_466_34 rfl ?_
  refine rs_topi (v := 8) (by decide) ?_
  obtain ⟨g12, h⟩ := wp_gd h
  obtain ⟨c13, e14, h⟩ := wp_lt h
  refine dq_iast wi_466_36 t_255 g12 e14 ?_
  refine rs_pure wi_466_37 rfl ?_
  refine rs_topi (v := 0) (by decide) ?_
  refine dl_istn wi_466_38 rfl (fun lv l3 t15 => ?_)
  have l0 := t15 _ _ (by decide) (Or.inl rfl) l0
  have l2 := t15 _ _ (by decide) (Or.inl rfl) l2
  refine whl_ex (A := fun s16 : Int32 × cS => ∀ lv, rx_ld lv 0 = some (.ref 174) → rx_ld lv 2 = some (.int v2) → rx_ld lv 3 = some (.int s16.1) → rs (rt_P sc fm) 466 F Lo 39 lv [] (hq false s16.2 y w) Q) (B := (fun x21 : cS => ∀ lv, rs (rt_P sc fm) 466 F Lo 62 lv [] (hq false x21 y w) Q)) ?_ ?_ _ _ (wp_bind h) _ l0 l2 l3
  · intro s16 h lv l0 l2 l3
    refine rs_ildn wi_466_39 l3 ?_
    refine rs_pure wi_466_40 rfl ?_
    refine rs_topi (v := 16) (by decide) ?_
    refine rs_icge (tg := 62) wi_466_42 ⟨by decide, by decide⟩ (fun q => ?_) (fun q => ?_)
    ·
      have h := wp_pos h q
      exact h _
    ·
      have h := wp_neg h q
      refine rs_aldn wi_466_45 l0 ?_
      refine rs_pure wi_466_46 rfl ?_
      refine rs_topi (v := 16) (by decide) ?_
      refine rs_ildn wi_466_48 l2 ?_
      refine rs_pure wi_466_49 rfl ?_
      refine rs_ildn wi_466_50 l3 ?_
      refine rs_pure wi_466_51 rfl ?_
      refine rs_pure wi_466_52 rfl ?_
      refine rs_topi (v := 0) (by decide) ?_
      refine rs_V wi_466_53 wc_466_916 rfl (dq_isa tf_174_0 wa_15_138) (Nat.le_trans (by decide) hF) (ml_le wm_138 (Nat.le_trans (by decide) hLo)) rfl (sp_138 hw (Nat.le_trans (by decide : 0 ≤ 1 - 1) (Nat.sub_le_sub_right hF 1)) (ml_sub wm_138 (Nat.le_trans (by decide : 0 ≤ 23 - 23) (Nat.sub_le_sub_right hLo 23))) (wp_bind h) (fun r17 h => rs_back0 ?_))
      obtain ⟨v19, e20, h⟩ := wp_lt h
      refine dl_inc wi_466_56 l3 rfl e20 (fun lv l3 t18 => ?_)
      have l0 := t18 _ _ (by decide) (Or.inl rfl) l0
      have l2 := t18 _ _ (by decide) (Or.inl rfl) l2
      refine rs_goto (tg := 39) wi_466_59 ⟨by decide, by decide⟩ ?_
      exact h _ l0 l2 l3
  ·
    intro x21 h lv
    exact rs_vret wi_466_62 wr_466 (hQ x21 h)
theorem t_258 : ta false 258 0 96 := ⟨rfl, by decide, by decide⟩
theorem t_259 : ta false 259 0 384 := ⟨rfl, by decide, by decide⟩
theorem tf_174_112 : fo false 174 15 112 (.int 0) := ⟨_, rfl, rfl, by decide, by decide⟩
theorem tf_174_119 : fo false 174 15 119 (.ref 258) := ⟨_, rfl, rfl, by decide, by decide⟩
theorem tf_174_120 : fo false 174 15 120 (.ref 259) := ⟨_, rfl, rfl, by decide, by decide⟩
theorem tf_174_121 : fo false 174 15 121 (.int 0) := ⟨_, rfl, rfl, by decide, by decide⟩
theorem tf_174_123 : fo false 174 15 123 (.int 0) := ⟨_, rfl, rfl, by decide, by decide⟩
theorem tf_174_124 : fo false 174 15 124 (.int 0) := ⟨_, rfl, rfl, by decide, by decide⟩
theorem tf_174_125 : fo false 174 15 125 (.int 0) := ⟨_, rfl, rfl, by decide, by decide⟩
theorem tf_174_126 : fo false 174 15 126 (.int 0) := ⟨_, rfl, rfl, by decide, by decide⟩
theorem tf_174_127 : fo false 174 15 127 (.int 0) := ⟨_, rfl, rfl, by decide, by decide⟩
theorem tf_174_128 : fo false 174 15 128 (.int 0) := ⟨_, rfl, rfl, by decide, by decide⟩
theorem tf_174_129 : fo false 174 15 129 (.int 0) := ⟨_, rfl, rfl, by decide, by decide⟩
theorem wa_15_466 : rz_cn 15 (rx_yn (rt_P sc fm) 466).cls = true := (by decide +kernel : rz_cn 15 (rt_yn 466).cls = true)
theorem wc_139_658 : rx_ct (rt_P sc fm) 139 658 = some (1, 421, 1) := (by decide +kernel : rt_ct 139 658 = some (1, 421, 1))
theorem wc_139_721 : rx_ct (rt_P sc fm) 139 721 = some (0, 111, 1) := (by decide +kernel : rt_ct 139 721 = some (0, 111, 1))
theorem wc_139_946 : rx_ct (rt_P sc fm) 139 946 = some (0, 466, 1) := (by decide +kernel : rt_ct 139 946 = some (0, 466, 1))
theorem wf_139_116 : rx_ft (rt_P sc fm) 139 116 = some (15, 23) := (by decide +kernel : rt_ft 139 116 = some (15, 23))
theorem wf_139_167 : rx_ft (rt_P sc fm) 139 167 = some (15, 43) := (by decide +kernel : rt_ft 139 167 = some (15, 43))
theorem wf_139_173 : rx_ft (rt_P sc fm) 139 173 = some (15, 45) := (by decide +kernel : rt_ft 139 173 = some (15, 45))
theorem wf_139_311 : rx_ft (rt_P sc fm) 139 311 = some (15, 108) := (by decide +kernel : rt_ft 139 311 = some (15, 108))
theorem wf_139_326 : rx_ft (rt_P sc fm) 139 326 = some (15, 117) := (by decide +kernel : rt_ft 139 326 = some (15, 117))
theorem wf_139_332 : rx_ft (rt_P sc fm) 139 332 = some (15, 119) := (by decide +kernel : rt_ft 139 332 = some (15, 119))
theorem wf_139_335 : rx_ft (rt_P sc fm) 139 335 = some (15, 120) := (by decide +kernel : rt_ft 139 335 = some (15, 120))
theorem wf_139_356 : rx_ft (rt_P sc fm) 139 356 = some (15, 0) := (by decide +kernel : rt_ft 139 356 = some (15, 0))
theorem wf_139_447 : rx_ft (rt_P sc fm) 139 447 = some (15, 15) := (by decide +kernel : rt_ft 139 447 = some (15, 15))
theorem wf_139_634 : rx_ft (rt_P sc fm) 139 634 = some (15, 14) := (by decide +kernel : rt_ft 139 634 = some (15, 14))
theorem wi_139_0 : ri (rt_P sc fm) 139 0 (.aload_n 0) (1) := ri_of (by decide +kernel) rfl
theorem wi_139_1 : ri (rt_P sc fm) 139 1 (.aload_n 0) (2) := ri_of (by decide +kernel) rfl
theorem wi_139_100 : ri (rt_P sc fm) 139 100 (.getfield 332) (103) := ri_of (by decide +kernel) rfl
theorem wi_139_103 : ri (rt_P sc fm) 139 103 (.iload_n 3) (104) := ri_of (by decide +kernel) rfl
theorem wi_139_104 : ri (rt_P sc fm) 139 104 (.aload_n 0) (105) := ri_of (by decide +kernel) rfl
theorem wi_139_105 : ri (rt_P sc fm) 139 105 (.getfield 167) (108) := ri_of (by decide +kernel) rfl
theorem wi_139_108 : ri (rt_P sc fm) 139 108 (.iload_n 3) (109) := ri_of (by decide +kernel) rfl
theorem wi_139_109 : ri (rt_P sc fm) 139 109 (.iaload) (110) := ri_of (by decide +kernel) rfl
theorem wi_139_110 : ri (rt_P sc fm) 139 110 (.iastore) (111) := ri_of (by decide +kernel) rfl
theorem wi_139_111 : ri (rt_P sc fm) 139 111 (.iconst 0) (112) := ri_of (by decide +kernel) rfl
theorem wi_139_112 : ri (rt_P sc fm) 139 112 (.istore 4) (114) := ri_of (by decide +kernel) rfl
theorem wi_139_114 : ri (rt_P sc fm) 139 114 (.iload 4) (116) := ri_of (by decide +kernel) rfl
theorem wi_139_116 : ri (rt_P sc fm) 139 116 (.aload_n 0) (117) := ri_of (by decide +kernel) rfl
theorem wi_139_117 : ri (rt_P sc fm) 139 117 (.getfield 447) (120) := ri_of (by decide +kernel) rfl
theorem wi_139_12 : ri (rt_P sc fm) 139 12 (.aload_n 0) (13) := ri_of (by decide +kernel) rfl
theorem wi_139_120 : ri (rt_P sc fm) 139 120 (.if_icmp .ge 27) (123) := ri_of (by decide +kernel) rfl
theorem wi_139_123 : ri (rt_P sc fm) 139 123 (.aload_n 0) (124) := ri_of (by decide +kernel) rfl
theorem wi_139_124 : ri (rt_P sc fm) 139 124 (.getfield 335) (127) := ri_of (by decide +kernel) rfl
theorem wi_139_127 : ri (rt_P sc fm) 139 127 (.iconst 4) (128) := ri_of (by decide +kernel) rfl
theorem wi_139_128 : ri (rt_P sc fm) 139 128 (.iload_n 3) (129) := ri_of (by decide +kernel) rfl
theorem wi_139_129 : ri (rt_P sc fm) 139 129 (.imul) (130) := ri_of (by decide +kernel) rfl
theorem wi_139_13 : ri (rt_P sc fm) 139 13 (.iload_n 1) (14) := ri_of (by decide +kernel) rfl
theorem wi_139_130 : ri (rt_P sc fm) 139 130 (.iload 4) (132) := ri_of (by decide +kernel) rfl
theorem wi_139_132 : ri (rt_P sc fm) 139 132 (.iadd) (133) := ri_of (by decide +kernel) rfl
theorem wi_139_133 : ri (rt_P sc fm) 139 133 (.aload_n 0) (134) := ri_of (by decide +kernel) rfl
theorem wi_139_134 : ri (rt_P sc fm) 139 134 (.getfield 116) (137) := ri_of (by decide +kernel) rfl
theorem wi_139_137 : ri (rt_P sc fm) 139 137 (.iload 4) (139) := ri_of (by decide +kernel) rfl
theorem wi_139_139 : ri (rt_P sc fm) 139 139 (.iaload) (140) := ri_of (by decide +kernel) rfl
theorem wi_139_14 : ri (rt_P sc fm) 139 14 (.invokevirtual 721) (17) := ri_of (by decide +kernel) rfl
theorem wi_139_140 : ri (rt_P sc fm) 139 140 (.iastore) (141) := ri_of (by decide +kernel) rfl
theorem wi_139_141 : ri (rt_P sc fm) 139 141 (.iinc 4 1) (144) := ri_of (by decide +kernel) rfl
theorem wi_139_144 : ri (rt_P sc fm) 139 144 (.goto (-30)) (147) := ri_of (by decide +kernel) rfl
theorem wi_139_147 : ri (rt_P sc fm) 139 147 (.iinc 3 1) (150) := ri_of (by decide +kernel) rfl
theorem wi_139_150 : ri (rt_P sc fm) 139 150 (.goto (-57)) (153) := ri_of (by decide +kernel) rfl
theorem wi_139_153 : ri (rt_P sc fm) 139 153 (.aload_n 0) (154) := ri_of (by decide +kernel) rfl
theorem wi_139_154 : ri (rt_P sc fm) 139 154 (.iload_n 1) (155) := ri_of (by decide +kernel) rfl
theorem wi_139_155 : ri (rt_P sc fm) 139 155 (.invokestatic 658) (158) := ri_of (by decide +kernel) rfl
theorem wi_139_158 : ri (rt_P sc fm) 139 158 (.invokevirtual 946) (161) := ri_of (by decide +kernel) rfl
theorem wi_139_161 : ri (rt_P sc fm) 139 161 (.iconst 0) (162) := ri_of (by decide +kernel) rfl
theorem wi_139_162 : ri (rt_P sc fm) 139 162 (.istore_n 3) (163) := ri_of (by decide +kernel) rfl
theorem wi_139_163 : ri (rt_P sc fm) 139 163 (.iload_n 3) (164) := ri_of (by decide +kernel) rfl
theorem wi_139_164 : ri (rt_P sc fm) 139 164 (.aload_n 0) (165) := ri_of (by decide +kernel) rfl
theorem wi_139_165 : ri (rt_P sc fm) 139 165 (.getfield 173) (168) := ri_of (by decide +kernel) rfl
theorem wi_139_168 : ri (rt_P sc fm) 139 168 (.iload_n 1) (169) := ri_of (by decide +kernel) rfl
theorem wi_139_169 : ri (rt_P sc fm) 139 169 (.invokestatic 658) (172) := ri_of (by decide +kernel) rfl
theorem wi_139_17 : ri (rt_P sc fm) 139 17 (.ifCond .ne 7) (20) := ri_of (by decide +kernel) rfl
theorem wi_139_172 : ri (rt_P sc fm) 139 172 (.iaload) (173) := ri_of (by decide +kernel) rfl
theorem wi_139_173 : ri (rt_P sc fm) 139 173 (.if_icmp .ge 21) (176) := ri_of (by decide +kernel) rfl
theorem wi_139_176 : ri (rt_P sc fm) 139 176 (.aload_n 0) (177) := ri_of (by decide +kernel) rfl
theorem wi_139_177 : ri (rt_P sc fm) 139 177 (.getfield 326) (180) := ri_of (by decide +kernel) rfl
theorem wi_139_180 : ri (rt_P sc fm) 139 180 (.iload_n 3) (181) := ri_of (by decide +kernel) rfl
theorem wi_139_181 : ri (rt_P sc fm) 139 181 (.aload_n 0) (182) := ri_of (by decide +kernel) rfl
theorem wi_139_182 : ri (rt_P sc fm) 139 182 (.getfield 311) (185) := ri_of (by decide +kernel) rfl
theorem wi_139_185 : ri (rt_P sc fm) 139 185 (.iload_n 3) (186) := ri_of (by decide +kernel) rfl
theorem wi_139_186 : ri (rt_P sc fm) 139 186 (.iaload) (187) := ri_of (by decide +kernel) rfl
theorem wi_139_187 : ri (rt_P sc fm) 139 187 (.iastore) (188) := ri_of (by decide +kernel) rfl
theorem wi_139_188 : ri (rt_P sc fm) 139 188 (.iinc 3 1) (191) := ri_of (by decide +kernel) rfl
theorem wi_139_191 : ri (rt_P sc fm) 139 191 (.goto (-28)) (194) := ri_of (by decide +kernel) rfl
theorem wi_139_194 : ri (rt_P sc fm) 139 194 (.return_) (195) := ri_of (by decide +kernel) rfl
theorem wi_139_2 : ri (rt_P sc fm) 139 2 (.getfield 634) (5) := ri_of (by decide +kernel) rfl
theorem wi_139_20 : ri (rt_P sc fm) 139 20 (.iconst 2) (21) := ri_of (by decide +kernel) rfl
theorem wi_139_21 : ri (rt_P sc fm) 139 21 (.goto 4) (24) := ri_of (by decide +kernel) rfl
theorem wi_139_24 : ri (rt_P sc fm) 139 24 (.iconst 0) (25) := ri_of (by decide +kernel) rfl
theorem wi_139_25 : ri (rt_P sc fm) 139 25 (.putfield 356) (28) := ri_of (by decide +kernel) rfl
theorem wi_139_28 : ri (rt_P sc fm) 139 28 (.aload_n 0) (29) := ri_of (by decide +kernel) rfl
theorem wi_139_29 : ri (rt_P sc fm) 139 29 (.getfield 356) (32) := ri_of (by decide +kernel) rfl
theorem wi_139_32 : ri (rt_P sc fm) 139 32 (.ifCond .le 4) (35) := ri_of (by decide +kernel) rfl
theorem wi_139_35 : ri (rt_P sc fm) 139 35 (.return_) (36) := ri_of (by decide +kernel) rfl
theorem wi_139_36 : ri (rt_P sc fm) 139 36 (.aload_n 0) (37) := ri_of (by decide +kernel) rfl
theorem wi_139_37 : ri (rt_P sc fm) 139 37 (.iconst 1) (38) := ri_of (by decide +kernel) rfl
theorem wi_139_38 : ri (rt_P sc fm) 139 38 (.putfield 897) (41) := ri_of (by decide +kernel) rfl
theorem wi_139_41 : ri (rt_P sc fm) 139 41 (.aload_n 0) (42) := ri_of (by decide +kernel) rfl
theorem wi_139_42 : ri (rt_P sc fm) 139 42 (.iload_n 2) (43) := ri_of (by decide +kernel) rfl
theorem wi_139_43 : ri (rt_P sc fm) 139 43 (.putfield 919) (46) := ri_of (by decide +kernel) rfl
theorem wi_139_46 : ri (rt_P sc fm) 139 46 (.aload_n 0) (47) := ri_of (by decide +kernel) rfl
theorem wi_139_47 : ri (rt_P sc fm) 139 47 (.iconst 0) (48) := ri_of (by decide +kernel) rfl
theorem wi_139_48 : ri (rt_P sc fm) 139 48 (.putfield 913) (51) := ri_of (by decide +kernel) rfl
theorem wi_139_5 : ri (rt_P sc fm) 139 5 (.ifCond .ne 7) (8) := ri_of (by decide +kernel) rfl
theorem wi_139_51 : ri (rt_P sc fm) 139 51 (.aload_n 0) (52) := ri_of (by decide +kernel) rfl
theorem wi_139_52 : ri (rt_P sc fm) 139 52 (.iconst 0) (53) := ri_of (by decide +kernel) rfl
theorem wi_139_53 : ri (rt_P sc fm) 139 53 (.putfield 922) (56) := ri_of (by decide +kernel) rfl
theorem wi_139_56 : ri (rt_P sc fm) 139 56 (.aload_n 0) (57) := ri_of (by decide +kernel) rfl
theorem wi_139_57 : ri (rt_P sc fm) 139 57 (.iconst 0) (58) := ri_of (by decide +kernel) rfl
theorem wi_139_58 : ri (rt_P sc fm) 139 58 (.putfield 925) (61) := ri_of (by decide +kernel) rfl
theorem wi_139_61 : ri (rt_P sc fm) 139 61 (.aload_n 0) (62) := ri_of (by decide +kernel) rfl
theorem wi_139_62 : ri (rt_P sc fm) 139 62 (.iconst 0) (63) := ri_of (by decide +kernel) rfl
theorem wi_139_63 : ri (rt_P sc fm) 139 63 (.putfield 928) (66) := ri_of (by decide +kernel) rfl
theorem wi_139_66 : ri (rt_P sc fm) 139 66 (.aload_n 0) (67) := ri_of (by decide +kernel) rfl
theorem wi_139_67 : ri (rt_P sc fm) 139 67 (.iconst (-1)) (68) := ri_of (by decide +kernel) rfl
theorem wi_139_68 : ri (rt_P sc fm) 139 68 (.putfield 931) (71) := ri_of (by decide +kernel) rfl
theorem wi_139_71 : ri (rt_P sc fm) 139 71 (.aload_n 0) (72) := ri_of (by decide +kernel) rfl
theorem wi_139_72 : ri (rt_P sc fm) 139 72 (.iconst (-1)) (73) := ri_of (by decide +kernel) rfl
theorem wi_139_73 : ri (rt_P sc fm) 139 73 (.putfield 934) (76) := ri_of (by decide +kernel) rfl
theorem wi_139_76 : ri (rt_P sc fm) 139 76 (.aload_n 0) (77) := ri_of (by decide +kernel) rfl
theorem wi_139_77 : ri (rt_P sc fm) 139 77 (.iconst (-1)) (78) := ri_of (by decide +kernel) rfl
theorem wi_139_78 : ri (rt_P sc fm) 139 78 (.putfield 937) (81) := ri_of (by decide +kernel) rfl
theorem wi_139_8 : ri (rt_P sc fm) 139 8 (.iconst 1) (9) := ri_of (by decide +kernel) rfl
theorem wi_139_81 : ri (rt_P sc fm) 139 81 (.aload_n 0) (82) := ri_of (by decide +kernel) rfl
theorem wi_139_82 : ri (rt_P sc fm) 139 82 (.iconst 0) (83) := ri_of (by decide +kernel) rfl
theorem wi_139_83 : ri (rt_P sc fm) 139 83 (.putfield 940) (86) := ri_of (by decide +kernel) rfl
theorem wi_139_86 : ri (rt_P sc fm) 139 86 (.aload_n 0) (87) := ri_of (by decide +kernel) rfl
theorem wi_139_87 : ri (rt_P sc fm) 139 87 (.iconst 0) (88) := ri_of (by decide +kernel) rfl
theorem wi_139_88 : ri (rt_P sc fm) 139 88 (.putfield 943) (91) := ri_of (by decide +kernel) rfl
theorem wi_139_9 : ri (rt_P sc fm) 139 9 (.goto 16) (12) := ri_of (by decide +kernel) rfl
theorem wi_139_91 : ri (rt_P sc fm) 139 91 (.iconst 0) (92) := ri_of (by decide +kernel) rfl
theorem wi_139_92 : ri (rt_P sc fm) 139 92 (.istore_n 3) (93) := ri_of (by decide +kernel) rfl
theorem wi_139_93 : ri (rt_P sc fm) 139 93 (.iload_n 3) (94) := ri_of (by decide +kernel) rfl
theorem wi_139_94 : ri (rt_P sc fm) 139 94 (.bipush 96) (96) := ri_of (by decide +kernel) rfl
theorem wi_139_96 : ri (rt_P sc fm) 139 96 (.if_icmp .ge 57) (99) := ri_of (by decide +kernel) rfl
theorem wi_139_99 : ri (rt_P sc fm) 139 99 (.aload_n 0) (100) := ri_of (by decide +kernel) rfl
theorem wm_466 : rx_ml (rt_P sc fm) 466 = 4 := (by decide +kernel : rt_ml 466 = 4)
theorem wp_139_356 : rx_pt (rt_P sc fm) 139 356 = some (15, 0, .int) := (by decide +kernel : rt_pt 139 356 = some (15, 0, .int))
theorem wp_139_897 : rx_pt (rt_P sc fm) 139 897 = some (15, 111, .int) := (by decide +kernel : rt_pt 139 897 = some (15, 111, .int))
theorem wp_139_913 : rx_pt (rt_P sc fm) 139 913 = some (15, 113, .int) := (by decide +kernel : rt_pt 139 913 = some (15, 113, .int))
theorem wp_139_919 : rx_pt (rt_P sc fm) 139 919 = some (15, 112, .boolean) := (by decide +kernel : rt_pt 139 919 = some (15, 112, .boolean))
theorem wp_139_922 : rx_pt (rt_P sc fm) 139 922 = some (15, 121, .int) := (by decide +kernel : rt_pt 139 922 = some (15, 121, .int))
theorem wp_139_925 : rx_pt (rt_P sc fm) 139 925 = some (15, 123, .int) := (by decide +kernel : rt_pt 139 925 = some (15, 123, .int))
theorem wp_139_928 : rx_pt (rt_P sc fm) 139 928 = some (15, 124, .int) := (by decide +kernel : rt_pt 139 928 = some (15, 124, .int))
theorem wp_139_931 : rx_pt (rt_P sc fm) 139 931 = some (15, 125, .int) := (by decide +kernel : rt_pt 139 931 = some (15, 125, .int))
theorem wp_139_934 : rx_pt (rt_P sc fm) 139 934 = some (15, 126, .int) := (by decide +kernel : rt_pt 139 934 = some (15, 126, .int))
theorem wp_139_937 : rx_pt (rt_P sc fm) 139 937 = some (15, 127, .int) := (by decide +kernel : rt_pt 139 937 = some (15, 127, .int))
theorem wp_139_940 : rx_pt (rt_P sc fm) 139 940 = some (15, 128, .int) := (by decide +kernel : rt_pt 139 940 = some (15, 128, .int))
theorem wp_139_943 : rx_pt (rt_P sc fm) 139 943 = some (15, 129, .int) := (by decide +kernel : rt_pt 139 943 = some (15, 129, .int))
theorem wr_139 : rx_rt (rt_P sc fm) 139 = none := (by decide +kernel : rt_rt 139 = none)
/-- MarkHouseModel.begin(IZ)V -/
def d_139 (n : Nat) (a1 : Int32) (a2 : Int32) (c : cS) : Option (cS) :=
  jn (fun p1 : Int32 =>
    lt (pI c 174 0 p1) (fun c2 =>
    if (c2.1 174 0) ≤ 0 then
      lt (pI c2 174 111 1) (fun c4 =>
      if nb a2 then
      lt (pI c4 174 112 a2) (fun c7 =>
      lt (pI c7 174 113 0) (fun c9 =>
      lt (pI c9 174 121 0) (fun c11 =>
      lt (pI c11 174 123 0) (fun c13 =>
      lt (pI c13 174 124 0) (fun c15 =>
      lt (pI c15 174 125 (-1)) (fun c17 =>
      lt (pI c17 174 126 (-1)) (fun c19 =>
      lt (pI c19 174 127 (-1)) (fun c21 =>
      lt (pI c21 174 128 0) (fun c23 =>
      lt (pI c23 174 129 0) (fun c25 =>
      Option.bind (whl (R := (cS)) (fun s28 : Int32 × cS =>
        if 96 ≤ s28.1 then
          some (.inr s28.2)
        else
          if ib s28.1 96 then
          if ib s28.1 96 then
          lt (pI s28.2 258 (ix s28.1) (s28.2.1 205 (ix s28.1))) (fun c31 =>
          Option.bind (whl (R := (cS)) (fun s34 : Int32 × cS =>
            if (s34.2.1 174 15) ≤ s34.1 then
              some (.inr s34.2)
            else
              if ib s34.1 4 then
              if ib ((4 * s28.1) + s34.1) 384 then
              lt (pI s34.2 259 (ix ((4 * s28.1) + s34.1)) (s34.2.1 188 (ix s34.1))) (fun c37 =>
              lt (s34.1 + 1 : Int32) (fun v40 =>
              some (.inl (v40, c37))))
              else none
              else none) n (0, c31))
          (fun x42 : cS =>
            lt (s28.1 + 1 : Int32) (fun v44 =>
            some (.inl (v44, x42)))))
          else none
          else none) n (0, c25))
      (fun x46 : cS =>
        Option.bind (d_421 n a1) (fun v47 =>
        Option.bind (d_466 n v47 x46) (fun r48 =>
        Option.bind (whl (R := (cS)) (fun s50 : Int32 × cS =>
          Option.bind (d_421 n a1) (fun v51 =>
          if ib v51 96 then
          if (s50.2.1 207 (ix v51)) ≤ s50.1 then
            some (.inr s50.2)
          else
            if ib s50.1 4 then
            if ib s50.1 192 then
            lt (pI s50.2 256 (ix s50.1) (s50.2.1 251 (ix s50.1))) (fun c55 =>
            lt (s50.1 + 1 : Int32) (fun v58 =>
            some (.inl (v58, c55))))
            else none
            else none
          else none)) n (0, r48))
        (fun x60 : cS =>
          some x60))))))))))))))
      else none)
    else
      some c2))
  (fun j25 =>
  if (c.1 174 14) = 0 then
    j25 1
  else
    Option.bind (d_111 n a1 c) (fun v61 =>
    if v61 = 0 then
      j25 2
    else
      j25 0))
theorem sp_139 {F Lo n : Nat} {a1 : Int32} {a2 : Int32} {c y : cS} {w : cW} {K : cS → Prop} {Q : ((Option Value) ⊕ String) → List va_E → Prop} (hw : rOK fm w) (hF : 2 ≤ F) (hLo : 46 ≤ Lo)  (h : wp (d_139 n a1 a2 c) K) (hQ : ∀ r, K r → Q (.inl none) (hq false r y w)) : rs (rt_P sc fm) 139 F Lo 0 [(0, .ref 174), (1, .int a1), (2, .int a2)] [] (hq false c y w) Q := by
  unfold d_139 at h
  obtain ⟨lv, elv⟩ : ∃ lv : rx_L, lv = [(0, .ref 174), (1, .int a1), (2, .int a2)] := ⟨_, rfl⟩
  rw [← elv]
  have l0 : rx_ld lv 0 = some (.ref 174) := by rw [elv]; rfl
  have l1 : rx_ld lv 1 = some (.int a1) := by rw [elv]; rfl
  have l2 : rx_ld lv 2 = some (.int a2) := by rw [elv]; rfl
  refine rs_aldn wi_139_0 l0 ?_
  refine rs_aldn wi_139_1 l0 ?_
  refine dq_gi wi_139_2 wf_139_634 tf_174_14 ?_
  refine wp_jn (B := fun p1 : Int32 => ∀ lv, rx_ld lv 0 = some (.ref 174) → rx_ld lv 1 = some (.int a1) → rx_ld lv 2 = some (.int a2) → rs (rt_P sc fm) 139 F Lo 25 lv [.int p1, .ref 174] (hq false c y w) Q) h (fun p1 h lv l0 l1 l2 => ?_) (fun j25 hj25 h => ?_)
  ·
    obtain ⟨c2, e3, h⟩ := wp_lt h
    refine dq_pi wi_139_25 wp_139_356 tf_174_0 rfl rfl e3 ?_
    refine rs_aldn wi_139_28 l0 ?_
    refine dq_gi wi_139_29 wf_139_356 tf_174_0 ?_
    refine rs_ifle (tg := 36) wi_139_32 ⟨by decide, by decide⟩ (fun q => ?_) (fun q => ?_)
    ·
      have h := wp_pos h q
      refine rs_aldn wi_139_36 l0 ?_
      refine rs_pure wi_139_37 rfl ?_
      refine rs_topi (v := 1) (by decide) ?_
      obtain ⟨c4, e5, h⟩ := wp_lt h
      refine dq_pi wi_139_38 wp_139_897 tf_174_111 rfl rfl e5 ?_
      refine rs_aldn wi_139_41 l0 ?_
      refine rs_ildn wi_139_42 l2 ?_
      obtain ⟨g6, h⟩ := wp_gd h
      obtain ⟨c7, e8, h⟩ := wp_lt h
      refine dq_pi wi_139_43 wp_139_919 tf_174_112 (nb_n g6) (nb_f g6) e8 ?_
      refine rs_aldn wi_139_46 l0 ?_
      refine rs_pure wi_139_47 rfl ?_
      refine rs_topi (v := 0) (by decide) ?_
      obtain ⟨c9, e10, h⟩ := wp_lt h
      refine dq_pi wi_139_48 wp_139_913 tf_174_113 rfl rfl e10 ?_
      refine rs_aldn wi_139_51 l0 ?_
      refine rs_pure wi_139_52 rfl ?_
      refine rs_topi (v := 0) (by decide) ?_
      obtain ⟨c11, e12, h⟩ := wp_lt h
      refine dq_pi wi_139_53 wp_139_922 tf_174_121 rfl rfl e12 ?_
      refine rs_aldn wi_139_56 l0 ?_
      refine rs_pure wi_139_57 rfl ?_
      refine rs_topi (v := 0) (by decide) ?_
      obtain ⟨c13, e14, h⟩ := wp_lt h
      refine dq_pi wi_139_58 wp_139_925 tf_174_123 rfl rfl e14 ?_
      refine rs_aldn wi_139_61 l0 ?_
      refine rs_pure wi_139_62 rfl ?_
      refine rs_topi (v := 0) (by decide) ?_
      obtain ⟨c15, e16, h⟩ := wp_lt h
      refine dq_pi wi_139_63 wp_139_928 tf_174_124 rfl rfl e16 ?_
      refine rs_aldn wi_139_66 l0 ?_
      refine rs_pure wi_139_67 rfl ?_
      refine rs_topi (v := (-1)) (by decide) ?_
      obtain ⟨c17, e18, h⟩ := wp_lt h
      refine dq_pi wi_139_68 wp_139_931 tf_174_125 rfl rfl e18 ?_
      refine rs_aldn wi_139_71 l0 ?_
      refine rs_pure wi_139_72 rfl ?_
      refine rs_topi (v := (-1)) (by decide) ?_
      obtain ⟨c19, e20, h⟩ := wp_lt h
      refine dq_pi wi_139_73 wp_139_934 tf_174_126 rfl rfl e20 ?_
      refine rs_aldn wi_139_76 l0 ?_
      refine rs_pure wi_139_77 rfl ?_
      refine rs_topi (v := (-1)) (by decide) ?_
      obtain ⟨c21, e22, h⟩ := wp_lt h
      refine dq_pi wi_139_78 wp_139_937 tf_174_127 rfl rfl e22 ?_
      refine rs_aldn wi_139_81 l0 ?_
      refine rs_pure wi_139_82 rfl ?_
      refine rs_topi (v := 0) (by decide) ?_
      obtain ⟨c23, e24, h⟩ := wp_lt h
      refine dq_pi wi_139_83 wp_139_940 tf_174_128 rfl rfl e24 ?_
      refine rs_aldn wi_139_86 l0 ?_
      refine rs_pure wi_139_87 rfl ?_
      refine rs_topi (v := 0) (by decide) ?_
      obtain ⟨c25, e26, h⟩ := wp_lt h
      refine dq_pi wi_139_88 wp_139_943 tf_174_129 rfl rfl e26 ?_
      refine rs_pure wi_139_91 rfl ?_
      refine rs_topi (v := 0) (by decide) ?_
      refine dl_istn wi_139_92 rfl (fun lv l3 t27 => ?_)
      have l0 := t27 _ _ (by decide) (Or.inl rfl) l0
      have l1 := t27 _ _ (by decide) (Or.inl rfl) l1
      refine whl_ex (A := fun s28 : Int32 × cS => ∀ lv, rx_ld lv 0 = some (.ref 174) → rx_ld lv 1 = some (.int a1) → rx_ld lv 3 = some (.int s28.1) → rs (rt_P sc fm) 139 F Lo 93 lv [] (hq false s28.2 y w) Q) (B := (fun x46 : cS => ∀ lv, rx_ld lv 0 = some (.ref 174) → rx_ld lv 1 = some (.int a1) → rs (rt_P sc fm) 139 F Lo 153 lv [] (hq false x46 y w) Q)) ?_ ?_ _ _ (wp_bind h) _ l0 l1 l3
      · intro s28 h lv l0 l1 l3
        refine rs_ildn wi_139_93 l3 ?_
        refine rs_pure wi_139_94 rfl ?_
        refine rs_topi (v := 96) (by decide) ?_
        refine rs_icge (tg := 153) wi_139_96 ⟨by decide, by decide⟩ (fun q => ?_) (fun q => ?_)
        ·
          have h := wp_pos h q
          exact h _ l0 l1
        ·
          have h := wp_neg h q
          refine rs_aldn wi_139_99 l0 ?_
          refine dq_gr wi_139_100 wf_139_332 tf_174_119 ?_
          refine rs_ildn wi_139_103 l3 ?_
          refine rs_aldn wi_139_104 l0 ?_
          refine dq_gr wi_139_105 wf_139_167 tf_174_43 ?_
          refine rs_ildn wi_139_108 l3 ?_
          obtain ⟨g29, h⟩ := wp_gd h
          refine dq_iald wi_139_109 t_205 g29 ?_
          obtain ⟨g30, h⟩ := wp_gd h
          obtain ⟨c31, e32, h⟩ := wp_lt h
          refine dq_iast wi_139_110 t_258 g30 e32 ?_
          refine rs_pure wi_139_111 rfl ?_
          refine rs_topi (v := 0) (by decide) ?_
          refine dl_ist wi_139_112 rfl (fun lv l4 t33 => ?_)
          have l0 := t33 _ _ (by decide) (Or.inl rfl) l0
          have l1 := t33 _ _ (by decide) (Or.inl rfl) l1
          have l3 := t33 _ _ (by decide) (Or.inl rfl) l3
          refine whl_ex (A := fun s34 : Int32 × cS => ∀ lv, rx_ld lv 0 = some (.ref 174) → rx_ld lv 1 = some (.int a1) → rx_ld lv 3 = some (.int s28.1) → rx_ld lv 4 = some (.int s34.1) → rs (rt_P sc fm) 139 F Lo 114 lv [] (hq false s34.2 y w) Q) (B := (fun x42 : cS => ∀ lv, rx_ld lv 0 = some (.ref 174) → rx_ld lv 1 = some (.int a1) → rx_ld lv 3 = some (.int s28.1) → rs (rt_P sc fm) 139 F Lo 147 lv [] (hq false x42 y w) Q)) ?_ ?_ _ _ (wp_bind h) _ l0 l1 l3 l4
          · intro s34 h lv l0 l1 l3 l4
            refine rs_ild wi_139_114 l4 ?_
            refine rs_aldn wi_139_116 l0 ?_
            refine dq_gi wi_139_117 wf_139_447 tf_174_15 ?_
            refine rs_icge (tg := 147) wi_139_120 ⟨by decide, by decide⟩ (fun q => ?_) (fun q => ?_)
            ·
              have h := wp_pos h q
              exact h _ l0 l1 l3
            ·
              have h := wp_neg h q
              refine rs_aldn wi_139_123 l0 ?_
              refine dq_gr wi_139_124 wf_139_335 tf_174_120 ?_
              refine rs_pure wi_139_127 rfl ?_
              refine rs_topi (v := 4) (by decide) ?_
              refine rs_ildn wi_139_128 l3 ?_
              refine rs_pure wi_139_129 rfl ?_
              refine rs_ild wi_139_130 l4 ?_
              refine rs_pure wi_139_132 rfl ?_
              refine rs_aldn wi_139_133 l0 ?_
              refine dq_gr wi_139_134 wf_139_116 tf_174_23 ?_
              refine rs_ild wi_139_137 l4 ?_
              obtain ⟨g35, h⟩ := wp_gd h
              refine dq_iald wi_139_139 t_188 g35 ?_
              obtain ⟨g36, h⟩ := wp_gd h
              obtain ⟨c37, e38, h⟩ := wp_lt h
              refine dq_iast wi_139_140 t_259 g36 e38 ?_
              obtain ⟨v40, e41, h⟩ := wp_lt h
              refine dl_inc wi_139_141 l4 rfl e41 (fun lv l4 t39 => ?_)
              have l0 := t39 _ _ (by decide) (Or.inl rfl) l0
              have l1 := t39 _ _ (by decide) (Or.inl rfl) l1
              have l3 := t39 _ _ (by decide) (Or.inl rfl) l3
              refine rs_goto (tg := 114) wi_139_144 ⟨by decide, by decide⟩ ?_
              exact h _ l0 l1 l3 l4
          ·
            intro x42 h lv l0 l1 l3
            obtain ⟨v44, e45, h⟩ := wp_lt h
            refine dl_inc wi_139_147 l3 rfl e45 (fun lv l3 t43 => ?_)
            have l0 := t43 _ _ (by decide) (Or.inl rfl) l0
            have l1 := t43 _ _ (by decide) (Or.inl rfl) l1
            refine rs_goto (tg := 93) wi_139_150 ⟨by decide, by decide⟩ ?_
            exact h _ l0 l1 l3
      ·
        intro x46 h lv l0 l1
        refine rs_aldn wi_139_153 l0 ?_
        refine rs_ildn wi_139_154 l1 ?_
        refine rs_S wi_139_155 wc_139_658 (Or.inl rfl) rfl (Nat.le_trans (by decide) hF) (ml_le wm_421 (Nat.le_trans (by decide) hLo)) rfl (sp_421 (Nat.le_trans (by decide : 0 ≤ 2 - 1) (Nat.sub_le_sub_right hF 1)) (ml_sub wm_421 (Nat.le_trans (by decide : 0 ≤ 46 - 20) (Nat.sub_le_sub_right hLo 20))) (wp_bind h) (fun v47 h => rs_back1 ?_))
        refine rs_V wi_139_158 wc_139_946 rfl (dq_isa tf_174_0 wa_15_466) (Nat.le_trans (by decide) hF) (ml_le wm_466 (Nat.le_trans (by decide) hLo)) rfl (sp_466 hw (Nat.le_trans (by decide : 1 ≤ 2 - 1) (Nat.sub_le_sub_right hF 1)) (ml_sub wm_466 (Nat.le_trans (by decide : 23 ≤ 46 - 23) (Nat.sub_le_sub_right hLo 23))) (wp_bind h) (fun r48 h => rs_back0 ?_))
        refine rs_pure wi_139_161 rfl ?_
        refine rs_topi (v := 0) (by decide) ?_
        refine dl_istn wi_139_162 rfl (fun lv l3 t49 => ?_)
        have l0 := t49 _ _ (by decide) (Or.inl rfl) l0
        have l1 := t49 _ _ (by decide) (Or.inl rfl) l1
        refine whl_ex (A := fun s50 : Int32 × cS => ∀ lv, rx_ld lv 0 = some (.ref 174) → rx_ld lv 1 = some (.int a1) → rx_ld lv 3 = some (.int s50.1) → rs (rt_P sc fm) 139 F Lo 163 lv [] (hq false s50.2 y w) Q) (B := (fun x60 : cS => ∀ lv, rs (rt_P sc fm) 139 F Lo 194 lv [] (hq false x60 y w) Q)) ?_ ?_ _ _ (wp_bind h) _ l0 l1 l3
        · intro s50 h lv l0 l1 l3
          refine rs_ildn wi_139_163 l3 ?_
          refine rs_aldn wi_139_164 l0 ?_
          refine dq_gr wi_139_165 wf_139_173 tf_174_45 ?_
          refine rs_ildn wi_139_168 l1 ?_
          refine rs_S wi_139_169 wc_139_658 (Or.inl rfl) rfl (Nat.le_trans (by decide) hF) (ml_le wm_421 (Nat.le_trans (by decide) hLo)) rfl (sp_421 (Nat.le_trans (by decide : 0 ≤ 2 - 1) (Nat.sub_le_sub_right hF 1)) (ml_sub wm_421 (Nat.le_trans (by decide : 0 ≤ 46 - 20) (Nat.sub_le_sub_right hLo 20))) (wp_bind h) (fun v51 h => rs_back1 ?_))
          obtain ⟨g52, h⟩ := wp_gd h
          refine dq_iald wi_139_172 t_207 g52 ?_
          refine rs_icge (tg := 194) wi_139_173 ⟨by decide, by decide⟩ (fun q => ?_) (fun q => ?_)
          ·
            have h := wp_pos h q
            exact h _
          ·
            have h := wp_neg h q
            refine rs_aldn wi_139_176 l0 ?_
            refine dq_gr wi_139_177 wf_139_326 tf_174_117 ?_
            refine rs_ildn wi_139_180 l3 ?_
            refine rs_aldn wi_139_181 l0 ?_
            refine dq_gr wi_139_182 wf_139_311 tf_174_108 ?_
            refine rs_ildn wi_139_185 l3 ?_
            obtain ⟨g53, h⟩ := wp_gd h
            refine dq_iald wi_139_186 t_251 g53 ?_
            obtain ⟨g54, h⟩ := wp_gd h
            obtain ⟨c55, e56, h⟩ := wp_lt h
            refine dq_iast wi_139_187 t_256 g54 e56 ?_
            obtain ⟨v58, e59, h⟩ := wp_lt h
            refine dl_inc wi_139_188 l3 rfl e59 (fun lv l3 t57 => ?_)
            have l0 := t57 _ _ (by decide) (Or.inl rfl) l0
            have l1 := t57 _ _ (by decide) (Or.inl rfl) l1
            refine rs_goto (tg := 163) wi_139_191 ⟨by decide, by decide⟩ ?_
            exact h _ l0 l1 l3
        ·
          intro x60 h lv
          exact rs_vret wi_139_194 wr_139 (hQ x60 h)
    ·
      have h := wp_neg h q
      exact rs_vret wi_139_35 wr_139 (hQ c2 h)
  refine rs_ifne (tg := 12) wi_139_5 ⟨by decide, by decide⟩ (fun q => ?_) (fun q => ?_)
  ·
    have h := wp_neg h q
    refine rs_aldn wi_139_12 l0 ?_
    refine rs_ildn wi_139_13 l1 ?_
    refine rs_V wi_139_14 wc_139_721 rfl (dq_isa tf_174_0 wa_15_111) (Nat.le_trans (by decide) hF) (ml_le wm_111 (Nat.le_trans (by decide) hLo)) rfl (sp_111 hw (Nat.le_trans (by decide : 1 ≤ 2 - 1) (Nat.sub_le_sub_right hF 1)) (ml_sub wm_111 (Nat.le_trans (by decide : 24 ≤ 46 - 21) (Nat.sub_le_sub_right hLo 21))) (wp_bind h) (fun v61 h => rs_back1 ?_))
    refine rs_ifne (tg := 24) wi_139_17 ⟨by decide, by decide⟩ (fun q => ?_) (fun q => ?_)
    ·
      have h := wp_neg h q
      refine rs_pure wi_139_24 rfl ?_
      refine rs_topi (v := 0) (by decide) ?_
      exact hj25 _ h _ l0 l1 l2
    ·
      have h := wp_pos h q
      refine rs_pure wi_139_20 rfl ?_
      refine rs_topi (v := 2) (by decide) ?_
      refine rs_goto (tg := 25) wi_139_21 ⟨by decide, by decide⟩ ?_
      exact hj25 _ h _ l0 l1 l2
  ·
    have h := wp_pos h q
    refine rs_pure wi_139_8 rfl ?_
    refine rs_topi (v := 1) (by decide) ?_
    refine rs_goto (tg := 25) wi_139_9 ⟨by decide, by decide⟩ ?_
    exact hj25 _ h _ l0 l1 l2
theorem wc_468_535 : rx_ct (rt_P sc fm) 468 535 = some (0, 387, 3) := (by decide +kernel : rt_ct 468 535 = some (0, 387, 3))
theorem wc_468_865 : rx_ct (rt_P sc fm) 468 865 = some (0, 459, 2) := (by decide +kernel : rt_ct 468 865 = some (0, 459, 2))
theorem wc_468_903 : rx_ct (rt_P sc fm) 468 903 = some (1, 463, 3) := (by decide +kernel : rt_ct 468 903 = some (1, 463, 3))
theorem wf_468_308 : rx_ft (rt_P sc fm) 468 308 = some (15, 107) := (by decide +kernel : rt_ft 468 308 = some (15, 107))
theorem wf_468_323 : rx_ft (rt_P sc fm) 468 323 = some (15, 116) := (by decide +kernel : rt_ft 468 323 = some (15, 116))
theorem wf_468_329 : rx_ft (rt_P sc fm) 468 329 = some (15, 118) := (by decide +kernel : rt_ft 468 329 = some (15, 118))
theorem wf_468_447 : rx_ft (rt_P sc fm) 468 447 = some (15, 15) := (by decide +kernel : rt_ft 468 447 = some (15, 15))
theorem wf_468_943 : rx_ft (rt_P sc fm) 468 943 = some (15, 129) := (by decide +kernel : rt_ft 468 943 = some (15, 129))
theorem wi_468_0 : ri (rt_P sc fm) 468 0 (.iconst 0) (1) := ri_of (by decide +kernel) rfl
theorem wi_468_1 : ri (rt_P sc fm) 468 1 (.istore_n 3) (2) := ri_of (by decide +kernel) rfl
theorem wi_468_10 : ri (rt_P sc fm) 468 10 (.iconst 0) (11) := ri_of (by decide +kernel) rfl
theorem wi_468_102 : ri (rt_P sc fm) 468 102 (.goto (-100)) (105) := ri_of (by decide +kernel) rfl
theorem wi_468_105 : ri (rt_P sc fm) 468 105 (.iconst 1) (106) := ri_of (by decide +kernel) rfl
theorem wi_468_106 : ri (rt_P sc fm) 468 106 (.ireturn) (107) := ri_of (by decide +kernel) rfl
theorem wi_468_11 : ri (rt_P sc fm) 468 11 (.istore 4) (13) := ri_of (by decide +kernel) rfl
theorem wi_468_13 : ri (rt_P sc fm) 468 13 (.iload 4) (15) := ri_of (by decide +kernel) rfl
theorem wi_468_15 : ri (rt_P sc fm) 468 15 (.iconst 4) (16) := ri_of (by decide +kernel) rfl
theorem wi_468_16 : ri (rt_P sc fm) 468 16 (.if_icmp .ge 83) (19) := ri_of (by decide +kernel) rfl
theorem wi_468_19 : ri (rt_P sc fm) 468 19 (.aload_n 0) (20) := ri_of (by decide +kernel) rfl
theorem wi_468_2 : ri (rt_P sc fm) 468 2 (.iload_n 3) (3) := ri_of (by decide +kernel) rfl
theorem wi_468_20 : ri (rt_P sc fm) 468 20 (.getfield 308) (23) := ri_of (by decide +kernel) rfl
theorem wi_468_23 : ri (rt_P sc fm) 468 23 (.iload_n 2) (24) := ri_of (by decide +kernel) rfl
theorem wi_468_24 : ri (rt_P sc fm) 468 24 (.iload_n 3) (25) := ri_of (by decide +kernel) rfl
theorem wi_468_25 : ri (rt_P sc fm) 468 25 (.iload 4) (27) := ri_of (by decide +kernel) rfl
theorem wi_468_27 : ri (rt_P sc fm) 468 27 (.invokestatic 903) (30) := ri_of (by decide +kernel) rfl
theorem wi_468_3 : ri (rt_P sc fm) 468 3 (.aload_n 0) (4) := ri_of (by decide +kernel) rfl
theorem wi_468_30 : ri (rt_P sc fm) 468 30 (.iaload) (31) := ri_of (by decide +kernel) rfl
theorem wi_468_31 : ri (rt_P sc fm) 468 31 (.istore 5) (33) := ri_of (by decide +kernel) rfl
theorem wi_468_33 : ri (rt_P sc fm) 468 33 (.iload 5) (35) := ri_of (by decide +kernel) rfl
theorem wi_468_35 : ri (rt_P sc fm) 468 35 (.ifCond .ge 6) (38) := ri_of (by decide +kernel) rfl
theorem wi_468_38 : ri (rt_P sc fm) 468 38 (.goto 55) (41) := ri_of (by decide +kernel) rfl
theorem wi_468_4 : ri (rt_P sc fm) 468 4 (.getfield 447) (7) := ri_of (by decide +kernel) rfl
theorem wi_468_41 : ri (rt_P sc fm) 468 41 (.aload_n 0) (42) := ri_of (by decide +kernel) rfl
theorem wi_468_42 : ri (rt_P sc fm) 468 42 (.dup) (43) := ri_of (by decide +kernel) rfl
theorem wi_468_43 : ri (rt_P sc fm) 468 43 (.getfield 943) (46) := ri_of (by decide +kernel) rfl
theorem wi_468_46 : ri (rt_P sc fm) 468 46 (.iconst 1) (47) := ri_of (by decide +kernel) rfl
theorem wi_468_47 : ri (rt_P sc fm) 468 47 (.iadd) (48) := ri_of (by decide +kernel) rfl
theorem wi_468_48 : ri (rt_P sc fm) 468 48 (.putfield 943) (51) := ri_of (by decide +kernel) rfl
theorem wi_468_51 : ri (rt_P sc fm) 468 51 (.aload_n 0) (52) := ri_of (by decide +kernel) rfl
theorem wi_468_52 : ri (rt_P sc fm) 468 52 (.iload_n 3) (53) := ri_of (by decide +kernel) rfl
theorem wi_468_53 : ri (rt_P sc fm) 468 53 (.aload_n 0) (54) := ri_of (by decide +kernel) rfl
theorem wi_468_54 : ri (rt_P sc fm) 468 54 (.getfield 329) (57) := ri_of (by decide +kernel) rfl
theorem wi_468_57 : ri (rt_P sc fm) 468 57 (.iconst 4) (58) := ri_of (by decide +kernel) rfl
theorem wi_468_58 : ri (rt_P sc fm) 468 58 (.bipush 16) (60) := ri_of (by decide +kernel) rfl
theorem wi_468_60 : ri (rt_P sc fm) 468 60 (.iload_n 1) (61) := ri_of (by decide +kernel) rfl
theorem wi_468_61 : ri (rt_P sc fm) 468 61 (.imul) (62) := ri_of (by decide +kernel) rfl
theorem wi_468_62 : ri (rt_P sc fm) 468 62 (.aload_n 0) (63) := ri_of (by decide +kernel) rfl
theorem wi_468_63 : ri (rt_P sc fm) 468 63 (.getfield 323) (66) := ri_of (by decide +kernel) rfl
theorem wi_468_66 : ri (rt_P sc fm) 468 66 (.iload_n 1) (67) := ri_of (by decide +kernel) rfl
theorem wi_468_67 : ri (rt_P sc fm) 468 67 (.iaload) (68) := ri_of (by decide +kernel) rfl
theorem wi_468_68 : ri (rt_P sc fm) 468 68 (.iadd) (69) := ri_of (by decide +kernel) rfl
theorem wi_468_69 : ri (rt_P sc fm) 468 69 (.iconst 1) (70) := ri_of (by decide +kernel) rfl
theorem wi_468_7 : ri (rt_P sc fm) 468 7 (.if_icmp .ge 98) (10) := ri_of (by decide +kernel) rfl
theorem wi_468_70 : ri (rt_P sc fm) 468 70 (.isub) (71) := ri_of (by decide +kernel) rfl
theorem wi_468_71 : ri (rt_P sc fm) 468 71 (.aload_n 0) (72) := ri_of (by decide +kernel) rfl
theorem wi_468_72 : ri (rt_P sc fm) 468 72 (.iload_n 2) (73) := ri_of (by decide +kernel) rfl
theorem wi_468_73 : ri (rt_P sc fm) 468 73 (.iload 4) (75) := ri_of (by decide +kernel) rfl
theorem wi_468_75 : ri (rt_P sc fm) 468 75 (.invokevirtual 865) (78) := ri_of (by decide +kernel) rfl
theorem wi_468_78 : ri (rt_P sc fm) 468 78 (.isub) (79) := ri_of (by decide +kernel) rfl
theorem wi_468_79 : ri (rt_P sc fm) 468 79 (.imul) (80) := ri_of (by decide +kernel) rfl
theorem wi_468_80 : ri (rt_P sc fm) 468 80 (.iload_n 3) (81) := ri_of (by decide +kernel) rfl
theorem wi_468_81 : ri (rt_P sc fm) 468 81 (.iadd) (82) := ri_of (by decide +kernel) rfl
theorem wi_468_82 : ri (rt_P sc fm) 468 82 (.iaload) (83) := ri_of (by decide +kernel) rfl
theorem wi_468_83 : ri (rt_P sc fm) 468 83 (.iload 5) (85) := ri_of (by decide +kernel) rfl
theorem wi_468_85 : ri (rt_P sc fm) 468 85 (.invokevirtual 535) (88) := ri_of (by decide +kernel) rfl
theorem wi_468_88 : ri (rt_P sc fm) 468 88 (.ifCond .ne 5) (91) := ri_of (by decide +kernel) rfl
theorem wi_468_91 : ri (rt_P sc fm) 468 91 (.iconst 0) (92) := ri_of (by decide +kernel) rfl
theorem wi_468_92 : ri (rt_P sc fm) 468 92 (.ireturn) (93) := ri_of (by decide +kernel) rfl
theorem wi_468_93 : ri (rt_P sc fm) 468 93 (.iinc 4 1) (96) := ri_of (by decide +kernel) rfl
theorem wi_468_96 : ri (rt_P sc fm) 468 96 (.goto (-83)) (99) := ri_of (by decide +kernel) rfl
theorem wi_468_99 : ri (rt_P sc fm) 468 99 (.iinc 3 1) (102) := ri_of (by decide +kernel) rfl
theorem wp_468_943 : rx_pt (rt_P sc fm) 468 943 = some (15, 129, .int) := (by decide +kernel : rt_pt 468 943 = some (15, 129, .int))
theorem wr_468 : rx_rt (rt_P sc fm) 468 = (some FieldType.boolean) := (by decide +kernel : rt_rt 468 = (some FieldType.boolean))
/-- MarkHouseModel.passes(II)Z -/
def d_468 (n : Nat) (a1 : Int32) (a2 : Int32) (c : cS) : Option (Int32 × cS) :=
  Option.bind (whl (R := (cS) ⊕ (cS)) (fun s2 : Int32 × cS =>
    if (s2.2.1 174 15) ≤ s2.1 then
      some (.inr (.inl s2.2))
    else
      Option.bind (whl (R := (cS) ⊕ (cS)) (fun s4 : Int32 × cS =>
        if 4 ≤ s4.1 then
          some (.inr (.inl s4.2))
        else
          Option.bind (d_463 n a2 s2.1 s4.1) (fun v5 =>
          if ib v5 61440 then
          lt ((s4.2.1 250 (ix v5)) : Int32) (fun v8 =>
          jn (fun p10 : cS =>
            lt (s4.1 + 1 : Int32) (fun v12 =>
            some (.inl (v12, p10))))
          (fun j93 =>
          if 0 ≤ v8 then
            lt (pI s4.2 174 129 ((s4.2.1 174 129) + 1)) (fun c14 =>
            if ib a1 12 then
            Option.bind (d_459 n a2 s4.1 c14) (fun v17 =>
            if ib ((4 * ((((16 * a1) + (c14.1 255 (ix a1))) - 1) - v17)) + s2.1) 768 then
            Option.bind (d_387 n s2.1 (c14.1 257 (ix ((4 * ((((16 * a1) + (c14.1 255 (ix a1))) - 1) - v17)) + s2.1))) v8 c14) (fun v19 =>
            if v19 = 0 then
              some (.inr (.inr c14))
            else
              j93 c14)
            else none)
            else none)
          else
            j93 s4.2))
          else none)) n (0, s2.2))
      (Sum.elim (fun x20 : cS =>
        lt (s2.1 + 1 : Int32) (fun v22 =>
        some (.inl (v22, x20))))
      (fun x24 : cS =>
        some (.inr (.inr x24))))) n (0, c))
  (Sum.elim (fun x25 : cS =>
    some (1, x25))
  (fun x26 : cS =>
    some (0, x26)))
theorem sp_468 {F Lo n : Nat} {a1 : Int32} {a2 : Int32} {c y : cS} {w : cW} {K : Int32 × cS → Prop} {Q : ((Option Value) ⊕ String) → List va_E → Prop} (hw : rOK fm w) (hF : 2 ≤ F) (hLo : 46 ≤ Lo)  (h : wp (d_468 n a1 a2 c) K) (hQ : ∀ r, K r → Q (.inl (some (.int r.1))) (hq false r.2 y w)) : rs (rt_P sc fm) 468 F Lo 0 [(0, .ref 174), (1, .int a1), (2, .int a2)] [] (hq false c y w) Q := by
  unfold d_468 at h
  obtain ⟨lv, elv⟩ : ∃ lv : rx_L, lv = [(0, .ref 174), (1, .int a1), (2, .int a2)] := ⟨_, rfl⟩
  rw [← elv]
  have l0 : rx_ld lv 0 = some (.ref 174) := by rw [elv]; rfl
  have l1 : rx_ld lv 1 = some (.int a1) := by rw [elv]; rfl
  have l2 : rx_ld lv 2 = some (.int a2) := by rw [elv]; rfl
  refine rs_pure wi_468_0 rfl ?_
  refine rs_topi (v := 0) (by decide) ?_
  refine dl_istn wi_468_1 rfl (fun lv l3 t1 => ?_)
  have l0 := t1 _ _ (by decide) (Or.inl rfl) l0
  have l1 := t1 _ _ (by decide) (Or.inl rfl) l1
  have l2 := t1 _ _ (by decide) (Or.inl rfl) l2
  refine whl_ex (A := fun s2 : Int32 × cS => ∀ lv, rx_ld lv 0 = some (.ref 174) → rx_ld lv 1 = some (.int a1) → rx_ld lv 2 = some (.int a2) → rx_ld lv 3 = some (.int s2.1) → rs (rt_P sc fm) 468 F Lo 2 lv [] (hq false s2.2 y w) Q) (B := (Sum.elim (fun x25 : cS => ∀ lv, rs (rt_P sc fm) 468 F Lo 105 lv [] (hq false x25 y w) Q) (fun x26 : cS => ∀ lv, rs (rt_P sc fm) 468 F Lo 91 lv [] (hq false x26 y w) Q))) ?_ ?_ _ _ (wp_bind h) _ l0 l1 l2 l3
  · intro s2 h lv l0 l1 l2 l3
    refine rs_ildn wi_468_2 l3 ?_
    refine rs_aldn wi_468_3 l0 ?_
    refine dq_gi wi_468_4 wf_468_447 tf_174_15 ?_
    refine rs_icge (tg := 105) wi_468_7 ⟨by decide, by decide⟩ (fun q => ?_) (fun q => ?_)
    ·
      have h := wp_pos h q
      exact h _
    ·
      have h := wp_neg h q
      refine rs_pure wi_468_10 rfl ?_
      refine rs_topi (v := 0) (by decide) ?_
      refine dl_ist wi_468_11 rfl (fun lv l4 t3 => ?_)
      have l0 := t3 _ _ (by decide) (Or.inl rfl) l0
      have l1 := t3 _ _ (by decide) (Or.inl rfl) l1
      have l2 := t3 _ _ (by decide) (Or.inl rfl) l2
      have l3 := t3 _ _ (by decide) (Or.inl rfl) l3
      refine whl_ex (A := fun s4 : Int32 × cS => ∀ lv, rx_ld lv 0 = some (.ref 174) → rx_ld lv 1 = some (.int a1) → rx_ld lv 2 = some (.int a2) → rx_ld lv 3 = some (.int s2.1) → rx_ld lv 4 = some (.int s4.1) → rs (rt_P sc fm) 468 F Lo 13 lv [] (hq false s4.2 y w) Q) (B := (Sum.elim (fun x20 : cS => ∀ lv, rx_ld lv 0 = some (.ref 174) → rx_ld lv 1 = some (.int a1) → rx_ld lv 2 = some (.int a2) → rx_ld lv 3 = some (.int s2.1) → rs (rt_P sc fm) 468 F Lo 99 lv [] (hq false x20 y w) Q) (fun x24 : cS => ∀ lv, rs (rt_P sc fm) 468 F Lo 91 lv [] (hq false x24 y w) Q))) ?_ ?_ _ _ (wp_bind h) _ l0 l1 l2 l3 l4
      · intro s4 h lv l0 l1 l2 l3 l4
        refine rs_ild wi_468_13 l4 ?_
        refine rs_pure wi_468_15 rfl ?_
        refine rs_topi (v := 4) (by decide) ?_
        refine rs_icge (tg := 99) wi_468_16 ⟨by decide, by decide⟩ (fun q => ?_) (fun q => ?_)
        ·
          have h := wp_pos h q
          exact h _ l0 l1 l2 l3
        ·
          have h := wp_neg h q
          refine rs_aldn wi_468_19 l0 ?_
          refine dq_gr wi_468_20 wf_468_308 tf_174_107 ?_
          refine rs_ildn wi_468_23 l2 ?_
          refine rs_ildn wi_468_24 l3 ?_
          refine rs_ild wi_468_25 l4 ?_
          refine rs_S wi_468_27 wc_468_903 (Or.inl rfl) rfl (Nat.le_trans (by decide) hF) (ml_le wm_463 (Nat.le_trans (by decide) hLo)) rfl (sp_463 (Nat.le_trans (by decide : 0 ≤ 2 - 1) (Nat.sub_le_sub_right hF 1)) (ml_sub wm_463 (Nat.le_trans (by decide : 0 ≤ 46 - 22) (Nat.sub_le_sub_right hLo 22))) (wp_bind h) (fun v5 h => rs_back1 ?_))
          obtain ⟨g6, h⟩ := wp_gd h
          refine dq_iald wi_468_30 t_250 g6 ?_
          obtain ⟨v8, e9, h⟩ := wp_lt h
          refine rs_topi e9 ?_
          refine dl_ist wi_468_31 rfl (fun lv l5 t7 => ?_)
          have l0 := t7 _ _ (by decide) (Or.inl rfl) l0
          have l1 := t7 _ _ (by decide) (Or.inl rfl) l1
          have l2 := t7 _ _ (by decide) (Or.inl rfl) l2
          have l3 := t7 _ _ (by decide) (Or.inl rfl) l3
          have l4 := t7 _ _ (by decide) (Or.inl rfl) l4
          refine rs_ild wi_468_33 l5 ?_
          refine wp_jn (B := fun p10 : cS => ∀ lv, rx_ld lv 0 = some (.ref 174) → rx_ld lv 1 = some (.int a1) → rx_ld lv 2 = some (.int a2) → rx_ld lv 3 = some (.int s2.1) → rx_ld lv 4 = some (.int s4.1) → rs (rt_P sc fm) 468 F Lo 93 lv [] (hq false p10 y w) Q) h (fun p10 h lv l0 l1 l2 l3 l4 => ?_) (fun j93 hj93 h => ?_)
          ·
            obtain ⟨v12, e13, h⟩ := wp_lt h
            refine dl_inc wi_468_93 l4 rfl e13 (fun lv l4 t11 => ?_)
            have l0 := t11 _ _ (by decide) (Or.inl rfl) l0
            have l1 := t11 _ _ (by decide) (Or.inl rfl) l1
            have l2 := t11 _ _ (by decide) (Or.inl rfl) l2
            have l3 := t11 _ _ (by decide) (Or.inl rfl) l3
            refine rs_goto (tg := 13) wi_468_96 ⟨by decide, by decide⟩ ?_
            exact h _ l0 l1 l2 l3 l4
          refine rs_ifge (tg := 41) wi_468_35 ⟨by decide, by decide⟩ (fun q => ?_) (fun q => ?_)
          ·
            have h := wp_pos h q
            refine rs_aldn wi_468_41 l0 ?_
            refine rs_pure wi_468_42 rfl ?_
            refine dq_gi wi_468_43 wf_468_943 tf_174_129 ?_
            refine rs_pure wi_468_46 rfl ?_
            refine rs_topi (v := 1) (by decide) ?_
            refine rs_pure wi_468_47 rfl ?_
            obtain ⟨c14, e15, h⟩ := wp_lt h
            refine dq_pi wi_468_48 wp_468_943 tf_174_129 rfl rfl e15 ?_
            refine rs_aldn wi_468_51 l0 ?_
            refine rs_ildn wi_468_52 l3 ?_
            refine rs_aldn wi_468_53 l0 ?_
            refine dq_gr wi_468_54 wf_468_329 tf_174_118 ?_
            refine rs_pure wi_468_57 rfl ?_
            refine rs_topi (v := 4) (by decide) ?_
            refine rs_pure wi_468_58 rfl ?_
            refine rs_topi (v := 16) (by decide) ?_
            refine rs_ildn wi_468_60 l1 ?_
            refine rs_pure wi_468_61 rfl ?_
            refine rs_aldn wi_468_62 l0 ?_
            refine dq_gr wi_468_63 wf_468_323 tf_174_116 ?_
            refine rs_ildn wi_468_66 l1 ?_
            obtain ⟨g16, h⟩ := wp_gd h
            refine dq_iald wi_468_67 t_255 g16 ?_
            refine rs_pure wi_468_68 rfl ?_
            refine rs_pure wi_468_69 rfl ?_
            refine rs_topi (v := 1) (by decide) ?_
            refine rs_pure wi_468_70 rfl ?_
            refine rs_aldn wi_468_71 l0 ?_
            refine rs_ildn wi_468_72 l2 ?_
            refine rs_ild wi_468_73 l4 ?_
            refine rs_V wi_468_75 wc_468_865 rfl (dq_isa tf_174_0 wa_15_459) (Nat.le_trans (by decide) hF) (ml_le wm_459 (Nat.le_trans (by decide) hLo)) rfl (sp_459 hw (Nat.le_trans (by decide : 1 ≤ 2 - 1) (Nat.sub_le_sub_right hF 1)) (ml_sub wm_459 (Nat.le_trans (by decide : 21 ≤ 46 - 22) (Nat.sub_le_sub_right hLo 22))) (wp_bind h) (fun v17 h => rs_back1 ?_))
            refine rs_pure wi_468_78 rfl ?_
            refine rs_pure wi_468_79 rfl ?_
            refine rs_ildn wi_468_80 l3 ?_
            refine rs_pure wi_468_81 rfl ?_
            obtain ⟨g18, h⟩ := wp_gd h
            refine dq_iald wi_468_82 t_257 g18 ?_
            refine rs_ild wi_468_83 l5 ?_
            refine rs_V wi_468_85 wc_468_535 rfl (dq_isa tf_174_0 wa_15_387) (Nat.le_trans (by decide) hF) (ml_le wm_387 (Nat.le_trans (by decide) hLo)) rfl (sp_387 hw (Nat.le_trans (by decide : 1 ≤ 2 - 1) (Nat.sub_le_sub_right hF 1)) (ml_sub wm_387 (Nat.le_trans (by decide : 23 ≤ 46 - 23) (Nat.sub_le_sub_right hLo 23))) (wp_bind h) (fun v19 h => rs_back1 ?_))
            refine rs_ifne (tg := 93) wi_468_88 ⟨by decide, by decide⟩ (fun q => ?_) (fun q => ?_)
            ·
              have h := wp_neg h q
              exact hj93 _ h _ l0 l1 l2 l3 l4
            ·
              have h := wp_pos h q
              exact h _
          ·
            have h := wp_neg h q
            refine rs_goto (tg := 93) wi_468_38 ⟨by decide, by decide⟩ ?_
            exact hj93 _ h _ l0 l1 l2 l3 l4
      ·
        refine sum_all ?_ ?_
        ·
          intro x20 h lv l0 l1 l2 l3
          obtain ⟨v22, e23, h⟩ := wp_lt h
          refine dl_inc wi_468_99 l3 rfl e23 (fun lv l3 t21 => ?_)
          have l0 := t21 _ _ (by decide) (Or.inl rfl) l0
          have l1 := t21 _ _ (by decide) (Or.inl rfl) l1
          have l2 := t21 _ _ (by decide) (Or.inl rfl) l2
          refine rs_goto (tg := 2) wi_468_102 ⟨by decide, by decide⟩ ?_
          exact h _ l0 l1 l2 l3
        ·
          intro x24 h lv
          exact h _
  ·
    refine sum_all ?_ ?_
    ·
      intro x25 h lv
      refine rs_pure wi_468_105 rfl ?_
      refine rs_topi (v := 1) (by decide) ?_
      exact rs_iret wi_468_106 wr_468 (nb_n (by decide)) (hQ (1, x25) h)
    ·
      intro x26 h lv
      refine rs_pure wi_468_91 rfl ?_
      refine rs_topi (v := 0) (by decide) ?_
      exact rs_iret wi_468_92 wr_468 (nb_n (by decide)) (hQ (0, x26) h)
theorem wc_469_535 : rx_ct (rt_P sc fm) 469 535 = some (0, 387, 3) := (by decide +kernel : rt_ct 469 535 = some (0, 387, 3))
theorem wc_469_661 : rx_ct (rt_P sc fm) 469 661 = some (1, 422, 1) := (by decide +kernel : rt_ct 469 661 = some (1, 422, 1))
theorem wc_469_832 : rx_ct (rt_P sc fm) 469 832 = some (0, 449, 2) := (by decide +kernel : rt_ct 469 832 = some (0, 449, 2))
theorem wc_469_853 : rx_ct (rt_P sc fm) 469 853 = some (0, 457, 1) := (by decide +kernel : rt_ct 469 853 = some (0, 457, 1))
theorem wc_469_865 : rx_ct (rt_P sc fm) 469 865 = some (0, 459, 2) := (by decide +kernel : rt_ct 469 865 = some (0, 459, 2))
theorem wc_469_868 : rx_ct (rt_P sc fm) 469 868 = some (0, 458, 3) := (by decide +kernel : rt_ct 469 868 = some (0, 458, 3))
theorem wf_469_317 : rx_ft (rt_P sc fm) 469 317 = some (15, 114) := (by decide +kernel : rt_ft 469 317 = some (15, 114))
theorem wf_469_320 : rx_ft (rt_P sc fm) 469 320 = some (15, 115) := (by decide +kernel : rt_ft 469 320 = some (15, 115))
theorem wf_469_323 : rx_ft (rt_P sc fm) 469 323 = some (15, 116) := (by decide +kernel : rt_ft 469 323 = some (15, 116))
theorem wf_469_329 : rx_ft (rt_P sc fm) 469 329 = some (15, 118) := (by decide +kernel : rt_ft 469 329 = some (15, 118))
theorem wf_469_447 : rx_ft (rt_P sc fm) 469 447 = some (15, 15) := (by decide +kernel : rt_ft 469 447 = some (15, 15))
theorem wf_469_928 : rx_ft (rt_P sc fm) 469 928 = some (15, 124) := (by decide +kernel : rt_ft 469 928 = some (15, 124))
theorem wi_469_0 : ri (rt_P sc fm) 469 0 (.aload_n 0) (1) := ri_of (by decide +kernel) rfl
theorem wi_469_1 : ri (rt_P sc fm) 469 1 (.getfield 928) (4) := ri_of (by decide +kernel) rfl
theorem wi_469_101 : ri (rt_P sc fm) 469 101 (.goto 57) (104) := ri_of (by decide +kernel) rfl
theorem wi_469_104 : ri (rt_P sc fm) 469 104 (.aload_n 0) (105) := ri_of (by decide +kernel) rfl
theorem wi_469_105 : ri (rt_P sc fm) 469 105 (.dup) (106) := ri_of (by decide +kernel) rfl
theorem wi_469_106 : ri (rt_P sc fm) 469 106 (.getfield 928) (109) := ri_of (by decide +kernel) rfl
theorem wi_469_109 : ri (rt_P sc fm) 469 109 (.iconst 1) (110) := ri_of (by decide +kernel) rfl
theorem wi_469_11 : ri (rt_P sc fm) 469 11 (.iconst 0) (12) := ri_of (by decide +kernel) rfl
theorem wi_469_110 : ri (rt_P sc fm) 469 110 (.iadd) (111) := ri_of (by decide +kernel) rfl
theorem wi_469_111 : ri (rt_P sc fm) 469 111 (.putfield 928) (114) := ri_of (by decide +kernel) rfl
theorem wi_469_114 : ri (rt_P sc fm) 469 114 (.iload_n 3) (115) := ri_of (by decide +kernel) rfl
theorem wi_469_115 : ri (rt_P sc fm) 469 115 (.ifCond .eq 43) (118) := ri_of (by decide +kernel) rfl
theorem wi_469_118 : ri (rt_P sc fm) 469 118 (.aload_n 0) (119) := ri_of (by decide +kernel) rfl
theorem wi_469_119 : ri (rt_P sc fm) 469 119 (.getfield 928) (122) := ri_of (by decide +kernel) rfl
theorem wi_469_12 : ri (rt_P sc fm) 469 12 (.istore_n 3) (13) := ri_of (by decide +kernel) rfl
theorem wi_469_122 : ri (rt_P sc fm) 469 122 (.iconst 1) (123) := ri_of (by decide +kernel) rfl
theorem wi_469_123 : ri (rt_P sc fm) 469 123 (.if_icmp .le 6) (126) := ri_of (by decide +kernel) rfl
theorem wi_469_126 : ri (rt_P sc fm) 469 126 (.goto 32) (129) := ri_of (by decide +kernel) rfl
theorem wi_469_129 : ri (rt_P sc fm) 469 129 (.aload_n 0) (130) := ri_of (by decide +kernel) rfl
theorem wi_469_13 : ri (rt_P sc fm) 469 13 (.iconst 0) (14) := ri_of (by decide +kernel) rfl
theorem wi_469_130 : ri (rt_P sc fm) 469 130 (.aload_n 0) (131) := ri_of (by decide +kernel) rfl
theorem wi_469_131 : ri (rt_P sc fm) 469 131 (.getfield 317) (134) := ri_of (by decide +kernel) rfl
theorem wi_469_134 : ri (rt_P sc fm) 469 134 (.iload_n 1) (135) := ri_of (by decide +kernel) rfl
theorem wi_469_135 : ri (rt_P sc fm) 469 135 (.iaload) (136) := ri_of (by decide +kernel) rfl
theorem wi_469_136 : ri (rt_P sc fm) 469 136 (.invokestatic 661) (139) := ri_of (by decide +kernel) rfl
theorem wi_469_139 : ri (rt_P sc fm) 469 139 (.putfield 931) (142) := ri_of (by decide +kernel) rfl
theorem wi_469_14 : ri (rt_P sc fm) 469 14 (.istore 4) (16) := ri_of (by decide +kernel) rfl
theorem wi_469_142 : ri (rt_P sc fm) 469 142 (.aload_n 0) (143) := ri_of (by decide +kernel) rfl
theorem wi_469_143 : ri (rt_P sc fm) 469 143 (.aload_n 0) (144) := ri_of (by decide +kernel) rfl
theorem wi_469_144 : ri (rt_P sc fm) 469 144 (.getfield 320) (147) := ri_of (by decide +kernel) rfl
theorem wi_469_147 : ri (rt_P sc fm) 469 147 (.iload_n 1) (148) := ri_of (by decide +kernel) rfl
theorem wi_469_148 : ri (rt_P sc fm) 469 148 (.iaload) (149) := ri_of (by decide +kernel) rfl
theorem wi_469_149 : ri (rt_P sc fm) 469 149 (.putfield 934) (152) := ri_of (by decide +kernel) rfl
theorem wi_469_152 : ri (rt_P sc fm) 469 152 (.aload_n 0) (153) := ri_of (by decide +kernel) rfl
theorem wi_469_153 : ri (rt_P sc fm) 469 153 (.iload 4) (155) := ri_of (by decide +kernel) rfl
theorem wi_469_155 : ri (rt_P sc fm) 469 155 (.putfield 937) (158) := ri_of (by decide +kernel) rfl
theorem wi_469_158 : ri (rt_P sc fm) 469 158 (.iinc 5 1) (161) := ri_of (by decide +kernel) rfl
theorem wi_469_16 : ri (rt_P sc fm) 469 16 (.iload 4) (18) := ri_of (by decide +kernel) rfl
theorem wi_469_161 : ri (rt_P sc fm) 469 161 (.goto (-133)) (164) := ri_of (by decide +kernel) rfl
theorem wi_469_164 : ri (rt_P sc fm) 469 164 (.iinc 4 1) (167) := ri_of (by decide +kernel) rfl
theorem wi_469_167 : ri (rt_P sc fm) 469 167 (.goto (-151)) (170) := ri_of (by decide +kernel) rfl
theorem wi_469_170 : ri (rt_P sc fm) 469 170 (.return_) (171) := ri_of (by decide +kernel) rfl
theorem wi_469_18 : ri (rt_P sc fm) 469 18 (.aload_n 0) (19) := ri_of (by decide +kernel) rfl
theorem wi_469_19 : ri (rt_P sc fm) 469 19 (.getfield 447) (22) := ri_of (by decide +kernel) rfl
theorem wi_469_22 : ri (rt_P sc fm) 469 22 (.if_icmp .ge 148) (25) := ri_of (by decide +kernel) rfl
theorem wi_469_25 : ri (rt_P sc fm) 469 25 (.iconst 0) (26) := ri_of (by decide +kernel) rfl
theorem wi_469_26 : ri (rt_P sc fm) 469 26 (.istore 5) (28) := ri_of (by decide +kernel) rfl
theorem wi_469_28 : ri (rt_P sc fm) 469 28 (.iload 5) (30) := ri_of (by decide +kernel) rfl
theorem wi_469_30 : ri (rt_P sc fm) 469 30 (.aload_n 0) (31) := ri_of (by decide +kernel) rfl
theorem wi_469_31 : ri (rt_P sc fm) 469 31 (.iload_n 2) (32) := ri_of (by decide +kernel) rfl
theorem wi_469_32 : ri (rt_P sc fm) 469 32 (.invokevirtual 853) (35) := ri_of (by decide +kernel) rfl
theorem wi_469_35 : ri (rt_P sc fm) 469 35 (.if_icmp .ge 129) (38) := ri_of (by decide +kernel) rfl
theorem wi_469_38 : ri (rt_P sc fm) 469 38 (.aload_n 0) (39) := ri_of (by decide +kernel) rfl
theorem wi_469_39 : ri (rt_P sc fm) 469 39 (.aload_n 0) (40) := ri_of (by decide +kernel) rfl
theorem wi_469_4 : ri (rt_P sc fm) 469 4 (.ifCond .ne 7) (7) := ri_of (by decide +kernel) rfl
theorem wi_469_40 : ri (rt_P sc fm) 469 40 (.aload_n 0) (41) := ri_of (by decide +kernel) rfl
theorem wi_469_41 : ri (rt_P sc fm) 469 41 (.getfield 317) (44) := ri_of (by decide +kernel) rfl
theorem wi_469_44 : ri (rt_P sc fm) 469 44 (.iload_n 1) (45) := ri_of (by decide +kernel) rfl
theorem wi_469_45 : ri (rt_P sc fm) 469 45 (.iaload) (46) := ri_of (by decide +kernel) rfl
theorem wi_469_46 : ri (rt_P sc fm) 469 46 (.iload_n 2) (47) := ri_of (by decide +kernel) rfl
theorem wi_469_47 : ri (rt_P sc fm) 469 47 (.iload 5) (49) := ri_of (by decide +kernel) rfl
theorem wi_469_49 : ri (rt_P sc fm) 469 49 (.invokevirtual 868) (52) := ri_of (by decide +kernel) rfl
theorem wi_469_52 : ri (rt_P sc fm) 469 52 (.iload 4) (54) := ri_of (by decide +kernel) rfl
theorem wi_469_54 : ri (rt_P sc fm) 469 54 (.invokevirtual 832) (57) := ri_of (by decide +kernel) rfl
theorem wi_469_57 : ri (rt_P sc fm) 469 57 (.istore 6) (59) := ri_of (by decide +kernel) rfl
theorem wi_469_59 : ri (rt_P sc fm) 469 59 (.aload_n 0) (60) := ri_of (by decide +kernel) rfl
theorem wi_469_60 : ri (rt_P sc fm) 469 60 (.iload 4) (62) := ri_of (by decide +kernel) rfl
theorem wi_469_62 : ri (rt_P sc fm) 469 62 (.aload_n 0) (63) := ri_of (by decide +kernel) rfl
theorem wi_469_63 : ri (rt_P sc fm) 469 63 (.getfield 329) (66) := ri_of (by decide +kernel) rfl
theorem wi_469_66 : ri (rt_P sc fm) 469 66 (.iconst 4) (67) := ri_of (by decide +kernel) rfl
theorem wi_469_67 : ri (rt_P sc fm) 469 67 (.bipush 16) (69) := ri_of (by decide +kernel) rfl
theorem wi_469_69 : ri (rt_P sc fm) 469 69 (.iload_n 1) (70) := ri_of (by decide +kernel) rfl
theorem wi_469_7 : ri (rt_P sc fm) 469 7 (.iconst 1) (8) := ri_of (by decide +kernel) rfl
theorem wi_469_70 : ri (rt_P sc fm) 469 70 (.imul) (71) := ri_of (by decide +kernel) rfl
theorem wi_469_71 : ri (rt_P sc fm) 469 71 (.aload_n 0) (72) := ri_of (by decide +kernel) rfl
theorem wi_469_72 : ri (rt_P sc fm) 469 72 (.getfield 323) (75) := ri_of (by decide +kernel) rfl
theorem wi_469_75 : ri (rt_P sc fm) 469 75 (.iload_n 1) (76) := ri_of (by decide +kernel) rfl
theorem wi_469_76 : ri (rt_P sc fm) 469 76 (.iaload) (77) := ri_of (by decide +kernel) rfl
theorem wi_469_77 : ri (rt_P sc fm) 469 77 (.iadd) (78) := ri_of (by decide +kernel) rfl
theorem wi_469_78 : ri (rt_P sc fm) 469 78 (.iconst 1) (79) := ri_of (by decide +kernel) rfl
theorem wi_469_79 : ri (rt_P sc fm) 469 79 (.isub) (80) := ri_of (by decide +kernel) rfl
theorem wi_469_8 : ri (rt_P sc fm) 469 8 (.goto 4) (11) := ri_of (by decide +kernel) rfl
theorem wi_469_80 : ri (rt_P sc fm) 469 80 (.aload_n 0) (81) := ri_of (by decide +kernel) rfl
theorem wi_469_81 : ri (rt_P sc fm) 469 81 (.iload_n 2) (82) := ri_of (by decide +kernel) rfl
theorem wi_469_82 : ri (rt_P sc fm) 469 82 (.iload 5) (84) := ri_of (by decide +kernel) rfl
theorem wi_469_84 : ri (rt_P sc fm) 469 84 (.invokevirtual 865) (87) := ri_of (by decide +kernel) rfl
theorem wi_469_87 : ri (rt_P sc fm) 469 87 (.isub) (88) := ri_of (by decide +kernel) rfl
theorem wi_469_88 : ri (rt_P sc fm) 469 88 (.imul) (89) := ri_of (by decide +kernel) rfl
theorem wi_469_89 : ri (rt_P sc fm) 469 89 (.iload 4) (91) := ri_of (by decide +kernel) rfl
theorem wi_469_91 : ri (rt_P sc fm) 469 91 (.iadd) (92) := ri_of (by decide +kernel) rfl
theorem wi_469_92 : ri (rt_P sc fm) 469 92 (.iaload) (93) := ri_of (by decide +kernel) rfl
theorem wi_469_93 : ri (rt_P sc fm) 469 93 (.iload 6) (95) := ri_of (by decide +kernel) rfl
theorem wi_469_95 : ri (rt_P sc fm) 469 95 (.invokevirtual 535) (98) := ri_of (by decide +kernel) rfl
theorem wi_469_98 : ri (rt_P sc fm) 469 98 (.ifCond .eq 6) (101) := ri_of (by decide +kernel) rfl
theorem wp_469_928 : rx_pt (rt_P sc fm) 469 928 = some (15, 124, .int) := (by decide +kernel : rt_pt 469 928 = some (15, 124, .int))
theorem wp_469_931 : rx_pt (rt_P sc fm) 469 931 = some (15, 125, .int) := (by decide +kernel : rt_pt 469 931 = some (15, 125, .int))
theorem wp_469_934 : rx_pt (rt_P sc fm) 469 934 = some (15, 126, .int) := (by decide +kernel : rt_pt 469 934 = some (15, 126, .int))
theorem wp_469_937 : rx_pt (rt_P sc fm) 469 937 = some (15, 127, .int) := (by decide +kernel : rt_pt 469 937 = some (15, 127, .int))
theorem wr_469 : rx_rt (rt_P sc fm) 469 = none := (by decide +kernel : rt_rt 469 = none)
/-- MarkHouseModel.leaves(II)V -/
def d_469 (n : Nat) (a1 : Int32) (a2 : Int32) (c : cS) : Option (cS) :=
  jn (fun p1 : Int32 =>
    Option.bind (whl (R := (cS)) (fun s4 : Int32 × cS =>
      if (s4.2.1 174 15) ≤ s4.1 then
        some (.inr s4.2)
      else
        Option.bind (whl (R := (cS)) (fun s6 : Int32 × cS =>
          Option.bind (d_457 n a2 s6.2) (fun v7 =>
          if v7 ≤ s6.1 then
            some (.inr s6.2)
          else
            if ib a1 12 then
            Option.bind (d_458 n (s6.2.1 253 (ix a1)) a2 s6.1 s6.2) (fun v9 =>
            Option.bind (d_449 n v9 s4.1 s6.2) (fun r10 =>
            if ib a1 12 then
            Option.bind (d_459 n a2 s6.1 r10.2) (fun v13 =>
            if ib ((4 * ((((16 * a1) + (r10.2.1 255 (ix a1))) - 1) - v13)) + s4.1) 768 then
            Option.bind (d_387 n s4.1 (r10.2.1 257 (ix ((4 * ((((16 * a1) + (r10.2.1 255 (ix a1))) - 1) - v13)) + s4.1))) r10.1 r10.2) (fun v15 =>
            jn (fun p16 : cS =>
              lt (s6.1 + 1 : Int32) (fun v18 =>
              some (.inl (v18, p16))))
            (fun j158 =>
            if v15 = 0 then
              lt (pI r10.2 174 124 ((r10.2.1 174 124) + 1)) (fun c20 =>
              if p1 = 0 then
                j158 c20
              else
                if (c20.1 174 124) ≤ 1 then
                  if ib a1 12 then
                  Option.bind (d_422 n (c20.1 253 (ix a1))) (fun v23 =>
                  lt (pI c20 174 125 v23) (fun c24 =>
                  if ib a1 12 then
                  lt (pI c24 174 126 (c24.1 254 (ix a1))) (fun c27 =>
                  lt (pI c27 174 127 s4.1) (fun c29 =>
                  j158 c29))
                  else none))
                  else none
                else
                  j158 c20)
            else
              j158 r10.2))
            else none)
            else none))
            else none)) n (0, s4.2))
        (fun x31 : cS =>
          lt (s4.1 + 1 : Int32) (fun v33 =>
          some (.inl (v33, x31))))) n (0, c))
    (fun x35 : cS =>
      some x35))
  (fun j12 =>
  if (c.1 174 124) = 0 then
    j12 1
  else
    j12 0)
theorem sp_469 {F Lo n : Nat} {a1 : Int32} {a2 : Int32} {c y : cS} {w : cW} {K : cS → Prop} {Q : ((Option Value) ⊕ String) → List va_E → Prop} (hw : rOK fm w) (hF : 5 ≤ F) (hLo : 127 ≤ Lo)  (h : wp (d_469 n a1 a2 c) K) (hQ : ∀ r, K r → Q (.inl none) (hq false r y w)) : rs (rt_P sc fm) 469 F Lo 0 [(0, .ref 174), (1, .int a1), (2, .int a2)] [] (hq false c y w) Q := by
  unfold d_469 at h
  obtain ⟨lv, elv⟩ : ∃ lv : rx_L, lv = [(0, .ref 174), (1, .int a1), (2, .int a2)] := ⟨_, rfl⟩
  rw [← elv]
  have l0 : rx_ld lv 0 = some (.ref 174) := by rw [elv]; rfl
  have l1 : rx_ld lv 1 = some (.int a1) := by rw [elv]; rfl
  have l2 : rx_ld lv 2 = some (.int a2) := by rw [elv]; rfl
  refine rs_aldn wi_469_0 l0 ?_
  refine dq_gi wi_469_1 wf_469_928 tf_174_124 ?_
  refine wp_jn (B := fun p1 : Int32 => ∀ lv, rx_ld lv 0 = some (.ref 174) → rx_ld lv 1 = some (.int a1) → rx_ld lv 2 = some (.int a2) → rs (rt_P sc fm) 469 F Lo 12 lv [.int p1] (hq false c y w) Q) h (fun p1 h lv l0 l1 l2 => ?_) (fun j12 hj12 h => ?_)
  ·
    refine dl_istn wi_469_12 rfl (fun lv l3 t2 => ?_)
    have l0 := t2 _ _ (by decide) (Or.inl rfl) l0
    have l1 := t2 _ _ (by decide) (Or.inl rfl) l1
    have l2 := t2 _ _ (by decide) (Or.inl rfl) l2
    refine rs_pure wi_469_13 rfl ?_
    refine rs_topi (v := 0) (by decide) ?_
    refine dl_ist wi_469_14 rfl (fun lv l4 t3 => ?_)
    have l0 := t3 _ _ (by decide) (Or.inl rfl) l0
    have l1 := t3 _ _ (by decide) (Or.inl rfl) l1
    have l2 := t3 _ _ (by decide) (Or.inl rfl) l2
    have l3 := t3 _ _ (by decide) (Or.inl rfl) l3
    refine whl_ex (A := fun s4 : Int32 × cS => ∀ lv, rx_ld lv 0 = some (.ref 174) → rx_ld lv 1 = some (.int a1) → rx_ld lv 2 = some (.int a2) → rx_ld lv 3 = some (.int p1) → rx_ld lv 4 = some (.int s4.1) → rs (rt_P sc fm) 469 F Lo 16 lv [] (hq false s4.2 y w) Q) (B := (fun x35 : cS => ∀ lv, rs (rt_P sc fm) 469 F Lo 170 lv [] (hq false x35 y w) Q)) ?_ ?_ _ _ (wp_bind h) _ l0 l1 l2 l3 l4
    · intro s4 h lv l0 l1 l2 l3 l4
      refine rs_ild wi_469_16 l4 ?_
      refine rs_aldn wi_469_18 l0 ?_
      refine dq_gi wi_469_19 wf_469_447 tf_174_15 ?_
      refine rs_icge (tg := 170) wi_469_22 ⟨by decide, by decide⟩ (fun q => ?_) (fun q => ?_)
      ·
        have h := wp_pos h q
        exact h _
      ·
        have h := wp_neg h q
        refine rs_pure wi_469_25 rfl ?_
        refine rs_topi (v := 0) (by decide) ?_
        refine dl_ist wi_469_26 rfl (fun lv l5 t5 => ?_)
        have l0 := t5 _ _ (by decide) (Or.inl rfl) l0
        have l1 := t5 _ _ (by decide) (Or.inl rfl) l1
        have l2 := t5 _ _ (by decide) (Or.inl rfl) l2
        have l3 := t5 _ _ (by decide) (Or.inl rfl) l3
        have l4 := t5 _ _ (by decide) (Or.inl rfl) l4
        refine whl_ex (A := fun s6 : Int32 × cS => ∀ lv, rx_ld lv 0 = some (.ref 174) → rx_ld lv 1 = some (.int a1) → rx_ld lv 2 = some (.int a2) → rx_ld lv 3 = some (.int p1) → rx_ld lv 4 = some (.int s4.1) → rx_ld lv 5 = some (.int s6.1) → rs (rt_P sc fm) 469 F Lo 28 lv [] (hq false s6.2 y w) Q) (B := (fun x31 : cS => ∀ lv, rx_ld lv 0 = some (.ref 174) → rx_ld lv 1 = some (.int a1) → rx_ld lv 2 = some (.int a2) → rx_ld lv 3 = some (.int p1) → rx_ld lv 4 = some (.int s4.1) → rs (rt_P sc fm) 469 F Lo 164 lv [] (hq false x31 y w) Q)) ?_ ?_ _ _ (wp_bind h) _ l0 l1 l2 l3 l4 l5
        · intro s6 h lv l0 l1 l2 l3 l4 l5
          refine rs_ild wi_469_28 l5 ?_
          refine rs_aldn wi_469_30 l0 ?_
          refine rs_ildn wi_469_31 l2 ?_
          refine rs_V wi_469_32 wc_469_853 rfl (dq_isa tf_174_0 wa_15_457) (Nat.le_trans (by decide) hF) (ml_le wm_457 (Nat.le_trans (by decide) hLo)) rfl (sp_457 hw (Nat.le_trans (by decide : 0 ≤ 5 - 1) (Nat.sub_le_sub_right hF 1)) (ml_sub wm_457 (Nat.le_trans (by decide : 0 ≤ 127 - 21) (Nat.sub_le_sub_right hLo 21))) (wp_bind h) (fun v7 h => rs_back1 ?_))
          refine rs_icge (tg := 164) wi_469_35 ⟨by decide, by decide⟩ (fun q => ?_) (fun q => ?_)
          ·
            have h := wp_pos h q
            exact h _ l0 l1 l2 l3 l4
          ·
            have h := wp_neg h q
            refine rs_aldn wi_469_38 l0 ?_
            refine rs_aldn wi_469_39 l0 ?_
            refine rs_aldn wi_469_40 l0 ?_
            refine dq_gr wi_469_41 wf_469_317 tf_174_114 ?_
            refine rs_ildn wi_469_44 l1 ?_
            obtain ⟨g8, h⟩ := wp_gd h
            refine dq_iald wi_469_45 t_253 g8 ?_
            refine rs_ildn wi_469_46 l2 ?_
            refine rs_ild wi_469_47 l5 ?_
            refine rs_V wi_469_49 wc_469_868 rfl (dq_isa tf_174_0 wa_15_458) (Nat.le_trans (by decide) hF) (ml_le wm_458 (Nat.le_trans (by decide) hLo)) rfl (sp_458 hw (Nat.le_trans (by decide : 1 ≤ 5 - 1) (Nat.sub_le_sub_right hF 1)) (ml_sub wm_458 (Nat.le_trans (by decide : 21 ≤ 127 - 23) (Nat.sub_le_sub_right hLo 23))) (wp_bind h) (fun v9 h => rs_back1 ?_))
            refine rs_ild wi_469_52 l4 ?_
            refine rs_V wi_469_54 wc_469_832 rfl (dq_isa tf_174_0 wa_15_449) (Nat.le_trans (by decide) hF) (ml_le wm_449 (Nat.le_trans (by decide) hLo)) rfl (sp_449 hw (Nat.le_trans (by decide : 4 ≤ 5 - 1) (Nat.sub_le_sub_right hF 1)) (ml_sub wm_449 (Nat.le_trans (by decide : 105 ≤ 127 - 22) (Nat.sub_le_sub_right hLo 22))) (wp_bind h) (fun r10 h => rs_back1 ?_))
            refine dl_ist wi_469_57 rfl (fun lv l6 t11 => ?_)
            have l0 := t11 _ _ (by decide) (Or.inl rfl) l0
            have l1 := t11 _ _ (by decide) (Or.inl rfl) l1
            have l2 := t11 _ _ (by decide) (Or.inl rfl) l2
            have l3 := t11 _ _ (by decide) (Or.inl rfl) l3
            have l4 := t11 _ _ (by decide) (Or.inl rfl) l4
            have l5 := t11 _ _ (by decide) (Or.inl rfl) l5
            refine rs_aldn wi_469_59 l0 ?_
            refine rs_ild wi_469_60 l4 ?_
            refine rs_aldn wi_469_62 l0 ?_
            refine dq_gr wi_469_63 wf_469_329 tf_174_118 ?_
            refine rs_pure wi_469_66 rfl ?_
            refine rs_topi (v := 4) (by decide) ?_
            refine rs_pure wi_469_67 rfl ?_
            refine rs_topi (v := 16) (by decide) ?_
            refine rs_ildn wi_469_69 l1 ?_
            refine rs_pure wi_469_70 rfl ?_
            refine rs_aldn wi_469_71 l0 ?_
            refine dq_gr wi_469_72 wf_469_323 tf_174_116 ?_
            refine rs_ildn wi_469_75 l1 ?_
            obtain ⟨g12, h⟩ := wp_gd h
            refine dq_iald wi_469_76 t_255 g12 ?_
            refine rs_pure wi_469_77 rfl ?_
            refine rs_pure wi_469_78 rfl ?_
            refine rs_topi (v := 1) (by decide) ?_
            refine rs_pure wi_469_79 rfl ?_
            refine rs_aldn wi_469_80 l0 ?_
            refine rs_ildn wi_469_81 l2 ?_
            refine rs_ild wi_469_82 l5 ?_
            refine rs_V wi_469_84 wc_469_865 rfl (dq_isa tf_174_0 wa_15_459) (Nat.le_trans (by decide) hF) (ml_le wm_459 (Nat.le_trans (by decide) hLo)) rfl (sp_459 hw (Nat.le_trans (by decide : 1 ≤ 5 - 1) (Nat.sub_le_sub_right hF 1)) (ml_sub wm_459 (Nat.le_trans (by decide : 21 ≤ 127 - 22) (Nat.sub_le_sub_right hLo 22))) (wp_bind h) (fun v13 h => rs_back1 ?_))
            refine rs_pure wi_469_87 rfl ?_
            refine rs_pure wi_469_88 rfl ?_
            refine rs_ild wi_469_89 l4 ?_
            refine rs_pure wi_469_91 rfl ?_
            obtain ⟨g14, h⟩ := wp_gd h
            refine dq_iald wi_469_92 t_257 g14 ?_
            refine rs_ild wi_469_93 l6 ?_
            refine rs_V wi_469_95 wc_469_535 rfl (dq_isa tf_174_0 wa_15_387) (Nat.le_trans (by decide) hF) (ml_le wm_387 (Nat.le_trans (by decide) hLo)) rfl (sp_387 hw (Nat.le_trans (by decide : 1 ≤ 5 - 1) (Nat.sub_le_sub_right hF 1)) (ml_sub wm_387 (Nat.le_trans (by decide : 23 ≤ 127 - 23) (Nat.sub_le_sub_right hLo 23))) (wp_bind h) (fun v15 h => rs_back1 ?_))
            refine wp_jn (B := fun p16 : cS => ∀ lv, rx_ld lv 0 = some (.ref 174) → rx_ld lv 1 = some (.int a1) → rx_ld lv 2 = some (.int a2) → rx_ld lv 3 = some (.int p1) → rx_ld lv 4 = some (.int s4.1) → rx_ld lv 5 = some (.int s6.1) → rs (rt_P sc fm) 469 F Lo 158 lv [] (hq false p16 y w) Q) h (fun p16 h lv l0 l1 l2 l3 l4 l5 => ?_) (fun j158 hj158 h => ?_)
            ·
              obtain ⟨v18, e19, h⟩ := wp_lt h
              refine dl_inc wi_469_158 l5 rfl e19 (fun lv l5 t17 => ?_)
              have l0 := t17 _ _ (by decide) (Or.inl rfl) l0
              have l1 := t17 _ _ (by decide) (Or.inl rfl) l1
              have l2 := t17 _ _ (by decide) (Or.inl rfl) l2
              have l3 := t17 _ _ (by decide) (Or.inl rfl) l3
              have l4 := t17 _ _ (by decide) (Or.inl rfl) l4
              refine rs_goto (tg := 28) wi_469_161 ⟨by decide, by decide⟩ ?_
              exact h _ l0 l1 l2 l3 l4 l5
            refine rs_ifeq (tg := 104) wi_469_98 ⟨by decide, by decide⟩ (fun q => ?_) (fun q => ?_)
            ·
              have h := wp_pos h q
              refine rs_aldn wi_469_104 l0 ?_
              refine rs_pure wi_469_105 rfl ?_
              refine dq_gi wi_469_106 wf_469_928 tf_174_124 ?_
              refine rs_pure wi_469_109 rfl ?_
              refine rs_topi (v := 1) (by decide) ?_
              refine rs_pure wi_469_110 rfl ?_
              obtain ⟨c20, e21, h⟩ := wp_lt h
              refine dq_pi wi_469_111 wp_469_928 tf_174_124 rfl rfl e21 ?_
              refine rs_ildn wi_469_114 l3 ?_
              refine rs_ifeq (tg := 158) wi_469_115 ⟨by decide, by decide⟩ (fun q => ?_) (fun q => ?_)
              ·
                have h := wp_pos h q
                exact hj158 _ h _ l0 l1 l2 l3 l4 l5
              ·
                have h := wp_neg h q
                refine rs_aldn wi_469_118 l0 ?_
                refine dq_gi wi_469_119 wf_469_928 tf_174_124 ?_
                refine rs_pure wi_469_122 rfl ?_
                refine rs_topi (v := 1) (by decide) ?_
                refine rs_icle (tg := 129) wi_469_123 ⟨by decide, by decide⟩ (fun q => ?_) (fun q => ?_)
                ·
                  have h := wp_pos h q
                  refine rs_aldn wi_469_129 l0 ?_
                  refine rs_aldn wi_469_130 l0 ?_
                  refine dq_gr wi_469_131 wf_469_317 tf_174_114 ?_
                  refine rs_ildn wi_469_134 l1 ?_
                  obtain ⟨g22, h⟩ := wp_gd h
                  refine dq_iald wi_469_135 t_253 g22 ?_
                  refine rs_S wi_469_136 wc_469_661 (Or.inl rfl) rfl (Nat.le_trans (by decide) hF) (ml_le wm_422 (Nat.le_trans (by decide) hLo)) rfl (sp_422 (Nat.le_trans (by decide : 0 ≤ 5 - 1) (Nat.sub_le_sub_right hF 1)) (ml_sub wm_422 (Nat.le_trans (by decide : 0 ≤ 127 - 20) (Nat.sub_le_sub_right hLo 20))) (wp_bind h) (fun v23 h => rs_back1 ?_))
                  obtain ⟨c24, e25, h⟩ := wp_lt h
                  refine dq_pi wi_469_139 wp_469_931 tf_174_125 rfl rfl e25 ?_
                  refine rs_aldn wi_469_142 l0 ?_
                  refine rs_aldn wi_469_143 l0 ?_
                  refine dq_gr wi_469_144 wf_469_320 tf_174_115 ?_
                  refine rs_ildn wi_469_147 l1 ?_
                  obtain ⟨g26, h⟩ := wp_gd h
                  refine dq_iald wi_469_148 t_254 g26 ?_
                  obtain ⟨c27, e28, h⟩ := wp_lt h
                  refine dq_pi wi_469_149 wp_469_934 tf_174_126 rfl rfl e28 ?_
                  refine rs_aldn wi_469_152 l0 ?_
                  refine rs_ild wi_469_153 l4 ?_
                  obtain ⟨c29, e30, h⟩ := wp_lt h
                  refine dq_pi wi_469_155 wp_469_937 tf_174_127 rfl rfl e30 ?_
                  exact hj158 _ h _ l0 l1 l2 l3 l4 l5
                ·
                  have h := wp_neg h q
                  refine rs_goto (tg := 158) wi_469_126 ⟨by decide, by decide⟩ ?_
                  exact hj158 _ h _ l0 l1 l2 l3 l4 l5
            ·
              have h := wp_neg h q
              refine rs_goto (tg := 158) wi_469_101 ⟨by decide, by decide⟩ ?_
              exact hj158 _ h _ l0 l1 l2 l3 l4 l5
        ·
          intro x31 h lv l0 l1 l2 l3 l4
          obtain ⟨v33, e34, h⟩ := wp_lt h
          refine dl_inc wi_469_164 l4 rfl e34 (fun lv l4 t32 => ?_)
          have l0 := t32 _ _ (by decide) (Or.inl rfl) l0
          have l1 := t32 _ _ (by decide) (Or.inl rfl) l1
          have l2 := t32 _ _ (by decide) (Or.inl rfl) l2
          have l3 := t32 _ _ (by decide) (Or.inl rfl) l3
          refine rs_goto (tg := 16) wi_469_167 ⟨by decide, by decide⟩ ?_
          exact h _ l0 l1 l2 l3 l4
    ·
      intro x35 h lv
      exact rs_vret wi_469_170 wr_469 (hQ x35 h)
  refine rs_ifne (tg := 11) wi_469_4 ⟨by decide, by decide⟩ (fun q => ?_) (fun q => ?_)
  ·
    have h := wp_neg h q
    refine rs_pure wi_469_11 rfl ?_
    refine rs_topi (v := 0) (by decide) ?_
    exact hj12 _ h _ l0 l1 l2
  ·
    have h := wp_pos h q
    refine rs_pure wi_469_7 rfl ?_
    refine rs_topi (v := 1) (by decide) ?_
    refine rs_goto (tg := 12) wi_469_8 ⟨by decide, by decide⟩ ?_
    exact hj12 _ h _ l0 l1 l2
theorem wf_467_326 : rx_ft (rt_P sc fm) 467 326 = some (15, 117) := (by decide +kernel : rt_ft 467 326 = some (15, 117))
theorem wf_467_329 : rx_ft (rt_P sc fm) 467 329 = some (15, 118) := (by decide +kernel : rt_ft 467 329 = some (15, 118))
theorem wf_467_447 : rx_ft (rt_P sc fm) 467 447 = some (15, 15) := (by decide +kernel : rt_ft 467 447 = some (15, 15))
theorem wi_467_0 : ri (rt_P sc fm) 467 0 (.aload_n 0) (1) := ri_of (by decide +kernel) rfl
theorem wi_467_1 : ri (rt_P sc fm) 467 1 (.getfield 326) (4) := ri_of (by decide +kernel) rfl
theorem wi_467_10 : ri (rt_P sc fm) 467 10 (.iaload) (11) := ri_of (by decide +kernel) rfl
theorem wi_467_11 : ri (rt_P sc fm) 467 11 (.iastore) (12) := ri_of (by decide +kernel) rfl
theorem wi_467_12 : ri (rt_P sc fm) 467 12 (.iconst 0) (13) := ri_of (by decide +kernel) rfl
theorem wi_467_13 : ri (rt_P sc fm) 467 13 (.istore_n 3) (14) := ri_of (by decide +kernel) rfl
theorem wi_467_14 : ri (rt_P sc fm) 467 14 (.iload_n 3) (15) := ri_of (by decide +kernel) rfl
theorem wi_467_15 : ri (rt_P sc fm) 467 15 (.aload_n 0) (16) := ri_of (by decide +kernel) rfl
theorem wi_467_16 : ri (rt_P sc fm) 467 16 (.getfield 447) (19) := ri_of (by decide +kernel) rfl
theorem wi_467_19 : ri (rt_P sc fm) 467 19 (.if_icmp .ge 29) (22) := ri_of (by decide +kernel) rfl
theorem wi_467_22 : ri (rt_P sc fm) 467 22 (.aload_n 0) (23) := ri_of (by decide +kernel) rfl
theorem wi_467_23 : ri (rt_P sc fm) 467 23 (.getfield 329) (26) := ri_of (by decide +kernel) rfl
theorem wi_467_26 : ri (rt_P sc fm) 467 26 (.iconst 4) (27) := ri_of (by decide +kernel) rfl
theorem wi_467_27 : ri (rt_P sc fm) 467 27 (.iload_n 1) (28) := ri_of (by decide +kernel) rfl
theorem wi_467_28 : ri (rt_P sc fm) 467 28 (.imul) (29) := ri_of (by decide +kernel) rfl
theorem wi_467_29 : ri (rt_P sc fm) 467 29 (.iload_n 3) (30) := ri_of (by decide +kernel) rfl
theorem wi_467_30 : ri (rt_P sc fm) 467 30 (.iadd) (31) := ri_of (by decide +kernel) rfl
theorem wi_467_31 : ri (rt_P sc fm) 467 31 (.aload_n 0) (32) := ri_of (by decide +kernel) rfl
theorem wi_467_32 : ri (rt_P sc fm) 467 32 (.getfield 329) (35) := ri_of (by decide +kernel) rfl
theorem wi_467_35 : ri (rt_P sc fm) 467 35 (.iconst 4) (36) := ri_of (by decide +kernel) rfl
theorem wi_467_36 : ri (rt_P sc fm) 467 36 (.iload_n 2) (37) := ri_of (by decide +kernel) rfl
theorem wi_467_37 : ri (rt_P sc fm) 467 37 (.imul) (38) := ri_of (by decide +kernel) rfl
theorem wi_467_38 : ri (rt_P sc fm) 467 38 (.iload_n 3) (39) := ri_of (by decide +kernel) rfl
theorem wi_467_39 : ri (rt_P sc fm) 467 39 (.iadd) (40) := ri_of (by decide +kernel) rfl
theorem wi_467_4 : ri (rt_P sc fm) 467 4 (.iload_n 1) (5) := ri_of (by decide +kernel) rfl
theorem wi_467_40 : ri (rt_P sc fm) 467 40 (.iaload) (41) := ri_of (by decide +kernel) rfl
theorem wi_467_41 : ri (rt_P sc fm) 467 41 (.iastore) (42) := ri_of (by decide +kernel) rfl
theorem wi_467_42 : ri (rt_P sc fm) 467 42 (.iinc 3 1) (45) := ri_of (by decide +kernel) rfl
theorem wi_467_45 : ri (rt_P sc fm) 467 45 (.goto (-31)) (48) := ri_of (by decide +kernel) rfl
theorem wi_467_48 : ri (rt_P sc fm) 467 48 (.return_) (49) := ri_of (by decide +kernel) rfl
theorem wi_467_5 : ri (rt_P sc fm) 467 5 (.aload_n 0) (6) := ri_of (by decide +kernel) rfl
theorem wi_467_6 : ri (rt_P sc fm) 467 6 (.getfield 326) (9) := ri_of (by decide +kernel) rfl
theorem wi_467_9 : ri (rt_P sc fm) 467 9 (.iload_n 2) (10) := ri_of (by decide +kernel) rfl
theorem wr_467 : rx_rt (rt_P sc fm) 467 = none := (by decide +kernel : rt_rt 467 = none)
/-- MarkHouseModel.copy(II)V -/
def d_467 (n : Nat) (a1 : Int32) (a2 : Int32) (c : cS) : Option (cS) :=
  if ib a2 192 then
  if ib a1 192 then
  lt (pI c 256 (ix a1) (c.1 256 (ix a2))) (fun c3 =>
  Option.bind (whl (R := (cS)) (fun s6 : Int32 × cS =>
    if (s6.2.1 174 15) ≤ s6.1 then
      some (.inr s6.2)
    else
      if ib ((4 * a2) + s6.1) 768 then
      if ib ((4 * a1) + s6.1) 768 then
      lt (pI s6.2 257 (ix ((4 * a1) + s6.1)) (s6.2.1 257 (ix ((4 * a2) + s6.1)))) (fun c9 =>
      lt (s6.1 + 1 : Int32) (fun v12 =>
      some (.inl (v12, c9))))
      else none
      else none) n (0, c3))
  (fun x14 : cS =>
    some x14))
  else none
  else none
theorem sp_467 {F Lo n : Nat} {a1 : Int32} {a2 : Int32} {c y : cS} {w : cW} {K : cS → Prop} {Q : ((Option Value) ⊕ String) → List va_E → Prop} (hw : rOK fm w) (hF : 0 ≤ F) (hLo : 0 ≤ Lo)  (h : wp (d_467 n a1 a2 c) K) (hQ : ∀ r, K r → Q (.inl none) (hq false r y w)) : rs (rt_P sc fm) 467 F Lo 0 [(0, .ref 174), (1, .int a1), (2, .int a2)] [] (hq false c y w) Q := by
  unfold d_467 at h
  obtain ⟨lv, elv⟩ : ∃ lv : rx_L, lv = [(0, .ref 174), (1, .int a1), (2, .int a2)] := ⟨_, rfl⟩
  rw [← elv]
  have l0 : rx_ld lv 0 = some (.ref 174) := by rw [elv]; rfl
  have l1 : rx_ld lv 1 = some (.int a1) := by rw [elv]; rfl
  have l2 : rx_ld lv 2 = some (.int a2) := by rw [elv]; rfl
  refine rs_aldn wi_467_0 l0 ?_
  refine dq_gr wi_467_1 wf_467_326 tf_174_117 ?_
  refine rs_ildn wi_467_4 l1 ?_
  refine rs_aldn wi_467_5 l0 ?_
  refine dq_gr wi_467_6 wf_467_326 tf_174_117 ?_
  refine rs_ildn wi_467_9 l2 ?_
  obtain ⟨g1, h⟩ := wp_gd h
  refine dq_iald wi_467_10 t_256 g1 ?_
  obtain ⟨g2, h⟩ := wp_gd h
  obtain ⟨c3, e4, h⟩ := wp_lt h
  refine dq_iast wi_467_11 t_256 g2 e4 ?_
  refine rs_pure wi_467_12 rfl ?_
  refine rs_topi (v := 0) (by decide) ?_
  refine dl_istn wi_467_13 rfl (fun lv l3 t5 => ?_)
  have l0 := t5 _ _ (by decide) (Or.inl rfl) l0
  have l1 := t5 _ _ (by decide) (Or.inl rfl) l1
  have l2 := t5 _ _ (by decide) (Or.inl rfl) l2
  refine whl_ex (A := fun s6 : Int32 × cS => ∀ lv, rx_ld lv 0 = some (.ref 174) → rx_ld lv 1 = some (.int a1) → rx_ld lv 2 = some (.int a2) → rx_ld lv 3 = some (.int s6.1) → rs (rt_P sc fm) 467 F Lo 14 lv [] (hq false s6.2 y w) Q) (B := (fun x14 : cS => ∀ lv, rs (rt_P sc fm) 467 F Lo 48 lv [] (hq false x14 y w) Q)) ?_ ?_ _ _ (wp_bind h) _ l0 l1 l2 l3
  · intro s6 h lv l0 l1 l2 l3
    refine rs_ildn wi_467_14 l3 ?_
    refine rs_aldn wi_467_15 l0 ?_
    refine dq_gi wi_467_16 wf_467_447 tf_174_15 ?_
    refine rs_icge (tg := 48) wi_467_19 ⟨by decide, by decide⟩ (fun q => ?_) (fun q => ?_)
    ·
      have h := wp_pos h q
      exact h _
    ·
      have h := wp_neg h q
      refine rs_aldn wi_467_22 l0 ?_
      refine dq_gr wi_467_23 wf_467_329 tf_174_118 ?_
      refine rs_pure wi_467_26 rfl ?_
      refine rs_topi (v := 4) (by decide) ?_
      refine rs_ildn wi_467_27 l1 ?_
      refine rs_pure wi_467_28 rfl ?_
      refine rs_ildn wi_467_29 l3 ?_
      refine rs_pure wi_467_30 rfl ?_
      refine rs_aldn wi_467_31 l0 ?_
      refine dq_gr wi_467_32 wf_467_329 tf_174_118 ?_
      refine rs_pure wi_467_35 rfl ?_
      refine rs_topi (v := 4) (by decide) ?_
      refine rs_ildn wi_467_36 l2 ?_
      refine rs_pure wi_467_37 rfl ?_
      refine rs_ildn wi_467_38 l3 ?_
      refine rs_pure wi_467_39 rfl ?_
      obtain ⟨g7, h⟩ := wp_gd h
      refine dq_iald wi_467_40 t_257 g7 ?_
      obtain ⟨g8, h⟩ := wp_gd h
      obtain ⟨c9, e10, h⟩ := wp_lt h
      refine dq_iast wi_467_41 t_257 g8 e10 ?_
      obtain ⟨v12, e13, h⟩ := wp_lt h
      refine dl_inc wi_467_42 l3 rfl e13 (fun lv l3 t11 => ?_)
      have l0 := t11 _ _ (by decide) (Or.inl rfl) l0
      have l1 := t11 _ _ (by decide) (Or.inl rfl) l1
      have l2 := t11 _ _ (by decide) (Or.inl rfl) l2
      refine rs_goto (tg := 14) wi_467_45 ⟨by decide, by decide⟩ ?_
      exact h _ l0 l1 l2 l3
  ·
    intro x14 h lv
    exact rs_vret wi_467_48 wr_467 (hQ x14 h)
theorem wf_471_314 : rx_ft (rt_P sc fm) 471 314 = some (15, 109) := (by decide +kernel : rt_ft 471 314 = some (15, 109))
theorem wf_471_910 : rx_ft (rt_P sc fm) 471 910 = some (15, 110) := (by decide +kernel : rt_ft 471 910 = some (15, 110))
theorem wi_471_0 : ri (rt_P sc fm) 471 0 (.aload_n 0) (1) := ri_of (by decide +kernel) rfl
theorem wi_471_1 : ri (rt_P sc fm) 471 1 (.getfield 910) (4) := ri_of (by decide +kernel) rfl
theorem wi_471_10 : ri (rt_P sc fm) 471 10 (.getfield 314) (13) := ri_of (by decide +kernel) rfl
theorem wi_471_13 : ri (rt_P sc fm) 471 13 (.iconst 0) (14) := ri_of (by decide +kernel) rfl
theorem wi_471_14 : ri (rt_P sc fm) 471 14 (.iaload) (15) := ri_of (by decide +kernel) rfl
theorem wi_471_15 : ri (rt_P sc fm) 471 15 (.istore_n 1) (16) := ri_of (by decide +kernel) rfl
theorem wi_471_16 : ri (rt_P sc fm) 471 16 (.aload_n 0) (17) := ri_of (by decide +kernel) rfl
theorem wi_471_17 : ri (rt_P sc fm) 471 17 (.dup) (18) := ri_of (by decide +kernel) rfl
theorem wi_471_18 : ri (rt_P sc fm) 471 18 (.getfield 910) (21) := ri_of (by decide +kernel) rfl
theorem wi_471_21 : ri (rt_P sc fm) 471 21 (.iconst 1) (22) := ri_of (by decide +kernel) rfl
theorem wi_471_22 : ri (rt_P sc fm) 471 22 (.isub) (23) := ri_of (by decide +kernel) rfl
theorem wi_471_23 : ri (rt_P sc fm) 471 23 (.putfield 910) (26) := ri_of (by decide +kernel) rfl
theorem wi_471_26 : ri (rt_P sc fm) 471 26 (.iconst 0) (27) := ri_of (by decide +kernel) rfl
theorem wi_471_27 : ri (rt_P sc fm) 471 27 (.istore_n 2) (28) := ri_of (by decide +kernel) rfl
theorem wi_471_28 : ri (rt_P sc fm) 471 28 (.iload_n 2) (29) := ri_of (by decide +kernel) rfl
theorem wi_471_29 : ri (rt_P sc fm) 471 29 (.aload_n 0) (30) := ri_of (by decide +kernel) rfl
theorem wi_471_30 : ri (rt_P sc fm) 471 30 (.getfield 910) (33) := ri_of (by decide +kernel) rfl
theorem wi_471_33 : ri (rt_P sc fm) 471 33 (.if_icmp .ge 23) (36) := ri_of (by decide +kernel) rfl
theorem wi_471_36 : ri (rt_P sc fm) 471 36 (.aload_n 0) (37) := ri_of (by decide +kernel) rfl
theorem wi_471_37 : ri (rt_P sc fm) 471 37 (.getfield 314) (40) := ri_of (by decide +kernel) rfl
theorem wi_471_4 : ri (rt_P sc fm) 471 4 (.ifCond .ne 5) (7) := ri_of (by decide +kernel) rfl
theorem wi_471_40 : ri (rt_P sc fm) 471 40 (.iload_n 2) (41) := ri_of (by decide +kernel) rfl
theorem wi_471_41 : ri (rt_P sc fm) 471 41 (.aload_n 0) (42) := ri_of (by decide +kernel) rfl
theorem wi_471_42 : ri (rt_P sc fm) 471 42 (.getfield 314) (45) := ri_of (by decide +kernel) rfl
theorem wi_471_45 : ri (rt_P sc fm) 471 45 (.iload_n 2) (46) := ri_of (by decide +kernel) rfl
theorem wi_471_46 : ri (rt_P sc fm) 471 46 (.iconst 1) (47) := ri_of (by decide +kernel) rfl
theorem wi_471_47 : ri (rt_P sc fm) 471 47 (.iadd) (48) := ri_of (by decide +kernel) rfl
theorem wi_471_48 : ri (rt_P sc fm) 471 48 (.iaload) (49) := ri_of (by decide +kernel) rfl
theorem wi_471_49 : ri (rt_P sc fm) 471 49 (.iastore) (50) := ri_of (by decide +kernel) rfl
theorem wi_471_50 : ri (rt_P sc fm) 471 50 (.iinc 2 1) (53) := ri_of (by decide +kernel) rfl
theorem wi_471_53 : ri (rt_P sc fm) 471 53 (.goto (-25)) (56) := ri_of (by decide +kernel) rfl
theorem wi_471_56 : ri (rt_P sc fm) 471 56 (.iload_n 1) (57) := ri_of (by decide +kernel) rfl
theorem wi_471_57 : ri (rt_P sc fm) 471 57 (.ireturn) (58) := ri_of (by decide +kernel) rfl
theorem wi_471_7 : ri (rt_P sc fm) 471 7 (.iconst 0) (8) := ri_of (by decide +kernel) rfl
theorem wi_471_8 : ri (rt_P sc fm) 471 8 (.ireturn) (9) := ri_of (by decide +kernel) rfl
theorem wi_471_9 : ri (rt_P sc fm) 471 9 (.aload_n 0) (10) := ri_of (by decide +kernel) rfl
theorem wp_471_910 : rx_pt (rt_P sc fm) 471 910 = some (15, 110, .int) := (by decide +kernel : rt_pt 471 910 = some (15, 110, .int))
theorem wr_471 : rx_rt (rt_P sc fm) 471 = (some FieldType.int) := (by decide +kernel : rt_rt 471 = (some FieldType.int))
/-- MarkHouseModel.nextInput()I -/
def d_471 (n : Nat)  (c : cS) : Option (Int32 × cS) :=
  if (c.1 174 110) = 0 then
    some (0, c)
  else
    if ib 0 64 then
    lt ((c.1 252 (ix 0)) : Int32) (fun v3 =>
    lt (pI c 174 110 ((c.1 174 110) - 1)) (fun c5 =>
    Option.bind (whl (R := (cS)) (fun s8 : Int32 × cS =>
      if (s8.2.1 174 110) ≤ s8.1 then
        some (.inr s8.2)
      else
        if ib (s8.1 + 1) 64 then
        if ib s8.1 64 then
        lt (pI s8.2 252 (ix s8.1) (s8.2.1 252 (ix (s8.1 + 1)))) (fun c11 =>
        lt (s8.1 + 1 : Int32) (fun v14 =>
        some (.inl (v14, c11))))
        else none
        else none) n (0, c5))
    (fun x16 : cS =>
      some (v3, x16))))
    else none
theorem sp_471 {F Lo n : Nat}  {c y : cS} {w : cW} {K : Int32 × cS → Prop} {Q : ((Option Value) ⊕ String) → List va_E → Prop} (hw : rOK fm w) (hF : 0 ≤ F) (hLo : 0 ≤ Lo)  (h : wp (d_471 n  c) K) (hQ : ∀ r, K r → Q (.inl (some (.int r.1))) (hq false r.2 y w)) : rs (rt_P sc fm) 471 F Lo 0 [(0, .ref 174)] [] (hq false c y w) Q := by
  unfold d_471 at h
  obtain ⟨lv, elv⟩ : ∃ lv : rx_L, lv = [(0, .ref 174)] := ⟨_, rfl⟩
  rw [← elv]
  have l0 : rx_ld lv 0 = some (.ref 174) := by rw [elv]; rfl
  refine rs_aldn wi_471_0 l0 ?_
  refine dq_gi wi_471_1 wf_471_910 tf_174_110 ?_
  refine rs_ifne (tg := 9) wi_471_4 ⟨by decide, by decide⟩ (fun q => ?_) (fun q => ?_)
  ·
    have h := wp_neg h q
    refine rs_aldn wi_471_9 l0 ?_
    refine dq_gr wi_471_10 wf_471_314 tf_174_109 ?_
    refine rs_pure wi_471_13 rfl ?_
    refine rs_topi (v := 0) (by decide) ?_
    obtain ⟨g1, h⟩ := wp_gd h
    refine dq_iald wi_471_14 t_252 g1 ?_
    obtain ⟨v3, e4, h⟩ := wp_lt h
    refine rs_topi e4 ?_
    refine dl_istn wi_471_15 rfl (fun lv l1 t2 => ?_)
    have l0 := t2 _ _ (by decide) (Or.inl rfl) l0
    refine rs_aldn wi_471_16 l0 ?_
    refine rs_pure wi_471_17 rfl ?_
    refine dq_gi wi_471_18 wf_471_910 tf_174_110 ?_
    refine rs_pure wi_471_21 rfl ?_
    refine rs_topi (v := 1) (by decide) ?_
    refine rs_pure wi_471_22 rfl ?_
    obtain ⟨c5, e6, h⟩ := wp_lt h
    refine dq_pi wi_471_23 wp_471_910 tf_174_110 rfl rfl e6 ?_
    refine rs_pure wi_471_26 rfl ?_
    refine rs_topi (v := 0) (by decide) ?_
    refine dl_istn wi_471_27 rfl (fun lv l2 t7 => ?_)
    have l0 := t7 _ _ (by decide) (Or.inl rfl) l0
    have l1 := t7 _ _ (by decide) (Or.inl rfl) l1
    refine whl_ex (A := fun s8 : Int32 × cS => ∀ lv, rx_ld lv 0 = some (.ref 174) → rx_ld lv 1 = some (.int v3) → rx_ld lv 2 = some (.int s8.1) → rs (rt_P sc fm) 471 F Lo 28 lv [] (hq false s8.2 y w) Q) (B := (fun x16 : cS => ∀ lv, rx_ld lv 1 = some (.int v3) → rs (rt_P sc fm) 471 F Lo 56 lv [] (hq false x16 y w) Q)) ?_ ?_ _ _ (wp_bind h) _ l0 l1 l2
    · intro s8 h lv l0 l1 l2
      refine rs_ildn wi_471_28 l2 ?_
      refine rs_aldn wi_471_29 l0 ?_
      refine dq_gi wi_471_30 wf_471_910 tf_174_110 ?_
      refine rs_icge (tg := 56) wi_471_33 ⟨by decide, by decide⟩ (fun q => ?_) (fun q => ?_)
      ·
        have h := wp_pos h q
        exact h _ l1
      ·
        have h := wp_neg h q
        refine rs_aldn wi_471_36 l0 ?_
        refine dq_gr wi_471_37 wf_471_314 tf_174_109 ?_
        refine rs_ildn wi_471_40 l2 ?_
        refine rs_aldn wi_471_41 l0 ?_
        refine dq_gr wi_471_42 wf_471_314 tf_174_109 ?_
        refine rs_ildn wi_471_45 l2 ?_
        refine rs_pure wi_471_46 rfl ?_
        refine rs_topi (v := 1) (by decide) ?_
        refine rs_pure wi_471_47 rfl ?_
        obtain ⟨g9, h⟩ := wp_gd h
        refine dq_iald wi_471_48 t_252 g9 ?_
        obtain ⟨g10, h⟩ := wp_gd h
        obtain ⟨c11, e12, h⟩ := wp_lt h
        refine dq_iast wi_471_49 t_252 g10 e12 ?_
        obtain ⟨v14, e15, h⟩ := wp_lt h
        refine dl_inc wi_471_50 l2 rfl e15 (fun lv l2 t13 => ?_)
        have l0 := t13 _ _ (by decide) (Or.inl rfl) l0
        have l1 := t13 _ _ (by decide) (Or.inl rfl) l1
        refine rs_goto (tg := 28) wi_471_53 ⟨by decide, by decide⟩ ?_
        exact h _ l0 l1 l2
    ·
      intro x16 h lv l1
      refine rs_ildn wi_471_56 l1 ?_
      exact rs_iret wi_471_57 wr_471 rfl (hQ (v3, x16) h)
  ·
    have h := wp_pos h q
    refine rs_pure wi_471_7 rfl ?_
    refine rs_topi (v := 0) (by decide) ?_
    exact rs_iret wi_471_8 wr_471 rfl (hQ (0, c) h)
theorem wa_15_467 : rz_cn 15 (rx_yn (rt_P sc fm) 467).cls = true := (by decide +kernel : rz_cn 15 (rt_yn 467).cls = true)
theorem wc_472_946 : rx_ct (rt_P sc fm) 472 946 = some (0, 466, 1) := (by decide +kernel : rt_ct 472 946 = some (0, 466, 1))
theorem wc_472_961 : rx_ct (rt_P sc fm) 472 961 = some (0, 467, 2) := (by decide +kernel : rt_ct 472 961 = some (0, 467, 2))
theorem wf_472_173 : rx_ft (rt_P sc fm) 472 173 = some (15, 45) := (by decide +kernel : rt_ft 472 173 = some (15, 45))
theorem wf_472_194 : rx_ft (rt_P sc fm) 472 194 = some (15, 52) := (by decide +kernel : rt_ft 472 194 = some (15, 52))
theorem wf_472_197 : rx_ft (rt_P sc fm) 472 197 = some (15, 53) := (by decide +kernel : rt_ft 472 197 = some (15, 53))
theorem wf_472_323 : rx_ft (rt_P sc fm) 472 323 = some (15, 116) := (by decide +kernel : rt_ft 472 323 = some (15, 116))
theorem wi_472_0 : ri (rt_P sc fm) 472 0 (.bipush 8) (2) := ri_of (by decide +kernel) rfl
theorem wi_472_10 : ri (rt_P sc fm) 472 10 (.getfield 197) (13) := ri_of (by decide +kernel) rfl
theorem wi_472_13 : ri (rt_P sc fm) 472 13 (.iload_n 2) (14) := ri_of (by decide +kernel) rfl
theorem wi_472_14 : ri (rt_P sc fm) 472 14 (.iaload) (15) := ri_of (by decide +kernel) rfl
theorem wi_472_15 : ri (rt_P sc fm) 472 15 (.iadd) (16) := ri_of (by decide +kernel) rfl
theorem wi_472_16 : ri (rt_P sc fm) 472 16 (.istore_n 3) (17) := ri_of (by decide +kernel) rfl
theorem wi_472_17 : ri (rt_P sc fm) 472 17 (.aload_n 0) (18) := ri_of (by decide +kernel) rfl
theorem wi_472_18 : ri (rt_P sc fm) 472 18 (.getfield 173) (21) := ri_of (by decide +kernel) rfl
theorem wi_472_2 : ri (rt_P sc fm) 472 2 (.aload_n 0) (3) := ri_of (by decide +kernel) rfl
theorem wi_472_21 : ri (rt_P sc fm) 472 21 (.iload_n 3) (22) := ri_of (by decide +kernel) rfl
theorem wi_472_22 : ri (rt_P sc fm) 472 22 (.iaload) (23) := ri_of (by decide +kernel) rfl
theorem wi_472_23 : ri (rt_P sc fm) 472 23 (.istore 4) (25) := ri_of (by decide +kernel) rfl
theorem wi_472_25 : ri (rt_P sc fm) 472 25 (.aload_n 0) (26) := ri_of (by decide +kernel) rfl
theorem wi_472_26 : ri (rt_P sc fm) 472 26 (.getfield 323) (29) := ri_of (by decide +kernel) rfl
theorem wi_472_29 : ri (rt_P sc fm) 472 29 (.iload_n 1) (30) := ri_of (by decide +kernel) rfl
theorem wi_472_3 : ri (rt_P sc fm) 472 3 (.getfield 194) (6) := ri_of (by decide +kernel) rfl
theorem wi_472_30 : ri (rt_P sc fm) 472 30 (.dup2) (31) := ri_of (by decide +kernel) rfl
theorem wi_472_31 : ri (rt_P sc fm) 472 31 (.iaload) (32) := ri_of (by decide +kernel) rfl
theorem wi_472_32 : ri (rt_P sc fm) 472 32 (.iload 4) (34) := ri_of (by decide +kernel) rfl
theorem wi_472_34 : ri (rt_P sc fm) 472 34 (.isub) (35) := ri_of (by decide +kernel) rfl
theorem wi_472_35 : ri (rt_P sc fm) 472 35 (.iastore) (36) := ri_of (by decide +kernel) rfl
theorem wi_472_36 : ri (rt_P sc fm) 472 36 (.aload_n 0) (37) := ri_of (by decide +kernel) rfl
theorem wi_472_37 : ri (rt_P sc fm) 472 37 (.iload_n 3) (38) := ri_of (by decide +kernel) rfl
theorem wi_472_38 : ri (rt_P sc fm) 472 38 (.invokevirtual 946) (41) := ri_of (by decide +kernel) rfl
theorem wi_472_41 : ri (rt_P sc fm) 472 41 (.iconst 0) (42) := ri_of (by decide +kernel) rfl
theorem wi_472_42 : ri (rt_P sc fm) 472 42 (.istore 5) (44) := ri_of (by decide +kernel) rfl
theorem wi_472_44 : ri (rt_P sc fm) 472 44 (.iload 5) (46) := ri_of (by decide +kernel) rfl
theorem wi_472_46 : ri (rt_P sc fm) 472 46 (.iload 4) (48) := ri_of (by decide +kernel) rfl
theorem wi_472_48 : ri (rt_P sc fm) 472 48 (.if_icmp .ge 36) (51) := ri_of (by decide +kernel) rfl
theorem wi_472_51 : ri (rt_P sc fm) 472 51 (.aload_n 0) (52) := ri_of (by decide +kernel) rfl
theorem wi_472_52 : ri (rt_P sc fm) 472 52 (.bipush 16) (54) := ri_of (by decide +kernel) rfl
theorem wi_472_54 : ri (rt_P sc fm) 472 54 (.iload_n 1) (55) := ri_of (by decide +kernel) rfl
theorem wi_472_55 : ri (rt_P sc fm) 472 55 (.iconst 1) (56) := ri_of (by decide +kernel) rfl
theorem wi_472_56 : ri (rt_P sc fm) 472 56 (.iadd) (57) := ri_of (by decide +kernel) rfl
theorem wi_472_57 : ri (rt_P sc fm) 472 57 (.imul) (58) := ri_of (by decide +kernel) rfl
theorem wi_472_58 : ri (rt_P sc fm) 472 58 (.iload 5) (60) := ri_of (by decide +kernel) rfl
theorem wi_472_6 : ri (rt_P sc fm) 472 6 (.iload_n 2) (7) := ri_of (by decide +kernel) rfl
theorem wi_472_60 : ri (rt_P sc fm) 472 60 (.iadd) (61) := ri_of (by decide +kernel) rfl
theorem wi_472_61 : ri (rt_P sc fm) 472 61 (.bipush 16) (63) := ri_of (by decide +kernel) rfl
theorem wi_472_63 : ri (rt_P sc fm) 472 63 (.iload_n 1) (64) := ri_of (by decide +kernel) rfl
theorem wi_472_64 : ri (rt_P sc fm) 472 64 (.imul) (65) := ri_of (by decide +kernel) rfl
theorem wi_472_65 : ri (rt_P sc fm) 472 65 (.aload_n 0) (66) := ri_of (by decide +kernel) rfl
theorem wi_472_66 : ri (rt_P sc fm) 472 66 (.getfield 323) (69) := ri_of (by decide +kernel) rfl
theorem wi_472_69 : ri (rt_P sc fm) 472 69 (.iload_n 1) (70) := ri_of (by decide +kernel) rfl
theorem wi_472_7 : ri (rt_P sc fm) 472 7 (.iaload) (8) := ri_of (by decide +kernel) rfl
theorem wi_472_70 : ri (rt_P sc fm) 472 70 (.iaload) (71) := ri_of (by decide +kernel) rfl
theorem wi_472_71 : ri (rt_P sc fm) 472 71 (.iadd) (72) := ri_of (by decide +kernel) rfl
theorem wi_472_72 : ri (rt_P sc fm) 472 72 (.iload 5) (74) := ri_of (by decide +kernel) rfl
theorem wi_472_74 : ri (rt_P sc fm) 472 74 (.iadd) (75) := ri_of (by decide +kernel) rfl
theorem wi_472_75 : ri (rt_P sc fm) 472 75 (.invokevirtual 961) (78) := ri_of (by decide +kernel) rfl
theorem wi_472_78 : ri (rt_P sc fm) 472 78 (.iinc 5 1) (81) := ri_of (by decide +kernel) rfl
theorem wi_472_8 : ri (rt_P sc fm) 472 8 (.imul) (9) := ri_of (by decide +kernel) rfl
theorem wi_472_81 : ri (rt_P sc fm) 472 81 (.goto (-37)) (84) := ri_of (by decide +kernel) rfl
theorem wi_472_84 : ri (rt_P sc fm) 472 84 (.return_) (85) := ri_of (by decide +kernel) rfl
theorem wi_472_9 : ri (rt_P sc fm) 472 9 (.aload_n 0) (10) := ri_of (by decide +kernel) rfl
theorem wm_467 : rx_ml (rt_P sc fm) 467 = 4 := (by decide +kernel : rt_ml 467 = 4)
theorem wr_472 : rx_rt (rt_P sc fm) 472 = none := (by decide +kernel : rt_rt 472 = none)
/-- MarkHouseModel.calls(II)V -/
def d_472 (n : Nat) (a1 : Int32) (a2 : Int32) (c : cS) : Option (cS) :=
  if ib a2 3840 then
  if ib a2 3840 then
  lt (((8 * (c.1 214 (ix a2))) + (c.1 215 (ix a2))) : Int32) (fun v4 =>
  if ib v4 96 then
  lt ((c.1 207 (ix v4)) : Int32) (fun v8 =>
  if ib a1 12 then
  if ib a1 12 then
  lt (pI c 255 (ix a1) ((c.1 255 (ix a1)) - v8)) (fun c12 =>
  Option.bind (d_466 n v4 c12) (fun r14 =>
  Option.bind (whl (R := (cS)) (fun s16 : Int32 × cS =>
    if v8 ≤ s16.1 then
      some (.inr s16.2)
    else
      if ib a1 12 then
      Option.bind (d_467 n ((16 * (a1 + 1)) + s16.1) (((16 * a1) + (s16.2.1 255 (ix a1))) + s16.1) s16.2) (fun r18 =>
      lt (s16.1 + 1 : Int32) (fun v20 =>
      some (.inl (v20, r18))))
      else none) n (0, r14))
  (fun x22 : cS =>
    some x22)))
  else none
  else none)
  else none)
  else none
  else none
theorem sp_472 {F Lo n : Nat} {a1 : Int32} {a2 : Int32} {c y : cS} {w : cW} {K : cS → Prop} {Q : ((Option Value) ⊕ String) → List va_E → Prop} (hw : rOK fm w) (hF : 2 ≤ F) (hLo : 46 ≤ Lo)  (h : wp (d_472 n a1 a2 c) K) (hQ : ∀ r, K r → Q (.inl none) (hq false r y w)) : rs (rt_P sc fm) 472 F Lo 0 [(0, .ref 174), (1, .int a1), (2, .int a2)] [] (hq false c y w) Q := by
  unfold d_472 at h
  obtain ⟨lv, elv⟩ : ∃ lv : rx_L, lv = [(0, .ref 174), (1, .int a1), (2, .int a2)] := ⟨_, rfl⟩
  rw [← elv]
  have l0 : rx_ld lv 0 = some (.ref 174) := by rw [elv]; rfl
  have l1 : rx_ld lv 1 = some (.int a1) := by rw [elv]; rfl
  have l2 : rx_ld lv 2 = some (.int a2) := by rw [elv]; rfl
  refine rs_pure wi_472_0 rfl ?_
  refine rs_topi (v := 8) (by decide) ?_
  refine rs_aldn wi_472_2 l0 ?_
  refine dq_gr wi_472_3 wf_472_194 tf_174_52 ?_
  refine rs_ildn wi_472_6 l2 ?_
  obtain ⟨g1, h⟩ := wp_gd h
  refine dq_iald wi_472_7 t_214 g1 ?_
  refine rs_pure wi_472_8 rfl ?_
  refine rs_aldn wi_472_9 l0 ?_
  refine dq_gr wi_472_10 wf_472_197 tf_174_53 ?_
  refine rs_ildn wi_472_13 l2 ?_
  obtain ⟨g2, h⟩ := wp_gd h
  refine dq_iald wi_472_14 t_215 g2 ?_
  refine rs_pure wi_472_15 rfl ?_
  obtain ⟨v4, e5, h⟩ := wp_lt h
  refine rs_topi e5 ?_
  refine dl_istn wi_472_16 rfl (fun lv l3 t3 => ?_)
  have l0 := t3 _ _ (by decide) (Or.inl rfl) l0
  have l1 := t3 _ _ (by decide) (Or.inl rfl) l1
  refine rs_aldn wi_472_17 l0 ?_
  refine dq_gr wi_472_18 wf_472_173 tf_174_45 ?_
  refine rs_ildn wi_472_21 l3 ?_
  obtain ⟨g6, h⟩ := wp_gd h
  refine dq_iald wi_472_22 t_207 g6 ?_
  obtain ⟨v8, e9, h⟩ := wp_lt h
  refine rs_topi e9 ?_
  refine dl_ist wi_472_23 rfl (fun lv l4 t7 => ?_)
  have l0 := t7 _ _ (by decide) (Or.inl rfl) l0
  have l1 := t7 _ _ (by decide) (Or.inl rfl) l1
  have l3 := t7 _ _ (by decide) (Or.inl rfl) l3
  refine rs_aldn wi_472_25 l0 ?_
  refine dq_gr wi_472_26 wf_472_323 tf_174_116 ?_
  refine rs_ildn wi_472_29 l1 ?_
  refine rs_pure wi_472_30 rfl ?_
  obtain ⟨g10, h⟩ := wp_gd h
  refine dq_iald wi_472_31 t_255 g10 ?_
  refine rs_ild wi_472_32 l4 ?_
  refine rs_pure wi_472_34 rfl ?_
  obtain ⟨g11, h⟩ := wp_gd h
  obtain ⟨c12, e13, h⟩ := wp_lt h
  refine dq_iast wi_472_35 t_255 g11 e13 ?_
  refine rs_aldn wi_472_36 l0 ?_
  refine rs_ildn wi_472_37 l3 ?_
  refine rs_V wi_472_38 wc_472_946 rfl (dq_isa tf_174_0 wa_15_466) (Nat.le_trans (by decide) hF) (ml_le wm_466 (Nat.le_trans (by decide) hLo)) rfl (sp_466 hw (Nat.le_trans (by decide : 1 ≤ 2 - 1) (Nat.sub_le_sub_right hF 1)) (ml_sub wm_466 (Nat.le_trans (by decide : 23 ≤ 46 - 23) (Nat.sub_le_sub_right hLo 23))) (wp_bind h) (fun r14 h => rs_back0 ?_))
  refine rs_pure wi_472_41 rfl ?_
  refine rs_topi (v := 0) (by decide) ?_
  refine dl_ist wi_472_42 rfl (fun lv l5 t15 => ?_)
  have l0 := t15 _ _ (by decide) (Or.inl rfl) l0
  have l1 := t15 _ _ (by decide) (Or.inl rfl) l1
  have l4 := t15 _ _ (by decide) (Or.inl rfl) l4
  refine whl_ex (A := fun s16 : Int32 × cS => ∀ lv, rx_ld lv 0 = some (.ref 174) → rx_ld lv 1 = some (.int a1) → rx_ld lv 4 = some (.int v8) → rx_ld lv 5 = some (.int s16.1) → rs (rt_P sc fm) 472 F Lo 44 lv [] (hq false s16.2 y w) Q) (B := (fun x22 : cS => ∀ lv, rs (rt_P sc fm) 472 F Lo 84 lv [] (hq false x22 y w) Q)) ?_ ?_ _ _ (wp_bind h) _ l0 l1 l4 l5
  · intro s16 h lv l0 l1 l4 l5
    refine rs_ild wi_472_44 l5 ?_
    refine rs_ild wi_472_46 l4 ?_
    refine rs_icge (tg := 84) wi_472_48 ⟨by decide, by decide⟩ (fun q => ?_) (fun q => ?_)
    ·
      have h := wp_pos h q
      exact h _
    ·
      have h := wp_neg h q
      refine rs_aldn wi_472_51 l0 ?_
      refine rs_pure wi_472_52 rfl ?_
      refine rs_topi (v := 16) (by decide) ?_
      refine rs_ildn wi_472_54 l1 ?_
      refine rs_pure wi_472_55 rfl ?_
      refine rs_topi (v := 1) (by decide) ?_
      refine rs_pure wi_472_56 rfl ?_
      refine rs_pure wi_472_57 rfl ?_
      refine rs_ild wi_472_58 l5 ?_
      refine rs_pure wi_472_60 rfl ?_
      refine rs_pure wi_472_61 rfl ?_
      refine rs_topi (v := 16) (by decide) ?_
      refine rs_ildn wi_472_63 l1 ?_
      refine rs_pure wi_472_64 rfl ?_
      refine rs_aldn wi_472_65 l0 ?_
      refine dq_gr wi_472_66 wf_472_323 tf_174_116 ?_
      refine rs_ildn wi_472_69 l1 ?_
      obtain ⟨g17, h⟩ := wp_gd h
      refine dq_iald wi_472_70 t_255 g17 ?_
      refine rs_pure wi_472_71 rfl ?_
      refine rs_ild wi_472_72 l5 ?_
      refine rs_pure wi_472_74 rfl ?_
      refine rs_V wi_472_75 wc_472_961 rfl (dq_isa tf_174_0 wa_15_467) (Nat.le_trans (by decide) hF) (ml_le wm_467 (Nat.le_trans (by decide) hLo)) rfl (sp_467 hw (Nat.le_trans (by decide : 0 ≤ 2 - 1) (Nat.sub_le_sub_right hF 1)) (ml_sub wm_467 (Nat.le_trans (by decide : 0 ≤ 46 - 23) (Nat.sub_le_sub_right hLo 23))) (wp_bind h) (fun r18 h => rs_back0 ?_))
      obtain ⟨v20, e21, h⟩ := wp_lt h
      refine dl_inc wi_472_78 l5 rfl e21 (fun lv l5 t19 => ?_)
      have l0 := t19 _ _ (by decide) (Or.inl rfl) l0
      have l1 := t19 _ _ (by decide) (Or.inl rfl) l1
      have l4 := t19 _ _ (by decide) (Or.inl rfl) l4
      refine rs_goto (tg := 44) wi_472_81 ⟨by decide, by decide⟩ ?_
      exact h _ l0 l1 l4 l5
  ·
    intro x22 h lv
    exact rs_vret wi_472_84 wr_472 (hQ x22 h)
theorem t_260 : ta false 260 0 4 := ⟨rfl, by decide, by decide⟩
theorem tf_174_122 : fo false 174 15 122 (.ref 260) := ⟨_, rfl, rfl, by decide, by decide⟩
theorem wc_473_961 : rx_ct (rt_P sc fm) 473 961 = some (0, 467, 2) := (by decide +kernel : rt_ct 473 961 = some (0, 467, 2))
theorem wf_473_320 : rx_ft (rt_P sc fm) 473 320 = some (15, 115) := (by decide +kernel : rt_ft 473 320 = some (15, 115))
theorem wf_473_323 : rx_ft (rt_P sc fm) 473 323 = some (15, 116) := (by decide +kernel : rt_ft 473 323 = some (15, 116))
theorem wf_473_326 : rx_ft (rt_P sc fm) 473 326 = some (15, 117) := (by decide +kernel : rt_ft 473 326 = some (15, 117))
theorem wf_473_329 : rx_ft (rt_P sc fm) 473 329 = some (15, 118) := (by decide +kernel : rt_ft 473 329 = some (15, 118))
theorem wf_473_338 : rx_ft (rt_P sc fm) 473 338 = some (15, 122) := (by decide +kernel : rt_ft 473 338 = some (15, 122))
theorem wf_473_447 : rx_ft (rt_P sc fm) 473 447 = some (15, 15) := (by decide +kernel : rt_ft 473 447 = some (15, 15))
theorem wf_473_913 : rx_ft (rt_P sc fm) 473 913 = some (15, 113) := (by decide +kernel : rt_ft 473 913 = some (15, 113))
theorem wi_473_0 : ri (rt_P sc fm) 473 0 (.iload_n 1) (1) := ri_of (by decide +kernel) rfl
theorem wi_473_1 : ri (rt_P sc fm) 473 1 (.ifCond .ne 51) (4) := ri_of (by decide +kernel) rfl
theorem wi_473_10 : ri (rt_P sc fm) 473 10 (.aload_n 0) (11) := ri_of (by decide +kernel) rfl
theorem wi_473_100 : ri (rt_P sc fm) 473 100 (.iadd) (101) := ri_of (by decide +kernel) rfl
theorem wi_473_101 : ri (rt_P sc fm) 473 101 (.iastore) (102) := ri_of (by decide +kernel) rfl
theorem wi_473_102 : ri (rt_P sc fm) 473 102 (.return_) (103) := ri_of (by decide +kernel) rfl
theorem wi_473_11 : ri (rt_P sc fm) 473 11 (.getfield 326) (14) := ri_of (by decide +kernel) rfl
theorem wi_473_14 : ri (rt_P sc fm) 473 14 (.iload_n 2) (15) := ri_of (by decide +kernel) rfl
theorem wi_473_15 : ri (rt_P sc fm) 473 15 (.iaload) (16) := ri_of (by decide +kernel) rfl
theorem wi_473_16 : ri (rt_P sc fm) 473 16 (.putfield 922) (19) := ri_of (by decide +kernel) rfl
theorem wi_473_19 : ri (rt_P sc fm) 473 19 (.iconst 0) (20) := ri_of (by decide +kernel) rfl
theorem wi_473_20 : ri (rt_P sc fm) 473 20 (.istore_n 3) (21) := ri_of (by decide +kernel) rfl
theorem wi_473_21 : ri (rt_P sc fm) 473 21 (.iload_n 3) (22) := ri_of (by decide +kernel) rfl
theorem wi_473_22 : ri (rt_P sc fm) 473 22 (.aload_n 0) (23) := ri_of (by decide +kernel) rfl
theorem wi_473_23 : ri (rt_P sc fm) 473 23 (.getfield 447) (26) := ri_of (by decide +kernel) rfl
theorem wi_473_26 : ri (rt_P sc fm) 473 26 (.if_icmp .ge 25) (29) := ri_of (by decide +kernel) rfl
theorem wi_473_29 : ri (rt_P sc fm) 473 29 (.aload_n 0) (30) := ri_of (by decide +kernel) rfl
theorem wi_473_30 : ri (rt_P sc fm) 473 30 (.getfield 338) (33) := ri_of (by decide +kernel) rfl
theorem wi_473_33 : ri (rt_P sc fm) 473 33 (.iload_n 3) (34) := ri_of (by decide +kernel) rfl
theorem wi_473_34 : ri (rt_P sc fm) 473 34 (.aload_n 0) (35) := ri_of (by decide +kernel) rfl
theorem wi_473_35 : ri (rt_P sc fm) 473 35 (.getfield 329) (38) := ri_of (by decide +kernel) rfl
theorem wi_473_38 : ri (rt_P sc fm) 473 38 (.iconst 4) (39) := ri_of (by decide +kernel) rfl
theorem wi_473_39 : ri (rt_P sc fm) 473 39 (.iload_n 2) (40) := ri_of (by decide +kernel) rfl
theorem wi_473_4 : ri (rt_P sc fm) 473 4 (.aload_n 0) (5) := ri_of (by decide +kernel) rfl
theorem wi_473_40 : ri (rt_P sc fm) 473 40 (.imul) (41) := ri_of (by decide +kernel) rfl
theorem wi_473_41 : ri (rt_P sc fm) 473 41 (.iload_n 3) (42) := ri_of (by decide +kernel) rfl
theorem wi_473_42 : ri (rt_P sc fm) 473 42 (.iadd) (43) := ri_of (by decide +kernel) rfl
theorem wi_473_43 : ri (rt_P sc fm) 473 43 (.iaload) (44) := ri_of (by decide +kernel) rfl
theorem wi_473_44 : ri (rt_P sc fm) 473 44 (.iastore) (45) := ri_of (by decide +kernel) rfl
theorem wi_473_45 : ri (rt_P sc fm) 473 45 (.iinc 3 1) (48) := ri_of (by decide +kernel) rfl
theorem wi_473_48 : ri (rt_P sc fm) 473 48 (.goto (-27)) (51) := ri_of (by decide +kernel) rfl
theorem wi_473_5 : ri (rt_P sc fm) 473 5 (.iconst 2) (6) := ri_of (by decide +kernel) rfl
theorem wi_473_51 : ri (rt_P sc fm) 473 51 (.return_) (52) := ri_of (by decide +kernel) rfl
theorem wi_473_52 : ri (rt_P sc fm) 473 52 (.aload_n 0) (53) := ri_of (by decide +kernel) rfl
theorem wi_473_53 : ri (rt_P sc fm) 473 53 (.dup) (54) := ri_of (by decide +kernel) rfl
theorem wi_473_54 : ri (rt_P sc fm) 473 54 (.getfield 913) (57) := ri_of (by decide +kernel) rfl
theorem wi_473_57 : ri (rt_P sc fm) 473 57 (.iconst 1) (58) := ri_of (by decide +kernel) rfl
theorem wi_473_58 : ri (rt_P sc fm) 473 58 (.isub) (59) := ri_of (by decide +kernel) rfl
theorem wi_473_59 : ri (rt_P sc fm) 473 59 (.putfield 913) (62) := ri_of (by decide +kernel) rfl
theorem wi_473_6 : ri (rt_P sc fm) 473 6 (.putfield 897) (9) := ri_of (by decide +kernel) rfl
theorem wi_473_62 : ri (rt_P sc fm) 473 62 (.iload_n 1) (63) := ri_of (by decide +kernel) rfl
theorem wi_473_63 : ri (rt_P sc fm) 473 63 (.iconst 1) (64) := ri_of (by decide +kernel) rfl
theorem wi_473_64 : ri (rt_P sc fm) 473 64 (.isub) (65) := ri_of (by decide +kernel) rfl
theorem wi_473_65 : ri (rt_P sc fm) 473 65 (.istore_n 3) (66) := ri_of (by decide +kernel) rfl
theorem wi_473_66 : ri (rt_P sc fm) 473 66 (.aload_n 0) (67) := ri_of (by decide +kernel) rfl
theorem wi_473_67 : ri (rt_P sc fm) 473 67 (.bipush 16) (69) := ri_of (by decide +kernel) rfl
theorem wi_473_69 : ri (rt_P sc fm) 473 69 (.iload_n 3) (70) := ri_of (by decide +kernel) rfl
theorem wi_473_70 : ri (rt_P sc fm) 473 70 (.imul) (71) := ri_of (by decide +kernel) rfl
theorem wi_473_71 : ri (rt_P sc fm) 473 71 (.aload_n 0) (72) := ri_of (by decide +kernel) rfl
theorem wi_473_72 : ri (rt_P sc fm) 473 72 (.getfield 323) (75) := ri_of (by decide +kernel) rfl
theorem wi_473_75 : ri (rt_P sc fm) 473 75 (.iload_n 3) (76) := ri_of (by decide +kernel) rfl
theorem wi_473_76 : ri (rt_P sc fm) 473 76 (.iaload) (77) := ri_of (by decide +kernel) rfl
theorem wi_473_77 : ri (rt_P sc fm) 473 77 (.iadd) (78) := ri_of (by decide +kernel) rfl
theorem wi_473_78 : ri (rt_P sc fm) 473 78 (.iload_n 2) (79) := ri_of (by decide +kernel) rfl
theorem wi_473_79 : ri (rt_P sc fm) 473 79 (.invokevirtual 961) (82) := ri_of (by decide +kernel) rfl
theorem wi_473_82 : ri (rt_P sc fm) 473 82 (.aload_n 0) (83) := ri_of (by decide +kernel) rfl
theorem wi_473_83 : ri (rt_P sc fm) 473 83 (.getfield 323) (86) := ri_of (by decide +kernel) rfl
theorem wi_473_86 : ri (rt_P sc fm) 473 86 (.iload_n 3) (87) := ri_of (by decide +kernel) rfl
theorem wi_473_87 : ri (rt_P sc fm) 473 87 (.dup2) (88) := ri_of (by decide +kernel) rfl
theorem wi_473_88 : ri (rt_P sc fm) 473 88 (.iaload) (89) := ri_of (by decide +kernel) rfl
theorem wi_473_89 : ri (rt_P sc fm) 473 89 (.iconst 1) (90) := ri_of (by decide +kernel) rfl
theorem wi_473_9 : ri (rt_P sc fm) 473 9 (.aload_n 0) (10) := ri_of (by decide +kernel) rfl
theorem wi_473_90 : ri (rt_P sc fm) 473 90 (.iadd) (91) := ri_of (by decide +kernel) rfl
theorem wi_473_91 : ri (rt_P sc fm) 473 91 (.iastore) (92) := ri_of (by decide +kernel) rfl
theorem wi_473_92 : ri (rt_P sc fm) 473 92 (.aload_n 0) (93) := ri_of (by decide +kernel) rfl
theorem wi_473_93 : ri (rt_P sc fm) 473 93 (.getfield 320) (96) := ri_of (by decide +kernel) rfl
theorem wi_473_96 : ri (rt_P sc fm) 473 96 (.iload_n 3) (97) := ri_of (by decide +kernel) rfl
theorem wi_473_97 : ri (rt_P sc fm) 473 97 (.dup2) (98) := ri_of (by decide +kernel) rfl
theorem wi_473_98 : ri (rt_P sc fm) 473 98 (.iaload) (99) := ri_of (by decide +kernel) rfl
theorem wi_473_99 : ri (rt_P sc fm) 473 99 (.iconst 1) (100) := ri_of (by decide +kernel) rfl
theorem wp_473_897 : rx_pt (rt_P sc fm) 473 897 = some (15, 111, .int) := (by decide +kernel : rt_pt 473 897 = some (15, 111, .int))
theorem wp_473_913 : rx_pt (rt_P sc fm) 473 913 = some (15, 113, .int) := (by decide +kernel : rt_pt 473 913 = some (15, 113, .int))
theorem wp_473_922 : rx_pt (rt_P sc fm) 473 922 = some (15, 121, .int) := (by decide +kernel : rt_pt 473 922 = some (15, 121, .int))
theorem wr_473 : rx_rt (rt_P sc fm) 473 = none := (by decide +kernel : rt_rt 473 = none)
/-- MarkHouseModel.gives(II)V -/
def d_473 (n : Nat) (a1 : Int32) (a2 : Int32) (c : cS) : Option (cS) :=
  if a1 = 0 then
    lt (pI c 174 111 2) (fun c16 =>
    if ib a2 192 then
    lt (pI c16 174 121 (c16.1 256 (ix a2))) (fun c19 =>
    Option.bind (whl (R := (cS)) (fun s22 : Int32 × cS =>
      if (s22.2.1 174 15) ≤ s22.1 then
        some (.inr s22.2)
      else
        if ib ((4 * a2) + s22.1) 768 then
        if ib s22.1 4 then
        lt (pI s22.2 260 (ix s22.1) (s22.2.1 257 (ix ((4 * a2) + s22.1)))) (fun c25 =>
        lt (s22.1 + 1 : Int32) (fun v28 =>
        some (.inl (v28, c25))))
        else none
        else none) n (0, c19))
    (fun x30 : cS =>
      some x30))
    else none)
  else
    lt (pI c 174 113 ((c.1 174 113) - 1)) (fun c1 =>
    lt ((a1 - 1) : Int32) (fun v4 =>
    if ib v4 12 then
    Option.bind (d_467 n ((16 * v4) + (c1.1 255 (ix v4))) a2 c1) (fun r7 =>
    if ib v4 12 then
    if ib v4 12 then
    lt (pI r7 255 (ix v4) ((r7.1 255 (ix v4)) + 1)) (fun c10 =>
    if ib v4 12 then
    if ib v4 12 then
    lt (pI c10 254 (ix v4) ((c10.1 254 (ix v4)) + 1)) (fun c14 =>
    some c14)
    else none
    else none)
    else none
    else none)
    else none))
theorem sp_473 {F Lo n : Nat} {a1 : Int32} {a2 : Int32} {c y : cS} {w : cW} {K : cS → Prop} {Q : ((Option Value) ⊕ String) → List va_E → Prop} (hw : rOK fm w) (hF : 1 ≤ F) (hLo : 23 ≤ Lo)  (h : wp (d_473 n a1 a2 c) K) (hQ : ∀ r, K r → Q (.inl none) (hq false r y w)) : rs (rt_P sc fm) 473 F Lo 0 [(0, .ref 174), (1, .int a1), (2, .int a2)] [] (hq false c y w) Q := by
  unfold d_473 at h
  obtain ⟨lv, elv⟩ : ∃ lv : rx_L, lv = [(0, .ref 174), (1, .int a1), (2, .int a2)] := ⟨_, rfl⟩
  rw [← elv]
  have l0 : rx_ld lv 0 = some (.ref 174) := by rw [elv]; rfl
  have l1 : rx_ld lv 1 = some (.int a1) := by rw [elv]; rfl
  have l2 : rx_ld lv 2 = some (.int a2) := by rw [elv]; rfl
  refine rs_ildn wi_473_0 l1 ?_
  refine rs_ifne (tg := 52) wi_473_1 ⟨by decide, by decide⟩ (fun q => ?_) (fun q => ?_)
  ·
    have h := wp_neg h q
    refine rs_aldn wi_473_52 l0 ?_
    refine rs_pure wi_473_53 rfl ?_
    refine dq_gi wi_473_54 wf_473_913 tf_174_113 ?_
    refine rs_pure wi_473_57 rfl ?_
    refine rs_topi (v := 1) (by decide) ?_
    refine rs_pure wi_473_58 rfl ?_
    obtain ⟨c1, e2, h⟩ := wp_lt h
    refine dq_pi wi_473_59 wp_473_913 tf_174_113 rfl rfl e2 ?_
    refine rs_ildn wi_473_62 l1 ?_
    refine rs_pure wi_473_63 rfl ?_
    refine rs_topi (v := 1) (by decide) ?_
    refine rs_pure wi_473_64 rfl ?_
    obtain ⟨v4, e5, h⟩ := wp_lt h
    refine rs_topi e5 ?_
    refine dl_istn wi_473_65 rfl (fun lv l3 t3 => ?_)
    have l0 := t3 _ _ (by decide) (Or.inl rfl) l0
    have l2 := t3 _ _ (by decide) (Or.inl rfl) l2
    refine rs_aldn wi_473_66 l0 ?_
    refine rs_pure wi_473_67 rfl ?_
    refine rs_topi (v := 16) (by decide) ?_
    refine rs_ildn wi_473_69 l3 ?_
    refine rs_pure wi_473_70 rfl ?_
    refine rs_aldn wi_473_71 l0 ?_
    refine dq_gr wi_473_72 wf_473_323 tf_174_116 ?_
    refine rs_ildn wi_473_75 l3 ?_
    obtain ⟨g6, h⟩ := wp_gd h
    refine dq_iald wi_473_76 t_255 g6 ?_
    refine rs_pure wi_473_77 rfl ?_
    refine rs_ildn wi_473_78 l2 ?_
    refine rs_V wi_473_79 wc_473_961 rfl (dq_isa tf_174_0 wa_15_467) (Nat.le_trans (by decide) hF) (ml_le wm_467 (Nat.le_trans (by decide) hLo)) rfl (sp_467 hw (Nat.le_trans (by decide : 0 ≤ 1 - 1) (Nat.sub_le_sub_right hF 1)) (ml_sub wm_467 (Nat.le_trans (by decide : 0 ≤ 23 - 23) (Nat.sub_le_sub_right hLo 23))) (wp_bind h) (fun r7 h => rs_back0 ?_))
    refine rs_aldn wi_473_82 l0 ?_
    refine dq_gr wi_473_83 wf_473_323 tf_174_116 ?_
    refine rs_ildn wi_473_86 l3 ?_
    refine rs_pure wi_473_87 rfl ?_
    obtain ⟨g8, h⟩ := wp_gd h
    refine dq_iald wi_473_88 t_255 g8 ?_
    refine rs_pure wi_473_89 rfl ?_
    refine rs_topi (v := 1) (by decide) ?_
    refine rs_pure wi_473_90 rfl ?_
    obtain ⟨g9, h⟩ := wp_gd h
    obtain ⟨c10, e11, h⟩ := wp_lt h
    refine dq_iast wi_473_91 t_255 g9 e11 ?_
    refine rs_aldn wi_473_92 l0 ?_
    refine dq_gr wi_473_93 wf_473_320 tf_174_115 ?_
    refine rs_ildn wi_473_96 l3 ?_
    refine rs_pure wi_473_97 rfl ?_
    obtain ⟨g12, h⟩ := wp_gd h
    refine dq_iald wi_473_98 t_254 g12 ?_
    refine rs_pure wi_473_99 rfl ?_
    refine rs_topi (v := 1) (by decide) ?_
    refine rs_pure wi_473_100 rfl ?_
    obtain ⟨g13, h⟩ := wp_gd h
    obtain ⟨c14, e15, h⟩ := wp_lt h
    refine dq_iast wi_473_101 t_254 g13 e15 ?_
    exact rs_vret wi_473_102 wr_473 (hQ c14 h)
  ·
    have h := wp_pos h q
    refine rs_aldn wi_473_4 l0 ?_
    refine rs_pure wi_473_5 rfl ?_
    refine rs_topi (v := 2) (by decide) ?_
    obtain ⟨c16, e17, h⟩ := wp_lt h
    refine dq_pi wi_473_6 wp_473_897 tf_174_111 rfl rfl e17 ?_
    refine rs_aldn wi_473_9 l0 ?_
    refine rs_aldn wi_473_10 l0 ?_
    refine dq_gr wi_473_11 wf_473_326 tf_174_117 ?_
    refine rs_ildn wi_473_14 l2 ?_
    obtain ⟨g18, h⟩ := wp_gd h
    refine dq_iald wi_473_15 t_256 g18 ?_
    obtain ⟨c19, e20, h⟩ := wp_lt h
    refine dq_pi wi_473_16 wp_473_922 tf_174_121 rfl rfl e20 ?_
    refine rs_pure wi_473_19 rfl ?_
    refine rs_topi (v := 0) (by decide) ?_
    refine dl_istn wi_473_20 rfl (fun lv l3 t21 => ?_)
    have l0 := t21 _ _ (by decide) (Or.inl rfl) l0
    have l2 := t21 _ _ (by decide) (Or.inl rfl) l2
    refine whl_ex (A := fun s22 : Int32 × cS => ∀ lv, rx_ld lv 0 = some (.ref 174) → rx_ld lv 2 = some (.int a2) → rx_ld lv 3 = some (.int s22.1) → rs (rt_P sc fm) 473 F Lo 21 lv [] (hq false s22.2 y w) Q) (B := (fun x30 : cS => ∀ lv, rs (rt_P sc fm) 473 F Lo 51 lv [] (hq false x30 y w) Q)) ?_ ?_ _ _ (wp_bind h) _ l0 l2 l3
    · intro s22 h lv l0 l2 l3
      refine rs_ildn wi_473_21 l3 ?_
      refine rs_aldn wi_473_22 l0 ?_
      refine dq_gi wi_473_23 wf_473_447 tf_174_15 ?_
      refine rs_icge (tg := 51) wi_473_26 ⟨by decide, by decide⟩ (fun q => ?_) (fun q => ?_)
      ·
        have h := wp_pos h q
        exact h _
      ·
        have h := wp_neg h q
        refine rs_aldn wi_473_29 l0 ?_
        refine dq_gr wi_473_30 wf_473_338 tf_174_122 ?_
        refine rs_ildn wi_473_33 l3 ?_
        refine rs_aldn wi_473_34 l0 ?_
        refine dq_gr wi_473_35 wf_473_329 tf_174_118 ?_
        refine rs_pure wi_473_38 rfl ?_
        refine rs_topi (v := 4) (by decide) ?_
        refine rs_ildn wi_473_39 l2 ?_
        refine rs_pure wi_473_40 rfl ?_
        refine rs_ildn wi_473_41 l3 ?_
        refine rs_pure wi_473_42 rfl ?_
        obtain ⟨g23, h⟩ := wp_gd h
        refine dq_iald wi_473_43 t_257 g23 ?_
        obtain ⟨g24, h⟩ := wp_gd h
        obtain ⟨c25, e26, h⟩ := wp_lt h
        refine dq_iast wi_473_44 t_260 g24 e26 ?_
        obtain ⟨v28, e29, h⟩ := wp_lt h
        refine dl_inc wi_473_45 l3 rfl e29 (fun lv l3 t27 => ?_)
        have l0 := t27 _ _ (by decide) (Or.inl rfl) l0
        have l2 := t27 _ _ (by decide) (Or.inl rfl) l2
        refine rs_goto (tg := 21) wi_473_48 ⟨by decide, by decide⟩ ?_
        exact h _ l0 l2 l3
    ·
      intro x30 h lv
      exact rs_vret wi_473_51 wr_473 (hQ x30 h)
theorem wa_15_471 : rz_cn 15 (rx_yn (rt_P sc fm) 471).cls = true := (by decide +kernel : rz_cn 15 (rt_yn 471).cls = true)
theorem wa_15_472 : rz_cn 15 (rx_yn (rt_P sc fm) 472).cls = true := (by decide +kernel : rz_cn 15 (rt_yn 472).cls = true)
theorem wa_15_473 : rz_cn 15 (rx_yn (rt_P sc fm) 473).cls = true := (by decide +kernel : rz_cn 15 (rt_yn 473).cls = true)
theorem wc_470_535 : rx_ct (rt_P sc fm) 470 535 = some (0, 387, 3) := (by decide +kernel : rt_ct 470 535 = some (0, 387, 3))
theorem wc_470_626 : rx_ct (rt_P sc fm) 470 626 = some (0, 417, 1) := (by decide +kernel : rt_ct 470 626 = some (0, 417, 1))
theorem wc_470_629 : rx_ct (rt_P sc fm) 470 629 = some (0, 418, 1) := (by decide +kernel : rt_ct 470 629 = some (0, 418, 1))
theorem wc_470_727 : rx_ct (rt_P sc fm) 470 727 = some (0, 390, 3) := (by decide +kernel : rt_ct 470 727 = some (0, 390, 3))
theorem wc_470_916 : rx_ct (rt_P sc fm) 470 916 = some (0, 138, 2) := (by decide +kernel : rt_ct 470 916 = some (0, 138, 2))
theorem wc_470_958 : rx_ct (rt_P sc fm) 470 958 = some (0, 471, 0) := (by decide +kernel : rt_ct 470 958 = some (0, 471, 0))
theorem wc_470_961 : rx_ct (rt_P sc fm) 470 961 = some (0, 467, 2) := (by decide +kernel : rt_ct 470 961 = some (0, 467, 2))
theorem wc_470_964 : rx_ct (rt_P sc fm) 470 964 = some (0, 472, 2) := (by decide +kernel : rt_ct 470 964 = some (0, 472, 2))
theorem wc_470_967 : rx_ct (rt_P sc fm) 470 967 = some (0, 473, 2) := (by decide +kernel : rt_ct 470 967 = some (0, 473, 2))
theorem wf_470_185 : rx_ft (rt_P sc fm) 470 185 = some (15, 49) := (by decide +kernel : rt_ft 470 185 = some (15, 49))
theorem wf_470_194 : rx_ft (rt_P sc fm) 470 194 = some (15, 52) := (by decide +kernel : rt_ft 470 194 = some (15, 52))
theorem wf_470_197 : rx_ft (rt_P sc fm) 470 197 = some (15, 53) := (by decide +kernel : rt_ft 470 197 = some (15, 53))
theorem wf_470_200 : rx_ft (rt_P sc fm) 470 200 = some (15, 54) := (by decide +kernel : rt_ft 470 200 = some (15, 54))
theorem wf_470_209 : rx_ft (rt_P sc fm) 470 209 = some (15, 57) := (by decide +kernel : rt_ft 470 209 = some (15, 57))
theorem wf_470_212 : rx_ft (rt_P sc fm) 470 212 = some (15, 58) := (by decide +kernel : rt_ft 470 212 = some (15, 58))
theorem wf_470_215 : rx_ft (rt_P sc fm) 470 215 = some (15, 59) := (by decide +kernel : rt_ft 470 215 = some (15, 59))
theorem wf_470_320 : rx_ft (rt_P sc fm) 470 320 = some (15, 115) := (by decide +kernel : rt_ft 470 320 = some (15, 115))
theorem wf_470_323 : rx_ft (rt_P sc fm) 470 323 = some (15, 116) := (by decide +kernel : rt_ft 470 323 = some (15, 116))
theorem wf_470_326 : rx_ft (rt_P sc fm) 470 326 = some (15, 117) := (by decide +kernel : rt_ft 470 326 = some (15, 117))
theorem wf_470_329 : rx_ft (rt_P sc fm) 470 329 = some (15, 118) := (by decide +kernel : rt_ft 470 329 = some (15, 118))
theorem wf_470_332 : rx_ft (rt_P sc fm) 470 332 = some (15, 119) := (by decide +kernel : rt_ft 470 332 = some (15, 119))
theorem wf_470_335 : rx_ft (rt_P sc fm) 470 335 = some (15, 120) := (by decide +kernel : rt_ft 470 335 = some (15, 120))
theorem wf_470_447 : rx_ft (rt_P sc fm) 470 447 = some (15, 15) := (by decide +kernel : rt_ft 470 447 = some (15, 15))
theorem wf_470_940 : rx_ft (rt_P sc fm) 470 940 = some (15, 128) := (by decide +kernel : rt_ft 470 940 = some (15, 128))
theorem wi_470_0 : ri (rt_P sc fm) 470 0 (.bipush 16) (2) := ri_of (by decide +kernel) rfl
theorem wi_470_10 : ri (rt_P sc fm) 470 10 (.iload_n 1) (11) := ri_of (by decide +kernel) rfl
theorem wi_470_108 : ri (rt_P sc fm) 470 108 (.aload_n 0) (109) := ri_of (by decide +kernel) rfl
theorem wi_470_109 : ri (rt_P sc fm) 470 109 (.iload 4) (111) := ri_of (by decide +kernel) rfl
theorem wi_470_11 : ri (rt_P sc fm) 470 11 (.iaload) (12) := ri_of (by decide +kernel) rfl
theorem wi_470_111 : ri (rt_P sc fm) 470 111 (.aload_n 0) (112) := ri_of (by decide +kernel) rfl
theorem wi_470_112 : ri (rt_P sc fm) 470 112 (.getfield 185) (115) := ri_of (by decide +kernel) rfl
theorem wi_470_115 : ri (rt_P sc fm) 470 115 (.iload_n 2) (116) := ri_of (by decide +kernel) rfl
theorem wi_470_116 : ri (rt_P sc fm) 470 116 (.iaload) (117) := ri_of (by decide +kernel) rfl
theorem wi_470_117 : ri (rt_P sc fm) 470 117 (.bipush 14) (119) := ri_of (by decide +kernel) rfl
theorem wi_470_119 : ri (rt_P sc fm) 470 119 (.if_icmp .ne 12) (122) := ri_of (by decide +kernel) rfl
theorem wi_470_12 : ri (rt_P sc fm) 470 12 (.iadd) (13) := ri_of (by decide +kernel) rfl
theorem wi_470_122 : ri (rt_P sc fm) 470 122 (.aload_n 0) (123) := ri_of (by decide +kernel) rfl
theorem wi_470_123 : ri (rt_P sc fm) 470 123 (.getfield 194) (126) := ri_of (by decide +kernel) rfl
theorem wi_470_126 : ri (rt_P sc fm) 470 126 (.iload_n 2) (127) := ri_of (by decide +kernel) rfl
theorem wi_470_127 : ri (rt_P sc fm) 470 127 (.iaload) (128) := ri_of (by decide +kernel) rfl
theorem wi_470_128 : ri (rt_P sc fm) 470 128 (.goto 7) (131) := ri_of (by decide +kernel) rfl
theorem wi_470_13 : ri (rt_P sc fm) 470 13 (.istore 4) (15) := ri_of (by decide +kernel) rfl
theorem wi_470_131 : ri (rt_P sc fm) 470 131 (.aload_n 0) (132) := ri_of (by decide +kernel) rfl
theorem wi_470_132 : ri (rt_P sc fm) 470 132 (.invokevirtual 958) (135) := ri_of (by decide +kernel) rfl
theorem wi_470_135 : ri (rt_P sc fm) 470 135 (.invokevirtual 916) (138) := ri_of (by decide +kernel) rfl
theorem wi_470_138 : ri (rt_P sc fm) 470 138 (.iconst 0) (139) := ri_of (by decide +kernel) rfl
theorem wi_470_139 : ri (rt_P sc fm) 470 139 (.istore 6) (141) := ri_of (by decide +kernel) rfl
theorem wi_470_141 : ri (rt_P sc fm) 470 141 (.iload 6) (143) := ri_of (by decide +kernel) rfl
theorem wi_470_143 : ri (rt_P sc fm) 470 143 (.aload_n 0) (144) := ri_of (by decide +kernel) rfl
theorem wi_470_144 : ri (rt_P sc fm) 470 144 (.getfield 209) (147) := ri_of (by decide +kernel) rfl
theorem wi_470_147 : ri (rt_P sc fm) 470 147 (.iload_n 2) (148) := ri_of (by decide +kernel) rfl
theorem wi_470_148 : ri (rt_P sc fm) 470 148 (.iaload) (149) := ri_of (by decide +kernel) rfl
theorem wi_470_149 : ri (rt_P sc fm) 470 149 (.if_icmp .ge 41) (152) := ri_of (by decide +kernel) rfl
theorem wi_470_15 : ri (rt_P sc fm) 470 15 (.iconst (-1)) (16) := ri_of (by decide +kernel) rfl
theorem wi_470_152 : ri (rt_P sc fm) 470 152 (.aload_n 0) (153) := ri_of (by decide +kernel) rfl
theorem wi_470_153 : ri (rt_P sc fm) 470 153 (.getfield 329) (156) := ri_of (by decide +kernel) rfl
theorem wi_470_156 : ri (rt_P sc fm) 470 156 (.iconst 4) (157) := ri_of (by decide +kernel) rfl
theorem wi_470_157 : ri (rt_P sc fm) 470 157 (.iload 4) (159) := ri_of (by decide +kernel) rfl
theorem wi_470_159 : ri (rt_P sc fm) 470 159 (.imul) (160) := ri_of (by decide +kernel) rfl
theorem wi_470_16 : ri (rt_P sc fm) 470 16 (.istore 5) (18) := ri_of (by decide +kernel) rfl
theorem wi_470_160 : ri (rt_P sc fm) 470 160 (.aload_n 0) (161) := ri_of (by decide +kernel) rfl
theorem wi_470_161 : ri (rt_P sc fm) 470 161 (.getfield 212) (164) := ri_of (by decide +kernel) rfl
theorem wi_470_164 : ri (rt_P sc fm) 470 164 (.iconst 4) (165) := ri_of (by decide +kernel) rfl
theorem wi_470_165 : ri (rt_P sc fm) 470 165 (.iload_n 2) (166) := ri_of (by decide +kernel) rfl
theorem wi_470_166 : ri (rt_P sc fm) 470 166 (.imul) (167) := ri_of (by decide +kernel) rfl
theorem wi_470_167 : ri (rt_P sc fm) 470 167 (.iload 6) (169) := ri_of (by decide +kernel) rfl
theorem wi_470_169 : ri (rt_P sc fm) 470 169 (.iadd) (170) := ri_of (by decide +kernel) rfl
theorem wi_470_170 : ri (rt_P sc fm) 470 170 (.iaload) (171) := ri_of (by decide +kernel) rfl
theorem wi_470_171 : ri (rt_P sc fm) 470 171 (.iadd) (172) := ri_of (by decide +kernel) rfl
theorem wi_470_172 : ri (rt_P sc fm) 470 172 (.aload_n 0) (173) := ri_of (by decide +kernel) rfl
theorem wi_470_173 : ri (rt_P sc fm) 470 173 (.getfield 215) (176) := ri_of (by decide +kernel) rfl
theorem wi_470_176 : ri (rt_P sc fm) 470 176 (.iconst 4) (177) := ri_of (by decide +kernel) rfl
theorem wi_470_177 : ri (rt_P sc fm) 470 177 (.iload_n 2) (178) := ri_of (by decide +kernel) rfl
theorem wi_470_178 : ri (rt_P sc fm) 470 178 (.imul) (179) := ri_of (by decide +kernel) rfl
theorem wi_470_179 : ri (rt_P sc fm) 470 179 (.iload 6) (181) := ri_of (by decide +kernel) rfl
theorem wi_470_18 : ri (rt_P sc fm) 470 18 (.aload_n 0) (19) := ri_of (by decide +kernel) rfl
theorem wi_470_181 : ri (rt_P sc fm) 470 181 (.iadd) (182) := ri_of (by decide +kernel) rfl
theorem wi_470_182 : ri (rt_P sc fm) 470 182 (.iaload) (183) := ri_of (by decide +kernel) rfl
theorem wi_470_183 : ri (rt_P sc fm) 470 183 (.iastore) (184) := ri_of (by decide +kernel) rfl
theorem wi_470_184 : ri (rt_P sc fm) 470 184 (.iinc 6 1) (187) := ri_of (by decide +kernel) rfl
theorem wi_470_187 : ri (rt_P sc fm) 470 187 (.goto (-46)) (190) := ri_of (by decide +kernel) rfl
theorem wi_470_19 : ri (rt_P sc fm) 470 19 (.getfield 185) (22) := ri_of (by decide +kernel) rfl
theorem wi_470_190 : ri (rt_P sc fm) 470 190 (.goto 529) (193) := ri_of (by decide +kernel) rfl
theorem wi_470_193 : ri (rt_P sc fm) 470 193 (.aload_n 0) (194) := ri_of (by decide +kernel) rfl
theorem wi_470_194 : ri (rt_P sc fm) 470 194 (.iload 4) (196) := ri_of (by decide +kernel) rfl
theorem wi_470_196 : ri (rt_P sc fm) 470 196 (.iload_n 3) (197) := ri_of (by decide +kernel) rfl
theorem wi_470_197 : ri (rt_P sc fm) 470 197 (.aload_n 0) (198) := ri_of (by decide +kernel) rfl
theorem wi_470_198 : ri (rt_P sc fm) 470 198 (.getfield 194) (201) := ri_of (by decide +kernel) rfl
theorem wi_470_2 : ri (rt_P sc fm) 470 2 (.iload_n 1) (3) := ri_of (by decide +kernel) rfl
theorem wi_470_201 : ri (rt_P sc fm) 470 201 (.iload_n 2) (202) := ri_of (by decide +kernel) rfl
theorem wi_470_202 : ri (rt_P sc fm) 470 202 (.iaload) (203) := ri_of (by decide +kernel) rfl
theorem wi_470_203 : ri (rt_P sc fm) 470 203 (.iadd) (204) := ri_of (by decide +kernel) rfl
theorem wi_470_204 : ri (rt_P sc fm) 470 204 (.invokevirtual 961) (207) := ri_of (by decide +kernel) rfl
theorem wi_470_207 : ri (rt_P sc fm) 470 207 (.goto 512) (210) := ri_of (by decide +kernel) rfl
theorem wi_470_210 : ri (rt_P sc fm) 470 210 (.aload_n 0) (211) := ri_of (by decide +kernel) rfl
theorem wi_470_211 : ri (rt_P sc fm) 470 211 (.iload_n 3) (212) := ri_of (by decide +kernel) rfl
theorem wi_470_212 : ri (rt_P sc fm) 470 212 (.aload_n 0) (213) := ri_of (by decide +kernel) rfl
theorem wi_470_213 : ri (rt_P sc fm) 470 213 (.getfield 194) (216) := ri_of (by decide +kernel) rfl
theorem wi_470_216 : ri (rt_P sc fm) 470 216 (.iload_n 2) (217) := ri_of (by decide +kernel) rfl
theorem wi_470_217 : ri (rt_P sc fm) 470 217 (.iaload) (218) := ri_of (by decide +kernel) rfl
theorem wi_470_218 : ri (rt_P sc fm) 470 218 (.iadd) (219) := ri_of (by decide +kernel) rfl
theorem wi_470_219 : ri (rt_P sc fm) 470 219 (.iload 4) (221) := ri_of (by decide +kernel) rfl
theorem wi_470_22 : ri (rt_P sc fm) 470 22 (.iload_n 2) (23) := ri_of (by decide +kernel) rfl
theorem wi_470_221 : ri (rt_P sc fm) 470 221 (.iconst 1) (222) := ri_of (by decide +kernel) rfl
theorem wi_470_222 : ri (rt_P sc fm) 470 222 (.isub) (223) := ri_of (by decide +kernel) rfl
theorem wi_470_223 : ri (rt_P sc fm) 470 223 (.invokevirtual 961) (226) := ri_of (by decide +kernel) rfl
theorem wi_470_226 : ri (rt_P sc fm) 470 226 (.goto 493) (229) := ri_of (by decide +kernel) rfl
theorem wi_470_229 : ri (rt_P sc fm) 470 229 (.aload_n 0) (230) := ri_of (by decide +kernel) rfl
theorem wi_470_23 : ri (rt_P sc fm) 470 23 (.iaload) (24) := ri_of (by decide +kernel) rfl
theorem wi_470_230 : ri (rt_P sc fm) 470 230 (.getfield 326) (233) := ri_of (by decide +kernel) rfl
theorem wi_470_233 : ri (rt_P sc fm) 470 233 (.iload 4) (235) := ri_of (by decide +kernel) rfl
theorem wi_470_235 : ri (rt_P sc fm) 470 235 (.aload_n 0) (236) := ri_of (by decide +kernel) rfl
theorem wi_470_236 : ri (rt_P sc fm) 470 236 (.getfield 332) (239) := ri_of (by decide +kernel) rfl
theorem wi_470_239 : ri (rt_P sc fm) 470 239 (.bipush 8) (241) := ri_of (by decide +kernel) rfl
theorem wi_470_24 : ri (rt_P sc fm) 470 24 (.tableswitch 695 14 30 #[84, 84, 169, 186, 205, 292, 695, 695, 383, 383, 383, 526, 695, 539, 550, 573, 621]) (24 + rx_len (.tableswitch 695 14 30 #[84, 84, 169, 186, 205, 292, 695, 695, 383, 383, 383, 526, 695, 539, 550, 573, 621])) := ri_of (by decide +kernel) rfl
theorem wi_470_241 : ri (rt_P sc fm) 470 241 (.aload_n 0) (242) := ri_of (by decide +kernel) rfl
theorem wi_470_242 : ri (rt_P sc fm) 470 242 (.getfield 194) (245) := ri_of (by decide +kernel) rfl
theorem wi_470_245 : ri (rt_P sc fm) 470 245 (.iload_n 2) (246) := ri_of (by decide +kernel) rfl
theorem wi_470_246 : ri (rt_P sc fm) 470 246 (.iaload) (247) := ri_of (by decide +kernel) rfl
theorem wi_470_247 : ri (rt_P sc fm) 470 247 (.imul) (248) := ri_of (by decide +kernel) rfl
theorem wi_470_248 : ri (rt_P sc fm) 470 248 (.aload_n 0) (249) := ri_of (by decide +kernel) rfl
theorem wi_470_249 : ri (rt_P sc fm) 470 249 (.getfield 197) (252) := ri_of (by decide +kernel) rfl
theorem wi_470_252 : ri (rt_P sc fm) 470 252 (.iload_n 2) (253) := ri_of (by decide +kernel) rfl
theorem wi_470_253 : ri (rt_P sc fm) 470 253 (.iaload) (254) := ri_of (by decide +kernel) rfl
theorem wi_470_254 : ri (rt_P sc fm) 470 254 (.iadd) (255) := ri_of (by decide +kernel) rfl
theorem wi_470_255 : ri (rt_P sc fm) 470 255 (.iaload) (256) := ri_of (by decide +kernel) rfl
theorem wi_470_256 : ri (rt_P sc fm) 470 256 (.iastore) (257) := ri_of (by decide +kernel) rfl
theorem wi_470_257 : ri (rt_P sc fm) 470 257 (.iconst 0) (258) := ri_of (by decide +kernel) rfl
theorem wi_470_258 : ri (rt_P sc fm) 470 258 (.istore 6) (260) := ri_of (by decide +kernel) rfl
theorem wi_470_260 : ri (rt_P sc fm) 470 260 (.iload 6) (262) := ri_of (by decide +kernel) rfl
theorem wi_470_262 : ri (rt_P sc fm) 470 262 (.aload_n 0) (263) := ri_of (by decide +kernel) rfl
theorem wi_470_263 : ri (rt_P sc fm) 470 263 (.getfield 447) (266) := ri_of (by decide +kernel) rfl
theorem wi_470_266 : ri (rt_P sc fm) 470 266 (.if_icmp .ge 47) (269) := ri_of (by decide +kernel) rfl
theorem wi_470_269 : ri (rt_P sc fm) 470 269 (.aload_n 0) (270) := ri_of (by decide +kernel) rfl
theorem wi_470_270 : ri (rt_P sc fm) 470 270 (.getfield 329) (273) := ri_of (by decide +kernel) rfl
theorem wi_470_273 : ri (rt_P sc fm) 470 273 (.iconst 4) (274) := ri_of (by decide +kernel) rfl
theorem wi_470_274 : ri (rt_P sc fm) 470 274 (.iload 4) (276) := ri_of (by decide +kernel) rfl
theorem wi_470_276 : ri (rt_P sc fm) 470 276 (.imul) (277) := ri_of (by decide +kernel) rfl
theorem wi_470_277 : ri (rt_P sc fm) 470 277 (.iload 6) (279) := ri_of (by decide +kernel) rfl
theorem wi_470_279 : ri (rt_P sc fm) 470 279 (.iadd) (280) := ri_of (by decide +kernel) rfl
theorem wi_470_280 : ri (rt_P sc fm) 470 280 (.aload_n 0) (281) := ri_of (by decide +kernel) rfl
theorem wi_470_281 : ri (rt_P sc fm) 470 281 (.getfield 335) (284) := ri_of (by decide +kernel) rfl
theorem wi_470_284 : ri (rt_P sc fm) 470 284 (.iconst 4) (285) := ri_of (by decide +kernel) rfl
theorem wi_470_285 : ri (rt_P sc fm) 470 285 (.bipush 8) (287) := ri_of (by decide +kernel) rfl
theorem wi_470_287 : ri (rt_P sc fm) 470 287 (.aload_n 0) (288) := ri_of (by decide +kernel) rfl
theorem wi_470_288 : ri (rt_P sc fm) 470 288 (.getfield 194) (291) := ri_of (by decide +kernel) rfl
theorem wi_470_291 : ri (rt_P sc fm) 470 291 (.iload_n 2) (292) := ri_of (by decide +kernel) rfl
theorem wi_470_292 : ri (rt_P sc fm) 470 292 (.iaload) (293) := ri_of (by decide +kernel) rfl
theorem wi_470_293 : ri (rt_P sc fm) 470 293 (.imul) (294) := ri_of (by decide +kernel) rfl
theorem wi_470_294 : ri (rt_P sc fm) 470 294 (.aload_n 0) (295) := ri_of (by decide +kernel) rfl
theorem wi_470_295 : ri (rt_P sc fm) 470 295 (.getfield 197) (298) := ri_of (by decide +kernel) rfl
theorem wi_470_298 : ri (rt_P sc fm) 470 298 (.iload_n 2) (299) := ri_of (by decide +kernel) rfl
theorem wi_470_299 : ri (rt_P sc fm) 470 299 (.iaload) (300) := ri_of (by decide +kernel) rfl
theorem wi_470_3 : ri (rt_P sc fm) 470 3 (.imul) (4) := ri_of (by decide +kernel) rfl
theorem wi_470_300 : ri (rt_P sc fm) 470 300 (.iadd) (301) := ri_of (by decide +kernel) rfl
theorem wi_470_301 : ri (rt_P sc fm) 470 301 (.imul) (302) := ri_of (by decide +kernel) rfl
theorem wi_470_302 : ri (rt_P sc fm) 470 302 (.iload 6) (304) := ri_of (by decide +kernel) rfl
theorem wi_470_304 : ri (rt_P sc fm) 470 304 (.iadd) (305) := ri_of (by decide +kernel) rfl
theorem wi_470_305 : ri (rt_P sc fm) 470 305 (.iaload) (306) := ri_of (by decide +kernel) rfl
theorem wi_470_306 : ri (rt_P sc fm) 470 306 (.iastore) (307) := ri_of (by decide +kernel) rfl
theorem wi_470_307 : ri (rt_P sc fm) 470 307 (.iinc 6 1) (310) := ri_of (by decide +kernel) rfl
theorem wi_470_310 : ri (rt_P sc fm) 470 310 (.goto (-50)) (313) := ri_of (by decide +kernel) rfl
theorem wi_470_313 : ri (rt_P sc fm) 470 313 (.goto 406) (316) := ri_of (by decide +kernel) rfl
theorem wi_470_316 : ri (rt_P sc fm) 470 316 (.aload_n 0) (317) := ri_of (by decide +kernel) rfl
theorem wi_470_317 : ri (rt_P sc fm) 470 317 (.getfield 332) (320) := ri_of (by decide +kernel) rfl
theorem wi_470_320 : ri (rt_P sc fm) 470 320 (.bipush 8) (322) := ri_of (by decide +kernel) rfl
theorem wi_470_322 : ri (rt_P sc fm) 470 322 (.aload_n 0) (323) := ri_of (by decide +kernel) rfl
theorem wi_470_323 : ri (rt_P sc fm) 470 323 (.getfield 194) (326) := ri_of (by decide +kernel) rfl
theorem wi_470_326 : ri (rt_P sc fm) 470 326 (.iload_n 2) (327) := ri_of (by decide +kernel) rfl
theorem wi_470_327 : ri (rt_P sc fm) 470 327 (.iaload) (328) := ri_of (by decide +kernel) rfl
theorem wi_470_328 : ri (rt_P sc fm) 470 328 (.imul) (329) := ri_of (by decide +kernel) rfl
theorem wi_470_329 : ri (rt_P sc fm) 470 329 (.aload_n 0) (330) := ri_of (by decide +kernel) rfl
theorem wi_470_330 : ri (rt_P sc fm) 470 330 (.getfield 197) (333) := ri_of (by decide +kernel) rfl
theorem wi_470_333 : ri (rt_P sc fm) 470 333 (.iload_n 2) (334) := ri_of (by decide +kernel) rfl
theorem wi_470_334 : ri (rt_P sc fm) 470 334 (.iaload) (335) := ri_of (by decide +kernel) rfl
theorem wi_470_335 : ri (rt_P sc fm) 470 335 (.iadd) (336) := ri_of (by decide +kernel) rfl
theorem wi_470_336 : ri (rt_P sc fm) 470 336 (.aload_n 0) (337) := ri_of (by decide +kernel) rfl
theorem wi_470_337 : ri (rt_P sc fm) 470 337 (.getfield 326) (340) := ri_of (by decide +kernel) rfl
theorem wi_470_340 : ri (rt_P sc fm) 470 340 (.iload 4) (342) := ri_of (by decide +kernel) rfl
theorem wi_470_342 : ri (rt_P sc fm) 470 342 (.iconst 1) (343) := ri_of (by decide +kernel) rfl
theorem wi_470_343 : ri (rt_P sc fm) 470 343 (.isub) (344) := ri_of (by decide +kernel) rfl
theorem wi_470_344 : ri (rt_P sc fm) 470 344 (.iaload) (345) := ri_of (by decide +kernel) rfl
theorem wi_470_345 : ri (rt_P sc fm) 470 345 (.iastore) (346) := ri_of (by decide +kernel) rfl
theorem wi_470_346 : ri (rt_P sc fm) 470 346 (.iconst 0) (347) := ri_of (by decide +kernel) rfl
theorem wi_470_347 : ri (rt_P sc fm) 470 347 (.istore 6) (349) := ri_of (by decide +kernel) rfl
theorem wi_470_349 : ri (rt_P sc fm) 470 349 (.iload 6) (351) := ri_of (by decide +kernel) rfl
theorem wi_470_351 : ri (rt_P sc fm) 470 351 (.aload_n 0) (352) := ri_of (by decide +kernel) rfl
theorem wi_470_352 : ri (rt_P sc fm) 470 352 (.getfield 447) (355) := ri_of (by decide +kernel) rfl
theorem wi_470_355 : ri (rt_P sc fm) 470 355 (.if_icmp .ge 49) (358) := ri_of (by decide +kernel) rfl
theorem wi_470_358 : ri (rt_P sc fm) 470 358 (.aload_n 0) (359) := ri_of (by decide +kernel) rfl
theorem wi_470_359 : ri (rt_P sc fm) 470 359 (.getfield 335) (362) := ri_of (by decide +kernel) rfl
theorem wi_470_362 : ri (rt_P sc fm) 470 362 (.iconst 4) (363) := ri_of (by decide +kernel) rfl
theorem wi_470_363 : ri (rt_P sc fm) 470 363 (.bipush 8) (365) := ri_of (by decide +kernel) rfl
theorem wi_470_365 : ri (rt_P sc fm) 470 365 (.aload_n 0) (366) := ri_of (by decide +kernel) rfl
theorem wi_470_366 : ri (rt_P sc fm) 470 366 (.getfield 194) (369) := ri_of (by decide +kernel) rfl
theorem wi_470_369 : ri (rt_P sc fm) 470 369 (.iload_n 2) (370) := ri_of (by decide +kernel) rfl
theorem wi_470_370 : ri (rt_P sc fm) 470 370 (.iaload) (371) := ri_of (by decide +kernel) rfl
theorem wi_470_371 : ri (rt_P sc fm) 470 371 (.imul) (372) := ri_of (by decide +kernel) rfl
theorem wi_470_372 : ri (rt_P sc fm) 470 372 (.aload_n 0) (373) := ri_of (by decide +kernel) rfl
theorem wi_470_373 : ri (rt_P sc fm) 470 373 (.getfield 197) (376) := ri_of (by decide +kernel) rfl
theorem wi_470_376 : ri (rt_P sc fm) 470 376 (.iload_n 2) (377) := ri_of (by decide +kernel) rfl
theorem wi_470_377 : ri (rt_P sc fm) 470 377 (.iaload) (378) := ri_of (by decide +kernel) rfl
theorem wi_470_378 : ri (rt_P sc fm) 470 378 (.iadd) (379) := ri_of (by decide +kernel) rfl
theorem wi_470_379 : ri (rt_P sc fm) 470 379 (.imul) (380) := ri_of (by decide +kernel) rfl
theorem wi_470_380 : ri (rt_P sc fm) 470 380 (.iload 6) (382) := ri_of (by decide +kernel) rfl
theorem wi_470_382 : ri (rt_P sc fm) 470 382 (.iadd) (383) := ri_of (by decide +kernel) rfl
theorem wi_470_383 : ri (rt_P sc fm) 470 383 (.aload_n 0) (384) := ri_of (by decide +kernel) rfl
theorem wi_470_384 : ri (rt_P sc fm) 470 384 (.getfield 329) (387) := ri_of (by decide +kernel) rfl
theorem wi_470_387 : ri (rt_P sc fm) 470 387 (.iconst 4) (388) := ri_of (by decide +kernel) rfl
theorem wi_470_388 : ri (rt_P sc fm) 470 388 (.iload 4) (390) := ri_of (by decide +kernel) rfl
theorem wi_470_390 : ri (rt_P sc fm) 470 390 (.iconst 1) (391) := ri_of (by decide +kernel) rfl
theorem wi_470_391 : ri (rt_P sc fm) 470 391 (.isub) (392) := ri_of (by decide +kernel) rfl
theorem wi_470_392 : ri (rt_P sc fm) 470 392 (.imul) (393) := ri_of (by decide +kernel) rfl
theorem wi_470_393 : ri (rt_P sc fm) 470 393 (.iload 6) (395) := ri_of (by decide +kernel) rfl
theorem wi_470_395 : ri (rt_P sc fm) 470 395 (.iadd) (396) := ri_of (by decide +kernel) rfl
theorem wi_470_396 : ri (rt_P sc fm) 470 396 (.iaload) (397) := ri_of (by decide +kernel) rfl
theorem wi_470_397 : ri (rt_P sc fm) 470 397 (.iastore) (398) := ri_of (by decide +kernel) rfl
theorem wi_470_398 : ri (rt_P sc fm) 470 398 (.iinc 6 1) (401) := ri_of (by decide +kernel) rfl
theorem wi_470_4 : ri (rt_P sc fm) 470 4 (.istore_n 3) (5) := ri_of (by decide +kernel) rfl
theorem wi_470_401 : ri (rt_P sc fm) 470 401 (.goto (-52)) (404) := ri_of (by decide +kernel) rfl
theorem wi_470_404 : ri (rt_P sc fm) 470 404 (.goto 315) (407) := ri_of (by decide +kernel) rfl
theorem wi_470_407 : ri (rt_P sc fm) 470 407 (.aload_n 0) (408) := ri_of (by decide +kernel) rfl
theorem wi_470_408 : ri (rt_P sc fm) 470 408 (.getfield 326) (411) := ri_of (by decide +kernel) rfl
theorem wi_470_411 : ri (rt_P sc fm) 470 411 (.iload 4) (413) := ri_of (by decide +kernel) rfl
theorem wi_470_413 : ri (rt_P sc fm) 470 413 (.iconst 2) (414) := ri_of (by decide +kernel) rfl
theorem wi_470_414 : ri (rt_P sc fm) 470 414 (.isub) (415) := ri_of (by decide +kernel) rfl
theorem wi_470_415 : ri (rt_P sc fm) 470 415 (.iaload) (416) := ri_of (by decide +kernel) rfl
theorem wi_470_416 : ri (rt_P sc fm) 470 416 (.istore 6) (418) := ri_of (by decide +kernel) rfl
theorem wi_470_418 : ri (rt_P sc fm) 470 418 (.aload_n 0) (419) := ri_of (by decide +kernel) rfl
theorem wi_470_419 : ri (rt_P sc fm) 470 419 (.getfield 326) (422) := ri_of (by decide +kernel) rfl
theorem wi_470_422 : ri (rt_P sc fm) 470 422 (.iload 4) (424) := ri_of (by decide +kernel) rfl
theorem wi_470_424 : ri (rt_P sc fm) 470 424 (.iconst 1) (425) := ri_of (by decide +kernel) rfl
theorem wi_470_425 : ri (rt_P sc fm) 470 425 (.isub) (426) := ri_of (by decide +kernel) rfl
theorem wi_470_426 : ri (rt_P sc fm) 470 426 (.iaload) (427) := ri_of (by decide +kernel) rfl
theorem wi_470_427 : ri (rt_P sc fm) 470 427 (.istore 7) (429) := ri_of (by decide +kernel) rfl
theorem wi_470_429 : ri (rt_P sc fm) 470 429 (.aload_n 0) (430) := ri_of (by decide +kernel) rfl
theorem wi_470_430 : ri (rt_P sc fm) 470 430 (.getfield 326) (433) := ri_of (by decide +kernel) rfl
theorem wi_470_433 : ri (rt_P sc fm) 470 433 (.iload 4) (435) := ri_of (by decide +kernel) rfl
theorem wi_470_435 : ri (rt_P sc fm) 470 435 (.iconst 2) (436) := ri_of (by decide +kernel) rfl
theorem wi_470_436 : ri (rt_P sc fm) 470 436 (.isub) (437) := ri_of (by decide +kernel) rfl
theorem wi_470_437 : ri (rt_P sc fm) 470 437 (.aload_n 0) (438) := ri_of (by decide +kernel) rfl
theorem wi_470_438 : ri (rt_P sc fm) 470 438 (.getfield 185) (441) := ri_of (by decide +kernel) rfl
theorem wi_470_441 : ri (rt_P sc fm) 470 441 (.iload_n 2) (442) := ri_of (by decide +kernel) rfl
theorem wi_470_442 : ri (rt_P sc fm) 470 442 (.iaload) (443) := ri_of (by decide +kernel) rfl
theorem wi_470_443 : ri (rt_P sc fm) 470 443 (.bipush 22) (445) := ri_of (by decide +kernel) rfl
theorem wi_470_445 : ri (rt_P sc fm) 470 445 (.if_icmp .ne 11) (448) := ri_of (by decide +kernel) rfl
theorem wi_470_448 : ri (rt_P sc fm) 470 448 (.iload 6) (450) := ri_of (by decide +kernel) rfl
theorem wi_470_450 : ri (rt_P sc fm) 470 450 (.iload 7) (452) := ri_of (by decide +kernel) rfl
theorem wi_470_452 : ri (rt_P sc fm) 470 452 (.iadd) (453) := ri_of (by decide +kernel) rfl
theorem wi_470_453 : ri (rt_P sc fm) 470 453 (.goto 27) (456) := ri_of (by decide +kernel) rfl
theorem wi_470_456 : ri (rt_P sc fm) 470 456 (.aload_n 0) (457) := ri_of (by decide +kernel) rfl
theorem wi_470_457 : ri (rt_P sc fm) 470 457 (.getfield 185) (460) := ri_of (by decide +kernel) rfl
theorem wi_470_460 : ri (rt_P sc fm) 470 460 (.iload_n 2) (461) := ri_of (by decide +kernel) rfl
theorem wi_470_461 : ri (rt_P sc fm) 470 461 (.iaload) (462) := ri_of (by decide +kernel) rfl
theorem wi_470_462 : ri (rt_P sc fm) 470 462 (.bipush 23) (464) := ri_of (by decide +kernel) rfl
theorem wi_470_464 : ri (rt_P sc fm) 470 464 (.if_icmp .ne 11) (467) := ri_of (by decide +kernel) rfl
theorem wi_470_467 : ri (rt_P sc fm) 470 467 (.iload 6) (469) := ri_of (by decide +kernel) rfl
theorem wi_470_469 : ri (rt_P sc fm) 470 469 (.iload 7) (471) := ri_of (by decide +kernel) rfl
theorem wi_470_471 : ri (rt_P sc fm) 470 471 (.isub) (472) := ri_of (by decide +kernel) rfl
theorem wi_470_472 : ri (rt_P sc fm) 470 472 (.goto 8) (475) := ri_of (by decide +kernel) rfl
theorem wi_470_475 : ri (rt_P sc fm) 470 475 (.iload 6) (477) := ri_of (by decide +kernel) rfl
theorem wi_470_477 : ri (rt_P sc fm) 470 477 (.iload 7) (479) := ri_of (by decide +kernel) rfl
theorem wi_470_479 : ri (rt_P sc fm) 470 479 (.imul) (480) := ri_of (by decide +kernel) rfl
theorem wi_470_480 : ri (rt_P sc fm) 470 480 (.iastore) (481) := ri_of (by decide +kernel) rfl
theorem wi_470_481 : ri (rt_P sc fm) 470 481 (.iconst 0) (482) := ri_of (by decide +kernel) rfl
theorem wi_470_482 : ri (rt_P sc fm) 470 482 (.istore 8) (484) := ri_of (by decide +kernel) rfl
theorem wi_470_484 : ri (rt_P sc fm) 470 484 (.iload 8) (486) := ri_of (by decide +kernel) rfl
theorem wi_470_486 : ri (rt_P sc fm) 470 486 (.aload_n 0) (487) := ri_of (by decide +kernel) rfl
theorem wi_470_487 : ri (rt_P sc fm) 470 487 (.getfield 447) (490) := ri_of (by decide +kernel) rfl
theorem wi_470_490 : ri (rt_P sc fm) 470 490 (.if_icmp .ge 57) (493) := ri_of (by decide +kernel) rfl
theorem wi_470_493 : ri (rt_P sc fm) 470 493 (.aload_n 0) (494) := ri_of (by decide +kernel) rfl
theorem wi_470_494 : ri (rt_P sc fm) 470 494 (.getfield 329) (497) := ri_of (by decide +kernel) rfl
theorem wi_470_497 : ri (rt_P sc fm) 470 497 (.iconst 4) (498) := ri_of (by decide +kernel) rfl
theorem wi_470_498 : ri (rt_P sc fm) 470 498 (.iload 4) (500) := ri_of (by decide +kernel) rfl
theorem wi_470_5 : ri (rt_P sc fm) 470 5 (.iload_n 3) (6) := ri_of (by decide +kernel) rfl
theorem wi_470_500 : ri (rt_P sc fm) 470 500 (.iconst 2) (501) := ri_of (by decide +kernel) rfl
theorem wi_470_501 : ri (rt_P sc fm) 470 501 (.isub) (502) := ri_of (by decide +kernel) rfl
theorem wi_470_502 : ri (rt_P sc fm) 470 502 (.imul) (503) := ri_of (by decide +kernel) rfl
theorem wi_470_503 : ri (rt_P sc fm) 470 503 (.iload 8) (505) := ri_of (by decide +kernel) rfl
theorem wi_470_505 : ri (rt_P sc fm) 470 505 (.iadd) (506) := ri_of (by decide +kernel) rfl
theorem wi_470_506 : ri (rt_P sc fm) 470 506 (.aload_n 0) (507) := ri_of (by decide +kernel) rfl
theorem wi_470_507 : ri (rt_P sc fm) 470 507 (.iload 8) (509) := ri_of (by decide +kernel) rfl
theorem wi_470_509 : ri (rt_P sc fm) 470 509 (.aload_n 0) (510) := ri_of (by decide +kernel) rfl
theorem wi_470_510 : ri (rt_P sc fm) 470 510 (.getfield 329) (513) := ri_of (by decide +kernel) rfl
theorem wi_470_513 : ri (rt_P sc fm) 470 513 (.iconst 4) (514) := ri_of (by decide +kernel) rfl
theorem wi_470_514 : ri (rt_P sc fm) 470 514 (.iload 4) (516) := ri_of (by decide +kernel) rfl
theorem wi_470_516 : ri (rt_P sc fm) 470 516 (.iconst 2) (517) := ri_of (by decide +kernel) rfl
theorem wi_470_517 : ri (rt_P sc fm) 470 517 (.isub) (518) := ri_of (by decide +kernel) rfl
theorem wi_470_518 : ri (rt_P sc fm) 470 518 (.imul) (519) := ri_of (by decide +kernel) rfl
theorem wi_470_519 : ri (rt_P sc fm) 470 519 (.iload 8) (521) := ri_of (by decide +kernel) rfl
theorem wi_470_521 : ri (rt_P sc fm) 470 521 (.iadd) (522) := ri_of (by decide +kernel) rfl
theorem wi_470_522 : ri (rt_P sc fm) 470 522 (.iaload) (523) := ri_of (by decide +kernel) rfl
theorem wi_470_523 : ri (rt_P sc fm) 470 523 (.aload_n 0) (524) := ri_of (by decide +kernel) rfl
theorem wi_470_524 : ri (rt_P sc fm) 470 524 (.getfield 329) (527) := ri_of (by decide +kernel) rfl
theorem wi_470_527 : ri (rt_P sc fm) 470 527 (.iconst 4) (528) := ri_of (by decide +kernel) rfl
theorem wi_470_528 : ri (rt_P sc fm) 470 528 (.iload 4) (530) := ri_of (by decide +kernel) rfl
theorem wi_470_530 : ri (rt_P sc fm) 470 530 (.iconst 1) (531) := ri_of (by decide +kernel) rfl
theorem wi_470_531 : ri (rt_P sc fm) 470 531 (.isub) (532) := ri_of (by decide +kernel) rfl
theorem wi_470_532 : ri (rt_P sc fm) 470 532 (.imul) (533) := ri_of (by decide +kernel) rfl
theorem wi_470_533 : ri (rt_P sc fm) 470 533 (.iload 8) (535) := ri_of (by decide +kernel) rfl
theorem wi_470_535 : ri (rt_P sc fm) 470 535 (.iadd) (536) := ri_of (by decide +kernel) rfl
theorem wi_470_536 : ri (rt_P sc fm) 470 536 (.iaload) (537) := ri_of (by decide +kernel) rfl
theorem wi_470_537 : ri (rt_P sc fm) 470 537 (.invokevirtual 727) (540) := ri_of (by decide +kernel) rfl
theorem wi_470_540 : ri (rt_P sc fm) 470 540 (.iastore) (541) := ri_of (by decide +kernel) rfl
theorem wi_470_541 : ri (rt_P sc fm) 470 541 (.iinc 8 1) (544) := ri_of (by decide +kernel) rfl
theorem wi_470_544 : ri (rt_P sc fm) 470 544 (.goto (-60)) (547) := ri_of (by decide +kernel) rfl
theorem wi_470_547 : ri (rt_P sc fm) 470 547 (.goto 172) (550) := ri_of (by decide +kernel) rfl
theorem wi_470_550 : ri (rt_P sc fm) 470 550 (.aload_n 0) (551) := ri_of (by decide +kernel) rfl
theorem wi_470_551 : ri (rt_P sc fm) 470 551 (.iload 4) (553) := ri_of (by decide +kernel) rfl
theorem wi_470_553 : ri (rt_P sc fm) 470 553 (.iload 4) (555) := ri_of (by decide +kernel) rfl
theorem wi_470_555 : ri (rt_P sc fm) 470 555 (.iconst 1) (556) := ri_of (by decide +kernel) rfl
theorem wi_470_556 : ri (rt_P sc fm) 470 556 (.isub) (557) := ri_of (by decide +kernel) rfl
theorem wi_470_557 : ri (rt_P sc fm) 470 557 (.invokevirtual 961) (560) := ri_of (by decide +kernel) rfl
theorem wi_470_560 : ri (rt_P sc fm) 470 560 (.goto 159) (563) := ri_of (by decide +kernel) rfl
theorem wi_470_563 : ri (rt_P sc fm) 470 563 (.aload_n 0) (564) := ri_of (by decide +kernel) rfl
theorem wi_470_564 : ri (rt_P sc fm) 470 564 (.getfield 200) (567) := ri_of (by decide +kernel) rfl
theorem wi_470_567 : ri (rt_P sc fm) 470 567 (.iload_n 2) (568) := ri_of (by decide +kernel) rfl
theorem wi_470_568 : ri (rt_P sc fm) 470 568 (.iaload) (569) := ri_of (by decide +kernel) rfl
theorem wi_470_569 : ri (rt_P sc fm) 470 569 (.istore 5) (571) := ri_of (by decide +kernel) rfl
theorem wi_470_571 : ri (rt_P sc fm) 470 571 (.goto 148) (574) := ri_of (by decide +kernel) rfl
theorem wi_470_574 : ri (rt_P sc fm) 470 574 (.aload_n 0) (575) := ri_of (by decide +kernel) rfl
theorem wi_470_575 : ri (rt_P sc fm) 470 575 (.getfield 326) (578) := ri_of (by decide +kernel) rfl
theorem wi_470_578 : ri (rt_P sc fm) 470 578 (.iload 4) (580) := ri_of (by decide +kernel) rfl
theorem wi_470_580 : ri (rt_P sc fm) 470 580 (.iconst 1) (581) := ri_of (by decide +kernel) rfl
theorem wi_470_581 : ri (rt_P sc fm) 470 581 (.isub) (582) := ri_of (by decide +kernel) rfl
theorem wi_470_582 : ri (rt_P sc fm) 470 582 (.iaload) (583) := ri_of (by decide +kernel) rfl
theorem wi_470_583 : ri (rt_P sc fm) 470 583 (.ifCond .ne 136) (586) := ri_of (by decide +kernel) rfl
theorem wi_470_586 : ri (rt_P sc fm) 470 586 (.aload_n 0) (587) := ri_of (by decide +kernel) rfl
theorem wi_470_587 : ri (rt_P sc fm) 470 587 (.getfield 200) (590) := ri_of (by decide +kernel) rfl
theorem wi_470_590 : ri (rt_P sc fm) 470 590 (.iload_n 2) (591) := ri_of (by decide +kernel) rfl
theorem wi_470_591 : ri (rt_P sc fm) 470 591 (.iaload) (592) := ri_of (by decide +kernel) rfl
theorem wi_470_592 : ri (rt_P sc fm) 470 592 (.istore 5) (594) := ri_of (by decide +kernel) rfl
theorem wi_470_594 : ri (rt_P sc fm) 470 594 (.goto 125) (597) := ri_of (by decide +kernel) rfl
theorem wi_470_597 : ri (rt_P sc fm) 470 597 (.aload_n 0) (598) := ri_of (by decide +kernel) rfl
theorem wi_470_598 : ri (rt_P sc fm) 470 598 (.aload_n 0) (599) := ri_of (by decide +kernel) rfl
theorem wi_470_599 : ri (rt_P sc fm) 470 599 (.getfield 194) (602) := ri_of (by decide +kernel) rfl
theorem wi_470_6 : ri (rt_P sc fm) 470 6 (.aload_n 0) (7) := ri_of (by decide +kernel) rfl
theorem wi_470_602 : ri (rt_P sc fm) 470 602 (.iload_n 2) (603) := ri_of (by decide +kernel) rfl
theorem wi_470_603 : ri (rt_P sc fm) 470 603 (.iaload) (604) := ri_of (by decide +kernel) rfl
theorem wi_470_604 : ri (rt_P sc fm) 470 604 (.aload_n 0) (605) := ri_of (by decide +kernel) rfl
theorem wi_470_605 : ri (rt_P sc fm) 470 605 (.getfield 329) (608) := ri_of (by decide +kernel) rfl
theorem wi_470_608 : ri (rt_P sc fm) 470 608 (.iconst 4) (609) := ri_of (by decide +kernel) rfl
theorem wi_470_609 : ri (rt_P sc fm) 470 609 (.iload 4) (611) := ri_of (by decide +kernel) rfl
theorem wi_470_611 : ri (rt_P sc fm) 470 611 (.iconst 1) (612) := ri_of (by decide +kernel) rfl
theorem wi_470_612 : ri (rt_P sc fm) 470 612 (.isub) (613) := ri_of (by decide +kernel) rfl
theorem wi_470_613 : ri (rt_P sc fm) 470 613 (.imul) (614) := ri_of (by decide +kernel) rfl
theorem wi_470_614 : ri (rt_P sc fm) 470 614 (.aload_n 0) (615) := ri_of (by decide +kernel) rfl
theorem wi_470_615 : ri (rt_P sc fm) 470 615 (.getfield 194) (618) := ri_of (by decide +kernel) rfl
theorem wi_470_618 : ri (rt_P sc fm) 470 618 (.iload_n 2) (619) := ri_of (by decide +kernel) rfl
theorem wi_470_619 : ri (rt_P sc fm) 470 619 (.iaload) (620) := ri_of (by decide +kernel) rfl
theorem wi_470_620 : ri (rt_P sc fm) 470 620 (.iadd) (621) := ri_of (by decide +kernel) rfl
theorem wi_470_621 : ri (rt_P sc fm) 470 621 (.iaload) (622) := ri_of (by decide +kernel) rfl
theorem wi_470_622 : ri (rt_P sc fm) 470 622 (.aload_n 0) (623) := ri_of (by decide +kernel) rfl
theorem wi_470_623 : ri (rt_P sc fm) 470 623 (.getfield 197) (626) := ri_of (by decide +kernel) rfl
theorem wi_470_626 : ri (rt_P sc fm) 470 626 (.iload_n 2) (627) := ri_of (by decide +kernel) rfl
theorem wi_470_627 : ri (rt_P sc fm) 470 627 (.iaload) (628) := ri_of (by decide +kernel) rfl
theorem wi_470_628 : ri (rt_P sc fm) 470 628 (.invokevirtual 535) (631) := ri_of (by decide +kernel) rfl
theorem wi_470_631 : ri (rt_P sc fm) 470 631 (.ifCond .eq 88) (634) := ri_of (by decide +kernel) rfl
theorem wi_470_634 : ri (rt_P sc fm) 470 634 (.aload_n 0) (635) := ri_of (by decide +kernel) rfl
theorem wi_470_635 : ri (rt_P sc fm) 470 635 (.getfield 200) (638) := ri_of (by decide +kernel) rfl
theorem wi_470_638 : ri (rt_P sc fm) 470 638 (.iload_n 2) (639) := ri_of (by decide +kernel) rfl
theorem wi_470_639 : ri (rt_P sc fm) 470 639 (.iaload) (640) := ri_of (by decide +kernel) rfl
theorem wi_470_640 : ri (rt_P sc fm) 470 640 (.istore 5) (642) := ri_of (by decide +kernel) rfl
theorem wi_470_642 : ri (rt_P sc fm) 470 642 (.goto 77) (645) := ri_of (by decide +kernel) rfl
theorem wi_470_645 : ri (rt_P sc fm) 470 645 (.aload_n 0) (646) := ri_of (by decide +kernel) rfl
theorem wi_470_646 : ri (rt_P sc fm) 470 646 (.aload_n 0) (647) := ri_of (by decide +kernel) rfl
theorem wi_470_647 : ri (rt_P sc fm) 470 647 (.getfield 194) (650) := ri_of (by decide +kernel) rfl
theorem wi_470_650 : ri (rt_P sc fm) 470 650 (.iload_n 2) (651) := ri_of (by decide +kernel) rfl
theorem wi_470_651 : ri (rt_P sc fm) 470 651 (.iaload) (652) := ri_of (by decide +kernel) rfl
theorem wi_470_652 : ri (rt_P sc fm) 470 652 (.aload_n 0) (653) := ri_of (by decide +kernel) rfl
theorem wi_470_653 : ri (rt_P sc fm) 470 653 (.getfield 329) (656) := ri_of (by decide +kernel) rfl
theorem wi_470_656 : ri (rt_P sc fm) 470 656 (.iconst 4) (657) := ri_of (by decide +kernel) rfl
theorem wi_470_657 : ri (rt_P sc fm) 470 657 (.iload 4) (659) := ri_of (by decide +kernel) rfl
theorem wi_470_659 : ri (rt_P sc fm) 470 659 (.iconst 1) (660) := ri_of (by decide +kernel) rfl
theorem wi_470_660 : ri (rt_P sc fm) 470 660 (.isub) (661) := ri_of (by decide +kernel) rfl
theorem wi_470_661 : ri (rt_P sc fm) 470 661 (.imul) (662) := ri_of (by decide +kernel) rfl
theorem wi_470_662 : ri (rt_P sc fm) 470 662 (.aload_n 0) (663) := ri_of (by decide +kernel) rfl
theorem wi_470_663 : ri (rt_P sc fm) 470 663 (.getfield 194) (666) := ri_of (by decide +kernel) rfl
theorem wi_470_666 : ri (rt_P sc fm) 470 666 (.iload_n 2) (667) := ri_of (by decide +kernel) rfl
theorem wi_470_667 : ri (rt_P sc fm) 470 667 (.iaload) (668) := ri_of (by decide +kernel) rfl
theorem wi_470_668 : ri (rt_P sc fm) 470 668 (.iadd) (669) := ri_of (by decide +kernel) rfl
theorem wi_470_669 : ri (rt_P sc fm) 470 669 (.iaload) (670) := ri_of (by decide +kernel) rfl
theorem wi_470_670 : ri (rt_P sc fm) 470 670 (.aload_n 0) (671) := ri_of (by decide +kernel) rfl
theorem wi_470_671 : ri (rt_P sc fm) 470 671 (.getfield 197) (674) := ri_of (by decide +kernel) rfl
theorem wi_470_674 : ri (rt_P sc fm) 470 674 (.iload_n 2) (675) := ri_of (by decide +kernel) rfl
theorem wi_470_675 : ri (rt_P sc fm) 470 675 (.iaload) (676) := ri_of (by decide +kernel) rfl
theorem wi_470_676 : ri (rt_P sc fm) 470 676 (.invokevirtual 535) (679) := ri_of (by decide +kernel) rfl
theorem wi_470_679 : ri (rt_P sc fm) 470 679 (.ifCond .ne 13) (682) := ri_of (by decide +kernel) rfl
theorem wi_470_682 : ri (rt_P sc fm) 470 682 (.aload_n 0) (683) := ri_of (by decide +kernel) rfl
theorem wi_470_683 : ri (rt_P sc fm) 470 683 (.dup) (684) := ri_of (by decide +kernel) rfl
theorem wi_470_684 : ri (rt_P sc fm) 470 684 (.getfield 940) (687) := ri_of (by decide +kernel) rfl
theorem wi_470_687 : ri (rt_P sc fm) 470 687 (.iconst 1) (688) := ri_of (by decide +kernel) rfl
theorem wi_470_688 : ri (rt_P sc fm) 470 688 (.iadd) (689) := ri_of (by decide +kernel) rfl
theorem wi_470_689 : ri (rt_P sc fm) 470 689 (.putfield 940) (692) := ri_of (by decide +kernel) rfl
theorem wi_470_692 : ri (rt_P sc fm) 470 692 (.aload_n 0) (693) := ri_of (by decide +kernel) rfl
theorem wi_470_693 : ri (rt_P sc fm) 470 693 (.getfield 329) (696) := ri_of (by decide +kernel) rfl
theorem wi_470_696 : ri (rt_P sc fm) 470 696 (.iconst 4) (697) := ri_of (by decide +kernel) rfl
theorem wi_470_697 : ri (rt_P sc fm) 470 697 (.iload 4) (699) := ri_of (by decide +kernel) rfl
theorem wi_470_699 : ri (rt_P sc fm) 470 699 (.iconst 1) (700) := ri_of (by decide +kernel) rfl
theorem wi_470_7 : ri (rt_P sc fm) 470 7 (.getfield 323) (10) := ri_of (by decide +kernel) rfl
theorem wi_470_700 : ri (rt_P sc fm) 470 700 (.isub) (701) := ri_of (by decide +kernel) rfl
theorem wi_470_701 : ri (rt_P sc fm) 470 701 (.imul) (702) := ri_of (by decide +kernel) rfl
theorem wi_470_702 : ri (rt_P sc fm) 470 702 (.aload_n 0) (703) := ri_of (by decide +kernel) rfl
theorem wi_470_703 : ri (rt_P sc fm) 470 703 (.getfield 194) (706) := ri_of (by decide +kernel) rfl
theorem wi_470_706 : ri (rt_P sc fm) 470 706 (.iload_n 2) (707) := ri_of (by decide +kernel) rfl
theorem wi_470_707 : ri (rt_P sc fm) 470 707 (.iaload) (708) := ri_of (by decide +kernel) rfl
theorem wi_470_708 : ri (rt_P sc fm) 470 708 (.iadd) (709) := ri_of (by decide +kernel) rfl
theorem wi_470_709 : ri (rt_P sc fm) 470 709 (.aload_n 0) (710) := ri_of (by decide +kernel) rfl
theorem wi_470_710 : ri (rt_P sc fm) 470 710 (.getfield 197) (713) := ri_of (by decide +kernel) rfl
theorem wi_470_713 : ri (rt_P sc fm) 470 713 (.iload_n 2) (714) := ri_of (by decide +kernel) rfl
theorem wi_470_714 : ri (rt_P sc fm) 470 714 (.iaload) (715) := ri_of (by decide +kernel) rfl
theorem wi_470_715 : ri (rt_P sc fm) 470 715 (.iastore) (716) := ri_of (by decide +kernel) rfl
theorem wi_470_716 : ri (rt_P sc fm) 470 716 (.goto 3) (719) := ri_of (by decide +kernel) rfl
theorem wi_470_719 : ri (rt_P sc fm) 470 719 (.aload_n 0) (720) := ri_of (by decide +kernel) rfl
theorem wi_470_720 : ri (rt_P sc fm) 470 720 (.getfield 185) (723) := ri_of (by decide +kernel) rfl
theorem wi_470_723 : ri (rt_P sc fm) 470 723 (.iload_n 2) (724) := ri_of (by decide +kernel) rfl
theorem wi_470_724 : ri (rt_P sc fm) 470 724 (.iaload) (725) := ri_of (by decide +kernel) rfl
theorem wi_470_725 : ri (rt_P sc fm) 470 725 (.bipush 20) (727) := ri_of (by decide +kernel) rfl
theorem wi_470_727 : ri (rt_P sc fm) 470 727 (.if_icmp .ne 10) (730) := ri_of (by decide +kernel) rfl
theorem wi_470_730 : ri (rt_P sc fm) 470 730 (.aload_n 0) (731) := ri_of (by decide +kernel) rfl
theorem wi_470_731 : ri (rt_P sc fm) 470 731 (.iload_n 1) (732) := ri_of (by decide +kernel) rfl
theorem wi_470_732 : ri (rt_P sc fm) 470 732 (.iload_n 2) (733) := ri_of (by decide +kernel) rfl
theorem wi_470_733 : ri (rt_P sc fm) 470 733 (.invokevirtual 964) (736) := ri_of (by decide +kernel) rfl
theorem wi_470_736 : ri (rt_P sc fm) 470 736 (.return_) (737) := ri_of (by decide +kernel) rfl
theorem wi_470_737 : ri (rt_P sc fm) 470 737 (.aload_n 0) (738) := ri_of (by decide +kernel) rfl
theorem wi_470_738 : ri (rt_P sc fm) 470 738 (.getfield 185) (741) := ri_of (by decide +kernel) rfl
theorem wi_470_741 : ri (rt_P sc fm) 470 741 (.iload_n 2) (742) := ri_of (by decide +kernel) rfl
theorem wi_470_742 : ri (rt_P sc fm) 470 742 (.iaload) (743) := ri_of (by decide +kernel) rfl
theorem wi_470_743 : ri (rt_P sc fm) 470 743 (.bipush 21) (745) := ri_of (by decide +kernel) rfl
theorem wi_470_745 : ri (rt_P sc fm) 470 745 (.if_icmp .ne 13) (748) := ri_of (by decide +kernel) rfl
theorem wi_470_748 : ri (rt_P sc fm) 470 748 (.aload_n 0) (749) := ri_of (by decide +kernel) rfl
theorem wi_470_749 : ri (rt_P sc fm) 470 749 (.iload_n 1) (750) := ri_of (by decide +kernel) rfl
theorem wi_470_750 : ri (rt_P sc fm) 470 750 (.iload 4) (752) := ri_of (by decide +kernel) rfl
theorem wi_470_752 : ri (rt_P sc fm) 470 752 (.iconst 1) (753) := ri_of (by decide +kernel) rfl
theorem wi_470_753 : ri (rt_P sc fm) 470 753 (.isub) (754) := ri_of (by decide +kernel) rfl
theorem wi_470_754 : ri (rt_P sc fm) 470 754 (.invokevirtual 967) (757) := ri_of (by decide +kernel) rfl
theorem wi_470_757 : ri (rt_P sc fm) 470 757 (.return_) (758) := ri_of (by decide +kernel) rfl
theorem wi_470_758 : ri (rt_P sc fm) 470 758 (.aload_n 0) (759) := ri_of (by decide +kernel) rfl
theorem wi_470_759 : ri (rt_P sc fm) 470 759 (.getfield 323) (762) := ri_of (by decide +kernel) rfl
theorem wi_470_762 : ri (rt_P sc fm) 470 762 (.iload_n 1) (763) := ri_of (by decide +kernel) rfl
theorem wi_470_763 : ri (rt_P sc fm) 470 763 (.dup2) (764) := ri_of (by decide +kernel) rfl
theorem wi_470_764 : ri (rt_P sc fm) 470 764 (.iaload) (765) := ri_of (by decide +kernel) rfl
theorem wi_470_765 : ri (rt_P sc fm) 470 765 (.aload_n 0) (766) := ri_of (by decide +kernel) rfl
theorem wi_470_766 : ri (rt_P sc fm) 470 766 (.iload_n 2) (767) := ri_of (by decide +kernel) rfl
theorem wi_470_767 : ri (rt_P sc fm) 470 767 (.invokevirtual 629) (770) := ri_of (by decide +kernel) rfl
theorem wi_470_770 : ri (rt_P sc fm) 470 770 (.aload_n 0) (771) := ri_of (by decide +kernel) rfl
theorem wi_470_771 : ri (rt_P sc fm) 470 771 (.iload_n 2) (772) := ri_of (by decide +kernel) rfl
theorem wi_470_772 : ri (rt_P sc fm) 470 772 (.invokevirtual 626) (775) := ri_of (by decide +kernel) rfl
theorem wi_470_775 : ri (rt_P sc fm) 470 775 (.isub) (776) := ri_of (by decide +kernel) rfl
theorem wi_470_776 : ri (rt_P sc fm) 470 776 (.iadd) (777) := ri_of (by decide +kernel) rfl
theorem wi_470_777 : ri (rt_P sc fm) 470 777 (.iastore) (778) := ri_of (by decide +kernel) rfl
theorem wi_470_778 : ri (rt_P sc fm) 470 778 (.aload_n 0) (779) := ri_of (by decide +kernel) rfl
theorem wi_470_779 : ri (rt_P sc fm) 470 779 (.getfield 320) (782) := ri_of (by decide +kernel) rfl
theorem wi_470_782 : ri (rt_P sc fm) 470 782 (.iload_n 1) (783) := ri_of (by decide +kernel) rfl
theorem wi_470_783 : ri (rt_P sc fm) 470 783 (.iload 5) (785) := ri_of (by decide +kernel) rfl
theorem wi_470_785 : ri (rt_P sc fm) 470 785 (.ifCond .lt 8) (788) := ri_of (by decide +kernel) rfl
theorem wi_470_788 : ri (rt_P sc fm) 470 788 (.iload 5) (790) := ri_of (by decide +kernel) rfl
theorem wi_470_790 : ri (rt_P sc fm) 470 790 (.goto 11) (793) := ri_of (by decide +kernel) rfl
theorem wi_470_793 : ri (rt_P sc fm) 470 793 (.aload_n 0) (794) := ri_of (by decide +kernel) rfl
theorem wi_470_794 : ri (rt_P sc fm) 470 794 (.getfield 320) (797) := ri_of (by decide +kernel) rfl
theorem wi_470_797 : ri (rt_P sc fm) 470 797 (.iload_n 1) (798) := ri_of (by decide +kernel) rfl
theorem wi_470_798 : ri (rt_P sc fm) 470 798 (.iaload) (799) := ri_of (by decide +kernel) rfl
theorem wi_470_799 : ri (rt_P sc fm) 470 799 (.iconst 1) (800) := ri_of (by decide +kernel) rfl
theorem wi_470_800 : ri (rt_P sc fm) 470 800 (.iadd) (801) := ri_of (by decide +kernel) rfl
theorem wi_470_801 : ri (rt_P sc fm) 470 801 (.iastore) (802) := ri_of (by decide +kernel) rfl
theorem wi_470_802 : ri (rt_P sc fm) 470 802 (.return_) (803) := ri_of (by decide +kernel) rfl
theorem wm_471 : rx_ml (rt_P sc fm) 471 = 3 := (by decide +kernel : rt_ml 471 = 3)
theorem wm_472 : rx_ml (rt_P sc fm) 472 = 6 := (by decide +kernel : rt_ml 472 = 6)
theorem wm_473 : rx_ml (rt_P sc fm) 473 = 4 := (by decide +kernel : rt_ml 473 = 4)
theorem wp_470_940 : rx_pt (rt_P sc fm) 470 940 = some (15, 128, .int) := (by decide +kernel : rt_pt 470 940 = some (15, 128, .int))
theorem wr_470 : rx_rt (rt_P sc fm) 470 = none := (by decide +kernel : rt_rt 470 = none)
/-- MarkHouseModel.perform(II)V -/
def d_470 (n : Nat) (a1 : Int32) (a2 : Int32) (c : cS) : Option (cS) :=
  lt ((16 * a1) : Int32) (fun v2 =>
  if ib a1 12 then
  lt ((v2 + (c.1 255 (ix a1))) : Int32) (fun v6 =>
  if ib a2 3840 then
  jn (fun p10 : Int32 × cS =>
    if ib a2 3840 then
    if (p10.2.1 211 (ix a2)) = 20 then
      Option.bind (d_472 n a1 a2 p10.2) (fun r25 =>
      some r25)
    else
      if ib a2 3840 then
      if (p10.2.1 211 (ix a2)) = 21 then
        Option.bind (d_473 n a1 (v6 - 1) p10.2) (fun r24 =>
        some r24)
      else
        if ib a1 12 then
        Option.bind (d_418 n a2 p10.2) (fun v14 =>
        Option.bind (d_417 n a2 p10.2) (fun v15 =>
        if ib a1 12 then
        lt (pI p10.2 255 (ix a1) ((p10.2.1 255 (ix a1)) + (v14 - v15))) (fun c17 =>
        jn (fun p19 : Int32 =>
          if ib a1 12 then
          lt (pI c17 254 (ix a1) p19) (fun c21 =>
          some c21)
          else none)
        (fun j801 =>
        if p10.1 < 0 then
          if ib a1 12 then
          j801 ((c17.1 254 (ix a1)) + 1)
          else none
        else
          j801 p10.1))
        else none))
        else none
      else none
    else none)
  (fun j719 =>
  jn (fun p26 : Unit =>
    if ib a2 3840 then
    jn (fun p28 : Int32 × cS =>
      Option.bind (d_138 n v6 p28.1 p28.2) (fun r29 =>
      Option.bind (whl (R := (cS)) (fun s31 : Int32 × cS =>
        if ib a2 3840 then
        if (s31.2.1 219 (ix a2)) ≤ s31.1 then
          some (.inr s31.2)
        else
          if ib ((4 * a2) + s31.1) 15360 then
          if ib ((4 * a2) + s31.1) 15360 then
          if ib ((4 * v6) + (s31.2.1 220 (ix ((4 * a2) + s31.1)))) 768 then
          lt (pI s31.2 257 (ix ((4 * v6) + (s31.2.1 220 (ix ((4 * a2) + s31.1))))) (s31.2.1 221 (ix ((4 * a2) + s31.1)))) (fun c36 =>
          lt (s31.1 + 1 : Int32) (fun v39 =>
          some (.inl (v39, c36))))
          else none
          else none
          else none
        else none) n (0, r29))
      (fun x41 : cS =>
        j719 ((-1), x41))))
    (fun j135 =>
    if (c.1 211 (ix a2)) = 14 then
      if ib a2 3840 then
      j135 ((c.1 214 (ix a2)), c)
      else none
    else
      Option.bind (d_471 n c) (fun r42 =>
      j135 (r42.1, r42.2)))
    else none)
  (fun j108 =>
  jn (fun p44 : Unit =>
    if ib (v6 - 2) 192 then
    lt ((c.1 256 (ix (v6 - 2))) : Int32) (fun v47 =>
    if ib (v6 - 1) 192 then
    lt ((c.1 256 (ix (v6 - 1))) : Int32) (fun v51 =>
    if ib a2 3840 then
    jn (fun p54 : Int32 =>
      if ib (v6 - 2) 192 then
      lt (pI c 256 (ix (v6 - 2)) p54) (fun c56 =>
      Option.bind (whl (R := (cS)) (fun s59 : Int32 × cS =>
        if (s59.2.1 174 15) ≤ s59.1 then
          some (.inr s59.2)
        else
          if ib ((4 * (v6 - 2)) + s59.1) 768 then
          if ib ((4 * (v6 - 1)) + s59.1) 768 then
          Option.bind (d_390 n s59.1 (s59.2.1 257 (ix ((4 * (v6 - 2)) + s59.1))) (s59.2.1 257 (ix ((4 * (v6 - 1)) + s59.1))) s59.2) (fun v62 =>
          if ib ((4 * (v6 - 2)) + s59.1) 768 then
          lt (pI s59.2 257 (ix ((4 * (v6 - 2)) + s59.1)) v62) (fun c64 =>
          lt (s59.1 + 1 : Int32) (fun v67 =>
          some (.inl (v67, c64))))
          else none)
          else none
          else none) n (0, c56))
      (fun x69 : cS =>
        j719 ((-1), x69)))
      else none)
    (fun j480 =>
    if (c.1 211 (ix a2)) = 22 then
      j480 (v47 + v51)
    else
      if ib a2 3840 then
      if (c.1 211 (ix a2)) = 23 then
        j480 (v47 - v51)
      else
        j480 (v47 * v51)
      else none)
    else none)
    else none)
    else none)
  (fun j407 =>
  if (c.1 211 (ix a2)) = 14 then
    j108 ()
  else
  if (c.1 211 (ix a2)) = 15 then
    j108 ()
  else
  if (c.1 211 (ix a2)) = 16 then
    if ib a2 3840 then
    Option.bind (d_467 n v6 (v2 + (c.1 214 (ix a2))) c) (fun r75 =>
    j719 ((-1), r75))
    else none
  else
  if (c.1 211 (ix a2)) = 17 then
    if ib a2 3840 then
    Option.bind (d_467 n (v2 + (c.1 214 (ix a2))) (v6 - 1) c) (fun r78 =>
    j719 ((-1), r78))
    else none
  else
  if (c.1 211 (ix a2)) = 18 then
    if ib a2 3840 then
    if ib a2 3840 then
    if ib ((8 * (c.1 214 (ix a2))) + (c.1 215 (ix a2))) 96 then
    if ib v6 192 then
    lt (pI c 256 (ix v6) (c.1 258 (ix ((8 * (c.1 214 (ix a2))) + (c.1 215 (ix a2)))))) (fun c84 =>
    Option.bind (whl (R := (cS)) (fun s87 : Int32 × cS =>
      if (s87.2.1 174 15) ≤ s87.1 then
        some (.inr s87.2)
      else
        if ib a2 3840 then
        if ib a2 3840 then
        if ib ((4 * ((8 * (s87.2.1 214 (ix a2))) + (s87.2.1 215 (ix a2)))) + s87.1) 384 then
        if ib ((4 * v6) + s87.1) 768 then
        lt (pI s87.2 257 (ix ((4 * v6) + s87.1)) (s87.2.1 259 (ix ((4 * ((8 * (s87.2.1 214 (ix a2))) + (s87.2.1 215 (ix a2)))) + s87.1)))) (fun c92 =>
        lt (s87.1 + 1 : Int32) (fun v95 =>
        some (.inl (v95, c92))))
        else none
        else none
        else none
        else none) n (0, c84))
    (fun x97 : cS =>
      j719 ((-1), x97)))
    else none
    else none
    else none
    else none
  else
  if (c.1 211 (ix a2)) = 19 then
    if ib a2 3840 then
    if ib a2 3840 then
    if ib (v6 - 1) 192 then
    if ib ((8 * (c.1 214 (ix a2))) + (c.1 215 (ix a2))) 96 then
    lt (pI c 258 (ix ((8 * (c.1 214 (ix a2))) + (c.1 215 (ix a2)))) (c.1 256 (ix (v6 - 1)))) (fun c103 =>
    Option.bind (whl (R := (cS)) (fun s106 : Int32 × cS =>
      if (s106.2.1 174 15) ≤ s106.1 then
        some (.inr s106.2)
      else
        if ib a2 3840 then
        if ib a2 3840 then
        if ib ((4 * (v6 - 1)) + s106.1) 768 then
        if ib ((4 * ((8 * (s106.2.1 214 (ix a2))) + (s106.2.1 215 (ix a2)))) + s106.1) 384 then
        lt (pI s106.2 259 (ix ((4 * ((8 * (s106.2.1 214 (ix a2))) + (s106.2.1 215 (ix a2)))) + s106.1)) (s106.2.1 257 (ix ((4 * (v6 - 1)) + s106.1)))) (fun c111 =>
        lt (s106.1 + 1 : Int32) (fun v114 =>
        some (.inl (v114, c111))))
        else none
        else none
        else none
        else none) n (0, c103))
    (fun x116 : cS =>
      j719 ((-1), x116)))
    else none
    else none
    else none
    else none
  else
  if (c.1 211 (ix a2)) = 20 then
    j719 ((-1), c)
  else
  if (c.1 211 (ix a2)) = 21 then
    j719 ((-1), c)
  else
  if (c.1 211 (ix a2)) = 22 then
    j407 ()
  else
  if (c.1 211 (ix a2)) = 23 then
    j407 ()
  else
  if (c.1 211 (ix a2)) = 24 then
    j407 ()
  else
  if (c.1 211 (ix a2)) = 25 then
    Option.bind (d_467 n v6 (v6 - 1) c) (fun r123 =>
    j719 ((-1), r123))
  else
  if (c.1 211 (ix a2)) = 26 then
    j719 ((-1), c)
  else
  if (c.1 211 (ix a2)) = 27 then
    if ib a2 3840 then
    lt ((c.1 216 (ix a2)) : Int32) (fun v128 =>
    j719 (v128, c))
    else none
  else
  if (c.1 211 (ix a2)) = 28 then
    if ib (v6 - 1) 192 then
    if (c.1 256 (ix (v6 - 1))) = 0 then
      if ib a2 3840 then
      lt ((c.1 216 (ix a2)) : Int32) (fun v134 =>
      j719 (v134, c))
      else none
    else
      j719 ((-1), c)
    else none
  else
  if (c.1 211 (ix a2)) = 29 then
    if ib a2 3840 then
    if ib a2 3840 then
    if ib ((4 * (v6 - 1)) + (c.1 214 (ix a2))) 768 then
    if ib a2 3840 then
    Option.bind (d_387 n (c.1 214 (ix a2)) (c.1 257 (ix ((4 * (v6 - 1)) + (c.1 214 (ix a2))))) (c.1 215 (ix a2)) c) (fun v141 =>
    if v141 = 0 then
      j719 ((-1), c)
    else
      if ib a2 3840 then
      lt ((c.1 216 (ix a2)) : Int32) (fun v144 =>
      j719 (v144, c))
      else none)
    else none
    else none
    else none
    else none
  else
  if (c.1 211 (ix a2)) = 30 then
    if ib a2 3840 then
    if ib a2 3840 then
    if ib ((4 * (v6 - 1)) + (c.1 214 (ix a2))) 768 then
    if ib a2 3840 then
    Option.bind (d_387 n (c.1 214 (ix a2)) (c.1 257 (ix ((4 * (v6 - 1)) + (c.1 214 (ix a2))))) (c.1 215 (ix a2)) c) (fun v151 =>
    jn (fun p152 : cS =>
      if ib a2 3840 then
      if ib a2 3840 then
      if ib ((4 * (v6 - 1)) + (p152.1 214 (ix a2))) 768 then
      lt (pI p152 257 (ix ((4 * (v6 - 1)) + (p152.1 214 (ix a2)))) (p152.1 215 (ix a2))) (fun c156 =>
      j719 ((-1), c156))
      else none
      else none
      else none)
    (fun j692 =>
    if v151 = 0 then
      lt (pI c 174 128 ((c.1 174 128) + 1)) (fun c158 =>
      j692 c158)
    else
      j692 c))
    else none
    else none
    else none
    else none
  else
  j719 ((-1), c))))
  else none)
  else none)
theorem sp_470 {F Lo n : Nat} {a1 : Int32} {a2 : Int32} {c y : cS} {w : cW} {K : cS → Prop} {Q : ((Option Value) ⊕ String) → List va_E → Prop} (hw : rOK fm w) (hF : 3 ≤ F) (hLo : 71 ≤ Lo)  (h : wp (d_470 n a1 a2 c) K) (hQ : ∀ r, K r → Q (.inl none) (hq false r y w)) : rs (rt_P sc fm) 470 F Lo 0 [(0, .ref 174), (1, .int a1), (2, .int a2)] [] (hq false c y w) Q := by
  unfold d_470 at h
  obtain ⟨lv, elv⟩ : ∃ lv : rx_L, lv = [(0, .ref 174), (1, .int a1), (2, .int a2)] := ⟨_, rfl⟩
  rw [← elv]
  have l0 : rx_ld lv 0 = some (.ref 174) := by rw [elv]; rfl
  have l1 : rx_ld lv 1 = some (.int a1) := by rw [elv]; rfl
  have l2 : rx_ld lv 2 = some (.int a2) := by rw [elv]; rfl
  refine rs_pure wi_470_0 rfl ?_
  refine rs_topi (v := 16) (by decide) ?_
  refine rs_ildn wi_470_2 l1 ?_
  refine rs_pure wi_470_3 rfl ?_
  obtain ⟨v2, e3, h⟩ := wp_lt h
  refine rs_topi e3 ?_
  refine dl_istn wi_470_4 rfl (fun lv l3 t1 => ?_)
  have l0 := t1 _ _ (by decide) (Or.inl rfl) l0
  have l1 := t1 _ _ (by decide) (Or.inl rfl) l1
  have l2 := t1 _ _ (by decide) (Or.inl rfl) l2
  refine rs_ildn wi_470_5 l3 ?_
  refine rs_aldn wi_470_6 l0 ?_
  refine dq_gr wi_470_7 wf_470_323 tf_174_116 ?_
  refine rs_ildn wi_470_10 l1 ?_
  obtain ⟨g4, h⟩ := wp_gd h
  refine dq_iald wi_470_11 t_255 g4 ?_
  refine rs_pure wi_470_12 rfl ?_
  obtain ⟨v6, e7, h⟩ := wp_lt h
  refine rs_topi e7 ?_
  refine dl_ist wi_470_13 rfl (fun lv l4 t5 => ?_)
  have l0 := t5 _ _ (by decide) (Or.inl rfl) l0
  have l1 := t5 _ _ (by decide) (Or.inl rfl) l1
  have l2 := t5 _ _ (by decide) (Or.inl rfl) l2
  have l3 := t5 _ _ (by decide) (Or.inl rfl) l3
  refine rs_pure wi_470_15 rfl ?_
  refine rs_topi (v := (-1)) (by decide) ?_
  refine dl_ist wi_470_16 rfl (fun lv l5 t8 => ?_)
  have l0 := t8 _ _ (by decide) (Or.inl rfl) l0
  have l1 := t8 _ _ (by decide) (Or.inl rfl) l1
  have l2 := t8 _ _ (by decide) (Or.inl rfl) l2
  have l3 := t8 _ _ (by decide) (Or.inl rfl) l3
  have l4 := t8 _ _ (by decide) (Or.inl rfl) l4
  refine rs_aldn wi_470_18 l0 ?_
  refine dq_gr wi_470_19 wf_470_185 tf_174_49 ?_
  refine rs_ildn wi_470_22 l2 ?_
  obtain ⟨g9, h⟩ := wp_gd h
  refine dq_iald wi_470_23 t_211 g9 ?_
  refine wp_jn (B := fun p10 : Int32 × cS => ∀ lv, rx_ld lv 0 = some (.ref 174) → rx_ld lv 1 = some (.int a1) → rx_ld lv 2 = some (.int a2) → rx_ld lv 4 = some (.int v6) → rx_ld lv 5 = some (.int p10.1) → rs (rt_P sc fm) 470 F Lo 719 lv [] (hq false p10.2 y w) Q) h (fun p10 h lv l0 l1 l2 l4 l5 => ?_) (fun j719 hj719 h => ?_)
  ·
    refine rs_aldn wi_470_719 l0 ?_
    refine dq_gr wi_470_720 wf_470_185 tf_174_49 ?_
    refine rs_ildn wi_470_723 l2 ?_
    obtain ⟨g11, h⟩ := wp_gd h
    refine dq_iald wi_470_724 t_211 g11 ?_
    refine rs_pure wi_470_725 rfl ?_
    refine rs_topi (v := 20) (by decide) ?_
    refine rs_icne (tg := 737) wi_470_727 ⟨by decide, by decide⟩ (fun q => ?_) (fun q => ?_)
    ·
      have h := wp_neg h q
      refine rs_aldn wi_470_737 l0 ?_
      refine dq_gr wi_470_738 wf_470_185 tf_174_49 ?_
      refine rs_ildn wi_470_741 l2 ?_
      obtain ⟨g12, h⟩ := wp_gd h
      refine dq_iald wi_470_742 t_211 g12 ?_
      refine rs_pure wi_470_743 rfl ?_
      refine rs_topi (v := 21) (by decide) ?_
      refine rs_icne (tg := 758) wi_470_745 ⟨by decide, by decide⟩ (fun q => ?_) (fun q => ?_)
      ·
        have h := wp_neg h q
        refine rs_aldn wi_470_758 l0 ?_
        refine dq_gr wi_470_759 wf_470_323 tf_174_116 ?_
        refine rs_ildn wi_470_762 l1 ?_
        refine rs_pure wi_470_763 rfl ?_
        obtain ⟨g13, h⟩ := wp_gd h
        refine dq_iald wi_470_764 t_255 g13 ?_
        refine rs_aldn wi_470_765 l0 ?_
        refine rs_ildn wi_470_766 l2 ?_
        refine rs_V wi_470_767 wc_470_629 rfl (dq_isa tf_174_0 wa_15_418) (Nat.le_trans (by decide) hF) (ml_le wm_418 (Nat.le_trans (by decide) hLo)) rfl (sp_418 hw (Nat.le_trans (by decide : 0 ≤ 3 - 1) (Nat.sub_le_sub_right hF 1)) (ml_sub wm_418 (Nat.le_trans (by decide : 0 ≤ 71 - 21) (Nat.sub_le_sub_right hLo 21))) (wp_bind h) (fun v14 h => rs_back1 ?_))
        refine rs_aldn wi_470_770 l0 ?_
        refine rs_ildn wi_470_771 l2 ?_
        refine rs_V wi_470_772 wc_470_626 rfl (dq_isa tf_174_0 wa_15_417) (Nat.le_trans (by decide) hF) (ml_le wm_417 (Nat.le_trans (by decide) hLo)) rfl (sp_417 hw (Nat.le_trans (by decide : 0 ≤ 3 - 1) (Nat.sub_le_sub_right hF 1)) (ml_sub wm_417 (Nat.le_trans (by decide : 0 ≤ 71 - 21) (Nat.sub_le_sub_right hLo 21))) (wp_bind h) (fun v15 h => rs_back1 ?_))
        refine rs_pure wi_470_775 rfl ?_
        refine rs_pure wi_470_776 rfl ?_
        obtain ⟨g16, h⟩ := wp_gd h
        obtain ⟨c17, e18, h⟩ := wp_lt h
        refine dq_iast wi_470_777 t_255 g16 e18 ?_
        refine rs_aldn wi_470_778 l0 ?_
        refine dq_gr wi_470_779 wf_470_320 tf_174_115 ?_
        refine rs_ildn wi_470_782 l1 ?_
        refine rs_ild wi_470_783 l5 ?_
        refine wp_jn (B := fun p19 : Int32 => ∀ lv, rs (rt_P sc fm) 470 F Lo 801 lv [.int p19, .int a1, .ref 254] (hq false c17 y w) Q) h (fun p19 h lv => ?_) (fun j801 hj801 h => ?_)
        ·
          obtain ⟨g20, h⟩ := wp_gd h
          obtain ⟨c21, e22, h⟩ := wp_lt h
          refine dq_iast wi_470_801 t_254 g20 e22 ?_
          exact rs_vret wi_470_802 wr_470 (hQ c21 h)
        refine rs_iflt (tg := 793) wi_470_785 ⟨by decide, by decide⟩ (fun q => ?_) (fun q => ?_)
        ·
          have h := wp_pos h q
          refine rs_aldn wi_470_793 l0 ?_
          refine dq_gr wi_470_794 wf_470_320 tf_174_115 ?_
          refine rs_ildn wi_470_797 l1 ?_
          obtain ⟨g23, h⟩ := wp_gd h
          refine dq_iald wi_470_798 t_254 g23 ?_
          refine rs_pure wi_470_799 rfl ?_
          refine rs_topi (v := 1) (by decide) ?_
          refine rs_pure wi_470_800 rfl ?_
          exact hj801 _ h _
        ·
          have h := wp_neg h q
          refine rs_ild wi_470_788 l5 ?_
          refine rs_goto (tg := 801) wi_470_790 ⟨by decide, by decide⟩ ?_
          exact hj801 _ h _
      ·
        have h := wp_pos h q
        refine rs_aldn wi_470_748 l0 ?_
        refine rs_ildn wi_470_749 l1 ?_
        refine rs_ild wi_470_750 l4 ?_
        refine rs_pure wi_470_752 rfl ?_
        refine rs_topi (v := 1) (by decide) ?_
        refine rs_pure wi_470_753 rfl ?_
        refine rs_V wi_470_754 wc_470_967 rfl (dq_isa tf_174_0 wa_15_473) (Nat.le_trans (by decide) hF) (ml_le wm_473 (Nat.le_trans (by decide) hLo)) rfl (sp_473 hw (Nat.le_trans (by decide : 1 ≤ 3 - 1) (Nat.sub_le_sub_right hF 1)) (ml_sub wm_473 (Nat.le_trans (by decide : 23 ≤ 71 - 23) (Nat.sub_le_sub_right hLo 23))) (wp_bind h) (fun r24 h => rs_back0 ?_))
        exact rs_vret wi_470_757 wr_470 (hQ r24 h)
    ·
      have h := wp_pos h q
      refine rs_aldn wi_470_730 l0 ?_
      refine rs_ildn wi_470_731 l1 ?_
      refine rs_ildn wi_470_732 l2 ?_
      refine rs_V wi_470_733 wc_470_964 rfl (dq_isa tf_174_0 wa_15_472) (Nat.le_trans (by decide) hF) (ml_le wm_472 (Nat.le_trans (by decide) hLo)) rfl (sp_472 hw (Nat.le_trans (by decide : 2 ≤ 3 - 1) (Nat.sub_le_sub_right hF 1)) (ml_sub wm_472 (Nat.le_trans (by decide : 46 ≤ 71 - 25) (Nat.sub_le_sub_right hLo 25))) (wp_bind h) (fun r25 h => rs_back0 ?_))
      exact rs_vret wi_470_736 wr_470 (hQ r25 h)
  refine wp_jn (B := fun p26 : Unit => ∀ lv, rx_ld lv 0 = some (.ref 174) → rx_ld lv 1 = some (.int a1) → rx_ld lv 2 = some (.int a2) → rx_ld lv 4 = some (.int v6) → rx_ld lv 5 = some (.int (-1)) → rs (rt_P sc fm) 470 F Lo 108 lv [] (hq false c y w) Q) h (fun p26 h lv l0 l1 l2 l4 l5 => ?_) (fun j108 hj108 h => ?_)
  ·
    refine rs_aldn wi_470_108 l0 ?_
    refine rs_ild wi_470_109 l4 ?_
    refine rs_aldn wi_470_111 l0 ?_
    refine dq_gr wi_470_112 wf_470_185 tf_174_49 ?_
    refine rs_ildn wi_470_115 l2 ?_
    obtain ⟨g27, h⟩ := wp_gd h
    refine dq_iald wi_470_116 t_211 g27 ?_
    refine rs_pure wi_470_117 rfl ?_
    refine rs_topi (v := 14) (by decide) ?_
    refine wp_jn (B := fun p28 : Int32 × cS => ∀ lv, rx_ld lv 0 = some (.ref 174) → rx_ld lv 1 = some (.int a1) → rx_ld lv 2 = some (.int a2) → rx_ld lv 4 = some (.int v6) → rx_ld lv 5 = some (.int (-1)) → rs (rt_P sc fm) 470 F Lo 135 lv [.int p28.1, .int v6, .ref 174] (hq false p28.2 y w) Q) h (fun p28 h lv l0 l1 l2 l4 l5 => ?_) (fun j135 hj135 h => ?_)
    ·
      refine rs_V wi_470_135 wc_470_916 rfl (dq_isa tf_174_0 wa_15_138) (Nat.le_trans (by decide) hF) (ml_le wm_138 (Nat.le_trans (by decide) hLo)) rfl (sp_138 hw (Nat.le_trans (by decide : 0 ≤ 3 - 1) (Nat.sub_le_sub_right hF 1)) (ml_sub wm_138 (Nat.le_trans (by decide : 0 ≤ 71 - 23) (Nat.sub_le_sub_right hLo 23))) (wp_bind h) (fun r29 h => rs_back0 ?_))
      refine rs_pure wi_470_138 rfl ?_
      refine rs_topi (v := 0) (by decide) ?_
      refine dl_ist wi_470_139 rfl (fun lv l6 t30 => ?_)
      have l0 := t30 _ _ (by decide) (Or.inl rfl) l0
      have l1 := t30 _ _ (by decide) (Or.inl rfl) l1
      have l2 := t30 _ _ (by decide) (Or.inl rfl) l2
      have l4 := t30 _ _ (by decide) (Or.inl rfl) l4
      have l5 := t30 _ _ (by decide) (Or.inl rfl) l5
      refine whl_ex (A := fun s31 : Int32 × cS => ∀ lv, rx_ld lv 0 = some (.ref 174) → rx_ld lv 1 = some (.int a1) → rx_ld lv 2 = some (.int a2) → rx_ld lv 4 = some (.int v6) → rx_ld lv 5 = some (.int (-1)) → rx_ld lv 6 = some (.int s31.1) → rs (rt_P sc fm) 470 F Lo 141 lv [] (hq false s31.2 y w) Q) (B := (fun x41 : cS => ∀ lv, rx_ld lv 0 = some (.ref 174) → rx_ld lv 1 = some (.int a1) → rx_ld lv 2 = some (.int a2) → rx_ld lv 4 = some (.int v6) → rx_ld lv 5 = some (.int (-1)) → rs (rt_P sc fm) 470 F Lo 190 lv [] (hq false x41 y w) Q)) ?_ ?_ _ _ (wp_bind h) _ l0 l1 l2 l4 l5 l6
      · intro s31 h lv l0 l1 l2 l4 l5 l6
        refine rs_ild wi_470_141 l6 ?_
        refine rs_aldn wi_470_143 l0 ?_
        refine dq_gr wi_470_144 wf_470_209 tf_174_57 ?_
        refine rs_ildn wi_470_147 l2 ?_
        obtain ⟨g32, h⟩ := wp_gd h
        refine dq_iald wi_470_148 t_219 g32 ?_
        refine rs_icge (tg := 190) wi_470_149 ⟨by decide, by decide⟩ (fun q => ?_) (fun q => ?_)
        ·
          have h := wp_pos h q
          exact h _ l0 l1 l2 l4 l5
        ·
          have h := wp_neg h q
          refine rs_aldn wi_470_152 l0 ?_
          refine dq_gr wi_470_153 wf_470_329 tf_174_118 ?_
          refine rs_pure wi_470_156 rfl ?_
          refine rs_topi (v := 4) (by decide) ?_
          refine rs_ild wi_470_157 l4 ?_
          refine rs_pure wi_470_159 rfl ?_
          refine rs_aldn wi_470_160 l0 ?_
          refine dq_gr wi_470_161 wf_470_212 tf_174_58 ?_
          refine rs_pure wi_470_164 rfl ?_
          refine rs_topi (v := 4) (by decide) ?_
          refine rs_ildn wi_470_165 l2 ?_
          refine rs_pure wi_470_166 rfl ?_
          refine rs_ild wi_470_167 l6 ?_
          refine rs_pure wi_470_169 rfl ?_
          obtain ⟨g33, h⟩ := wp_gd h
          refine dq_iald wi_470_170 t_220 g33 ?_
          refine rs_pure wi_470_171 rfl ?_
          refine rs_aldn wi_470_172 l0 ?_
          refine dq_gr wi_470_173 wf_470_215 tf_174_59 ?_
          refine rs_pure wi_470_176 rfl ?_
          refine rs_topi (v := 4) (by decide) ?_
          refine rs_ildn wi_470_177 l2 ?_
          refine rs_pure wi_470_178 rfl ?_
          refine rs_ild wi_470_179 l6 ?_
          refine rs_pure wi_470_181 rfl ?_
          obtain ⟨g34, h⟩ := wp_gd h
          refine dq_iald wi_470_182 t_221 g34 ?_
          obtain ⟨g35, h⟩ := wp_gd h
          obtain ⟨c36, e37, h⟩ := wp_lt h
          refine dq_iast wi_470_183 t_257 g35 e37 ?_
          obtain ⟨v39, e40, h⟩ := wp_lt h
          refine dl_inc wi_470_184 l6 rfl e40 (fun lv l6 t38 => ?_)
          have l0 := t38 _ _ (by decide) (Or.inl rfl) l0
          have l1 := t38 _ _ (by decide) (Or.inl rfl) l1
          have l2 := t38 _ _ (by decide) (Or.inl rfl) l2
          have l4 := t38 _ _ (by decide) (Or.inl rfl) l4
          have l5 := t38 _ _ (by decide) (Or.inl rfl) l5
          refine rs_goto (tg := 141) wi_470_187 ⟨by decide, by decide⟩ ?_
          exact h _ l0 l1 l2 l4 l5 l6
      ·
        intro x41 h lv l0 l1 l2 l4 l5
        refine rs_goto (tg := 719) wi_470_190 ⟨by decide, by decide⟩ ?_
        exact hj719 _ h _ l0 l1 l2 l4 l5
    refine rs_icne (tg := 131) wi_470_119 ⟨by decide, by decide⟩ (fun q => ?_) (fun q => ?_)
    ·
      have h := wp_neg h q
      refine rs_aldn wi_470_131 l0 ?_
      refine rs_V wi_470_132 wc_470_958 rfl (dq_isa tf_174_0 wa_15_471) (Nat.le_trans (by decide) hF) (ml_le wm_471 (Nat.le_trans (by decide) hLo)) rfl (sp_471 hw (Nat.le_trans (by decide : 0 ≤ 3 - 1) (Nat.sub_le_sub_right hF 1)) (ml_sub wm_471 (Nat.le_trans (by decide : 0 ≤ 71 - 22) (Nat.sub_le_sub_right hLo 22))) (wp_bind h) (fun r42 h => rs_back1 ?_))
      exact hj135 _ h _ l0 l1 l2 l4 l5
    ·
      have h := wp_pos h q
      refine rs_aldn wi_470_122 l0 ?_
      refine dq_gr wi_470_123 wf_470_194 tf_174_52 ?_
      refine rs_ildn wi_470_126 l2 ?_
      obtain ⟨g43, h⟩ := wp_gd h
      refine dq_iald wi_470_127 t_214 g43 ?_
      refine rs_goto (tg := 135) wi_470_128 ⟨by decide, by decide⟩ ?_
      exact hj135 _ h _ l0 l1 l2 l4 l5
  refine wp_jn (B := fun p44 : Unit => ∀ lv, rx_ld lv 0 = some (.ref 174) → rx_ld lv 1 = some (.int a1) → rx_ld lv 2 = some (.int a2) → rx_ld lv 4 = some (.int v6) → rx_ld lv 5 = some (.int (-1)) → rs (rt_P sc fm) 470 F Lo 407 lv [] (hq false c y w) Q) h (fun p44 h lv l0 l1 l2 l4 l5 => ?_) (fun j407 hj407 h => ?_)
  ·
    refine rs_aldn wi_470_407 l0 ?_
    refine dq_gr wi_470_408 wf_470_326 tf_174_117 ?_
    refine rs_ild wi_470_411 l4 ?_
    refine rs_pure wi_470_413 rfl ?_
    refine rs_topi (v := 2) (by decide) ?_
    refine rs_pure wi_470_414 rfl ?_
    obtain ⟨g45, h⟩ := wp_gd h
    refine dq_iald wi_470_415 t_256 g45 ?_
    obtain ⟨v47, e48, h⟩ := wp_lt h
    refine rs_topi e48 ?_
    refine dl_ist wi_470_416 rfl (fun lv l6 t46 => ?_)
    have l0 := t46 _ _ (by decide) (Or.inl rfl) l0
    have l1 := t46 _ _ (by decide) (Or.inl rfl) l1
    have l2 := t46 _ _ (by decide) (Or.inl rfl) l2
    have l4 := t46 _ _ (by decide) (Or.inl rfl) l4
    have l5 := t46 _ _ (by decide) (Or.inl rfl) l5
    refine rs_aldn wi_470_418 l0 ?_
    refine dq_gr wi_470_419 wf_470_326 tf_174_117 ?_
    refine rs_ild wi_470_422 l4 ?_
    refine rs_pure wi_470_424 rfl ?_
    refine rs_topi (v := 1) (by decide) ?_
    refine rs_pure wi_470_425 rfl ?_
    obtain ⟨g49, h⟩ := wp_gd h
    refine dq_iald wi_470_426 t_256 g49 ?_
    obtain ⟨v51, e52, h⟩ := wp_lt h
    refine rs_topi e52 ?_
    refine dl_ist wi_470_427 rfl (fun lv l7 t50 => ?_)
    have l0 := t50 _ _ (by decide) (Or.inl rfl) l0
    have l1 := t50 _ _ (by decide) (Or.inl rfl) l1
    have l2 := t50 _ _ (by decide) (Or.inl rfl) l2
    have l4 := t50 _ _ (by decide) (Or.inl rfl) l4
    have l5 := t50 _ _ (by decide) (Or.inl rfl) l5
    have l6 := t50 _ _ (by decide) (Or.inl rfl) l6
    refine rs_aldn wi_470_429 l0 ?_
    refine dq_gr wi_470_430 wf_470_326 tf_174_117 ?_
    refine rs_ild wi_470_433 l4 ?_
    refine rs_pure wi_470_435 rfl ?_
    refine rs_topi (v := 2) (by decide) ?_
    refine rs_pure wi_470_436 rfl ?_
    refine rs_aldn wi_470_437 l0 ?_
    refine dq_gr wi_470_438 wf_470_185 tf_174_49 ?_
    refine rs_ildn wi_470_441 l2 ?_
    obtain ⟨g53, h⟩ := wp_gd h
    refine dq_iald wi_470_442 t_211 g53 ?_
    refine rs_pure wi_470_443 rfl ?_
    refine rs_topi (v := 22) (by decide) ?_
    refine wp_jn (B := fun p54 : Int32 => ∀ lv, rx_ld lv 0 = some (.ref 174) → rx_ld lv 1 = some (.int a1) → rx_ld lv 2 = some (.int a2) → rx_ld lv 4 = some (.int v6) → rx_ld lv 5 = some (.int (-1)) → rs (rt_P sc fm) 470 F Lo 480 lv [.int p54, .int (v6 - 2), .ref 256] (hq false c y w) Q) h (fun p54 h lv l0 l1 l2 l4 l5 => ?_) (fun j480 hj480 h => ?_)
    ·
      obtain ⟨g55, h⟩ := wp_gd h
      obtain ⟨c56, e57, h⟩ := wp_lt h
      refine dq_iast wi_470_480 t_256 g55 e57 ?_
      refine rs_pure wi_470_481 rfl ?_
      refine rs_topi (v := 0) (by decide) ?_
      refine dl_ist wi_470_482 rfl (fun lv l8 t58 => ?_)
      have l0 := t58 _ _ (by decide) (Or.inl rfl) l0
      have l1 := t58 _ _ (by decide) (Or.inl rfl) l1
      have l2 := t58 _ _ (by decide) (Or.inl rfl) l2
      have l4 := t58 _ _ (by decide) (Or.inl rfl) l4
      have l5 := t58 _ _ (by decide) (Or.inl rfl) l5
      refine whl_ex (A := fun s59 : Int32 × cS => ∀ lv, rx_ld lv 0 = some (.ref 174) → rx_ld lv 1 = some (.int a1) → rx_ld lv 2 = some (.int a2) → rx_ld lv 4 = some (.int v6) → rx_ld lv 5 = some (.int (-1)) → rx_ld lv 8 = some (.int s59.1) → rs (rt_P sc fm) 470 F Lo 484 lv [] (hq false s59.2 y w) Q) (B := (fun x69 : cS => ∀ lv, rx_ld lv 0 = some (.ref 174) → rx_ld lv 1 = some (.int a1) → rx_ld lv 2 = some (.int a2) → rx_ld lv 4 = some (.int v6) → rx_ld lv 5 = some (.int (-1)) → rs (rt_P sc fm) 470 F Lo 547 lv [] (hq false x69 y w) Q)) ?_ ?_ _ _ (wp_bind h) _ l0 l1 l2 l4 l5 l8
      · intro s59 h lv l0 l1 l2 l4 l5 l8
        refine rs_ild wi_470_484 l8 ?_
        refine rs_aldn wi_470_486 l0 ?_
        refine dq_gi wi_470_487 wf_470_447 tf_174_15 ?_
        refine rs_icge (tg := 547) wi_470_490 ⟨by decide, by decide⟩ (fun q => ?_) (fun q => ?_)
        ·
          have h := wp_pos h q
          exact h _ l0 l1 l2 l4 l5
        ·
          have h := wp_neg h q
          refine rs_aldn wi_470_493 l0 ?_
          refine dq_gr wi_470_494 wf_470_329 tf_174_118 ?_
          refine rs_pure wi_470_497 rfl ?_
          refine rs_topi (v := 4) (by decide) ?_
          refine rs_ild wi_470_498 l4 ?_
          refine rs_pure wi_470_500 rfl ?_
          refine rs_topi (v := 2) (by decide) ?_
          refine rs_pure wi_470_501 rfl ?_
          refine rs_pure wi_470_502 rfl ?_
          refine rs_ild wi_470_503 l8 ?_
          refine rs_pure wi_470_505 rfl ?_
          refine rs_aldn wi_470_506 l0 ?_
          refine rs_ild wi_470_507 l8 ?_
          refine rs_aldn wi_470_509 l0 ?_
          refine dq_gr wi_470_510 wf_470_329 tf_174_118 ?_
          refine rs_pure wi_470_513 rfl ?_
          refine rs_topi (v := 4) (by decide) ?_
          refine rs_ild wi_470_514 l4 ?_
          refine rs_pure wi_470_516 rfl ?_
          refine rs_topi (v := 2) (by decide) ?_
          refine rs_pure wi_470_517 rfl ?_
          refine rs_pure wi_470_518 rfl ?_
          refine rs_ild wi_470_519 l8 ?_
          refine rs_pure wi_470_521 rfl ?_
          obtain ⟨g60, h⟩ := wp_gd h
          refine dq_iald wi_470_522 t_257 g60 ?_
          refine rs_aldn wi_470_523 l0 ?_
          refine dq_gr wi_470_524 wf_470_329 tf_174_118 ?_
          refine rs_pure wi_470_527 rfl ?_
          refine rs_topi (v := 4) (by decide) ?_
          refine rs_ild wi_470_528 l4 ?_
          refine rs_pure wi_470_530 rfl ?_
          refine rs_topi (v := 1) (by decide) ?_
          refine rs_pure wi_470_531 rfl ?_
          refine rs_pure wi_470_532 rfl ?_
          refine rs_ild wi_470_533 l8 ?_
          refine rs_pure wi_470_535 rfl ?_
          obtain ⟨g61, h⟩ := wp_gd h
          refine dq_iald wi_470_536 t_257 g61 ?_
          refine rs_V wi_470_537 wc_470_727 rfl (dq_isa tf_174_0 wa_15_390) (Nat.le_trans (by decide) hF) (ml_le wm_390 (Nat.le_trans (by decide) hLo)) rfl (sp_390 hw (Nat.le_trans (by decide : 1 ≤ 3 - 1) (Nat.sub_le_sub_right hF 1)) (ml_sub wm_390 (Nat.le_trans (by decide : 23 ≤ 71 - 23) (Nat.sub_le_sub_right hLo 23))) (wp_bind h) (fun v62 h => rs_back1 ?_))
          obtain ⟨g63, h⟩ := wp_gd h
          obtain ⟨c64, e65, h⟩ := wp_lt h
          refine dq_iast wi_470_540 t_257 g63 e65 ?_
          obtain ⟨v67, e68, h⟩ := wp_lt h
          refine dl_inc wi_470_541 l8 rfl e68 (fun lv l8 t66 => ?_)
          have l0 := t66 _ _ (by decide) (Or.inl rfl) l0
          have l1 := t66 _ _ (by decide) (Or.inl rfl) l1
          have l2 := t66 _ _ (by decide) (Or.inl rfl) l2
          have l4 := t66 _ _ (by decide) (Or.inl rfl) l4
          have l5 := t66 _ _ (by decide) (Or.inl rfl) l5
          refine rs_goto (tg := 484) wi_470_544 ⟨by decide, by decide⟩ ?_
          exact h _ l0 l1 l2 l4 l5 l8
      ·
        intro x69 h lv l0 l1 l2 l4 l5
        refine rs_goto (tg := 719) wi_470_547 ⟨by decide, by decide⟩ ?_
        exact hj719 _ h _ l0 l1 l2 l4 l5
    refine rs_icne (tg := 456) wi_470_445 ⟨by decide, by decide⟩ (fun q => ?_) (fun q => ?_)
    ·
      have h := wp_neg h q
      refine rs_aldn wi_470_456 l0 ?_
      refine dq_gr wi_470_457 wf_470_185 tf_174_49 ?_
      refine rs_ildn wi_470_460 l2 ?_
      obtain ⟨g70, h⟩ := wp_gd h
      refine dq_iald wi_470_461 t_211 g70 ?_
      refine rs_pure wi_470_462 rfl ?_
      refine rs_topi (v := 23) (by decide) ?_
      refine rs_icne (tg := 475) wi_470_464 ⟨by decide, by decide⟩ (fun q => ?_) (fun q => ?_)
      ·
        have h := wp_neg h q
        refine rs_ild wi_470_475 l6 ?_
        refine rs_ild wi_470_477 l7 ?_
        refine rs_pure wi_470_479 rfl ?_
        exact hj480 _ h _ l0 l1 l2 l4 l5
      ·
        have h := wp_pos h q
        refine rs_ild wi_470_467 l6 ?_
        refine rs_ild wi_470_469 l7 ?_
        refine rs_pure wi_470_471 rfl ?_
        refine rs_goto (tg := 480) wi_470_472 ⟨by decide, by decide⟩ ?_
        exact hj480 _ h _ l0 l1 l2 l4 l5
    ·
      have h := wp_pos h q
      refine rs_ild wi_470_448 l6 ?_
      refine rs_ild wi_470_450 l7 ?_
      refine rs_pure wi_470_452 rfl ?_
      refine rs_goto (tg := 480) wi_470_453 ⟨by decide, by decide⟩ ?_
      exact hj480 _ h _ l0 l1 l2 l4 l5
  by_cases q71 : (c.1 211 (ix a2)) = 14
  ·
    have h := wp_pos h q71
    refine rs_tsk (tg := 108) (off := 84) (v := 14) wi_470_24 q71 (by decide) (by decide) ⟨by decide, by decide⟩ ?_
    exact hj108 _ h _ l0 l1 l2 l4 l5
  have h := wp_neg h q71
  by_cases q72 : (c.1 211 (ix a2)) = 15
  ·
    have h := wp_pos h q72
    refine rs_tsk (tg := 108) (off := 84) (v := 15) wi_470_24 q72 (by decide) (by decide) ⟨by decide, by decide⟩ ?_
    exact hj108 _ h _ l0 l1 l2 l4 l5
  have h := wp_neg h q72
  by_cases q73 : (c.1 211 (ix a2)) = 16
  ·
    have h := wp_pos h q73
    refine rs_tsk (tg := 193) (off := 169) (v := 16) wi_470_24 q73 (by decide) (by decide) ⟨by decide, by decide⟩ ?_
    refine rs_aldn wi_470_193 l0 ?_
    refine rs_ild wi_470_194 l4 ?_
    refine rs_ildn wi_470_196 l3 ?_
    refine rs_aldn wi_470_197 l0 ?_
    refine dq_gr wi_470_198 wf_470_194 tf_174_52 ?_
    refine rs_ildn wi_470_201 l2 ?_
    obtain ⟨g74, h⟩ := wp_gd h
    refine dq_iald wi_470_202 t_214 g74 ?_
    refine rs_pure wi_470_203 rfl ?_
    refine rs_V wi_470_204 wc_470_961 rfl (dq_isa tf_174_0 wa_15_467) (Nat.le_trans (by decide) hF) (ml_le wm_467 (Nat.le_trans (by decide) hLo)) rfl (sp_467 hw (Nat.le_trans (by decide : 0 ≤ 3 - 1) (Nat.sub_le_sub_right hF 1)) (ml_sub wm_467 (Nat.le_trans (by decide : 0 ≤ 71 - 23) (Nat.sub_le_sub_right hLo 23))) (wp_bind h) (fun r75 h => rs_back0 ?_))
    refine rs_goto (tg := 719) wi_470_207 ⟨by decide, by decide⟩ ?_
    exact hj719 _ h _ l0 l1 l2 l4 l5
  have h := wp_neg h q73
  by_cases q76 : (c.1 211 (ix a2)) = 17
  ·
    have h := wp_pos h q76
    refine rs_tsk (tg := 210) (off := 186) (v := 17) wi_470_24 q76 (by decide) (by decide) ⟨by decide, by decide⟩ ?_
    refine rs_aldn wi_470_210 l0 ?_
    refine rs_ildn wi_470_211 l3 ?_
    refine rs_aldn wi_470_212 l0 ?_
    refine dq_gr wi_470_213 wf_470_194 tf_174_52 ?_
    refine rs_ildn wi_470_216 l2 ?_
    obtain ⟨g77, h⟩ := wp_gd h
    refine dq_iald wi_470_217 t_214 g77 ?_
    refine rs_pure wi_470_218 rfl ?_
    refine rs_ild wi_470_219 l4 ?_
    refine rs_pure wi_470_221 rfl ?_
    refine rs_topi (v := 1) (by decide) ?_
    refine rs_pure wi_470_222 rfl ?_
    refine rs_V wi_470_223 wc_470_961 rfl (dq_isa tf_174_0 wa_15_467) (Nat.le_trans (by decide) hF) (ml_le wm_467 (Nat.le_trans (by decide) hLo)) rfl (sp_467 hw (Nat.le_trans (by decide : 0 ≤ 3 - 1) (Nat.sub_le_sub_right hF 1)) (ml_sub wm_467 (Nat.le_trans (by decide : 0 ≤ 71 - 23) (Nat.sub_le_sub_right hLo 23))) (wp_bind h) (fun r78 h => rs_back0 ?_))
    refine rs_goto (tg := 719) wi_470_226 ⟨by decide, by decide⟩ ?_
    exact hj719 _ h _ l0 l1 l2 l4 l5
  have h := wp_neg h q76
  by_cases q79 : (c.1 211 (ix a2)) = 18
  ·
    have h := wp_pos h q79
    refine rs_tsk (tg := 229) (off := 205) (v := 18) wi_470_24 q79 (by decide) (by decide) ⟨by decide, by decide⟩ ?_
    refine rs_aldn wi_470_229 l0 ?_
    refine dq_gr wi_470_230 wf_470_326 tf_174_117 ?_
    refine rs_ild wi_470_233 l4 ?_
    refine rs_aldn wi_470_235 l0 ?_
    refine dq_gr wi_470_236 wf_470_332 tf_174_119 ?_
    refine rs_pure wi_470_239 rfl ?_
    refine rs_topi (v := 8) (by decide) ?_
    refine rs_aldn wi_470_241 l0 ?_
    refine dq_gr wi_470_242 wf_470_194 tf_174_52 ?_
    refine rs_ildn wi_470_245 l2 ?_
    obtain ⟨g80, h⟩ := wp_gd h
    refine dq_iald wi_470_246 t_214 g80 ?_
    refine rs_pure wi_470_247 rfl ?_
    refine rs_aldn wi_470_248 l0 ?_
    refine dq_gr wi_470_249 wf_470_197 tf_174_53 ?_
    refine rs_ildn wi_470_252 l2 ?_
    obtain ⟨g81, h⟩ := wp_gd h
    refine dq_iald wi_470_253 t_215 g81 ?_
    refine rs_pure wi_470_254 rfl ?_
    obtain ⟨g82, h⟩ := wp_gd h
    refine dq_iald wi_470_255 t_258 g82 ?_
    obtain ⟨g83, h⟩ := wp_gd h
    obtain ⟨c84, e85, h⟩ := wp_lt h
    refine dq_iast wi_470_256 t_256 g83 e85 ?_
    refine rs_pure wi_470_257 rfl ?_
    refine rs_topi (v := 0) (by decide) ?_
    refine dl_ist wi_470_258 rfl (fun lv l6 t86 => ?_)
    have l0 := t86 _ _ (by decide) (Or.inl rfl) l0
    have l1 := t86 _ _ (by decide) (Or.inl rfl) l1
    have l2 := t86 _ _ (by decide) (Or.inl rfl) l2
    have l4 := t86 _ _ (by decide) (Or.inl rfl) l4
    have l5 := t86 _ _ (by decide) (Or.inl rfl) l5
    refine whl_ex (A := fun s87 : Int32 × cS => ∀ lv, rx_ld lv 0 = some (.ref 174) → rx_ld lv 1 = some (.int a1) → rx_ld lv 2 = some (.int a2) → rx_ld lv 4 = some (.int v6) → rx_ld lv 5 = some (.int (-1)) → rx_ld lv 6 = some (.int s87.1) → rs (rt_P sc fm) 470 F Lo 260 lv [] (hq false s87.2 y w) Q) (B := (fun x97 : cS => ∀ lv, rx_ld lv 0 = some (.ref 174) → rx_ld lv 1 = some (.int a1) → rx_ld lv 2 = some (.int a2) → rx_ld lv 4 = some (.int v6) → rx_ld lv 5 = some (.int (-1)) → rs (rt_P sc fm) 470 F Lo 313 lv [] (hq false x97 y w) Q)) ?_ ?_ _ _ (wp_bind h) _ l0 l1 l2 l4 l5 l6
    · intro s87 h lv l0 l1 l2 l4 l5 l6
      refine rs_ild wi_470_260 l6 ?_
      refine rs_aldn wi_470_262 l0 ?_
      refine dq_gi wi_470_263 wf_470_447 tf_174_15 ?_
      refine rs_icge (tg := 313) wi_470_266 ⟨by decide, by decide⟩ (fun q => ?_) (fun q => ?_)
      ·
        have h := wp_pos h q
        exact h _ l0 l1 l2 l4 l5
      ·
        have h := wp_neg h q
        refine rs_aldn wi_470_269 l0 ?_
        refine dq_gr wi_470_270 wf_470_329 tf_174_118 ?_
        refine rs_pure wi_470_273 rfl ?_
        refine rs_topi (v := 4) (by decide) ?_
        refine rs_ild wi_470_274 l4 ?_
        refine rs_pure wi_470_276 rfl ?_
        refine rs_ild wi_470_277 l6 ?_
        refine rs_pure wi_470_279 rfl ?_
        refine rs_aldn wi_470_280 l0 ?_
        refine dq_gr wi_470_281 wf_470_335 tf_174_120 ?_
        refine rs_pure wi_470_284 rfl ?_
        refine rs_topi (v := 4) (by decide) ?_
        refine rs_pure wi_470_285 rfl ?_
        refine rs_topi (v := 8) (by decide) ?_
        refine rs_aldn wi_470_287 l0 ?_
        refine dq_gr wi_470_288 wf_470_194 tf_174_52 ?_
        refine rs_ildn wi_470_291 l2 ?_
        obtain ⟨g88, h⟩ := wp_gd h
        refine dq_iald wi_470_292 t_214 g88 ?_
        refine rs_pure wi_470_293 rfl ?_
        refine rs_aldn wi_470_294 l0 ?_
        refine dq_gr wi_470_295 wf_470_197 tf_174_53 ?_
        refine rs_ildn wi_470_298 l2 ?_
        obtain ⟨g89, h⟩ := wp_gd h
        refine dq_iald wi_470_299 t_215 g89 ?_
        refine rs_pure wi_470_300 rfl ?_
        refine rs_pure wi_470_301 rfl ?_
        refine rs_ild wi_470_302 l6 ?_
        refine rs_pure wi_470_304 rfl ?_
        obtain ⟨g90, h⟩ := wp_gd h
        refine dq_iald wi_470_305 t_259 g90 ?_
        obtain ⟨g91, h⟩ := wp_gd h
        obtain ⟨c92, e93, h⟩ := wp_lt h
        refine dq_iast wi_470_306 t_257 g91 e93 ?_
        obtain ⟨v95, e96, h⟩ := wp_lt h
        refine dl_inc wi_470_307 l6 rfl e96 (fun lv l6 t94 => ?_)
        have l0 := t94 _ _ (by decide) (Or.inl rfl) l0
        have l1 := t94 _ _ (by decide) (Or.inl rfl) l1
        have l2 := t94 _ _ (by decide) (Or.inl rfl) l2
        have l4 := t94 _ _ (by decide) (Or.inl rfl) l4
        have l5 := t94 _ _ (by decide) (Or.inl rfl) l5
        refine rs_goto (tg := 260) wi_470_310 ⟨by decide, by decide⟩ ?_
        exact h _ l0 l1 l2 l4 l5 l6
    ·
      intro x97 h lv l0 l1 l2 l4 l5
      refine rs_goto (tg := 719) wi_470_313 ⟨by decide, by decide⟩ ?_
      exact hj719 _ h _ l0 l1 l2 l4 l5
  have h := wp_neg h q79
  by_cases q98 : (c.1 211 (ix a2)) = 19
  ·
    have h := wp_pos h q98
    refine rs_tsk (tg := 316) (off := 292) (v := 19) wi_470_24 q98 (by decide) (by decide) ⟨by decide, by decide⟩ ?_
    refine rs_aldn wi_470_316 l0 ?_
    refine dq_gr wi_470_317 wf_470_332 tf_174_119 ?_
    refine rs_pure wi_470_320 rfl ?_
    refine rs_topi (v := 8) (by decide) ?_
    refine rs_aldn wi_470_322 l0 ?_
    refine dq_gr wi_470_323 wf_470_194 tf_174_52 ?_
    refine rs_ildn wi_470_326 l2 ?_
    obtain ⟨g99, h⟩ := wp_gd h
    refine dq_iald wi_470_327 t_214 g99 ?_
    refine rs_pure wi_470_328 rfl ?_
    refine rs_aldn wi_470_329 l0 ?_
    refine dq_gr wi_470_330 wf_470_197 tf_174_53 ?_
    refine rs_ildn wi_470_333 l2 ?_
    obtain ⟨g100, h⟩ := wp_gd h
    refine dq_iald wi_470_334 t_215 g100 ?_
    refine rs_pure wi_470_335 rfl ?_
    refine rs_aldn wi_470_336 l0 ?_
    refine dq_gr wi_470_337 wf_470_326 tf_174_117 ?_
    refine rs_ild wi_470_340 l4 ?_
    refine rs_pure wi_470_342 rfl ?_
    refine rs_topi (v := 1) (by decide) ?_
    refine rs_pure wi_470_343 rfl ?_
    obtain ⟨g101, h⟩ := wp_gd h
    refine dq_iald wi_470_344 t_256 g101 ?_
    obtain ⟨g102, h⟩ := wp_gd h
    obtain ⟨c103, e104, h⟩ := wp_lt h
    refine dq_iast wi_470_345 t_258 g102 e104 ?_
    refine rs_pure wi_470_346 rfl ?_
    refine rs_topi (v := 0) (by decide) ?_
    refine dl_ist wi_470_347 rfl (fun lv l6 t105 => ?_)
    have l0 := t105 _ _ (by decide) (Or.inl rfl) l0
    have l1 := t105 _ _ (by decide) (Or.inl rfl) l1
    have l2 := t105 _ _ (by decide) (Or.inl rfl) l2
    have l4 := t105 _ _ (by decide) (Or.inl rfl) l4
    have l5 := t105 _ _ (by decide) (Or.inl rfl) l5
    refine whl_ex (A := fun s106 : Int32 × cS => ∀ lv, rx_ld lv 0 = some (.ref 174) → rx_ld lv 1 = some (.int a1) → rx_ld lv 2 = some (.int a2) → rx_ld lv 4 = some (.int v6) → rx_ld lv 5 = some (.int (-1)) → rx_ld lv 6 = some (.int s106.1) → rs (rt_P sc fm) 470 F Lo 349 lv [] (hq false s106.2 y w) Q) (B := (fun x116 : cS => ∀ lv, rx_ld lv 0 = some (.ref 174) → rx_ld lv 1 = some (.int a1) → rx_ld lv 2 = some (.int a2) → rx_ld lv 4 = some (.int v6) → rx_ld lv 5 = some (.int (-1)) → rs (rt_P sc fm) 470 F Lo 404 lv [] (hq false x116 y w) Q)) ?_ ?_ _ _ (wp_bind h) _ l0 l1 l2 l4 l5 l6
    · intro s106 h lv l0 l1 l2 l4 l5 l6
      refine rs_ild wi_470_349 l6 ?_
      refine rs_aldn wi_470_351 l0 ?_
      refine dq_gi wi_470_352 wf_470_447 tf_174_15 ?_
      refine rs_icge (tg := 404) wi_470_355 ⟨by decide, by decide⟩ (fun q => ?_) (fun q => ?_)
      ·
        have h := wp_pos h q
        exact h _ l0 l1 l2 l4 l5
      ·
        have h := wp_neg h q
        refine rs_aldn wi_470_358 l0 ?_
        refine dq_gr wi_470_359 wf_470_335 tf_174_120 ?_
        refine rs_pure wi_470_362 rfl ?_
        refine rs_topi (v := 4) (by decide) ?_
        refine rs_pure wi_470_363 rfl ?_
        refine rs_topi (v := 8) (by decide) ?_
        refine rs_aldn wi_470_365 l0 ?_
        refine dq_gr wi_470_366 wf_470_194 tf_174_52 ?_
        refine rs_ildn wi_470_369 l2 ?_
        obtain ⟨g107, h⟩ := wp_gd h
        refine dq_iald wi_470_370 t_214 g107 ?_
        refine rs_pure wi_470_371 rfl ?_
        refine rs_aldn wi_470_372 l0 ?_
        refine dq_gr wi_470_373 wf_470_197 tf_174_53 ?_
        refine rs_ildn wi_470_376 l2 ?_
        obtain ⟨g108, h⟩ := wp_gd h
        refine dq_iald wi_470_377 t_215 g108 ?_
        refine rs_pure wi_470_378 rfl ?_
        refine rs_pure wi_470_379 rfl ?_
        refine rs_ild wi_470_380 l6 ?_
        refine rs_pure wi_470_382 rfl ?_
        refine rs_aldn wi_470_383 l0 ?_
        refine dq_gr wi_470_384 wf_470_329 tf_174_118 ?_
        refine rs_pure wi_470_387 rfl ?_
        refine rs_topi (v := 4) (by decide) ?_
        refine rs_ild wi_470_388 l4 ?_
        refine rs_pure wi_470_390 rfl ?_
        refine rs_topi (v := 1) (by decide) ?_
        refine rs_pure wi_470_391 rfl ?_
        refine rs_pure wi_470_392 rfl ?_
        refine rs_ild wi_470_393 l6 ?_
        refine rs_pure wi_470_395 rfl ?_
        obtain ⟨g109, h⟩ := wp_gd h
        refine dq_iald wi_470_396 t_257 g109 ?_
        obtain ⟨g110, h⟩ := wp_gd h
        obtain ⟨c111, e112, h⟩ := wp_lt h
        refine dq_iast wi_470_397 t_259 g110 e112 ?_
        obtain ⟨v114, e115, h⟩ := wp_lt h
        refine dl_inc wi_470_398 l6 rfl e115 (fun lv l6 t113 => ?_)
        have l0 := t113 _ _ (by decide) (Or.inl rfl) l0
        have l1 := t113 _ _ (by decide) (Or.inl rfl) l1
        have l2 := t113 _ _ (by decide) (Or.inl rfl) l2
        have l4 := t113 _ _ (by decide) (Or.inl rfl) l4
        have l5 := t113 _ _ (by decide) (Or.inl rfl) l5
        refine rs_goto (tg := 349) wi_470_401 ⟨by decide, by decide⟩ ?_
        exact h _ l0 l1 l2 l4 l5 l6
    ·
      intro x116 h lv l0 l1 l2 l4 l5
      refine rs_goto (tg := 719) wi_470_404 ⟨by decide, by decide⟩ ?_
      exact hj719 _ h _ l0 l1 l2 l4 l5
  have h := wp_neg h q98
  by_cases q117 : (c.1 211 (ix a2)) = 20
  ·
    have h := wp_pos h q117
    refine rs_tsk (tg := 719) (off := 695) (v := 20) wi_470_24 q117 (by decide) (by decide) ⟨by decide, by decide⟩ ?_
    exact hj719 _ h _ l0 l1 l2 l4 l5
  have h := wp_neg h q117
  by_cases q118 : (c.1 211 (ix a2)) = 21
  ·
    have h := wp_pos h q118
    refine rs_tsk (tg := 719) (off := 695) (v := 21) wi_470_24 q118 (by decide) (by decide) ⟨by decide, by decide⟩ ?_
    exact hj719 _ h _ l0 l1 l2 l4 l5
  have h := wp_neg h q118
  by_cases q119 : (c.1 211 (ix a2)) = 22
  ·
    have h := wp_pos h q119
    refine rs_tsk (tg := 407) (off := 383) (v := 22) wi_470_24 q119 (by decide) (by decide) ⟨by decide, by decide⟩ ?_
    exact hj407 _ h _ l0 l1 l2 l4 l5
  have h := wp_neg h q119
  by_cases q120 : (c.1 211 (ix a2)) = 23
  ·
    have h := wp_pos h q120
    refine rs_tsk (tg := 407) (off := 383) (v := 23) wi_470_24 q120 (by decide) (by decide) ⟨by decide, by decide⟩ ?_
    exact hj407 _ h _ l0 l1 l2 l4 l5
  have h := wp_neg h q120
  by_cases q121 : (c.1 211 (ix a2)) = 24
  ·
    have h := wp_pos h q121
    refine rs_tsk (tg := 407) (off := 383) (v := 24) wi_470_24 q121 (by decide) (by decide) ⟨by decide, by decide⟩ ?_
    exact hj407 _ h _ l0 l1 l2 l4 l5
  have h := wp_neg h q121
  by_cases q122 : (c.1 211 (ix a2)) = 25
  ·
    have h := wp_pos h q122
    refine rs_tsk (tg := 550) (off := 526) (v := 25) wi_470_24 q122 (by decide) (by decide) ⟨by decide, by decide⟩ ?_
    refine rs_aldn wi_470_550 l0 ?_
    refine rs_ild wi_470_551 l4 ?_
    refine rs_ild wi_470_553 l4 ?_
    refine rs_pure wi_470_555 rfl ?_
    refine rs_topi (v := 1) (by decide) ?_
    refine rs_pure wi_470_556 rfl ?_
    refine rs_V wi_470_557 wc_470_961 rfl (dq_isa tf_174_0 wa_15_467) (Nat.le_trans (by decide) hF) (ml_le wm_467 (Nat.le_trans (by decide) hLo)) rfl (sp_467 hw (Nat.le_trans (by decide : 0 ≤ 3 - 1) (Nat.sub_le_sub_right hF 1)) (ml_sub wm_467 (Nat.le_trans (by decide : 0 ≤ 71 - 23) (Nat.sub_le_sub_right hLo 23))) (wp_bind h) (fun r123 h => rs_back0 ?_))
    refine rs_goto (tg := 719) wi_470_560 ⟨by decide, by decide⟩ ?_
    exact hj719 _ h _ l0 l1 l2 l4 l5
  have h := wp_neg h q122
  by_cases q124 : (c.1 211 (ix a2)) = 26
  ·
    have h := wp_pos h q124
    refine rs_tsk (tg := 719) (off := 695) (v := 26) wi_470_24 q124 (by decide) (by decide) ⟨by decide, by decide⟩ ?_
    exact hj719 _ h _ l0 l1 l2 l4 l5
  have h := wp_neg h q124
  by_cases q125 : (c.1 211 (ix a2)) = 27
  ·
    have h := wp_pos h q125
    refine rs_tsk (tg := 563) (off := 539) (v := 27) wi_470_24 q125 (by decide) (by decide) ⟨by decide, by decide⟩ ?_
    refine rs_aldn wi_470_563 l0 ?_
    refine dq_gr wi_470_564 wf_470_200 tf_174_54 ?_
    refine rs_ildn wi_470_567 l2 ?_
    obtain ⟨g126, h⟩ := wp_gd h
    refine dq_iald wi_470_568 t_216 g126 ?_
    obtain ⟨v128, e129, h⟩ := wp_lt h
    refine rs_topi e129 ?_
    refine dl_ist wi_470_569 rfl (fun lv l5 t127 => ?_)
    have l0 := t127 _ _ (by decide) (Or.inl rfl) l0
    have l1 := t127 _ _ (by decide) (Or.inl rfl) l1
    have l2 := t127 _ _ (by decide) (Or.inl rfl) l2
    have l4 := t127 _ _ (by decide) (Or.inl rfl) l4
    refine rs_goto (tg := 719) wi_470_571 ⟨by decide, by decide⟩ ?_
    exact hj719 _ h _ l0 l1 l2 l4 l5
  have h := wp_neg h q125
  by_cases q130 : (c.1 211 (ix a2)) = 28
  ·
    have h := wp_pos h q130
    refine rs_tsk (tg := 574) (off := 550) (v := 28) wi_470_24 q130 (by decide) (by decide) ⟨by decide, by decide⟩ ?_
    refine rs_aldn wi_470_574 l0 ?_
    refine dq_gr wi_470_575 wf_470_326 tf_174_117 ?_
    refine rs_ild wi_470_578 l4 ?_
    refine rs_pure wi_470_580 rfl ?_
    refine rs_topi (v := 1) (by decide) ?_
    refine rs_pure wi_470_581 rfl ?_
    obtain ⟨g131, h⟩ := wp_gd h
    refine dq_iald wi_470_582 t_256 g131 ?_
    refine rs_ifne (tg := 719) wi_470_583 ⟨by decide, by decide⟩ (fun q => ?_) (fun q => ?_)
    ·
      have h := wp_neg h q
      exact hj719 _ h _ l0 l1 l2 l4 l5
    ·
      have h := wp_pos h q
      refine rs_aldn wi_470_586 l0 ?_
      refine dq_gr wi_470_587 wf_470_200 tf_174_54 ?_
      refine rs_ildn wi_470_590 l2 ?_
      obtain ⟨g132, h⟩ := wp_gd h
      refine dq_iald wi_470_591 t_216 g132 ?_
      obtain ⟨v134, e135, h⟩ := wp_lt h
      refine rs_topi e135 ?_
      refine dl_ist wi_470_592 rfl (fun lv l5 t133 => ?_)
      have l0 := t133 _ _ (by decide) (Or.inl rfl) l0
      have l1 := t133 _ _ (by decide) (Or.inl rfl) l1
      have l2 := t133 _ _ (by decide) (Or.inl rfl) l2
      have l4 := t133 _ _ (by decide) (Or.inl rfl) l4
      refine rs_goto (tg := 719) wi_470_594 ⟨by decide, by decide⟩ ?_
      exact hj719 _ h _ l0 l1 l2 l4 l5
  have h := wp_neg h q130
  by_cases q136 : (c.1 211 (ix a2)) = 29
  ·
    have h := wp_pos h q136
    refine rs_tsk (tg := 597) (off := 573) (v := 29) wi_470_24 q136 (by decide) (by decide) ⟨by decide, by decide⟩ ?_
    refine rs_aldn wi_470_597 l0 ?_
    refine rs_aldn wi_470_598 l0 ?_
    refine dq_gr wi_470_599 wf_470_194 tf_174_52 ?_
    refine rs_ildn wi_470_602 l2 ?_
    obtain ⟨g137, h⟩ := wp_gd h
    refine dq_iald wi_470_603 t_214 g137 ?_
    refine rs_aldn wi_470_604 l0 ?_
    refine dq_gr wi_470_605 wf_470_329 tf_174_118 ?_
    refine rs_pure wi_470_608 rfl ?_
    refine rs_topi (v := 4) (by decide) ?_
    refine rs_ild wi_470_609 l4 ?_
    refine rs_pure wi_470_611 rfl ?_
    refine rs_topi (v := 1) (by decide) ?_
    refine rs_pure wi_470_612 rfl ?_
    refine rs_pure wi_470_613 rfl ?_
    refine rs_aldn wi_470_614 l0 ?_
    refine dq_gr wi_470_615 wf_470_194 tf_174_52 ?_
    refine rs_ildn wi_470_618 l2 ?_
    obtain ⟨g138, h⟩ := wp_gd h
    refine dq_iald wi_470_619 t_214 g138 ?_
    refine rs_pure wi_470_620 rfl ?_
    obtain ⟨g139, h⟩ := wp_gd h
    refine dq_iald wi_470_621 t_257 g139 ?_
    refine rs_aldn wi_470_622 l0 ?_
    refine dq_gr wi_470_623 wf_470_197 tf_174_53 ?_
    refine rs_ildn wi_470_626 l2 ?_
    obtain ⟨g140, h⟩ := wp_gd h
    refine dq_iald wi_470_627 t_215 g140 ?_
    refine rs_V wi_470_628 wc_470_535 rfl (dq_isa tf_174_0 wa_15_387) (Nat.le_trans (by decide) hF) (ml_le wm_387 (Nat.le_trans (by decide) hLo)) rfl (sp_387 hw (Nat.le_trans (by decide : 1 ≤ 3 - 1) (Nat.sub_le_sub_right hF 1)) (ml_sub wm_387 (Nat.le_trans (by decide : 23 ≤ 71 - 23) (Nat.sub_le_sub_right hLo 23))) (wp_bind h) (fun v141 h => rs_back1 ?_))
    refine rs_ifeq (tg := 719) wi_470_631 ⟨by decide, by decide⟩ (fun q => ?_) (fun q => ?_)
    ·
      have h := wp_pos h q
      exact hj719 _ h _ l0 l1 l2 l4 l5
    ·
      have h := wp_neg h q
      refine rs_aldn wi_470_634 l0 ?_
      refine dq_gr wi_470_635 wf_470_200 tf_174_54 ?_
      refine rs_ildn wi_470_638 l2 ?_
      obtain ⟨g142, h⟩ := wp_gd h
      refine dq_iald wi_470_639 t_216 g142 ?_
      obtain ⟨v144, e145, h⟩ := wp_lt h
      refine rs_topi e145 ?_
      refine dl_ist wi_470_640 rfl (fun lv l5 t143 => ?_)
      have l0 := t143 _ _ (by decide) (Or.inl rfl) l0
      have l1 := t143 _ _ (by decide) (Or.inl rfl) l1
      have l2 := t143 _ _ (by decide) (Or.inl rfl) l2
      have l4 := t143 _ _ (by decide) (Or.inl rfl) l4
      refine rs_goto (tg := 719) wi_470_642 ⟨by decide, by decide⟩ ?_
      exact hj719 _ h _ l0 l1 l2 l4 l5
  have h := wp_neg h q136
  by_cases q146 : (c.1 211 (ix a2)) = 30
  ·
    have h := wp_pos h q146
    refine rs_tsk (tg := 645) (off := 621) (v := 30) wi_470_24 q146 (by decide) (by decide) ⟨by decide, by decide⟩ ?_
    refine rs_aldn wi_470_645 l0 ?_
    refine rs_aldn wi_470_646 l0 ?_
    refine dq_gr wi_470_647 wf_470_194 tf_174_52 ?_
    refine rs_ildn wi_470_650 l2 ?_
    obtain ⟨g147, h⟩ := wp_gd h
    refine dq_iald wi_470_651 t_214 g147 ?_
    refine rs_aldn wi_470_652 l0 ?_
    refine dq_gr wi_470_653 wf_470_329 tf_174_118 ?_
    refine rs_pure wi_470_656 rfl ?_
    refine rs_topi (v := 4) (by decide) ?_
    refine rs_ild wi_470_657 l4 ?_
    refine rs_pure wi_470_659 rfl ?_
    refine rs_topi (v := 1) (by decide) ?_
    refine rs_pure wi_470_660 rfl ?_
    refine rs_pure wi_470_661 rfl ?_
    refine rs_aldn wi_470_662 l0 ?_
    refine dq_gr wi_470_663 wf_470_194 tf_174_52 ?_
    refine rs_ildn wi_470_666 l2 ?_
    obtain ⟨g148, h⟩ := wp_gd h
    refine dq_iald wi_470_667 t_214 g148 ?_
    refine rs_pure wi_470_668 rfl ?_
    obtain ⟨g149, h⟩ := wp_gd h
    refine dq_iald wi_470_669 t_257 g149 ?_
    refine rs_aldn wi_470_670 l0 ?_
    refine dq_gr wi_470_671 wf_470_197 tf_174_53 ?_
    refine rs_ildn wi_470_674 l2 ?_
    obtain ⟨g150, h⟩ := wp_gd h
    refine dq_iald wi_470_675 t_215 g150 ?_
    refine rs_V wi_470_676 wc_470_535 rfl (dq_isa tf_174_0 wa_15_387) (Nat.le_trans (by decide) hF) (ml_le wm_387 (Nat.le_trans (by decide) hLo)) rfl (sp_387 hw (Nat.le_trans (by decide : 1 ≤ 3 - 1) (Nat.sub_le_sub_right hF 1)) (ml_sub wm_387 (Nat.le_trans (by decide : 23 ≤ 71 - 23) (Nat.sub_le_sub_right hLo 23))) (wp_bind h) (fun v151 h => rs_back1 ?_))
    refine wp_jn (B := fun p152 : cS => ∀ lv, rx_ld lv 0 = some (.ref 174) → rx_ld lv 1 = some (.int a1) → rx_ld lv 2 = some (.int a2) → rx_ld lv 4 = some (.int v6) → rx_ld lv 5 = some (.int (-1)) → rs (rt_P sc fm) 470 F Lo 692 lv [] (hq false p152 y w) Q) h (fun p152 h lv l0 l1 l2 l4 l5 => ?_) (fun j692 hj692 h => ?_)
    ·
      refine rs_aldn wi_470_692 l0 ?_
      refine dq_gr wi_470_693 wf_470_329 tf_174_118 ?_
      refine rs_pure wi_470_696 rfl ?_
      refine rs_topi (v := 4) (by decide) ?_
      refine rs_ild wi_470_697 l4 ?_
      refine rs_pure wi_470_699 rfl ?_
      refine rs_topi (v := 1) (by decide) ?_
      refine rs_pure wi_470_700 rfl ?_
      refine rs_pure wi_470_701 rfl ?_
      refine rs_aldn wi_470_702 l0 ?_
      refine dq_gr wi_470_703 wf_470_194 tf_174_52 ?_
      refine rs_ildn wi_470_706 l2 ?_
      obtain ⟨g153, h⟩ := wp_gd h
      refine dq_iald wi_470_707 t_214 g153 ?_
      refine rs_pure wi_470_708 rfl ?_
      refine rs_aldn wi_470_709 l0 ?_
      refine dq_gr wi_470_710 wf_470_197 tf_174_53 ?_
      refine rs_ildn wi_470_713 l2 ?_
      obtain ⟨g154, h⟩ := wp_gd h
      refine dq_iald wi_470_714 t_215 g154 ?_
      obtain ⟨g155, h⟩ := wp_gd h
      obtain ⟨c156, e157, h⟩ := wp_lt h
      refine dq_iast wi_470_715 t_257 g155 e157 ?_
      refine rs_goto (tg := 719) wi_470_716 ⟨by decide, by decide⟩ ?_
      exact hj719 _ h _ l0 l1 l2 l4 l5
    refine rs_ifne (tg := 692) wi_470_679 ⟨by decide, by decide⟩ (fun q => ?_) (fun q => ?_)
    ·
      have h := wp_neg h q
      exact hj692 _ h _ l0 l1 l2 l4 l5
    ·
      have h := wp_pos h q
      refine rs_aldn wi_470_682 l0 ?_
      refine rs_pure wi_470_683 rfl ?_
      refine dq_gi wi_470_684 wf_470_940 tf_174_128 ?_
      refine rs_pure wi_470_687 rfl ?_
      refine rs_topi (v := 1) (by decide) ?_
      refine rs_pure wi_470_688 rfl ?_
      obtain ⟨c158, e159, h⟩ := wp_lt h
      refine dq_pi wi_470_689 wp_470_940 tf_174_128 rfl rfl e159 ?_
      exact hj692 _ h _ l0 l1 l2 l4 l5
  have h := wp_neg h q146
  refine rs_tsd (tg := 719) wi_470_24 (rz_sw fun k k1 k2 => by
    have kk : k = 14 ∨ k = 15 ∨ k = 16 ∨ k = 17 ∨ k = 18 ∨ k = 19 ∨ k = 20 ∨ k = 21 ∨ k = 22 ∨ k = 23 ∨ k = 24 ∨ k = 25 ∨ k = 26 ∨ k = 27 ∨ k = 28 ∨ k = 29 ∨ k = 30 := by omega
    rcases kk with rfl | rfl | rfl | rfl | rfl | rfl | rfl | rfl | rfl | rfl | rfl | rfl | rfl | rfl | rfl | rfl | rfl
    · exact q71
    · exact q72
    · exact q73
    · exact q76
    · exact q79
    · exact q98
    · exact q117
    · exact q118
    · exact q119
    · exact q120
    · exact q121
    · exact q122
    · exact q124
    · exact q125
    · exact q130
    · exact q136
    · exact q146
    ) ⟨by decide, by decide⟩ ?_
  exact hj719 _ h _ l0 l1 l2 l4 l5
end D59
