/-! THE FIRST CALLS, the long ones: by wip/whole/sx.py -/
set_option maxRecDepth 8000 in
theorem p1c_feed {xs : Nat → Int32} {fm : Value} {L : List va_E} (hL : rz_heap L rz_T0 = true) : rq (rt_P (6, xs) fm) 0 2048 84000 100 1000 188 p1_lv [] L p1_Q := by
  have c0 : L[0]? = some (.inr (14, [.ref 1, .ref 7, .ref 114, .ref 133, .ref 145, .ref 146, .ref 150, .ref 159, .ref 167, .ref 172])) := rz_obj hL (by decide +kernel)
  have c1 : L[1]? = some (.inr (3, [.ref 2, .int 0, .ref 3, .ref 4, .ref 5, .ref 6, .int 0, .int 0])) := rz_obj hL (by decide +kernel)
  have c174 : L[174]? = some (.inr (15, [.int 0, .ref 175, .int 0, .ref 176, .int 0, .int 0, .ref 177, .int 0, .ref 178, .ref 179, .ref 180, .int 0, .int 0, .int 0, .int 0, .int 0, .ref 181, .ref 182, .ref 183, .ref 184, .ref 185, .ref 186, .ref 187, .ref 188, .int 0, .ref 189, .ref 190, .ref 191, .ref 192, .ref 193, .ref 194, .ref 195, .ref 196, .ref 197, .int 0, .ref 198, .ref 199, .int 0, .ref 200, .ref 201, .ref 202, .ref 203, .ref 204, .ref 205, .ref 206, .ref 207, .ref 208, .ref 209, .ref 210, .ref 211, .ref 212, .ref 213, .ref 214, .ref 215, .ref 216, .ref 217, .ref 218, .ref 219, .ref 220, .ref 221, .ref 222, .ref 223, .ref 224, .ref 225, .ref 226, .ref 227, .ref 228, .int 0, .long 0, .ref 229, .ref 230, .ref 231, .ref 232, .long 0, .int 0, .ref 233, .int 0, .int 0, .int 0, .long 0, .int 0, .int 0, .int 0, .ref 234, .ref 235, .ref 236, .ref 237, .ref 238, .ref 239, .ref 240, .int 0, .int 0, .ref 241, .ref 242, .ref 243, .ref 244, .ref 245, .int (-1), .ref 246, .ref 247, .ref 248, .int 0, .int 0, .ref 249, .int 0, .int 0, .int 0, .ref 250, .ref 251, .ref 252, .int 0, .int 0, .int 0, .int 0, .ref 253, .ref 254, .ref 255, .ref 256, .ref 257, .ref 258, .ref 259, .int 0, .ref 260, .int 0, .int 0, .int 0, .int 0, .int 0, .int 0, .int 0, .int 0, .int 0, .int 0, .int 0, .int 0, .ref 261, .ref 262, .ref 263, .ref 264, .ref 265])) := rz_obj hL (by decide +kernel)
  obtain ⟨f175, c175⟩ := rz_arrI (a := 175) (t := 0) (n := 4000) hL (by decide +kernel) (by decide)
  obtain ⟨f2, c2⟩ := rz_arrI (a := 2) (t := 2) (n := 4000) hL (by decide +kernel) (by decide)
  have hS : L[rx_S]? = none := p1_none hL
  refine rq_loc i_0_188 rfl rfl ?_
  refine rq_loc i_0_189 rfl rfl ?_
  refine rq_loc i_0_190 rfl rfl ?_
  refine rq_pure i_0_192 rfl ?_
  refine rq_topi (v := 1) (by decide) ?_
  refine rq_pure i_0_193 rfl ?_
  refine rq_topi (v := 1) (by decide) ?_
  refine rq_sald1 (x := xs 1) i_0_194 hS rfl (by decide) rfl ?_
  refine rq_loc i_0_195 rfl rfl ?_
  refine rq_loc i_0_196 rfl rfl ?_
  refine rq_pure i_0_198 rfl ?_
  refine rq_topi (v := 2) (by decide) ?_
  refine rq_pure i_0_199 rfl ?_
  refine rq_topi (v := 2) (by decide) ?_
  refine rq_sald1 (x := xs 2) i_0_200 hS rfl (by decide) rfl ?_
  refine rq_loc i_0_201 rfl rfl ?_
  refine rq_loc i_0_202 rfl rfl ?_
  refine rq_pure i_0_204 rfl ?_
  refine rq_topi (v := 3) (by decide) ?_
  refine rq_pure i_0_205 rfl ?_
  refine rq_topi (v := 3) (by decide) ?_
  refine rq_sald1 (x := xs 3) i_0_206 hS rfl (by decide) rfl ?_
  refine rq_loc i_0_207 rfl rfl ?_
  refine rq_loc i_0_208 rfl rfl ?_
  refine rq_pure i_0_210 rfl ?_
  refine rq_topi (v := 4) (by decide) ?_
  refine rq_pure i_0_211 rfl ?_
  refine rq_topi (v := 4) (by decide) ?_
  refine rq_sald1 (x := xs 4) i_0_212 hS rfl (by decide) rfl ?_
  refine rq_loc i_0_213 rfl rfl ?_
  refine rq_loc i_0_214 rfl rfl ?_
  refine rq_pure i_0_216 rfl ?_
  refine rq_topi (v := 5) (by decide) ?_
  refine rq_pure i_0_217 rfl ?_
  refine rq_topi (v := 5) (by decide) ?_
  refine rq_sald1 (x := xs 5) i_0_218 hS rfl (by decide) rfl ?_
  refine rq_V1 (c1 := 0) (s1 := 0) (cb := 100) (sb := 1000) (F' := 2047) (Lo' := 83975) i_0_219 c_0_31 rfl (rz_isa c0 a_14_56) rfl rfl rfl ?_
  refine rq_loc i_56_0 rfl rfl ?_
  refine rq_getf i_56_1 f_56_12 c0 rfl ?_
  refine rq_getf i_56_4 f_56_95 c1 rfl ?_
  refine rq_pure i_56_7 rfl ?_
  refine rq_topi (v := 20) (by decide) ?_
  refine rq_pure i_56_9 rfl ?_
  refine rq_topi (v := 20) (by decide) ?_
  refine rq_pure i_56_10 rfl ?_
  refine rq_topi (v := 4000) (by decide) ?_
  refine rq_icle (tg := 18) i_56_13 ⟨by decide, by decide⟩ (fun _ => ?_) (fun q => absurd q (by decide))
  refine rq_loc i_56_18 rfl rfl ?_
  refine rq_getf i_56_19 f_56_12 c0 rfl ?_
  refine rq_loc i_56_22 rfl rfl ?_
  refine rq_V1 (c1 := 0) (s1 := 0) (cb := 0) (sb := 0) (F' := 2046) (Lo' := 83953) i_56_23 c_56_99 rfl (rz_isa c1 a_3_24) rfl rfl rfl ?_
  refine rq_pure i_24_0 rfl ?_
  refine rq_topi (v := 24) (by decide) ?_
  refine rq_loc i_24_2 rfl rfl ?_
  refine rq_loc i_24_3 rfl rfl ?_
  refine rq_iflt (tg := 43) i_24_4 ⟨by decide, by decide⟩ (fun q => absurd q (by decide)) (fun _ => ?_)
  refine rq_loc i_24_7 rfl rfl ?_
  refine rq_getf i_24_8 f_24_41 c1 rfl ?_
  refine rq_pure i_24_11 rfl ?_
  refine rq_topi (v := 4000) (by decide) ?_
  refine rq_icge (tg := 43) i_24_14 ⟨by decide, by decide⟩ (fun q => absurd q (by decide)) (fun _ => ?_)
  refine rq_loc i_24_17 rfl rfl ?_
  refine rq_getf i_24_18 f_24_9 c1 rfl ?_
  refine rq_loc i_24_21 rfl rfl ?_
  refine rq_pure i_24_22 rfl ?_
  refine rq_getf i_24_23 f_24_41 c1 rfl ?_
  refine rq_pure i_24_26 rfl ?_
  refine rq_pure i_24_27 rfl ?_
  refine rq_topi (v := 1) (by decide) ?_
  refine rq_pure i_24_28 rfl ?_
  refine rq_topi (v := 1) (by decide) ?_
  refine rq_putf1 i_24_29 p_24_41 c1 rfl rfl rfl (fun L1 u1 => ?_)
  refine rq_loc i_24_32 rfl rfl ?_
  refine rq_loc i_24_33 rfl rfl ?_
  refine rq_pure i_24_34 rfl ?_
  refine rq_pure i_24_35 rfl ?_
  have g3 := (u1.2 2 (by decide)).trans c2
  refine rq_bast1 i_24_36 g3 (by decide) (fun L2 u2 => ?_)
  refine rq_loc i_24_37 rfl rfl ?_
  refine rq_goto (tg := 3) i_24_40 ⟨by decide, by decide⟩ ?_
  refine rq_loc i_24_3 rfl rfl ?_
  refine rq_topi (v := 16) (by decide) ?_
  refine rq_iflt (tg := 43) i_24_4 ⟨by decide, by decide⟩ (fun q => absurd q (by decide)) (fun _ => ?_)
  refine rq_loc i_24_7 rfl rfl ?_
  have g4 := (u2.2 1 (by decide)).trans u1.1
  refine rq_getf i_24_8 f_24_41 g4 rfl ?_
  refine rq_pure i_24_11 rfl ?_
  refine rq_topi (v := 4000) (by decide) ?_
  refine rq_icge (tg := 43) i_24_14 ⟨by decide, by decide⟩ (fun q => absurd q (by decide)) (fun _ => ?_)
  refine rq_loc i_24_17 rfl rfl ?_
  refine rq_getf i_24_18 f_24_9 g4 rfl ?_
  refine rq_loc i_24_21 rfl rfl ?_
  refine rq_pure i_24_22 rfl ?_
  refine rq_getf i_24_23 f_24_41 g4 rfl ?_
  refine rq_pure i_24_26 rfl ?_
  refine rq_pure i_24_27 rfl ?_
  refine rq_topi (v := 1) (by decide) ?_
  refine rq_pure i_24_28 rfl ?_
  refine rq_topi (v := 2) (by decide) ?_
  refine rq_putf1 i_24_29 p_24_41 g4 rfl rfl rfl (fun L3 u3 => ?_)
  refine rq_loc i_24_32 rfl rfl ?_
  refine rq_loc i_24_33 rfl rfl ?_
  refine rq_topi (v := 16) (by decide) ?_
  refine rq_pure i_24_34 rfl ?_
  refine rq_pure i_24_35 rfl ?_
  have g7 := (u3.2 2 (by decide)).trans u2.1
  refine rq_bast1 i_24_36 g7 (by decide) (fun L4 u4 => ?_)
  refine rq_loc i_24_37 rfl rfl ?_
  refine rq_goto (tg := 3) i_24_40 ⟨by decide, by decide⟩ ?_
  refine rq_loc i_24_3 rfl rfl ?_
  refine rq_topi (v := 8) (by decide) ?_
  refine rq_iflt (tg := 43) i_24_4 ⟨by decide, by decide⟩ (fun q => absurd q (by decide)) (fun _ => ?_)
  refine rq_loc i_24_7 rfl rfl ?_
  have g8 := (u4.2 1 (by decide)).trans u3.1
  refine rq_getf i_24_8 f_24_41 g8 rfl ?_
  refine rq_pure i_24_11 rfl ?_
  refine rq_topi (v := 4000) (by decide) ?_
  refine rq_icge (tg := 43) i_24_14 ⟨by decide, by decide⟩ (fun q => absurd q (by decide)) (fun _ => ?_)
  refine rq_loc i_24_17 rfl rfl ?_
  refine rq_getf i_24_18 f_24_9 g8 rfl ?_
  refine rq_loc i_24_21 rfl rfl ?_
  refine rq_pure i_24_22 rfl ?_
  refine rq_getf i_24_23 f_24_41 g8 rfl ?_
  refine rq_pure i_24_26 rfl ?_
  refine rq_pure i_24_27 rfl ?_
  refine rq_topi (v := 1) (by decide) ?_
  refine rq_pure i_24_28 rfl ?_
  refine rq_topi (v := 3) (by decide) ?_
  refine rq_putf1 i_24_29 p_24_41 g8 rfl rfl rfl (fun L5 u5 => ?_)
  refine rq_loc i_24_32 rfl rfl ?_
  refine rq_loc i_24_33 rfl rfl ?_
  refine rq_topi (v := 8) (by decide) ?_
  refine rq_pure i_24_34 rfl ?_
  refine rq_pure i_24_35 rfl ?_
  have g11 := (u5.2 2 (by decide)).trans u4.1
  refine rq_bast1 i_24_36 g11 (by decide) (fun L6 u6 => ?_)
  refine rq_loc i_24_37 rfl rfl ?_
  refine rq_goto (tg := 3) i_24_40 ⟨by decide, by decide⟩ ?_
  refine rq_loc i_24_3 rfl rfl ?_
  refine rq_topi (v := 0) (by decide) ?_
  refine rq_iflt (tg := 43) i_24_4 ⟨by decide, by decide⟩ (fun q => absurd q (by decide)) (fun _ => ?_)
  refine rq_loc i_24_7 rfl rfl ?_
  have g12 := (u6.2 1 (by decide)).trans u5.1
  refine rq_getf i_24_8 f_24_41 g12 rfl ?_
  refine rq_pure i_24_11 rfl ?_
  refine rq_topi (v := 4000) (by decide) ?_
  refine rq_icge (tg := 43) i_24_14 ⟨by decide, by decide⟩ (fun q => absurd q (by decide)) (fun _ => ?_)
  refine rq_loc i_24_17 rfl rfl ?_
  refine rq_getf i_24_18 f_24_9 g12 rfl ?_
  refine rq_loc i_24_21 rfl rfl ?_
  refine rq_pure i_24_22 rfl ?_
  refine rq_getf i_24_23 f_24_41 g12 rfl ?_
  refine rq_pure i_24_26 rfl ?_
  refine rq_pure i_24_27 rfl ?_
  refine rq_topi (v := 1) (by decide) ?_
  refine rq_pure i_24_28 rfl ?_
  refine rq_topi (v := 4) (by decide) ?_
  refine rq_putf1 i_24_29 p_24_41 g12 rfl rfl rfl (fun L7 u7 => ?_)
  refine rq_loc i_24_32 rfl rfl ?_
  refine rq_loc i_24_33 rfl rfl ?_
  refine rq_topi (v := 0) (by decide) ?_
  refine rq_pure i_24_34 rfl ?_
  refine rq_pure i_24_35 rfl ?_
  have g15 := (u7.2 2 (by decide)).trans u6.1
  refine rq_bast1 i_24_36 g15 (by decide) (fun L8 u8 => ?_)
  refine rq_loc i_24_37 rfl rfl ?_
  refine rq_goto (tg := 3) i_24_40 ⟨by decide, by decide⟩ ?_
  refine rq_loc i_24_3 rfl rfl ?_
  refine rq_topi (v := (-8)) (by decide) ?_
  refine rq_iflt (tg := 43) i_24_4 ⟨by decide, by decide⟩ (fun _ => ?_) (fun q => absurd q (by decide))
  refine rq_vret i_24_43 r_24 ?_
  refine rq_back0 ?_
  refine rq_loc i_56_26 rfl rfl ?_
  have g16 := (u1.2 0 (by decide)).trans c0
  have g17 := (u2.2 0 (by decide)).trans g16
  have g18 := (u3.2 0 (by decide)).trans g17
  have g19 := (u4.2 0 (by decide)).trans g18
  have g20 := (u5.2 0 (by decide)).trans g19
  have g21 := (u6.2 0 (by decide)).trans g20
  have g22 := (u7.2 0 (by decide)).trans g21
  have g23 := (u8.2 0 (by decide)).trans g22
  refine rq_getf i_56_27 f_56_12 g23 rfl ?_
  refine rq_loc i_56_30 rfl rfl ?_
  have g24 := (u8.2 1 (by decide)).trans u7.1
  refine rq_V1 (c1 := 0) (s1 := 0) (cb := 0) (sb := 0) (F' := 2046) (Lo' := 83953) i_56_31 c_56_99 rfl (rz_isa g24 a_3_24) rfl rfl rfl ?_
  refine rq_pure i_24_0 rfl ?_
  refine rq_topi (v := 24) (by decide) ?_
  refine rq_loc i_24_2 rfl rfl ?_
  refine rq_loc i_24_3 rfl rfl ?_
  refine rq_iflt (tg := 43) i_24_4 ⟨by decide, by decide⟩ (fun q => absurd q (by decide)) (fun _ => ?_)
  refine rq_loc i_24_7 rfl rfl ?_
  refine rq_getf i_24_8 f_24_41 g24 rfl ?_
  refine rq_pure i_24_11 rfl ?_
  refine rq_topi (v := 4000) (by decide) ?_
  refine rq_icge (tg := 43) i_24_14 ⟨by decide, by decide⟩ (fun q => absurd q (by decide)) (fun _ => ?_)
  refine rq_loc i_24_17 rfl rfl ?_
  refine rq_getf i_24_18 f_24_9 g24 rfl ?_
  refine rq_loc i_24_21 rfl rfl ?_
  refine rq_pure i_24_22 rfl ?_
  refine rq_getf i_24_23 f_24_41 g24 rfl ?_
  refine rq_pure i_24_26 rfl ?_
  refine rq_pure i_24_27 rfl ?_
  refine rq_topi (v := 1) (by decide) ?_
  refine rq_pure i_24_28 rfl ?_
  refine rq_topi (v := 5) (by decide) ?_
  refine rq_putf1 i_24_29 p_24_41 g24 rfl rfl rfl (fun L9 u9 => ?_)
  refine rq_loc i_24_32 rfl rfl ?_
  refine rq_loc i_24_33 rfl rfl ?_
  refine rq_pure i_24_34 rfl ?_
  refine rq_pure i_24_35 rfl ?_
  have g27 := (u9.2 2 (by decide)).trans u8.1
  refine rq_bast1 i_24_36 g27 (by decide) (fun L10 u10 => ?_)
  refine rq_loc i_24_37 rfl rfl ?_
  refine rq_goto (tg := 3) i_24_40 ⟨by decide, by decide⟩ ?_
  refine rq_loc i_24_3 rfl rfl ?_
  refine rq_topi (v := 16) (by decide) ?_
  refine rq_iflt (tg := 43) i_24_4 ⟨by decide, by decide⟩ (fun q => absurd q (by decide)) (fun _ => ?_)
  refine rq_loc i_24_7 rfl rfl ?_
  have g28 := (u10.2 1 (by decide)).trans u9.1
  refine rq_getf i_24_8 f_24_41 g28 rfl ?_
  refine rq_pure i_24_11 rfl ?_
  refine rq_topi (v := 4000) (by decide) ?_
  refine rq_icge (tg := 43) i_24_14 ⟨by decide, by decide⟩ (fun q => absurd q (by decide)) (fun _ => ?_)
  refine rq_loc i_24_17 rfl rfl ?_
  refine rq_getf i_24_18 f_24_9 g28 rfl ?_
  refine rq_loc i_24_21 rfl rfl ?_
  refine rq_pure i_24_22 rfl ?_
  refine rq_getf i_24_23 f_24_41 g28 rfl ?_
  refine rq_pure i_24_26 rfl ?_
  refine rq_pure i_24_27 rfl ?_
  refine rq_topi (v := 1) (by decide) ?_
  refine rq_pure i_24_28 rfl ?_
  refine rq_topi (v := 6) (by decide) ?_
  refine rq_putf1 i_24_29 p_24_41 g28 rfl rfl rfl (fun L11 u11 => ?_)
  refine rq_loc i_24_32 rfl rfl ?_
  refine rq_loc i_24_33 rfl rfl ?_
  refine rq_topi (v := 16) (by decide) ?_
  refine rq_pure i_24_34 rfl ?_
  refine rq_pure i_24_35 rfl ?_
  have g31 := (u11.2 2 (by decide)).trans u10.1
  refine rq_bast1 i_24_36 g31 (by decide) (fun L12 u12 => ?_)
  refine rq_loc i_24_37 rfl rfl ?_
  refine rq_goto (tg := 3) i_24_40 ⟨by decide, by decide⟩ ?_
  refine rq_loc i_24_3 rfl rfl ?_
  refine rq_topi (v := 8) (by decide) ?_
  refine rq_iflt (tg := 43) i_24_4 ⟨by decide, by decide⟩ (fun q => absurd q (by decide)) (fun _ => ?_)
  refine rq_loc i_24_7 rfl rfl ?_
  have g32 := (u12.2 1 (by decide)).trans u11.1
  refine rq_getf i_24_8 f_24_41 g32 rfl ?_
  refine rq_pure i_24_11 rfl ?_
  refine rq_topi (v := 4000) (by decide) ?_
  refine rq_icge (tg := 43) i_24_14 ⟨by decide, by decide⟩ (fun q => absurd q (by decide)) (fun _ => ?_)
  refine rq_loc i_24_17 rfl rfl ?_
  refine rq_getf i_24_18 f_24_9 g32 rfl ?_
  refine rq_loc i_24_21 rfl rfl ?_
  refine rq_pure i_24_22 rfl ?_
  refine rq_getf i_24_23 f_24_41 g32 rfl ?_
  refine rq_pure i_24_26 rfl ?_
  refine rq_pure i_24_27 rfl ?_
  refine rq_topi (v := 1) (by decide) ?_
  refine rq_pure i_24_28 rfl ?_
  refine rq_topi (v := 7) (by decide) ?_
  refine rq_putf1 i_24_29 p_24_41 g32 rfl rfl rfl (fun L13 u13 => ?_)
  refine rq_loc i_24_32 rfl rfl ?_
  refine rq_loc i_24_33 rfl rfl ?_
  refine rq_topi (v := 8) (by decide) ?_
  refine rq_pure i_24_34 rfl ?_
  refine rq_pure i_24_35 rfl ?_
  have g35 := (u13.2 2 (by decide)).trans u12.1
  refine rq_bast1 i_24_36 g35 (by decide) (fun L14 u14 => ?_)
  refine rq_loc i_24_37 rfl rfl ?_
  refine rq_goto (tg := 3) i_24_40 ⟨by decide, by decide⟩ ?_
  refine rq_loc i_24_3 rfl rfl ?_
  refine rq_topi (v := 0) (by decide) ?_
  refine rq_iflt (tg := 43) i_24_4 ⟨by decide, by decide⟩ (fun q => absurd q (by decide)) (fun _ => ?_)
  refine rq_loc i_24_7 rfl rfl ?_
  have g36 := (u14.2 1 (by decide)).trans u13.1
  refine rq_getf i_24_8 f_24_41 g36 rfl ?_
  refine rq_pure i_24_11 rfl ?_
  refine rq_topi (v := 4000) (by decide) ?_
  refine rq_icge (tg := 43) i_24_14 ⟨by decide, by decide⟩ (fun q => absurd q (by decide)) (fun _ => ?_)
  refine rq_loc i_24_17 rfl rfl ?_
  refine rq_getf i_24_18 f_24_9 g36 rfl ?_
  refine rq_loc i_24_21 rfl rfl ?_
  refine rq_pure i_24_22 rfl ?_
  refine rq_getf i_24_23 f_24_41 g36 rfl ?_
  refine rq_pure i_24_26 rfl ?_
  refine rq_pure i_24_27 rfl ?_
  refine rq_topi (v := 1) (by decide) ?_
  refine rq_pure i_24_28 rfl ?_
  refine rq_topi (v := 8) (by decide) ?_
  refine rq_putf1 i_24_29 p_24_41 g36 rfl rfl rfl (fun L15 u15 => ?_)
  refine rq_loc i_24_32 rfl rfl ?_
  refine rq_loc i_24_33 rfl rfl ?_
  refine rq_topi (v := 0) (by decide) ?_
  refine rq_pure i_24_34 rfl ?_
  refine rq_pure i_24_35 rfl ?_
  have g39 := (u15.2 2 (by decide)).trans u14.1
  refine rq_bast1 i_24_36 g39 (by decide) (fun L16 u16 => ?_)
  refine rq_loc i_24_37 rfl rfl ?_
  refine rq_goto (tg := 3) i_24_40 ⟨by decide, by decide⟩ ?_
  refine rq_loc i_24_3 rfl rfl ?_
  refine rq_topi (v := (-8)) (by decide) ?_
  refine rq_iflt (tg := 43) i_24_4 ⟨by decide, by decide⟩ (fun _ => ?_) (fun q => absurd q (by decide))
  refine rq_vret i_24_43 r_24 ?_
  refine rq_back0 ?_
  refine rq_loc i_56_34 rfl rfl ?_
  have g40 := (u9.2 0 (by decide)).trans g23
  have g41 := (u10.2 0 (by decide)).trans g40
  have g42 := (u11.2 0 (by decide)).trans g41
  have g43 := (u12.2 0 (by decide)).trans g42
  have g44 := (u13.2 0 (by decide)).trans g43
  have g45 := (u14.2 0 (by decide)).trans g44
  have g46 := (u15.2 0 (by decide)).trans g45
  have g47 := (u16.2 0 (by decide)).trans g46
  refine rq_getf i_56_35 f_56_12 g47 rfl ?_
  refine rq_loc i_56_38 rfl rfl ?_
  have g48 := (u16.2 1 (by decide)).trans u15.1
  refine rq_V1 (c1 := 0) (s1 := 0) (cb := 0) (sb := 0) (F' := 2046) (Lo' := 83953) i_56_39 c_56_99 rfl (rz_isa g48 a_3_24) rfl rfl rfl ?_
  refine rq_pure i_24_0 rfl ?_
  refine rq_topi (v := 24) (by decide) ?_
  refine rq_loc i_24_2 rfl rfl ?_
  refine rq_loc i_24_3 rfl rfl ?_
  refine rq_iflt (tg := 43) i_24_4 ⟨by decide, by decide⟩ (fun q => absurd q (by decide)) (fun _ => ?_)
  refine rq_loc i_24_7 rfl rfl ?_
  refine rq_getf i_24_8 f_24_41 g48 rfl ?_
  refine rq_pure i_24_11 rfl ?_
  refine rq_topi (v := 4000) (by decide) ?_
  refine rq_icge (tg := 43) i_24_14 ⟨by decide, by decide⟩ (fun q => absurd q (by decide)) (fun _ => ?_)
  refine rq_loc i_24_17 rfl rfl ?_
  refine rq_getf i_24_18 f_24_9 g48 rfl ?_
  refine rq_loc i_24_21 rfl rfl ?_
  refine rq_pure i_24_22 rfl ?_
  refine rq_getf i_24_23 f_24_41 g48 rfl ?_
  refine rq_pure i_24_26 rfl ?_
  refine rq_pure i_24_27 rfl ?_
  refine rq_topi (v := 1) (by decide) ?_
  refine rq_pure i_24_28 rfl ?_
  refine rq_topi (v := 9) (by decide) ?_
  refine rq_putf1 i_24_29 p_24_41 g48 rfl rfl rfl (fun L17 u17 => ?_)
  refine rq_loc i_24_32 rfl rfl ?_
  refine rq_loc i_24_33 rfl rfl ?_
  refine rq_pure i_24_34 rfl ?_
  refine rq_pure i_24_35 rfl ?_
  have g51 := (u17.2 2 (by decide)).trans u16.1
  refine rq_bast1 i_24_36 g51 (by decide) (fun L18 u18 => ?_)
  refine rq_loc i_24_37 rfl rfl ?_
  refine rq_goto (tg := 3) i_24_40 ⟨by decide, by decide⟩ ?_
  refine rq_loc i_24_3 rfl rfl ?_
  refine rq_topi (v := 16) (by decide) ?_
  refine rq_iflt (tg := 43) i_24_4 ⟨by decide, by decide⟩ (fun q => absurd q (by decide)) (fun _ => ?_)
  refine rq_loc i_24_7 rfl rfl ?_
  have g52 := (u18.2 1 (by decide)).trans u17.1
  refine rq_getf i_24_8 f_24_41 g52 rfl ?_
  refine rq_pure i_24_11 rfl ?_
  refine rq_topi (v := 4000) (by decide) ?_
  refine rq_icge (tg := 43) i_24_14 ⟨by decide, by decide⟩ (fun q => absurd q (by decide)) (fun _ => ?_)
  refine rq_loc i_24_17 rfl rfl ?_
  refine rq_getf i_24_18 f_24_9 g52 rfl ?_
  refine rq_loc i_24_21 rfl rfl ?_
  refine rq_pure i_24_22 rfl ?_
  refine rq_getf i_24_23 f_24_41 g52 rfl ?_
  refine rq_pure i_24_26 rfl ?_
  refine rq_pure i_24_27 rfl ?_
  refine rq_topi (v := 1) (by decide) ?_
  refine rq_pure i_24_28 rfl ?_
  refine rq_topi (v := 10) (by decide) ?_
  refine rq_putf1 i_24_29 p_24_41 g52 rfl rfl rfl (fun L19 u19 => ?_)
  refine rq_loc i_24_32 rfl rfl ?_
  refine rq_loc i_24_33 rfl rfl ?_
  refine rq_topi (v := 16) (by decide) ?_
  refine rq_pure i_24_34 rfl ?_
  refine rq_pure i_24_35 rfl ?_
  have g55 := (u19.2 2 (by decide)).trans u18.1
  refine rq_bast1 i_24_36 g55 (by decide) (fun L20 u20 => ?_)
  refine rq_loc i_24_37 rfl rfl ?_
  refine rq_goto (tg := 3) i_24_40 ⟨by decide, by decide⟩ ?_
  refine rq_loc i_24_3 rfl rfl ?_
  refine rq_topi (v := 8) (by decide) ?_
  refine rq_iflt (tg := 43) i_24_4 ⟨by decide, by decide⟩ (fun q => absurd q (by decide)) (fun _ => ?_)
  refine rq_loc i_24_7 rfl rfl ?_
  have g56 := (u20.2 1 (by decide)).trans u19.1
  refine rq_getf i_24_8 f_24_41 g56 rfl ?_
  refine rq_pure i_24_11 rfl ?_
  refine rq_topi (v := 4000) (by decide) ?_
  refine rq_icge (tg := 43) i_24_14 ⟨by decide, by decide⟩ (fun q => absurd q (by decide)) (fun _ => ?_)
  refine rq_loc i_24_17 rfl rfl ?_
  refine rq_getf i_24_18 f_24_9 g56 rfl ?_
  refine rq_loc i_24_21 rfl rfl ?_
  refine rq_pure i_24_22 rfl ?_
  refine rq_getf i_24_23 f_24_41 g56 rfl ?_
  refine rq_pure i_24_26 rfl ?_
  refine rq_pure i_24_27 rfl ?_
  refine rq_topi (v := 1) (by decide) ?_
  refine rq_pure i_24_28 rfl ?_
  refine rq_topi (v := 11) (by decide) ?_
  refine rq_putf1 i_24_29 p_24_41 g56 rfl rfl rfl (fun L21 u21 => ?_)
  refine rq_loc i_24_32 rfl rfl ?_
  refine rq_loc i_24_33 rfl rfl ?_
  refine rq_topi (v := 8) (by decide) ?_
  refine rq_pure i_24_34 rfl ?_
  refine rq_pure i_24_35 rfl ?_
  have g59 := (u21.2 2 (by decide)).trans u20.1
  refine rq_bast1 i_24_36 g59 (by decide) (fun L22 u22 => ?_)
  refine rq_loc i_24_37 rfl rfl ?_
  refine rq_goto (tg := 3) i_24_40 ⟨by decide, by decide⟩ ?_
  refine rq_loc i_24_3 rfl rfl ?_
  refine rq_topi (v := 0) (by decide) ?_
  refine rq_iflt (tg := 43) i_24_4 ⟨by decide, by decide⟩ (fun q => absurd q (by decide)) (fun _ => ?_)
  refine rq_loc i_24_7 rfl rfl ?_
  have g60 := (u22.2 1 (by decide)).trans u21.1
  refine rq_getf i_24_8 f_24_41 g60 rfl ?_
  refine rq_pure i_24_11 rfl ?_
  refine rq_topi (v := 4000) (by decide) ?_
  refine rq_icge (tg := 43) i_24_14 ⟨by decide, by decide⟩ (fun q => absurd q (by decide)) (fun _ => ?_)
  refine rq_loc i_24_17 rfl rfl ?_
  refine rq_getf i_24_18 f_24_9 g60 rfl ?_
  refine rq_loc i_24_21 rfl rfl ?_
  refine rq_pure i_24_22 rfl ?_
  refine rq_getf i_24_23 f_24_41 g60 rfl ?_
  refine rq_pure i_24_26 rfl ?_
  refine rq_pure i_24_27 rfl ?_
  refine rq_topi (v := 1) (by decide) ?_
  refine rq_pure i_24_28 rfl ?_
  refine rq_topi (v := 12) (by decide) ?_
  refine rq_putf1 i_24_29 p_24_41 g60 rfl rfl rfl (fun L23 u23 => ?_)
  refine rq_loc i_24_32 rfl rfl ?_
  refine rq_loc i_24_33 rfl rfl ?_
  refine rq_topi (v := 0) (by decide) ?_
  refine rq_pure i_24_34 rfl ?_
  refine rq_pure i_24_35 rfl ?_
  have g63 := (u23.2 2 (by decide)).trans u22.1
  refine rq_bast1 i_24_36 g63 (by decide) (fun L24 u24 => ?_)
  refine rq_loc i_24_37 rfl rfl ?_
  refine rq_goto (tg := 3) i_24_40 ⟨by decide, by decide⟩ ?_
  refine rq_loc i_24_3 rfl rfl ?_
  refine rq_topi (v := (-8)) (by decide) ?_
  refine rq_iflt (tg := 43) i_24_4 ⟨by decide, by decide⟩ (fun _ => ?_) (fun q => absurd q (by decide))
  refine rq_vret i_24_43 r_24 ?_
  refine rq_back0 ?_
  refine rq_loc i_56_42 rfl rfl ?_
  have g64 := (u17.2 0 (by decide)).trans g47
  have g65 := (u18.2 0 (by decide)).trans g64
  have g66 := (u19.2 0 (by decide)).trans g65
  have g67 := (u20.2 0 (by decide)).trans g66
  have g68 := (u21.2 0 (by decide)).trans g67
  have g69 := (u22.2 0 (by decide)).trans g68
  have g70 := (u23.2 0 (by decide)).trans g69
  have g71 := (u24.2 0 (by decide)).trans g70
  refine rq_getf i_56_43 f_56_12 g71 rfl ?_
  refine rq_loc i_56_46 rfl rfl ?_
  have g72 := (u24.2 1 (by decide)).trans u23.1
  refine rq_V1 (c1 := 0) (s1 := 0) (cb := 0) (sb := 0) (F' := 2046) (Lo' := 83953) i_56_48 c_56_99 rfl (rz_isa g72 a_3_24) rfl rfl rfl ?_
  refine rq_pure i_24_0 rfl ?_
  refine rq_topi (v := 24) (by decide) ?_
  refine rq_loc i_24_2 rfl rfl ?_
  refine rq_loc i_24_3 rfl rfl ?_
  refine rq_iflt (tg := 43) i_24_4 ⟨by decide, by decide⟩ (fun q => absurd q (by decide)) (fun _ => ?_)
  refine rq_loc i_24_7 rfl rfl ?_
  refine rq_getf i_24_8 f_24_41 g72 rfl ?_
  refine rq_pure i_24_11 rfl ?_
  refine rq_topi (v := 4000) (by decide) ?_
  refine rq_icge (tg := 43) i_24_14 ⟨by decide, by decide⟩ (fun q => absurd q (by decide)) (fun _ => ?_)
  refine rq_loc i_24_17 rfl rfl ?_
  refine rq_getf i_24_18 f_24_9 g72 rfl ?_
  refine rq_loc i_24_21 rfl rfl ?_
  refine rq_pure i_24_22 rfl ?_
  refine rq_getf i_24_23 f_24_41 g72 rfl ?_
  refine rq_pure i_24_26 rfl ?_
  refine rq_pure i_24_27 rfl ?_
  refine rq_topi (v := 1) (by decide) ?_
  refine rq_pure i_24_28 rfl ?_
  refine rq_topi (v := 13) (by decide) ?_
  refine rq_putf1 i_24_29 p_24_41 g72 rfl rfl rfl (fun L25 u25 => ?_)
  refine rq_loc i_24_32 rfl rfl ?_
  refine rq_loc i_24_33 rfl rfl ?_
  refine rq_pure i_24_34 rfl ?_
  refine rq_pure i_24_35 rfl ?_
  have g75 := (u25.2 2 (by decide)).trans u24.1
  refine rq_bast1 i_24_36 g75 (by decide) (fun L26 u26 => ?_)
  refine rq_loc i_24_37 rfl rfl ?_
  refine rq_goto (tg := 3) i_24_40 ⟨by decide, by decide⟩ ?_
  refine rq_loc i_24_3 rfl rfl ?_
  refine rq_topi (v := 16) (by decide) ?_
  refine rq_iflt (tg := 43) i_24_4 ⟨by decide, by decide⟩ (fun q => absurd q (by decide)) (fun _ => ?_)
  refine rq_loc i_24_7 rfl rfl ?_
  have g76 := (u26.2 1 (by decide)).trans u25.1
  refine rq_getf i_24_8 f_24_41 g76 rfl ?_
  refine rq_pure i_24_11 rfl ?_
  refine rq_topi (v := 4000) (by decide) ?_
  refine rq_icge (tg := 43) i_24_14 ⟨by decide, by decide⟩ (fun q => absurd q (by decide)) (fun _ => ?_)
  refine rq_loc i_24_17 rfl rfl ?_
  refine rq_getf i_24_18 f_24_9 g76 rfl ?_
  refine rq_loc i_24_21 rfl rfl ?_
  refine rq_pure i_24_22 rfl ?_
  refine rq_getf i_24_23 f_24_41 g76 rfl ?_
  refine rq_pure i_24_26 rfl ?_
  refine rq_pure i_24_27 rfl ?_
  refine rq_topi (v := 1) (by decide) ?_
  refine rq_pure i_24_28 rfl ?_
  refine rq_topi (v := 14) (by decide) ?_
  refine rq_putf1 i_24_29 p_24_41 g76 rfl rfl rfl (fun L27 u27 => ?_)
  refine rq_loc i_24_32 rfl rfl ?_
  refine rq_loc i_24_33 rfl rfl ?_
  refine rq_topi (v := 16) (by decide) ?_
  refine rq_pure i_24_34 rfl ?_
  refine rq_pure i_24_35 rfl ?_
  have g79 := (u27.2 2 (by decide)).trans u26.1
  refine rq_bast1 i_24_36 g79 (by decide) (fun L28 u28 => ?_)
  refine rq_loc i_24_37 rfl rfl ?_
  refine rq_goto (tg := 3) i_24_40 ⟨by decide, by decide⟩ ?_
  refine rq_loc i_24_3 rfl rfl ?_
  refine rq_topi (v := 8) (by decide) ?_
  refine rq_iflt (tg := 43) i_24_4 ⟨by decide, by decide⟩ (fun q => absurd q (by decide)) (fun _ => ?_)
  refine rq_loc i_24_7 rfl rfl ?_
  have g80 := (u28.2 1 (by decide)).trans u27.1
  refine rq_getf i_24_8 f_24_41 g80 rfl ?_
  refine rq_pure i_24_11 rfl ?_
  refine rq_topi (v := 4000) (by decide) ?_
  refine rq_icge (tg := 43) i_24_14 ⟨by decide, by decide⟩ (fun q => absurd q (by decide)) (fun _ => ?_)
  refine rq_loc i_24_17 rfl rfl ?_
  refine rq_getf i_24_18 f_24_9 g80 rfl ?_
  refine rq_loc i_24_21 rfl rfl ?_
  refine rq_pure i_24_22 rfl ?_
  refine rq_getf i_24_23 f_24_41 g80 rfl ?_
  refine rq_pure i_24_26 rfl ?_
  refine rq_pure i_24_27 rfl ?_
  refine rq_topi (v := 1) (by decide) ?_
  refine rq_pure i_24_28 rfl ?_
  refine rq_topi (v := 15) (by decide) ?_
  refine rq_putf1 i_24_29 p_24_41 g80 rfl rfl rfl (fun L29 u29 => ?_)
  refine rq_loc i_24_32 rfl rfl ?_
  refine rq_loc i_24_33 rfl rfl ?_
  refine rq_topi (v := 8) (by decide) ?_
  refine rq_pure i_24_34 rfl ?_
  refine rq_pure i_24_35 rfl ?_
  have g83 := (u29.2 2 (by decide)).trans u28.1
  refine rq_bast1 i_24_36 g83 (by decide) (fun L30 u30 => ?_)
  refine rq_loc i_24_37 rfl rfl ?_
  refine rq_goto (tg := 3) i_24_40 ⟨by decide, by decide⟩ ?_
  refine rq_loc i_24_3 rfl rfl ?_
  refine rq_topi (v := 0) (by decide) ?_
  refine rq_iflt (tg := 43) i_24_4 ⟨by decide, by decide⟩ (fun q => absurd q (by decide)) (fun _ => ?_)
  refine rq_loc i_24_7 rfl rfl ?_
  have g84 := (u30.2 1 (by decide)).trans u29.1
  refine rq_getf i_24_8 f_24_41 g84 rfl ?_
  refine rq_pure i_24_11 rfl ?_
  refine rq_topi (v := 4000) (by decide) ?_
  refine rq_icge (tg := 43) i_24_14 ⟨by decide, by decide⟩ (fun q => absurd q (by decide)) (fun _ => ?_)
  refine rq_loc i_24_17 rfl rfl ?_
  refine rq_getf i_24_18 f_24_9 g84 rfl ?_
  refine rq_loc i_24_21 rfl rfl ?_
  refine rq_pure i_24_22 rfl ?_
  refine rq_getf i_24_23 f_24_41 g84 rfl ?_
  refine rq_pure i_24_26 rfl ?_
  refine rq_pure i_24_27 rfl ?_
  refine rq_topi (v := 1) (by decide) ?_
  refine rq_pure i_24_28 rfl ?_
  refine rq_topi (v := 16) (by decide) ?_
  refine rq_putf1 i_24_29 p_24_41 g84 rfl rfl rfl (fun L31 u31 => ?_)
  refine rq_loc i_24_32 rfl rfl ?_
  refine rq_loc i_24_33 rfl rfl ?_
  refine rq_topi (v := 0) (by decide) ?_
  refine rq_pure i_24_34 rfl ?_
  refine rq_pure i_24_35 rfl ?_
  have g87 := (u31.2 2 (by decide)).trans u30.1
  refine rq_bast1 i_24_36 g87 (by decide) (fun L32 u32 => ?_)
  refine rq_loc i_24_37 rfl rfl ?_
  refine rq_goto (tg := 3) i_24_40 ⟨by decide, by decide⟩ ?_
  refine rq_loc i_24_3 rfl rfl ?_
  refine rq_topi (v := (-8)) (by decide) ?_
  refine rq_iflt (tg := 43) i_24_4 ⟨by decide, by decide⟩ (fun _ => ?_) (fun q => absurd q (by decide))
  refine rq_vret i_24_43 r_24 ?_
  refine rq_back0 ?_
  refine rq_loc i_56_51 rfl rfl ?_
  have g88 := (u25.2 0 (by decide)).trans g71
  have g89 := (u26.2 0 (by decide)).trans g88
  have g90 := (u27.2 0 (by decide)).trans g89
  have g91 := (u28.2 0 (by decide)).trans g90
  have g92 := (u29.2 0 (by decide)).trans g91
  have g93 := (u30.2 0 (by decide)).trans g92
  have g94 := (u31.2 0 (by decide)).trans g93
  have g95 := (u32.2 0 (by decide)).trans g94
  refine rq_getf i_56_52 f_56_12 g95 rfl ?_
  refine rq_loc i_56_55 rfl rfl ?_
  have g96 := (u32.2 1 (by decide)).trans u31.1
  refine rq_V1 (c1 := 0) (s1 := 0) (cb := 0) (sb := 0) (F' := 2046) (Lo' := 83953) i_56_57 c_56_99 rfl (rz_isa g96 a_3_24) rfl rfl rfl ?_
  refine rq_pure i_24_0 rfl ?_
  refine rq_topi (v := 24) (by decide) ?_
  refine rq_loc i_24_2 rfl rfl ?_
  refine rq_loc i_24_3 rfl rfl ?_
  refine rq_iflt (tg := 43) i_24_4 ⟨by decide, by decide⟩ (fun q => absurd q (by decide)) (fun _ => ?_)
  refine rq_loc i_24_7 rfl rfl ?_
  refine rq_getf i_24_8 f_24_41 g96 rfl ?_
  refine rq_pure i_24_11 rfl ?_
  refine rq_topi (v := 4000) (by decide) ?_
  refine rq_icge (tg := 43) i_24_14 ⟨by decide, by decide⟩ (fun q => absurd q (by decide)) (fun _ => ?_)
  refine rq_loc i_24_17 rfl rfl ?_
  refine rq_getf i_24_18 f_24_9 g96 rfl ?_
  refine rq_loc i_24_21 rfl rfl ?_
  refine rq_pure i_24_22 rfl ?_
  refine rq_getf i_24_23 f_24_41 g96 rfl ?_
  refine rq_pure i_24_26 rfl ?_
  refine rq_pure i_24_27 rfl ?_
  refine rq_topi (v := 1) (by decide) ?_
  refine rq_pure i_24_28 rfl ?_
  refine rq_topi (v := 17) (by decide) ?_
  refine rq_putf1 i_24_29 p_24_41 g96 rfl rfl rfl (fun L33 u33 => ?_)
  refine rq_loc i_24_32 rfl rfl ?_
  refine rq_loc i_24_33 rfl rfl ?_
  refine rq_pure i_24_34 rfl ?_
  refine rq_pure i_24_35 rfl ?_
  have g99 := (u33.2 2 (by decide)).trans u32.1
  refine rq_bast1 i_24_36 g99 (by decide) (fun L34 u34 => ?_)
  refine rq_loc i_24_37 rfl rfl ?_
  refine rq_goto (tg := 3) i_24_40 ⟨by decide, by decide⟩ ?_
  refine rq_loc i_24_3 rfl rfl ?_
  refine rq_topi (v := 16) (by decide) ?_
  refine rq_iflt (tg := 43) i_24_4 ⟨by decide, by decide⟩ (fun q => absurd q (by decide)) (fun _ => ?_)
  refine rq_loc i_24_7 rfl rfl ?_
  have g100 := (u34.2 1 (by decide)).trans u33.1
  refine rq_getf i_24_8 f_24_41 g100 rfl ?_
  refine rq_pure i_24_11 rfl ?_
  refine rq_topi (v := 4000) (by decide) ?_
  refine rq_icge (tg := 43) i_24_14 ⟨by decide, by decide⟩ (fun q => absurd q (by decide)) (fun _ => ?_)
  refine rq_loc i_24_17 rfl rfl ?_
  refine rq_getf i_24_18 f_24_9 g100 rfl ?_
  refine rq_loc i_24_21 rfl rfl ?_
  refine rq_pure i_24_22 rfl ?_
  refine rq_getf i_24_23 f_24_41 g100 rfl ?_
  refine rq_pure i_24_26 rfl ?_
  refine rq_pure i_24_27 rfl ?_
  refine rq_topi (v := 1) (by decide) ?_
  refine rq_pure i_24_28 rfl ?_
  refine rq_topi (v := 18) (by decide) ?_
  refine rq_putf1 i_24_29 p_24_41 g100 rfl rfl rfl (fun L35 u35 => ?_)
  refine rq_loc i_24_32 rfl rfl ?_
  refine rq_loc i_24_33 rfl rfl ?_
  refine rq_topi (v := 16) (by decide) ?_
  refine rq_pure i_24_34 rfl ?_
  refine rq_pure i_24_35 rfl ?_
  have g103 := (u35.2 2 (by decide)).trans u34.1
  refine rq_bast1 i_24_36 g103 (by decide) (fun L36 u36 => ?_)
  refine rq_loc i_24_37 rfl rfl ?_
  refine rq_goto (tg := 3) i_24_40 ⟨by decide, by decide⟩ ?_
  refine rq_loc i_24_3 rfl rfl ?_
  refine rq_topi (v := 8) (by decide) ?_
  refine rq_iflt (tg := 43) i_24_4 ⟨by decide, by decide⟩ (fun q => absurd q (by decide)) (fun _ => ?_)
  refine rq_loc i_24_7 rfl rfl ?_
  have g104 := (u36.2 1 (by decide)).trans u35.1
  refine rq_getf i_24_8 f_24_41 g104 rfl ?_
  refine rq_pure i_24_11 rfl ?_
  refine rq_topi (v := 4000) (by decide) ?_
  refine rq_icge (tg := 43) i_24_14 ⟨by decide, by decide⟩ (fun q => absurd q (by decide)) (fun _ => ?_)
  refine rq_loc i_24_17 rfl rfl ?_
  refine rq_getf i_24_18 f_24_9 g104 rfl ?_
  refine rq_loc i_24_21 rfl rfl ?_
  refine rq_pure i_24_22 rfl ?_
  refine rq_getf i_24_23 f_24_41 g104 rfl ?_
  refine rq_pure i_24_26 rfl ?_
  refine rq_pure i_24_27 rfl ?_
  refine rq_topi (v := 1) (by decide) ?_
  refine rq_pure i_24_28 rfl ?_
  refine rq_topi (v := 19) (by decide) ?_
  refine rq_putf1 i_24_29 p_24_41 g104 rfl rfl rfl (fun L37 u37 => ?_)
  refine rq_loc i_24_32 rfl rfl ?_
  refine rq_loc i_24_33 rfl rfl ?_
  refine rq_topi (v := 8) (by decide) ?_
  refine rq_pure i_24_34 rfl ?_
  refine rq_pure i_24_35 rfl ?_
  have g107 := (u37.2 2 (by decide)).trans u36.1
  refine rq_bast1 i_24_36 g107 (by decide) (fun L38 u38 => ?_)
  refine rq_loc i_24_37 rfl rfl ?_
  refine rq_goto (tg := 3) i_24_40 ⟨by decide, by decide⟩ ?_
  refine rq_loc i_24_3 rfl rfl ?_
  refine rq_topi (v := 0) (by decide) ?_
  refine rq_iflt (tg := 43) i_24_4 ⟨by decide, by decide⟩ (fun q => absurd q (by decide)) (fun _ => ?_)
  refine rq_loc i_24_7 rfl rfl ?_
  have g108 := (u38.2 1 (by decide)).trans u37.1
  refine rq_getf i_24_8 f_24_41 g108 rfl ?_
  refine rq_pure i_24_11 rfl ?_
  refine rq_topi (v := 4000) (by decide) ?_
  refine rq_icge (tg := 43) i_24_14 ⟨by decide, by decide⟩ (fun q => absurd q (by decide)) (fun _ => ?_)
  refine rq_loc i_24_17 rfl rfl ?_
  refine rq_getf i_24_18 f_24_9 g108 rfl ?_
  refine rq_loc i_24_21 rfl rfl ?_
  refine rq_pure i_24_22 rfl ?_
  refine rq_getf i_24_23 f_24_41 g108 rfl ?_
  refine rq_pure i_24_26 rfl ?_
  refine rq_pure i_24_27 rfl ?_
  refine rq_topi (v := 1) (by decide) ?_
  refine rq_pure i_24_28 rfl ?_
  refine rq_topi (v := 20) (by decide) ?_
  refine rq_putf1 i_24_29 p_24_41 g108 rfl rfl rfl (fun L39 u39 => ?_)
  refine rq_loc i_24_32 rfl rfl ?_
  refine rq_loc i_24_33 rfl rfl ?_
  refine rq_topi (v := 0) (by decide) ?_
  refine rq_pure i_24_34 rfl ?_
  refine rq_pure i_24_35 rfl ?_
  have g111 := (u39.2 2 (by decide)).trans u38.1
  refine rq_bast1 i_24_36 g111 (by decide) (fun L40 u40 => ?_)
  refine rq_loc i_24_37 rfl rfl ?_
  refine rq_goto (tg := 3) i_24_40 ⟨by decide, by decide⟩ ?_
  refine rq_loc i_24_3 rfl rfl ?_
  refine rq_topi (v := (-8)) (by decide) ?_
  refine rq_iflt (tg := 43) i_24_4 ⟨by decide, by decide⟩ (fun _ => ?_) (fun q => absurd q (by decide))
  refine rq_vret i_24_43 r_24 ?_
  refine rq_back0 ?_
  refine rq_loc i_56_60 rfl rfl ?_
  have g112 := (u33.2 0 (by decide)).trans g95
  have g113 := (u34.2 0 (by decide)).trans g112
  have g114 := (u35.2 0 (by decide)).trans g113
  have g115 := (u36.2 0 (by decide)).trans g114
  have g116 := (u37.2 0 (by decide)).trans g115
  have g117 := (u38.2 0 (by decide)).trans g116
  have g118 := (u39.2 0 (by decide)).trans g117
  have g119 := (u40.2 0 (by decide)).trans g118
  refine rq_getf i_56_61 f_56_12 g119 rfl ?_
  have g120 := (u40.2 1 (by decide)).trans u39.1
  refine rq_getf i_56_64 f_56_95 g120 rfl ?_
  refine rq_iret i_56_67 r_56 rfl ?_
  refine rq_back1 ?_
  refine rq_loc i_0_222 rfl rfl ?_
  refine rq_loc i_0_223 rfl rfl ?_
  refine rq_loc i_0_224 rfl rfl ?_
  refine rq_pure i_0_226 rfl ?_
  refine rq_topi (v := 1) (by decide) ?_
  refine rq_pure i_0_227 rfl ?_
  refine rq_topi (v := 1) (by decide) ?_
  have g121 := (u1.2 rx_S (by decide)).trans hS
  have g122 := (u2.2 rx_S (by decide)).trans g121
  have g123 := (u3.2 rx_S (by decide)).trans g122
  have g124 := (u4.2 rx_S (by decide)).trans g123
  have g125 := (u5.2 rx_S (by decide)).trans g124
  have g126 := (u6.2 rx_S (by decide)).trans g125
  have g127 := (u7.2 rx_S (by decide)).trans g126
  have g128 := (u8.2 rx_S (by decide)).trans g127
  have g129 := (u9.2 rx_S (by decide)).trans g128
  have g130 := (u10.2 rx_S (by decide)).trans g129
  have g131 := (u11.2 rx_S (by decide)).trans g130
  have g132 := (u12.2 rx_S (by decide)).trans g131
  have g133 := (u13.2 rx_S (by decide)).trans g132
  have g134 := (u14.2 rx_S (by decide)).trans g133
  have g135 := (u15.2 rx_S (by decide)).trans g134
  have g136 := (u16.2 rx_S (by decide)).trans g135
  have g137 := (u17.2 rx_S (by decide)).trans g136
  have g138 := (u18.2 rx_S (by decide)).trans g137
  have g139 := (u19.2 rx_S (by decide)).trans g138
  have g140 := (u20.2 rx_S (by decide)).trans g139
  have g141 := (u21.2 rx_S (by decide)).trans g140
  have g142 := (u22.2 rx_S (by decide)).trans g141
  have g143 := (u23.2 rx_S (by decide)).trans g142
  have g144 := (u24.2 rx_S (by decide)).trans g143
  have g145 := (u25.2 rx_S (by decide)).trans g144
  have g146 := (u26.2 rx_S (by decide)).trans g145
  have g147 := (u27.2 rx_S (by decide)).trans g146
  have g148 := (u28.2 rx_S (by decide)).trans g147
  have g149 := (u29.2 rx_S (by decide)).trans g148
  have g150 := (u30.2 rx_S (by decide)).trans g149
  have g151 := (u31.2 rx_S (by decide)).trans g150
  have g152 := (u32.2 rx_S (by decide)).trans g151
  have g153 := (u33.2 rx_S (by decide)).trans g152
  have g154 := (u34.2 rx_S (by decide)).trans g153
  have g155 := (u35.2 rx_S (by decide)).trans g154
  have g156 := (u36.2 rx_S (by decide)).trans g155
  have g157 := (u37.2 rx_S (by decide)).trans g156
  have g158 := (u38.2 rx_S (by decide)).trans g157
  have g159 := (u39.2 rx_S (by decide)).trans g158
  have g160 := (u40.2 rx_S (by decide)).trans g159
  refine rq_sald1 (x := xs 1) i_0_228 g160 rfl (by decide) rfl ?_
  refine rq_loc i_0_229 rfl rfl ?_
  refine rq_loc i_0_230 rfl rfl ?_
  refine rq_pure i_0_232 rfl ?_
  refine rq_topi (v := 2) (by decide) ?_
  refine rq_pure i_0_233 rfl ?_
  refine rq_topi (v := 2) (by decide) ?_
  refine rq_sald1 (x := xs 2) i_0_234 g160 rfl (by decide) rfl ?_
  refine rq_loc i_0_235 rfl rfl ?_
  refine rq_loc i_0_236 rfl rfl ?_
  refine rq_pure i_0_238 rfl ?_
  refine rq_topi (v := 3) (by decide) ?_
  refine rq_pure i_0_239 rfl ?_
  refine rq_topi (v := 3) (by decide) ?_
  refine rq_sald1 (x := xs 3) i_0_240 g160 rfl (by decide) rfl ?_
  refine rq_loc i_0_241 rfl rfl ?_
  refine rq_loc i_0_242 rfl rfl ?_
  refine rq_pure i_0_244 rfl ?_
  refine rq_topi (v := 4) (by decide) ?_
  refine rq_pure i_0_245 rfl ?_
  refine rq_topi (v := 4) (by decide) ?_
  refine rq_sald1 (x := xs 4) i_0_246 g160 rfl (by decide) rfl ?_
  refine rq_loc i_0_247 rfl rfl ?_
  refine rq_loc i_0_248 rfl rfl ?_
  refine rq_pure i_0_250 rfl ?_
  refine rq_topi (v := 5) (by decide) ?_
  refine rq_pure i_0_251 rfl ?_
  refine rq_topi (v := 5) (by decide) ?_
  refine rq_sald1 (x := xs 5) i_0_252 g160 rfl (by decide) rfl ?_
  have g161 := (u1.2 174 (by decide)).trans c174
  have g162 := (u2.2 174 (by decide)).trans g161
  have g163 := (u3.2 174 (by decide)).trans g162
  have g164 := (u4.2 174 (by decide)).trans g163
  have g165 := (u5.2 174 (by decide)).trans g164
  have g166 := (u6.2 174 (by decide)).trans g165
  have g167 := (u7.2 174 (by decide)).trans g166
  have g168 := (u8.2 174 (by decide)).trans g167
  have g169 := (u9.2 174 (by decide)).trans g168
  have g170 := (u10.2 174 (by decide)).trans g169
  have g171 := (u11.2 174 (by decide)).trans g170
  have g172 := (u12.2 174 (by decide)).trans g171
  have g173 := (u13.2 174 (by decide)).trans g172
  have g174 := (u14.2 174 (by decide)).trans g173
  have g175 := (u15.2 174 (by decide)).trans g174
  have g176 := (u16.2 174 (by decide)).trans g175
  have g177 := (u17.2 174 (by decide)).trans g176
  have g178 := (u18.2 174 (by decide)).trans g177
  have g179 := (u19.2 174 (by decide)).trans g178
  have g180 := (u20.2 174 (by decide)).trans g179
  have g181 := (u21.2 174 (by decide)).trans g180
  have g182 := (u22.2 174 (by decide)).trans g181
  have g183 := (u23.2 174 (by decide)).trans g182
  have g184 := (u24.2 174 (by decide)).trans g183
  have g185 := (u25.2 174 (by decide)).trans g184
  have g186 := (u26.2 174 (by decide)).trans g185
  have g187 := (u27.2 174 (by decide)).trans g186
  have g188 := (u28.2 174 (by decide)).trans g187
  have g189 := (u29.2 174 (by decide)).trans g188
  have g190 := (u30.2 174 (by decide)).trans g189
  have g191 := (u31.2 174 (by decide)).trans g190
  have g192 := (u32.2 174 (by decide)).trans g191
  have g193 := (u33.2 174 (by decide)).trans g192
  have g194 := (u34.2 174 (by decide)).trans g193
  have g195 := (u35.2 174 (by decide)).trans g194
  have g196 := (u36.2 174 (by decide)).trans g195
  have g197 := (u37.2 174 (by decide)).trans g196
  have g198 := (u38.2 174 (by decide)).trans g197
  have g199 := (u39.2 174 (by decide)).trans g198
  have g200 := (u40.2 174 (by decide)).trans g199
  refine rq_V1 (c1 := 0) (s1 := 0) (cb := 100) (sb := 1000) (F' := 2047) (Lo' := 83975) i_0_253 c_0_35 rfl (rz_isa g200 a_15_93) rfl rfl rfl ?_
  refine rq_loc i_93_0 rfl rfl ?_
  refine rq_pure i_93_1 rfl ?_
  refine rq_topi (v := 0) (by decide) ?_
  refine rq_putf1 i_93_2 p_93_356 g200 rfl rfl rfl (fun L41 u41 => ?_)
  refine rq_loc i_93_5 rfl rfl ?_
  refine rq_getf i_93_6 f_93_359 u41.1 rfl ?_
  refine rq_pure i_93_9 rfl ?_
  refine rq_topi (v := 20) (by decide) ?_
  refine rq_pure i_93_11 rfl ?_
  refine rq_topi (v := 20) (by decide) ?_
  refine rq_pure i_93_12 rfl ?_
  refine rq_topi (v := 4000) (by decide) ?_
  refine rq_icle (tg := 20) i_93_15 ⟨by decide, by decide⟩ (fun _ => ?_) (fun q => absurd q (by decide))
  refine rq_loc i_93_20 rfl rfl ?_
  refine rq_loc i_93_21 rfl rfl ?_
  refine rq_V1 (c1 := 0) (s1 := 0) (cb := 0) (sb := 0) (F' := 2046) (Lo' := 83953) i_93_22 c_93_362 rfl (rz_isa u41.1 a_15_94) rfl rfl rfl ?_
  refine rq_pure i_94_0 rfl ?_
  refine rq_topi (v := 24) (by decide) ?_
  refine rq_loc i_94_2 rfl rfl ?_
  refine rq_loc i_94_3 rfl rfl ?_
  refine rq_iflt (tg := 39) i_94_4 ⟨by decide, by decide⟩ (fun q => absurd q (by decide)) (fun _ => ?_)
  refine rq_loc i_94_7 rfl rfl ?_
  refine rq_getf i_94_8 f_94_9 u41.1 rfl ?_
  refine rq_loc i_94_11 rfl rfl ?_
  refine rq_getf i_94_12 f_94_359 u41.1 rfl ?_
  refine rq_loc i_94_15 rfl rfl ?_
  refine rq_loc i_94_16 rfl rfl ?_
  refine rq_pure i_94_17 rfl ?_
  refine rq_pure i_94_18 rfl ?_
  refine rq_topi (v := 255) (by decide) ?_
  refine rq_pure i_94_21 rfl ?_
  have g203 := (u1.2 175 (by decide)).trans c175
  have g204 := (u2.2 175 (by decide)).trans g203
  have g205 := (u3.2 175 (by decide)).trans g204
  have g206 := (u4.2 175 (by decide)).trans g205
  have g207 := (u5.2 175 (by decide)).trans g206
  have g208 := (u6.2 175 (by decide)).trans g207
  have g209 := (u7.2 175 (by decide)).trans g208
  have g210 := (u8.2 175 (by decide)).trans g209
  have g211 := (u9.2 175 (by decide)).trans g210
  have g212 := (u10.2 175 (by decide)).trans g211
  have g213 := (u11.2 175 (by decide)).trans g212
  have g214 := (u12.2 175 (by decide)).trans g213
  have g215 := (u13.2 175 (by decide)).trans g214
  have g216 := (u14.2 175 (by decide)).trans g215
  have g217 := (u15.2 175 (by decide)).trans g216
  have g218 := (u16.2 175 (by decide)).trans g217
  have g219 := (u17.2 175 (by decide)).trans g218
  have g220 := (u18.2 175 (by decide)).trans g219
  have g221 := (u19.2 175 (by decide)).trans g220
  have g222 := (u20.2 175 (by decide)).trans g221
  have g223 := (u21.2 175 (by decide)).trans g222
  have g224 := (u22.2 175 (by decide)).trans g223
  have g225 := (u23.2 175 (by decide)).trans g224
  have g226 := (u24.2 175 (by decide)).trans g225
  have g227 := (u25.2 175 (by decide)).trans g226
  have g228 := (u26.2 175 (by decide)).trans g227
  have g229 := (u27.2 175 (by decide)).trans g228
  have g230 := (u28.2 175 (by decide)).trans g229
  have g231 := (u29.2 175 (by decide)).trans g230
  have g232 := (u30.2 175 (by decide)).trans g231
  have g233 := (u31.2 175 (by decide)).trans g232
  have g234 := (u32.2 175 (by decide)).trans g233
  have g235 := (u33.2 175 (by decide)).trans g234
  have g236 := (u34.2 175 (by decide)).trans g235
  have g237 := (u35.2 175 (by decide)).trans g236
  have g238 := (u36.2 175 (by decide)).trans g237
  have g239 := (u37.2 175 (by decide)).trans g238
  have g240 := (u38.2 175 (by decide)).trans g239
  have g241 := (u39.2 175 (by decide)).trans g240
  have g242 := (u40.2 175 (by decide)).trans g241
  have g243 := (u41.2 175 (by decide)).trans g242
  refine rq_iast1 i_94_22 g243 (by decide) (fun L42 u42 => ?_)
  refine rq_loc i_94_23 rfl rfl ?_
  refine rq_pure i_94_24 rfl ?_
  have g244 := (u42.2 174 (by decide)).trans u41.1
  refine rq_getf i_94_25 f_94_359 g244 rfl ?_
  refine rq_pure i_94_28 rfl ?_
  refine rq_topi (v := 1) (by decide) ?_
  refine rq_pure i_94_29 rfl ?_
  refine rq_topi (v := 1) (by decide) ?_
  refine rq_putf1 i_94_30 p_94_359 g244 rfl rfl rfl (fun L43 u43 => ?_)
  refine rq_loc i_94_33 rfl rfl ?_
  refine rq_goto (tg := 3) i_94_36 ⟨by decide, by decide⟩ ?_
  refine rq_loc i_94_3 rfl rfl ?_
  refine rq_topi (v := 16) (by decide) ?_
  refine rq_iflt (tg := 39) i_94_4 ⟨by decide, by decide⟩ (fun q => absurd q (by decide)) (fun _ => ?_)
  refine rq_loc i_94_7 rfl rfl ?_
  refine rq_getf i_94_8 f_94_9 u43.1 rfl ?_
  refine rq_loc i_94_11 rfl rfl ?_
  refine rq_getf i_94_12 f_94_359 u43.1 rfl ?_
  refine rq_loc i_94_15 rfl rfl ?_
  refine rq_loc i_94_16 rfl rfl ?_
  refine rq_topi (v := 16) (by decide) ?_
  refine rq_pure i_94_17 rfl ?_
  refine rq_pure i_94_18 rfl ?_
  refine rq_topi (v := 255) (by decide) ?_
  refine rq_pure i_94_21 rfl ?_
  have g247 := (u43.2 175 (by decide)).trans u42.1
  refine rq_iast1 i_94_22 g247 (by decide) (fun L44 u44 => ?_)
  refine rq_loc i_94_23 rfl rfl ?_
  refine rq_pure i_94_24 rfl ?_
  have g248 := (u44.2 174 (by decide)).trans u43.1
  refine rq_getf i_94_25 f_94_359 g248 rfl ?_
  refine rq_pure i_94_28 rfl ?_
  refine rq_topi (v := 1) (by decide) ?_
  refine rq_pure i_94_29 rfl ?_
  refine rq_topi (v := 2) (by decide) ?_
  refine rq_putf1 i_94_30 p_94_359 g248 rfl rfl rfl (fun L45 u45 => ?_)
  refine rq_loc i_94_33 rfl rfl ?_
  refine rq_goto (tg := 3) i_94_36 ⟨by decide, by decide⟩ ?_
  refine rq_loc i_94_3 rfl rfl ?_
  refine rq_topi (v := 8) (by decide) ?_
  refine rq_iflt (tg := 39) i_94_4 ⟨by decide, by decide⟩ (fun q => absurd q (by decide)) (fun _ => ?_)
  refine rq_loc i_94_7 rfl rfl ?_
  refine rq_getf i_94_8 f_94_9 u45.1 rfl ?_
  refine rq_loc i_94_11 rfl rfl ?_
  refine rq_getf i_94_12 f_94_359 u45.1 rfl ?_
  refine rq_loc i_94_15 rfl rfl ?_
  refine rq_loc i_94_16 rfl rfl ?_
  refine rq_topi (v := 8) (by decide) ?_
  refine rq_pure i_94_17 rfl ?_
  refine rq_pure i_94_18 rfl ?_
  refine rq_topi (v := 255) (by decide) ?_
  refine rq_pure i_94_21 rfl ?_
  have g251 := (u45.2 175 (by decide)).trans u44.1
  refine rq_iast1 i_94_22 g251 (by decide) (fun L46 u46 => ?_)
  refine rq_loc i_94_23 rfl rfl ?_
  refine rq_pure i_94_24 rfl ?_
  have g252 := (u46.2 174 (by decide)).trans u45.1
  refine rq_getf i_94_25 f_94_359 g252 rfl ?_
  refine rq_pure i_94_28 rfl ?_
  refine rq_topi (v := 1) (by decide) ?_
  refine rq_pure i_94_29 rfl ?_
  refine rq_topi (v := 3) (by decide) ?_
  refine rq_putf1 i_94_30 p_94_359 g252 rfl rfl rfl (fun L47 u47 => ?_)
  refine rq_loc i_94_33 rfl rfl ?_
  refine rq_goto (tg := 3) i_94_36 ⟨by decide, by decide⟩ ?_
  refine rq_loc i_94_3 rfl rfl ?_
  refine rq_topi (v := 0) (by decide) ?_
  refine rq_iflt (tg := 39) i_94_4 ⟨by decide, by decide⟩ (fun q => absurd q (by decide)) (fun _ => ?_)
  refine rq_loc i_94_7 rfl rfl ?_
  refine rq_getf i_94_8 f_94_9 u47.1 rfl ?_
  refine rq_loc i_94_11 rfl rfl ?_
  refine rq_getf i_94_12 f_94_359 u47.1 rfl ?_
  refine rq_loc i_94_15 rfl rfl ?_
  refine rq_loc i_94_16 rfl rfl ?_
  refine rq_topi (v := 0) (by decide) ?_
  refine rq_pure i_94_17 rfl ?_
  refine rq_pure i_94_18 rfl ?_
  refine rq_topi (v := 255) (by decide) ?_
  refine rq_pure i_94_21 rfl ?_
  have g255 := (u47.2 175 (by decide)).trans u46.1
  refine rq_iast1 i_94_22 g255 (by decide) (fun L48 u48 => ?_)
  refine rq_loc i_94_23 rfl rfl ?_
  refine rq_pure i_94_24 rfl ?_
  have g256 := (u48.2 174 (by decide)).trans u47.1
  refine rq_getf i_94_25 f_94_359 g256 rfl ?_
  refine rq_pure i_94_28 rfl ?_
  refine rq_topi (v := 1) (by decide) ?_
  refine rq_pure i_94_29 rfl ?_
  refine rq_topi (v := 4) (by decide) ?_
  refine rq_putf1 i_94_30 p_94_359 g256 rfl rfl rfl (fun L49 u49 => ?_)
  refine rq_loc i_94_33 rfl rfl ?_
  refine rq_goto (tg := 3) i_94_36 ⟨by decide, by decide⟩ ?_
  refine rq_loc i_94_3 rfl rfl ?_
  refine rq_topi (v := (-8)) (by decide) ?_
  refine rq_iflt (tg := 39) i_94_4 ⟨by decide, by decide⟩ (fun _ => ?_) (fun q => absurd q (by decide))
  refine rq_vret i_94_39 r_94 ?_
  refine rq_back0 ?_
  refine rq_loc i_93_25 rfl rfl ?_
  refine rq_loc i_93_26 rfl rfl ?_
  refine rq_V1 (c1 := 0) (s1 := 0) (cb := 0) (sb := 0) (F' := 2046) (Lo' := 83953) i_93_27 c_93_362 rfl (rz_isa u49.1 a_15_94) rfl rfl rfl ?_
  refine rq_pure i_94_0 rfl ?_
  refine rq_topi (v := 24) (by decide) ?_
  refine rq_loc i_94_2 rfl rfl ?_
  refine rq_loc i_94_3 rfl rfl ?_
  refine rq_iflt (tg := 39) i_94_4 ⟨by decide, by decide⟩ (fun q => absurd q (by decide)) (fun _ => ?_)
  refine rq_loc i_94_7 rfl rfl ?_
  refine rq_getf i_94_8 f_94_9 u49.1 rfl ?_
  refine rq_loc i_94_11 rfl rfl ?_
  refine rq_getf i_94_12 f_94_359 u49.1 rfl ?_
  refine rq_loc i_94_15 rfl rfl ?_
  refine rq_loc i_94_16 rfl rfl ?_
  refine rq_pure i_94_17 rfl ?_
  refine rq_pure i_94_18 rfl ?_
  refine rq_topi (v := 255) (by decide) ?_
  refine rq_pure i_94_21 rfl ?_
  have g259 := (u49.2 175 (by decide)).trans u48.1
  refine rq_iast1 i_94_22 g259 (by decide) (fun L50 u50 => ?_)
  refine rq_loc i_94_23 rfl rfl ?_
  refine rq_pure i_94_24 rfl ?_
  have g260 := (u50.2 174 (by decide)).trans u49.1
  refine rq_getf i_94_25 f_94_359 g260 rfl ?_
  refine rq_pure i_94_28 rfl ?_
  refine rq_topi (v := 1) (by decide) ?_
  refine rq_pure i_94_29 rfl ?_
  refine rq_topi (v := 5) (by decide) ?_
  refine rq_putf1 i_94_30 p_94_359 g260 rfl rfl rfl (fun L51 u51 => ?_)
  refine rq_loc i_94_33 rfl rfl ?_
  refine rq_goto (tg := 3) i_94_36 ⟨by decide, by decide⟩ ?_
  refine rq_loc i_94_3 rfl rfl ?_
  refine rq_topi (v := 16) (by decide) ?_
  refine rq_iflt (tg := 39) i_94_4 ⟨by decide, by decide⟩ (fun q => absurd q (by decide)) (fun _ => ?_)
  refine rq_loc i_94_7 rfl rfl ?_
  refine rq_getf i_94_8 f_94_9 u51.1 rfl ?_
  refine rq_loc i_94_11 rfl rfl ?_
  refine rq_getf i_94_12 f_94_359 u51.1 rfl ?_
  refine rq_loc i_94_15 rfl rfl ?_
  refine rq_loc i_94_16 rfl rfl ?_
  refine rq_topi (v := 16) (by decide) ?_
  refine rq_pure i_94_17 rfl ?_
  refine rq_pure i_94_18 rfl ?_
  refine rq_topi (v := 255) (by decide) ?_
  refine rq_pure i_94_21 rfl ?_
  have g263 := (u51.2 175 (by decide)).trans u50.1
  refine rq_iast1 i_94_22 g263 (by decide) (fun L52 u52 => ?_)
  refine rq_loc i_94_23 rfl rfl ?_
  refine rq_pure i_94_24 rfl ?_
  have g264 := (u52.2 174 (by decide)).trans u51.1
  refine rq_getf i_94_25 f_94_359 g264 rfl ?_
  refine rq_pure i_94_28 rfl ?_
  refine rq_topi (v := 1) (by decide) ?_
  refine rq_pure i_94_29 rfl ?_
  refine rq_topi (v := 6) (by decide) ?_
  refine rq_putf1 i_94_30 p_94_359 g264 rfl rfl rfl (fun L53 u53 => ?_)
  refine rq_loc i_94_33 rfl rfl ?_
  refine rq_goto (tg := 3) i_94_36 ⟨by decide, by decide⟩ ?_
  refine rq_loc i_94_3 rfl rfl ?_
  refine rq_topi (v := 8) (by decide) ?_
  refine rq_iflt (tg := 39) i_94_4 ⟨by decide, by decide⟩ (fun q => absurd q (by decide)) (fun _ => ?_)
  refine rq_loc i_94_7 rfl rfl ?_
  refine rq_getf i_94_8 f_94_9 u53.1 rfl ?_
  refine rq_loc i_94_11 rfl rfl ?_
  refine rq_getf i_94_12 f_94_359 u53.1 rfl ?_
  refine rq_loc i_94_15 rfl rfl ?_
  refine rq_loc i_94_16 rfl rfl ?_
  refine rq_topi (v := 8) (by decide) ?_
  refine rq_pure i_94_17 rfl ?_
  refine rq_pure i_94_18 rfl ?_
  refine rq_topi (v := 255) (by decide) ?_
  refine rq_pure i_94_21 rfl ?_
  have g267 := (u53.2 175 (by decide)).trans u52.1
  refine rq_iast1 i_94_22 g267 (by decide) (fun L54 u54 => ?_)
  refine rq_loc i_94_23 rfl rfl ?_
  refine rq_pure i_94_24 rfl ?_
  have g268 := (u54.2 174 (by decide)).trans u53.1
  refine rq_getf i_94_25 f_94_359 g268 rfl ?_
  refine rq_pure i_94_28 rfl ?_
  refine rq_topi (v := 1) (by decide) ?_
  refine rq_pure i_94_29 rfl ?_
  refine rq_topi (v := 7) (by decide) ?_
  refine rq_putf1 i_94_30 p_94_359 g268 rfl rfl rfl (fun L55 u55 => ?_)
  refine rq_loc i_94_33 rfl rfl ?_
  refine rq_goto (tg := 3) i_94_36 ⟨by decide, by decide⟩ ?_
  refine rq_loc i_94_3 rfl rfl ?_
  refine rq_topi (v := 0) (by decide) ?_
  refine rq_iflt (tg := 39) i_94_4 ⟨by decide, by decide⟩ (fun q => absurd q (by decide)) (fun _ => ?_)
  refine rq_loc i_94_7 rfl rfl ?_
  refine rq_getf i_94_8 f_94_9 u55.1 rfl ?_
  refine rq_loc i_94_11 rfl rfl ?_
  refine rq_getf i_94_12 f_94_359 u55.1 rfl ?_
  refine rq_loc i_94_15 rfl rfl ?_
  refine rq_loc i_94_16 rfl rfl ?_
  refine rq_topi (v := 0) (by decide) ?_
  refine rq_pure i_94_17 rfl ?_
  refine rq_pure i_94_18 rfl ?_
  refine rq_topi (v := 255) (by decide) ?_
  refine rq_pure i_94_21 rfl ?_
  have g271 := (u55.2 175 (by decide)).trans u54.1
  refine rq_iast1 i_94_22 g271 (by decide) (fun L56 u56 => ?_)
  refine rq_loc i_94_23 rfl rfl ?_
  refine rq_pure i_94_24 rfl ?_
  have g272 := (u56.2 174 (by decide)).trans u55.1
  refine rq_getf i_94_25 f_94_359 g272 rfl ?_
  refine rq_pure i_94_28 rfl ?_
  refine rq_topi (v := 1) (by decide) ?_
  refine rq_pure i_94_29 rfl ?_
  refine rq_topi (v := 8) (by decide) ?_
  refine rq_putf1 i_94_30 p_94_359 g272 rfl rfl rfl (fun L57 u57 => ?_)
  refine rq_loc i_94_33 rfl rfl ?_
  refine rq_goto (tg := 3) i_94_36 ⟨by decide, by decide⟩ ?_
  refine rq_loc i_94_3 rfl rfl ?_
  refine rq_topi (v := (-8)) (by decide) ?_
  refine rq_iflt (tg := 39) i_94_4 ⟨by decide, by decide⟩ (fun _ => ?_) (fun q => absurd q (by decide))
  refine rq_vret i_94_39 r_94 ?_
  refine rq_back0 ?_
  refine rq_loc i_93_30 rfl rfl ?_
  refine rq_loc i_93_31 rfl rfl ?_
  refine rq_V1 (c1 := 0) (s1 := 0) (cb := 0) (sb := 0) (F' := 2046) (Lo' := 83953) i_93_32 c_93_362 rfl (rz_isa u57.1 a_15_94) rfl rfl rfl ?_
  refine rq_pure i_94_0 rfl ?_
  refine rq_topi (v := 24) (by decide) ?_
  refine rq_loc i_94_2 rfl rfl ?_
  refine rq_loc i_94_3 rfl rfl ?_
  refine rq_iflt (tg := 39) i_94_4 ⟨by decide, by decide⟩ (fun q => absurd q (by decide)) (fun _ => ?_)
  refine rq_loc i_94_7 rfl rfl ?_
  refine rq_getf i_94_8 f_94_9 u57.1 rfl ?_
  refine rq_loc i_94_11 rfl rfl ?_
  refine rq_getf i_94_12 f_94_359 u57.1 rfl ?_
  refine rq_loc i_94_15 rfl rfl ?_
  refine rq_loc i_94_16 rfl rfl ?_
  refine rq_pure i_94_17 rfl ?_
  refine rq_pure i_94_18 rfl ?_
  refine rq_topi (v := 255) (by decide) ?_
  refine rq_pure i_94_21 rfl ?_
  have g275 := (u57.2 175 (by decide)).trans u56.1
  refine rq_iast1 i_94_22 g275 (by decide) (fun L58 u58 => ?_)
  refine rq_loc i_94_23 rfl rfl ?_
  refine rq_pure i_94_24 rfl ?_
  have g276 := (u58.2 174 (by decide)).trans u57.1
  refine rq_getf i_94_25 f_94_359 g276 rfl ?_
  refine rq_pure i_94_28 rfl ?_
  refine rq_topi (v := 1) (by decide) ?_
  refine rq_pure i_94_29 rfl ?_
  refine rq_topi (v := 9) (by decide) ?_
  refine rq_putf1 i_94_30 p_94_359 g276 rfl rfl rfl (fun L59 u59 => ?_)
  refine rq_loc i_94_33 rfl rfl ?_
  refine rq_goto (tg := 3) i_94_36 ⟨by decide, by decide⟩ ?_
  refine rq_loc i_94_3 rfl rfl ?_
  refine rq_topi (v := 16) (by decide) ?_
  refine rq_iflt (tg := 39) i_94_4 ⟨by decide, by decide⟩ (fun q => absurd q (by decide)) (fun _ => ?_)
  refine rq_loc i_94_7 rfl rfl ?_
  refine rq_getf i_94_8 f_94_9 u59.1 rfl ?_
  refine rq_loc i_94_11 rfl rfl ?_
  refine rq_getf i_94_12 f_94_359 u59.1 rfl ?_
  refine rq_loc i_94_15 rfl rfl ?_
  refine rq_loc i_94_16 rfl rfl ?_
  refine rq_topi (v := 16) (by decide) ?_
  refine rq_pure i_94_17 rfl ?_
  refine rq_pure i_94_18 rfl ?_
  refine rq_topi (v := 255) (by decide) ?_
  refine rq_pure i_94_21 rfl ?_
  have g279 := (u59.2 175 (by decide)).trans u58.1
  refine rq_iast1 i_94_22 g279 (by decide) (fun L60 u60 => ?_)
  refine rq_loc i_94_23 rfl rfl ?_
  refine rq_pure i_94_24 rfl ?_
  have g280 := (u60.2 174 (by decide)).trans u59.1
  refine rq_getf i_94_25 f_94_359 g280 rfl ?_
  refine rq_pure i_94_28 rfl ?_
  refine rq_topi (v := 1) (by decide) ?_
  refine rq_pure i_94_29 rfl ?_
  refine rq_topi (v := 10) (by decide) ?_
  refine rq_putf1 i_94_30 p_94_359 g280 rfl rfl rfl (fun L61 u61 => ?_)
  refine rq_loc i_94_33 rfl rfl ?_
  refine rq_goto (tg := 3) i_94_36 ⟨by decide, by decide⟩ ?_
  refine rq_loc i_94_3 rfl rfl ?_
  refine rq_topi (v := 8) (by decide) ?_
  refine rq_iflt (tg := 39) i_94_4 ⟨by decide, by decide⟩ (fun q => absurd q (by decide)) (fun _ => ?_)
  refine rq_loc i_94_7 rfl rfl ?_
  refine rq_getf i_94_8 f_94_9 u61.1 rfl ?_
  refine rq_loc i_94_11 rfl rfl ?_
  refine rq_getf i_94_12 f_94_359 u61.1 rfl ?_
  refine rq_loc i_94_15 rfl rfl ?_
  refine rq_loc i_94_16 rfl rfl ?_
  refine rq_topi (v := 8) (by decide) ?_
  refine rq_pure i_94_17 rfl ?_
  refine rq_pure i_94_18 rfl ?_
  refine rq_topi (v := 255) (by decide) ?_
  refine rq_pure i_94_21 rfl ?_
  have g283 := (u61.2 175 (by decide)).trans u60.1
  refine rq_iast1 i_94_22 g283 (by decide) (fun L62 u62 => ?_)
  refine rq_loc i_94_23 rfl rfl ?_
  refine rq_pure i_94_24 rfl ?_
  have g284 := (u62.2 174 (by decide)).trans u61.1
  refine rq_getf i_94_25 f_94_359 g284 rfl ?_
  refine rq_pure i_94_28 rfl ?_
  refine rq_topi (v := 1) (by decide) ?_
  refine rq_pure i_94_29 rfl ?_
  refine rq_topi (v := 11) (by decide) ?_
  refine rq_putf1 i_94_30 p_94_359 g284 rfl rfl rfl (fun L63 u63 => ?_)
  refine rq_loc i_94_33 rfl rfl ?_
  refine rq_goto (tg := 3) i_94_36 ⟨by decide, by decide⟩ ?_
  refine rq_loc i_94_3 rfl rfl ?_
  refine rq_topi (v := 0) (by decide) ?_
  refine rq_iflt (tg := 39) i_94_4 ⟨by decide, by decide⟩ (fun q => absurd q (by decide)) (fun _ => ?_)
  refine rq_loc i_94_7 rfl rfl ?_
  refine rq_getf i_94_8 f_94_9 u63.1 rfl ?_
  refine rq_loc i_94_11 rfl rfl ?_
  refine rq_getf i_94_12 f_94_359 u63.1 rfl ?_
  refine rq_loc i_94_15 rfl rfl ?_
  refine rq_loc i_94_16 rfl rfl ?_
  refine rq_topi (v := 0) (by decide) ?_
  refine rq_pure i_94_17 rfl ?_
  refine rq_pure i_94_18 rfl ?_
  refine rq_topi (v := 255) (by decide) ?_
  refine rq_pure i_94_21 rfl ?_
  have g287 := (u63.2 175 (by decide)).trans u62.1
  refine rq_iast1 i_94_22 g287 (by decide) (fun L64 u64 => ?_)
  refine rq_loc i_94_23 rfl rfl ?_
  refine rq_pure i_94_24 rfl ?_
  have g288 := (u64.2 174 (by decide)).trans u63.1
  refine rq_getf i_94_25 f_94_359 g288 rfl ?_
  refine rq_pure i_94_28 rfl ?_
  refine rq_topi (v := 1) (by decide) ?_
  refine rq_pure i_94_29 rfl ?_
  refine rq_topi (v := 12) (by decide) ?_
  refine rq_putf1 i_94_30 p_94_359 g288 rfl rfl rfl (fun L65 u65 => ?_)
  refine rq_loc i_94_33 rfl rfl ?_
  refine rq_goto (tg := 3) i_94_36 ⟨by decide, by decide⟩ ?_
  refine rq_loc i_94_3 rfl rfl ?_
  refine rq_topi (v := (-8)) (by decide) ?_
  refine rq_iflt (tg := 39) i_94_4 ⟨by decide, by decide⟩ (fun _ => ?_) (fun q => absurd q (by decide))
  refine rq_vret i_94_39 r_94 ?_
  refine rq_back0 ?_
  refine rq_loc i_93_35 rfl rfl ?_
  refine rq_loc i_93_36 rfl rfl ?_
  refine rq_V1 (c1 := 0) (s1 := 0) (cb := 0) (sb := 0) (F' := 2046) (Lo' := 83953) i_93_38 c_93_362 rfl (rz_isa u65.1 a_15_94) rfl rfl rfl ?_
  refine rq_pure i_94_0 rfl ?_
  refine rq_topi (v := 24) (by decide) ?_
  refine rq_loc i_94_2 rfl rfl ?_
  refine rq_loc i_94_3 rfl rfl ?_
  refine rq_iflt (tg := 39) i_94_4 ⟨by decide, by decide⟩ (fun q => absurd q (by decide)) (fun _ => ?_)
  refine rq_loc i_94_7 rfl rfl ?_
  refine rq_getf i_94_8 f_94_9 u65.1 rfl ?_
  refine rq_loc i_94_11 rfl rfl ?_
  refine rq_getf i_94_12 f_94_359 u65.1 rfl ?_
  refine rq_loc i_94_15 rfl rfl ?_
  refine rq_loc i_94_16 rfl rfl ?_
  refine rq_pure i_94_17 rfl ?_
  refine rq_pure i_94_18 rfl ?_
  refine rq_topi (v := 255) (by decide) ?_
  refine rq_pure i_94_21 rfl ?_
  have g291 := (u65.2 175 (by decide)).trans u64.1
  refine rq_iast1 i_94_22 g291 (by decide) (fun L66 u66 => ?_)
  refine rq_loc i_94_23 rfl rfl ?_
  refine rq_pure i_94_24 rfl ?_
  have g292 := (u66.2 174 (by decide)).trans u65.1
  refine rq_getf i_94_25 f_94_359 g292 rfl ?_
  refine rq_pure i_94_28 rfl ?_
  refine rq_topi (v := 1) (by decide) ?_
  refine rq_pure i_94_29 rfl ?_
  refine rq_topi (v := 13) (by decide) ?_
  refine rq_putf1 i_94_30 p_94_359 g292 rfl rfl rfl (fun L67 u67 => ?_)
  refine rq_loc i_94_33 rfl rfl ?_
  refine rq_goto (tg := 3) i_94_36 ⟨by decide, by decide⟩ ?_
  refine rq_loc i_94_3 rfl rfl ?_
  refine rq_topi (v := 16) (by decide) ?_
  refine rq_iflt (tg := 39) i_94_4 ⟨by decide, by decide⟩ (fun q => absurd q (by decide)) (fun _ => ?_)
  refine rq_loc i_94_7 rfl rfl ?_
  refine rq_getf i_94_8 f_94_9 u67.1 rfl ?_
  refine rq_loc i_94_11 rfl rfl ?_
  refine rq_getf i_94_12 f_94_359 u67.1 rfl ?_
  refine rq_loc i_94_15 rfl rfl ?_
  refine rq_loc i_94_16 rfl rfl ?_
  refine rq_topi (v := 16) (by decide) ?_
  refine rq_pure i_94_17 rfl ?_
  refine rq_pure i_94_18 rfl ?_
  refine rq_topi (v := 255) (by decide) ?_
  refine rq_pure i_94_21 rfl ?_
  have g295 := (u67.2 175 (by decide)).trans u66.1
  refine rq_iast1 i_94_22 g295 (by decide) (fun L68 u68 => ?_)
  refine rq_loc i_94_23 rfl rfl ?_
  refine rq_pure i_94_24 rfl ?_
  have g296 := (u68.2 174 (by decide)).trans u67.1
  refine rq_getf i_94_25 f_94_359 g296 rfl ?_
  refine rq_pure i_94_28 rfl ?_
  refine rq_topi (v := 1) (by decide) ?_
  refine rq_pure i_94_29 rfl ?_
  refine rq_topi (v := 14) (by decide) ?_
  refine rq_putf1 i_94_30 p_94_359 g296 rfl rfl rfl (fun L69 u69 => ?_)
  refine rq_loc i_94_33 rfl rfl ?_
  refine rq_goto (tg := 3) i_94_36 ⟨by decide, by decide⟩ ?_
  refine rq_loc i_94_3 rfl rfl ?_
  refine rq_topi (v := 8) (by decide) ?_
  refine rq_iflt (tg := 39) i_94_4 ⟨by decide, by decide⟩ (fun q => absurd q (by decide)) (fun _ => ?_)
  refine rq_loc i_94_7 rfl rfl ?_
  refine rq_getf i_94_8 f_94_9 u69.1 rfl ?_
  refine rq_loc i_94_11 rfl rfl ?_
  refine rq_getf i_94_12 f_94_359 u69.1 rfl ?_
  refine rq_loc i_94_15 rfl rfl ?_
  refine rq_loc i_94_16 rfl rfl ?_
  refine rq_topi (v := 8) (by decide) ?_
  refine rq_pure i_94_17 rfl ?_
  refine rq_pure i_94_18 rfl ?_
  refine rq_topi (v := 255) (by decide) ?_
  refine rq_pure i_94_21 rfl ?_
  have g299 := (u69.2 175 (by decide)).trans u68.1
  refine rq_iast1 i_94_22 g299 (by decide) (fun L70 u70 => ?_)
  refine rq_loc i_94_23 rfl rfl ?_
  refine rq_pure i_94_24 rfl ?_
  have g300 := (u70.2 174 (by decide)).trans u69.1
  refine rq_getf i_94_25 f_94_359 g300 rfl ?_
  refine rq_pure i_94_28 rfl ?_
  refine rq_topi (v := 1) (by decide) ?_
  refine rq_pure i_94_29 rfl ?_
  refine rq_topi (v := 15) (by decide) ?_
  refine rq_putf1 i_94_30 p_94_359 g300 rfl rfl rfl (fun L71 u71 => ?_)
  refine rq_loc i_94_33 rfl rfl ?_
  refine rq_goto (tg := 3) i_94_36 ⟨by decide, by decide⟩ ?_
  refine rq_loc i_94_3 rfl rfl ?_
  refine rq_topi (v := 0) (by decide) ?_
  refine rq_iflt (tg := 39) i_94_4 ⟨by decide, by decide⟩ (fun q => absurd q (by decide)) (fun _ => ?_)
  refine rq_loc i_94_7 rfl rfl ?_
  refine rq_getf i_94_8 f_94_9 u71.1 rfl ?_
  refine rq_loc i_94_11 rfl rfl ?_
  refine rq_getf i_94_12 f_94_359 u71.1 rfl ?_
  refine rq_loc i_94_15 rfl rfl ?_
  refine rq_loc i_94_16 rfl rfl ?_
  refine rq_topi (v := 0) (by decide) ?_
  refine rq_pure i_94_17 rfl ?_
  refine rq_pure i_94_18 rfl ?_
  refine rq_topi (v := 255) (by decide) ?_
  refine rq_pure i_94_21 rfl ?_
  have g303 := (u71.2 175 (by decide)).trans u70.1
  refine rq_iast1 i_94_22 g303 (by decide) (fun L72 u72 => ?_)
  refine rq_loc i_94_23 rfl rfl ?_
  refine rq_pure i_94_24 rfl ?_
  have g304 := (u72.2 174 (by decide)).trans u71.1
  refine rq_getf i_94_25 f_94_359 g304 rfl ?_
  refine rq_pure i_94_28 rfl ?_
  refine rq_topi (v := 1) (by decide) ?_
  refine rq_pure i_94_29 rfl ?_
  refine rq_topi (v := 16) (by decide) ?_
  refine rq_putf1 i_94_30 p_94_359 g304 rfl rfl rfl (fun L73 u73 => ?_)
  refine rq_loc i_94_33 rfl rfl ?_
  refine rq_goto (tg := 3) i_94_36 ⟨by decide, by decide⟩ ?_
  refine rq_loc i_94_3 rfl rfl ?_
  refine rq_topi (v := (-8)) (by decide) ?_
  refine rq_iflt (tg := 39) i_94_4 ⟨by decide, by decide⟩ (fun _ => ?_) (fun q => absurd q (by decide))
  refine rq_vret i_94_39 r_94 ?_
  refine rq_back0 ?_
  refine rq_loc i_93_41 rfl rfl ?_
  refine rq_loc i_93_42 rfl rfl ?_
  refine rq_V1 (c1 := 0) (s1 := 0) (cb := 0) (sb := 0) (F' := 2046) (Lo' := 83953) i_93_44 c_93_362 rfl (rz_isa u73.1 a_15_94) rfl rfl rfl ?_
  refine rq_pure i_94_0 rfl ?_
  refine rq_topi (v := 24) (by decide) ?_
  refine rq_loc i_94_2 rfl rfl ?_
  refine rq_loc i_94_3 rfl rfl ?_
  refine rq_iflt (tg := 39) i_94_4 ⟨by decide, by decide⟩ (fun q => absurd q (by decide)) (fun _ => ?_)
  refine rq_loc i_94_7 rfl rfl ?_
  refine rq_getf i_94_8 f_94_9 u73.1 rfl ?_
  refine rq_loc i_94_11 rfl rfl ?_
  refine rq_getf i_94_12 f_94_359 u73.1 rfl ?_
  refine rq_loc i_94_15 rfl rfl ?_
  refine rq_loc i_94_16 rfl rfl ?_
  refine rq_pure i_94_17 rfl ?_
  refine rq_pure i_94_18 rfl ?_
  refine rq_topi (v := 255) (by decide) ?_
  refine rq_pure i_94_21 rfl ?_
  have g307 := (u73.2 175 (by decide)).trans u72.1
  refine rq_iast1 i_94_22 g307 (by decide) (fun L74 u74 => ?_)
  refine rq_loc i_94_23 rfl rfl ?_
  refine rq_pure i_94_24 rfl ?_
  have g308 := (u74.2 174 (by decide)).trans u73.1
  refine rq_getf i_94_25 f_94_359 g308 rfl ?_
  refine rq_pure i_94_28 rfl ?_
  refine rq_topi (v := 1) (by decide) ?_
  refine rq_pure i_94_29 rfl ?_
  refine rq_topi (v := 17) (by decide) ?_
  refine rq_putf1 i_94_30 p_94_359 g308 rfl rfl rfl (fun L75 u75 => ?_)
  refine rq_loc i_94_33 rfl rfl ?_
  refine rq_goto (tg := 3) i_94_36 ⟨by decide, by decide⟩ ?_
  refine rq_loc i_94_3 rfl rfl ?_
  refine rq_topi (v := 16) (by decide) ?_
  refine rq_iflt (tg := 39) i_94_4 ⟨by decide, by decide⟩ (fun q => absurd q (by decide)) (fun _ => ?_)
  refine rq_loc i_94_7 rfl rfl ?_
  refine rq_getf i_94_8 f_94_9 u75.1 rfl ?_
  refine rq_loc i_94_11 rfl rfl ?_
  refine rq_getf i_94_12 f_94_359 u75.1 rfl ?_
  refine rq_loc i_94_15 rfl rfl ?_
  refine rq_loc i_94_16 rfl rfl ?_
  refine rq_topi (v := 16) (by decide) ?_
  refine rq_pure i_94_17 rfl ?_
  refine rq_pure i_94_18 rfl ?_
  refine rq_topi (v := 255) (by decide) ?_
  refine rq_pure i_94_21 rfl ?_
  have g311 := (u75.2 175 (by decide)).trans u74.1
  refine rq_iast1 i_94_22 g311 (by decide) (fun L76 u76 => ?_)
  refine rq_loc i_94_23 rfl rfl ?_
  refine rq_pure i_94_24 rfl ?_
  have g312 := (u76.2 174 (by decide)).trans u75.1
  refine rq_getf i_94_25 f_94_359 g312 rfl ?_
  refine rq_pure i_94_28 rfl ?_
  refine rq_topi (v := 1) (by decide) ?_
  refine rq_pure i_94_29 rfl ?_
  refine rq_topi (v := 18) (by decide) ?_
  refine rq_putf1 i_94_30 p_94_359 g312 rfl rfl rfl (fun L77 u77 => ?_)
  refine rq_loc i_94_33 rfl rfl ?_
  refine rq_goto (tg := 3) i_94_36 ⟨by decide, by decide⟩ ?_
  refine rq_loc i_94_3 rfl rfl ?_
  refine rq_topi (v := 8) (by decide) ?_
  refine rq_iflt (tg := 39) i_94_4 ⟨by decide, by decide⟩ (fun q => absurd q (by decide)) (fun _ => ?_)
  refine rq_loc i_94_7 rfl rfl ?_
  refine rq_getf i_94_8 f_94_9 u77.1 rfl ?_
  refine rq_loc i_94_11 rfl rfl ?_
  refine rq_getf i_94_12 f_94_359 u77.1 rfl ?_
  refine rq_loc i_94_15 rfl rfl ?_
  refine rq_loc i_94_16 rfl rfl ?_
  refine rq_topi (v := 8) (by decide) ?_
  refine rq_pure i_94_17 rfl ?_
  refine rq_pure i_94_18 rfl ?_
  refine rq_topi (v := 255) (by decide) ?_
  refine rq_pure i_94_21 rfl ?_
  have g315 := (u77.2 175 (by decide)).trans u76.1
  refine rq_iast1 i_94_22 g315 (by decide) (fun L78 u78 => ?_)
  refine rq_loc i_94_23 rfl rfl ?_
  refine rq_pure i_94_24 rfl ?_
  have g316 := (u78.2 174 (by decide)).trans u77.1
  refine rq_getf i_94_25 f_94_359 g316 rfl ?_
  refine rq_pure i_94_28 rfl ?_
  refine rq_topi (v := 1) (by decide) ?_
  refine rq_pure i_94_29 rfl ?_
  refine rq_topi (v := 19) (by decide) ?_
  refine rq_putf1 i_94_30 p_94_359 g316 rfl rfl rfl (fun L79 u79 => ?_)
  refine rq_loc i_94_33 rfl rfl ?_
  refine rq_goto (tg := 3) i_94_36 ⟨by decide, by decide⟩ ?_
  refine rq_loc i_94_3 rfl rfl ?_
  refine rq_topi (v := 0) (by decide) ?_
  refine rq_iflt (tg := 39) i_94_4 ⟨by decide, by decide⟩ (fun q => absurd q (by decide)) (fun _ => ?_)
  refine rq_loc i_94_7 rfl rfl ?_
  refine rq_getf i_94_8 f_94_9 u79.1 rfl ?_
  refine rq_loc i_94_11 rfl rfl ?_
  refine rq_getf i_94_12 f_94_359 u79.1 rfl ?_
  refine rq_loc i_94_15 rfl rfl ?_
  refine rq_loc i_94_16 rfl rfl ?_
  refine rq_topi (v := 0) (by decide) ?_
  refine rq_pure i_94_17 rfl ?_
  refine rq_pure i_94_18 rfl ?_
  refine rq_topi (v := 255) (by decide) ?_
  refine rq_pure i_94_21 rfl ?_
  have g319 := (u79.2 175 (by decide)).trans u78.1
  refine rq_iast1 i_94_22 g319 (by decide) (fun L80 u80 => ?_)
  refine rq_loc i_94_23 rfl rfl ?_
  refine rq_pure i_94_24 rfl ?_
  have g320 := (u80.2 174 (by decide)).trans u79.1
  refine rq_getf i_94_25 f_94_359 g320 rfl ?_
  refine rq_pure i_94_28 rfl ?_
  refine rq_topi (v := 1) (by decide) ?_
  refine rq_pure i_94_29 rfl ?_
  refine rq_topi (v := 20) (by decide) ?_
  refine rq_putf1 i_94_30 p_94_359 g320 rfl rfl rfl (fun L81 u81 => ?_)
  refine rq_loc i_94_33 rfl rfl ?_
  refine rq_goto (tg := 3) i_94_36 ⟨by decide, by decide⟩ ?_
  refine rq_loc i_94_3 rfl rfl ?_
  refine rq_topi (v := (-8)) (by decide) ?_
  refine rq_iflt (tg := 39) i_94_4 ⟨by decide, by decide⟩ (fun _ => ?_) (fun q => absurd q (by decide))
  refine rq_vret i_94_39 r_94 ?_
  refine rq_back0 ?_
  refine rq_loc i_93_47 rfl rfl ?_
  refine rq_getf i_93_48 f_93_359 u81.1 rfl ?_
  refine rq_iret i_93_51 r_93 rfl ?_
  refine rq_back1 ?_
  refine rq_iceq (tg := 1334) i_0_256 ⟨by decide, by decide⟩ (fun _ => ?_) (fun q => absurd q (by decide))
  have g321 := (u41.2 rx_S (by decide)).trans g160
  have g322 := (u42.2 rx_S (by decide)).trans g321
  have g323 := (u43.2 rx_S (by decide)).trans g322
  have g324 := (u44.2 rx_S (by decide)).trans g323
  have g325 := (u45.2 rx_S (by decide)).trans g324
  have g326 := (u46.2 rx_S (by decide)).trans g325
  have g327 := (u47.2 rx_S (by decide)).trans g326
  have g328 := (u48.2 rx_S (by decide)).trans g327
  have g329 := (u49.2 rx_S (by decide)).trans g328
  have g330 := (u50.2 rx_S (by decide)).trans g329
  have g331 := (u51.2 rx_S (by decide)).trans g330
  have g332 := (u52.2 rx_S (by decide)).trans g331
  have g333 := (u53.2 rx_S (by decide)).trans g332
  have g334 := (u54.2 rx_S (by decide)).trans g333
  have g335 := (u55.2 rx_S (by decide)).trans g334
  have g336 := (u56.2 rx_S (by decide)).trans g335
  have g337 := (u57.2 rx_S (by decide)).trans g336
  have g338 := (u58.2 rx_S (by decide)).trans g337
  have g339 := (u59.2 rx_S (by decide)).trans g338
  have g340 := (u60.2 rx_S (by decide)).trans g339
  have g341 := (u61.2 rx_S (by decide)).trans g340
  have g342 := (u62.2 rx_S (by decide)).trans g341
  have g343 := (u63.2 rx_S (by decide)).trans g342
  have g344 := (u64.2 rx_S (by decide)).trans g343
  have g345 := (u65.2 rx_S (by decide)).trans g344
  have g346 := (u66.2 rx_S (by decide)).trans g345
  have g347 := (u67.2 rx_S (by decide)).trans g346
  have g348 := (u68.2 rx_S (by decide)).trans g347
  have g349 := (u69.2 rx_S (by decide)).trans g348
  have g350 := (u70.2 rx_S (by decide)).trans g349
  have g351 := (u71.2 rx_S (by decide)).trans g350
  have g352 := (u72.2 rx_S (by decide)).trans g351
  have g353 := (u73.2 rx_S (by decide)).trans g352
  have g354 := (u74.2 rx_S (by decide)).trans g353
  have g355 := (u75.2 rx_S (by decide)).trans g354
  have g356 := (u76.2 rx_S (by decide)).trans g355
  have g357 := (u77.2 rx_S (by decide)).trans g356
  have g358 := (u78.2 rx_S (by decide)).trans g357
  have g359 := (u79.2 rx_S (by decide)).trans g358
  have g360 := (u80.2 rx_S (by decide)).trans g359
  have g361 := (u81.2 rx_S (by decide)).trans g360
  exact p1_tail g361 rfl rfl
set_option maxRecDepth 8000 in
theorem p1c_compile {xs : Nat → Int32} {fm : Value} {L : List va_E} (hL : rz_heap L rz_T0 = true) : rq (rt_P (6, xs) fm) 0 2048 84000 100 1000 311 p1_lv [] L p1_Q := by
  have c0 : L[0]? = some (.inr (14, [.ref 1, .ref 7, .ref 114, .ref 133, .ref 145, .ref 146, .ref 150, .ref 159, .ref 167, .ref 172])) := rz_obj hL (by decide +kernel)
  have c1 : L[1]? = some (.inr (3, [.ref 2, .int 0, .ref 3, .ref 4, .ref 5, .ref 6, .int 0, .int 0])) := rz_obj hL (by decide +kernel)
  have c114 : L[114]? = some (.inr (2, [.ref 7, .ref 115, .ref 116, .ref 117, .ref 118, .ref 119, .ref 120, .int 0, .ref 121, .ref 122, .ref 123, .ref 124, .ref 125, .ref 126, .ref 127, .ref 128, .ref 129, .ref 130, .ref 131, .ref 132])) := rz_obj hL (by decide +kernel)
  obtain ⟨f126, c126⟩ := rz_arrI (a := 126) (t := 0) (n := 1024) hL (by decide +kernel) (by decide)
  have c133 : L[133]? = some (.inr (7, [.ref 134, .ref 135, .ref 136, .ref 137, .ref 138, .ref 139, .ref 140, .ref 141, .ref 142, .ref 143, .ref 144, .int 0, .int (-1), .int 0])) := rz_obj hL (by decide +kernel)
  obtain ⟨f144, c144⟩ := rz_arrI (a := 144) (t := 0) (n := 2242) hL (by decide +kernel) (by decide)
  have c145 : L[145]? = some (.inr (10, [.ref 1, .ref 7, .ref 114, .ref 133, .int 0, .int 0, .int 0, .int 0, .int 0, .int 0, .int 0, .int 0])) := rz_obj hL (by decide +kernel)
  have c150 : L[150]? = some (.inr (5, [.ref 7, .ref 114, .ref 146, .int (-1), .ref 151, .ref 152, .int 0, .ref 153, .ref 154, .ref 155, .ref 156, .ref 157, .int 0, .int 0, .int 0, .ref 158, .int 0])) := rz_obj hL (by decide +kernel)
  have c159 : L[159]? = some (.inr (11, [.ref 7, .ref 114, .ref 146, .ref 160, .ref 161, .int 0, .ref 162, .ref 163, .ref 164, .ref 165, .int 0, .ref 166, .int 0, .long 0, .long 0])) := rz_obj hL (by decide +kernel)
  obtain ⟨f162, c162⟩ := rz_arrI (a := 162) (t := 0) (n := 12) hL (by decide +kernel) (by decide)
  have c167 : L[167]? = some (.inr (13, [.ref 7, .ref 133, .ref 146, .ref 168, .ref 169, .ref 170, .ref 171, .int 0, .int (-1), .int (-1)])) := rz_obj hL (by decide +kernel)
  have c174 : L[174]? = some (.inr (15, [.int 0, .ref 175, .int 0, .ref 176, .int 0, .int 0, .ref 177, .int 0, .ref 178, .ref 179, .ref 180, .int 0, .int 0, .int 0, .int 0, .int 0, .ref 181, .ref 182, .ref 183, .ref 184, .ref 185, .ref 186, .ref 187, .ref 188, .int 0, .ref 189, .ref 190, .ref 191, .ref 192, .ref 193, .ref 194, .ref 195, .ref 196, .ref 197, .int 0, .ref 198, .ref 199, .int 0, .ref 200, .ref 201, .ref 202, .ref 203, .ref 204, .ref 205, .ref 206, .ref 207, .ref 208, .ref 209, .ref 210, .ref 211, .ref 212, .ref 213, .ref 214, .ref 215, .ref 216, .ref 217, .ref 218, .ref 219, .ref 220, .ref 221, .ref 222, .ref 223, .ref 224, .ref 225, .ref 226, .ref 227, .ref 228, .int 0, .long 0, .ref 229, .ref 230, .ref 231, .ref 232, .long 0, .int 0, .ref 233, .int 0, .int 0, .int 0, .long 0, .int 0, .int 0, .int 0, .ref 234, .ref 235, .ref 236, .ref 237, .ref 238, .ref 239, .ref 240, .int 0, .int 0, .ref 241, .ref 242, .ref 243, .ref 244, .ref 245, .int (-1), .ref 246, .ref 247, .ref 248, .int 0, .int 0, .ref 249, .int 0, .int 0, .int 0, .ref 250, .ref 251, .ref 252, .int 0, .int 0, .int 0, .int 0, .ref 253, .ref 254, .ref 255, .ref 256, .ref 257, .ref 258, .ref 259, .int 0, .ref 260, .int 0, .int 0, .int 0, .int 0, .int 0, .int 0, .int 0, .int 0, .int 0, .int 0, .int 0, .int 0, .ref 261, .ref 262, .ref 263, .ref 264, .ref 265])) := rz_obj hL (by decide +kernel)
  obtain ⟨f178, c178⟩ := rz_arrI (a := 178) (t := 0) (n := 4001) hL (by decide +kernel) (by decide)
  obtain ⟨f179, c179⟩ := rz_arrI (a := 179) (t := 0) (n := 4001) hL (by decide +kernel) (by decide)
  obtain ⟨f180, c180⟩ := rz_arrL (a := 180) (n := 4001) hL (by decide +kernel)
  obtain ⟨f222, c222⟩ := rz_arrI (a := 222) (t := 0) (n := 1219) hL (by decide +kernel) (by decide)
  obtain ⟨f3, c3⟩ := rz_arrI (a := 3) (t := 0) (n := 4001) hL (by decide +kernel) (by decide)
  obtain ⟨f4, c4⟩ := rz_arrI (a := 4) (t := 0) (n := 4001) hL (by decide +kernel) (by decide)
  have c7 : L[7]? = some (.inr (9, [.int 0, .ref 8, .int 0, .ref 9, .int 0, .ref 10, .ref 11, .int 0, .ref 12, .ref 13, .int 0, .ref 14, .ref 15, .ref 16, .ref 17])) := rz_obj hL (by decide +kernel)
  have hS : L[rx_S]? = none := p1_none hL
  refine rq_loc i_0_311 rfl rfl ?_
  refine rq_loc i_0_312 rfl rfl ?_
  refine rq_S1 (c1 := 1) (s1 := 6) (cb := 99) (sb := 994) (F' := 2047) (Lo' := 83978) i_0_313 c_0_44 (by decide) rfl rfl rfl rfl ?_
  refine rq_loc i_16_0 rfl rfl ?_
  refine rq_pure i_16_1 rfl ?_
  refine rq_topi (v := 0) (by decide) ?_
  refine rq_loc i_16_2 rfl rfl ?_
  refine rq_V1 (c1 := 1) (s1 := 6) (cb := 0) (sb := 0) (F' := 2046) (Lo' := 83958) i_16_3 c_16_7 rfl (rz_isa c0 a_14_59) rfl rfl rfl ?_
  refine rq_loc i_59_0 rfl rfl ?_
  refine rq_V1 (c1 := 0) (s1 := 0) (cb := 1) (sb := 6) (F' := 2045) (Lo' := 83938) i_59_1 c_59_108 rfl (rz_isa c0 a_14_90) rfl rfl rfl ?_
  refine rq_loc i_90_0 rfl rfl ?_
  refine rq_getf i_90_1 f_90_28 c0 rfl ?_
  refine rq_V1 (c1 := 0) (s1 := 0) (cb := 0) (sb := 0) (F' := 2044) (Lo' := 83918) i_90_4 c_90_319 rfl (rz_isa c114 a_2_20) rfl rfl rfl ?_
  refine rq_loc i_20_0 rfl rfl ?_
  refine rq_getf i_20_1 f_20_46 c114 rfl ?_
  refine rq_pure i_20_4 rfl ?_
  refine rq_topi (v := 0) (by decide) ?_
  refine rq_loc i_20_5 rfl rfl ?_
  refine rq_getf i_20_6 f_20_71 c114 rfl ?_
  refine rq_pure i_20_9 rfl ?_
  refine rq_topi (v := 0) (by decide) ?_
  refine rq_S1 (c1 := 0) (s1 := 0) (cb := 0) (sb := 0) (F' := 2043) (Lo' := 83894) i_20_10 c_20_75 (by decide) rfl rfl rfl rfl ?_
  refine rq_loc i_154_0 rfl rfl ?_
  refine rq_alen i_154_1 c126 (by decide) ?_
  refine rq_topi (v := 1024) (by decide) ?_
  refine rq_loc i_154_2 rfl rfl ?_
  refine rq_loc i_154_3 rfl rfl ?_
  refine rq_S1 (c1 := 0) (s1 := 0) (cb := 0) (sb := 0) (F' := 2042) (Lo' := 83872) i_154_4 c_154_13 (by decide) rfl rfl rfl rfl ?_
  refine rq_loc i_151_0 rfl rfl ?_
  refine rq_loc i_151_1 rfl rfl ?_
  refine rq_icle (tg := 46) i_151_2 ⟨by decide, by decide⟩ (fun _ => ?_) (fun q => absurd q (by decide))
  refine rq_loc i_151_46 rfl rfl ?_
  refine rq_ifge (tg := 59) i_151_47 ⟨by decide, by decide⟩ (fun _ => ?_) (fun q => absurd q (by decide))
  refine rq_loc i_151_59 rfl rfl ?_
  refine rq_loc i_151_60 rfl rfl ?_
  refine rq_icle (tg := 73) i_151_61 ⟨by decide, by decide⟩ (fun _ => ?_) (fun q => absurd q (by decide))
  refine rq_vret i_151_73 r_151 ?_
  refine rq_back0 ?_
  refine rq_loc i_154_7 rfl rfl ?_
  refine rq_loc i_154_8 rfl rfl ?_
  refine rq_loc i_154_10 rfl rfl ?_
  refine rq_loc i_154_12 rfl rfl ?_
  refine rq_icge (tg := 27) i_154_13 ⟨by decide, by decide⟩ (fun _ => ?_) (fun q => absurd q (by decide))
  refine rq_vret i_154_27 r_154 ?_
  refine rq_back0 ?_
  refine rq_vret i_20_13 r_20 ?_
  refine rq_back0 ?_
  refine rq_loc i_90_7 rfl rfl ?_
  refine rq_getf i_90_8 f_90_69 c0 rfl ?_
  refine rq_V1 (c1 := 0) (s1 := 0) (cb := 0) (sb := 0) (F' := 2044) (Lo' := 83918) i_90_11 c_90_380 rfl (rz_isa c159 a_11_48) rfl rfl rfl ?_
  refine rq_loc i_48_0 rfl rfl ?_
  refine rq_getf i_48_1 f_48_18 c159 rfl ?_
  refine rq_pure i_48_4 rfl ?_
  refine rq_topi (v := 0) (by decide) ?_
  refine rq_S1 (c1 := 0) (s1 := 0) (cb := 0) (sb := 0) (F' := 2043) (Lo' := 83895) i_48_5 c_48_56 (by decide) rfl rfl rfl rfl ?_
  refine fill_spec (by decide) c162 (fun L1 u1 => ?_)
  refine rq_back0 ?_
  refine rq_loc i_48_8 rfl rfl ?_
  have g1 := (u1.2 159 (by decide)).trans c159
  refine rq_getf i_48_9 f_48_18 g1 rfl ?_
  refine rq_pure i_48_12 rfl ?_
  refine rq_topi (v := 7) (by decide) ?_
  refine rq_pure i_48_14 rfl ?_
  refine rq_topi (v := 10) (by decide) ?_
  refine rq_pure i_48_16 rfl ?_
  refine rq_topi (v := (-1)) (by decide) ?_
  refine rq_S1 (c1 := 0) (s1 := 0) (cb := 0) (sb := 0) (F' := 2043) (Lo' := 83894) i_48_17 c_48_62 (by decide) rfl rfl rfl rfl ?_
  refine rq_loc i_154_0 rfl rfl ?_
  refine rq_alen i_154_1 u1.1 (by decide) ?_
  refine rq_topi (v := 12) (by decide) ?_
  refine rq_loc i_154_2 rfl rfl ?_
  refine rq_loc i_154_3 rfl rfl ?_
  refine rq_S1 (c1 := 0) (s1 := 0) (cb := 0) (sb := 0) (F' := 2042) (Lo' := 83872) i_154_4 c_154_13 (by decide) rfl rfl rfl rfl ?_
  refine rq_loc i_151_0 rfl rfl ?_
  refine rq_loc i_151_1 rfl rfl ?_
  refine rq_icle (tg := 46) i_151_2 ⟨by decide, by decide⟩ (fun _ => ?_) (fun q => absurd q (by decide))
  refine rq_loc i_151_46 rfl rfl ?_
  refine rq_ifge (tg := 59) i_151_47 ⟨by decide, by decide⟩ (fun _ => ?_) (fun q => absurd q (by decide))
  refine rq_loc i_151_59 rfl rfl ?_
  refine rq_loc i_151_60 rfl rfl ?_
  refine rq_icle (tg := 73) i_151_61 ⟨by decide, by decide⟩ (fun _ => ?_) (fun q => absurd q (by decide))
  refine rq_vret i_151_73 r_151 ?_
  refine rq_back0 ?_
  refine rq_loc i_154_7 rfl rfl ?_
  refine rq_loc i_154_8 rfl rfl ?_
  refine rq_loc i_154_10 rfl rfl ?_
  refine rq_loc i_154_12 rfl rfl ?_
  refine rq_icge (tg := 27) i_154_13 ⟨by decide, by decide⟩ (fun q => absurd q (by decide)) (fun _ => ?_)
  refine rq_loc i_154_16 rfl rfl ?_
  refine rq_loc i_154_17 rfl rfl ?_
  refine rq_loc i_154_19 rfl rfl ?_
  refine rq_iast1 i_154_20 u1.1 (by decide) (fun L2 u2 => ?_)
  refine rq_loc i_154_21 rfl rfl ?_
  refine rq_goto (tg := 10) i_154_24 ⟨by decide, by decide⟩ ?_
  refine rq_loc i_154_10 rfl rfl ?_
  refine rq_topi (v := 8) (by decide) ?_
  refine rq_loc i_154_12 rfl rfl ?_
  refine rq_icge (tg := 27) i_154_13 ⟨by decide, by decide⟩ (fun q => absurd q (by decide)) (fun _ => ?_)
  refine rq_loc i_154_16 rfl rfl ?_
  refine rq_loc i_154_17 rfl rfl ?_
  refine rq_topi (v := 8) (by decide) ?_
  refine rq_loc i_154_19 rfl rfl ?_
  refine rq_iast1 i_154_20 u2.1 (by decide) (fun L3 u3 => ?_)
  refine rq_loc i_154_21 rfl rfl ?_
  refine rq_goto (tg := 10) i_154_24 ⟨by decide, by decide⟩ ?_
  refine rq_loc i_154_10 rfl rfl ?_
  refine rq_topi (v := 9) (by decide) ?_
  refine rq_loc i_154_12 rfl rfl ?_
  refine rq_icge (tg := 27) i_154_13 ⟨by decide, by decide⟩ (fun q => absurd q (by decide)) (fun _ => ?_)
  refine rq_loc i_154_16 rfl rfl ?_
  refine rq_loc i_154_17 rfl rfl ?_
  refine rq_topi (v := 9) (by decide) ?_
  refine rq_loc i_154_19 rfl rfl ?_
  refine rq_iast1 i_154_20 u3.1 (by decide) (fun L4 u4 => ?_)
  refine rq_loc i_154_21 rfl rfl ?_
  refine rq_goto (tg := 10) i_154_24 ⟨by decide, by decide⟩ ?_
  refine rq_loc i_154_10 rfl rfl ?_
  refine rq_topi (v := 10) (by decide) ?_
  refine rq_loc i_154_12 rfl rfl ?_
  refine rq_icge (tg := 27) i_154_13 ⟨by decide, by decide⟩ (fun _ => ?_) (fun q => absurd q (by decide))
  refine rq_vret i_154_27 r_154 ?_
  refine rq_back0 ?_
  refine rq_vret i_48_20 r_48 ?_
  refine rq_back0 ?_
  refine rq_loc i_90_14 rfl rfl ?_
  have g2 := (u1.2 0 (by decide)).trans c0
  have g3 := (u2.2 0 (by decide)).trans g2
  have g4 := (u3.2 0 (by decide)).trans g3
  have g5 := (u4.2 0 (by decide)).trans g4
  refine rq_getf i_90_15 f_90_62 g5 rfl ?_
  have g6 := (u1.2 150 (by decide)).trans c150
  have g7 := (u2.2 150 (by decide)).trans g6
  have g8 := (u3.2 150 (by decide)).trans g7
  have g9 := (u4.2 150 (by decide)).trans g8
  refine rq_V1 (c1 := 0) (s1 := 0) (cb := 0) (sb := 0) (F' := 2044) (Lo' := 83918) i_90_18 c_90_312 rfl (rz_isa g9 a_5_29) rfl rfl rfl ?_
  refine rq_loc i_29_0 rfl rfl ?_
  refine rq_pure i_29_1 rfl ?_
  refine rq_topi (v := (-1)) (by decide) ?_
  refine rq_putf1 i_29_2 p_29_9 g9 rfl rfl rfl (fun L5 u5 => ?_)
  refine rq_loc i_29_5 rfl rfl ?_
  refine rq_pure i_29_6 rfl ?_
  refine rq_topi (v := 0) (by decide) ?_
  refine rq_putf1 i_29_7 p_29_53 u5.1 rfl rfl rfl (fun L6 u6 => ?_)
  refine rq_loc i_29_10 rfl rfl ?_
  refine rq_pure i_29_11 rfl ?_
  refine rq_topi (v := 0) (by decide) ?_
  refine rq_putf1 i_29_12 p_29_56 u6.1 rfl rfl rfl (fun L7 u7 => ?_)
  refine rq_vret i_29_15 r_29 ?_
  refine rq_back0 ?_
  refine rq_loc i_90_21 rfl rfl ?_
  have g10 := (u5.2 0 (by decide)).trans g5
  have g11 := (u6.2 0 (by decide)).trans g10
  have g12 := (u7.2 0 (by decide)).trans g11
  refine rq_getf i_90_22 f_90_78 g12 rfl ?_
  have g13 := (u1.2 167 (by decide)).trans c167
  have g14 := (u2.2 167 (by decide)).trans g13
  have g15 := (u3.2 167 (by decide)).trans g14
  have g16 := (u4.2 167 (by decide)).trans g15
  have g17 := (u5.2 167 (by decide)).trans g16
  have g18 := (u6.2 167 (by decide)).trans g17
  have g19 := (u7.2 167 (by decide)).trans g18
  refine rq_V1 (c1 := 0) (s1 := 0) (cb := 0) (sb := 0) (F' := 2044) (Lo' := 83918) i_90_25 c_90_383 rfl (rz_isa g19 a_13_53) rfl rfl rfl ?_
  refine rq_loc i_53_0 rfl rfl ?_
  refine rq_pure i_53_1 rfl ?_
  refine rq_topi (v := 0) (by decide) ?_
  refine rq_putf1 i_53_2 p_53_45 g19 rfl rfl rfl (fun L8 u8 => ?_)
  refine rq_loc i_53_5 rfl rfl ?_
  refine rq_pure i_53_6 rfl ?_
  refine rq_topi (v := (-1)) (by decide) ?_
  refine rq_putf1 i_53_7 p_53_26 u8.1 rfl rfl rfl (fun L9 u9 => ?_)
  refine rq_loc i_53_10 rfl rfl ?_
  refine rq_pure i_53_11 rfl ?_
  refine rq_topi (v := (-1)) (by decide) ?_
  refine rq_putf1 i_53_12 p_53_30 u9.1 rfl rfl rfl (fun L10 u10 => ?_)
  refine rq_vret i_53_15 r_53 ?_
  refine rq_back0 ?_
  refine rq_vret i_90_28 r_90 ?_
  refine rq_back0 ?_
  refine rq_loc i_59_4 rfl rfl ?_
  have g20 := (u8.2 0 (by decide)).trans g12
  have g21 := (u9.2 0 (by decide)).trans g20
  have g22 := (u10.2 0 (by decide)).trans g21
  refine rq_getf i_59_5 f_59_44 g22 rfl ?_
  have g23 := (u1.2 145 (by decide)).trans c145
  have g24 := (u2.2 145 (by decide)).trans g23
  have g25 := (u3.2 145 (by decide)).trans g24
  have g26 := (u4.2 145 (by decide)).trans g25
  have g27 := (u5.2 145 (by decide)).trans g26
  have g28 := (u6.2 145 (by decide)).trans g27
  have g29 := (u7.2 145 (by decide)).trans g28
  have g30 := (u8.2 145 (by decide)).trans g29
  have g31 := (u9.2 145 (by decide)).trans g30
  have g32 := (u10.2 145 (by decide)).trans g31
  refine rq_V1 (c1 := 0) (s1 := 0) (cb := 1) (sb := 6) (F' := 2045) (Lo' := 83937) i_59_8 c_59_111 rfl (rz_isa g32 a_10_40) rfl rfl rfl ?_
  refine rq_loc i_40_0 rfl rfl ?_
  refine rq_getf i_40_1 f_40_15 g32 rfl ?_
  have g33 := (u1.2 7 (by decide)).trans c7
  have g34 := (u2.2 7 (by decide)).trans g33
  have g35 := (u3.2 7 (by decide)).trans g34
  have g36 := (u4.2 7 (by decide)).trans g35
  have g37 := (u5.2 7 (by decide)).trans g36
  have g38 := (u6.2 7 (by decide)).trans g37
  have g39 := (u7.2 7 (by decide)).trans g38
  have g40 := (u8.2 7 (by decide)).trans g39
  have g41 := (u9.2 7 (by decide)).trans g40
  have g42 := (u10.2 7 (by decide)).trans g41
  refine rq_V1 (c1 := 0) (s1 := 0) (cb := 0) (sb := 0) (F' := 2044) (Lo' := 83917) i_40_4 c_40_27 rfl (rz_isa g42 a_9_36) rfl rfl rfl ?_
  refine rq_loc i_36_0 rfl rfl ?_
  refine rq_pure i_36_1 rfl ?_
  refine rq_topi (v := 0) (by decide) ?_
  refine rq_putf1 i_36_2 p_36_51 g42 rfl rfl rfl (fun L11 u11 => ?_)
  refine rq_loc i_36_5 rfl rfl ?_
  refine rq_pure i_36_6 rfl ?_
  refine rq_topi (v := 0) (by decide) ?_
  refine rq_putf1 i_36_7 p_36_55 u11.1 rfl rfl rfl (fun L12 u12 => ?_)
  refine rq_loc i_36_10 rfl rfl ?_
  refine rq_pure i_36_11 rfl ?_
  refine rq_topi (v := 0) (by decide) ?_
  refine rq_putf1 i_36_12 p_36_59 u12.1 rfl rfl rfl (fun L13 u13 => ?_)
  refine rq_loc i_36_15 rfl rfl ?_
  refine rq_pure i_36_16 rfl ?_
  refine rq_topi (v := 0) (by decide) ?_
  refine rq_putf1 i_36_17 p_36_62 u13.1 rfl rfl rfl (fun L14 u14 => ?_)
  refine rq_loc i_36_20 rfl rfl ?_
  refine rq_pure i_36_21 rfl ?_
  refine rq_topi (v := 0) (by decide) ?_
  refine rq_putf1 i_36_22 p_36_65 u14.1 rfl rfl rfl (fun L15 u15 => ?_)
  refine rq_vret i_36_25 r_36 ?_
  refine rq_back0 ?_
  refine rq_loc i_40_7 rfl rfl ?_
  have g43 := (u11.2 145 (by decide)).trans g32
  have g44 := (u12.2 145 (by decide)).trans g43
  have g45 := (u13.2 145 (by decide)).trans g44
  have g46 := (u14.2 145 (by decide)).trans g45
  have g47 := (u15.2 145 (by decide)).trans g46
  refine rq_getf i_40_8 f_40_19 g47 rfl ?_
  refine rq_pure i_40_11 rfl ?_
  refine rq_topi (v := 0) (by decide) ?_
  have g48 := (u1.2 114 (by decide)).trans c114
  have g49 := (u2.2 114 (by decide)).trans g48
  have g50 := (u3.2 114 (by decide)).trans g49
  have g51 := (u4.2 114 (by decide)).trans g50
  have g52 := (u5.2 114 (by decide)).trans g51
  have g53 := (u6.2 114 (by decide)).trans g52
  have g54 := (u7.2 114 (by decide)).trans g53
  have g55 := (u8.2 114 (by decide)).trans g54
  have g56 := (u9.2 114 (by decide)).trans g55
  have g57 := (u10.2 114 (by decide)).trans g56
  have g58 := (u11.2 114 (by decide)).trans g57
  have g59 := (u12.2 114 (by decide)).trans g58
  have g60 := (u13.2 114 (by decide)).trans g59
  have g61 := (u14.2 114 (by decide)).trans g60
  have g62 := (u15.2 114 (by decide)).trans g61
  refine rq_putf1 i_40_12 p_40_32 g62 rfl rfl rfl (fun L16 u16 => ?_)
  refine rq_loc i_40_15 rfl rfl ?_
  have g63 := (u16.2 145 (by decide)).trans g47
  refine rq_getf i_40_16 f_40_23 g63 rfl ?_
  have g64 := (u1.2 133 (by decide)).trans c133
  have g65 := (u2.2 133 (by decide)).trans g64
  have g66 := (u3.2 133 (by decide)).trans g65
  have g67 := (u4.2 133 (by decide)).trans g66
  have g68 := (u5.2 133 (by decide)).trans g67
  have g69 := (u6.2 133 (by decide)).trans g68
  have g70 := (u7.2 133 (by decide)).trans g69
  have g71 := (u8.2 133 (by decide)).trans g70
  have g72 := (u9.2 133 (by decide)).trans g71
  have g73 := (u10.2 133 (by decide)).trans g72
  have g74 := (u11.2 133 (by decide)).trans g73
  have g75 := (u12.2 133 (by decide)).trans g74
  have g76 := (u13.2 133 (by decide)).trans g75
  have g77 := (u14.2 133 (by decide)).trans g76
  have g78 := (u15.2 133 (by decide)).trans g77
  have g79 := (u16.2 133 (by decide)).trans g78
  refine rq_V1 (c1 := 0) (s1 := 0) (cb := 0) (sb := 0) (F' := 2044) (Lo' := 83917) i_40_19 c_40_38 rfl (rz_isa g79 a_7_33) rfl rfl rfl ?_
  refine rq_loc i_33_0 rfl rfl ?_
  refine rq_pure i_33_1 rfl ?_
  refine rq_topi (v := 0) (by decide) ?_
  refine rq_putf1 i_33_2 p_33_52 g79 rfl rfl rfl (fun L17 u17 => ?_)
  refine rq_loc i_33_5 rfl rfl ?_
  refine rq_pure i_33_6 rfl ?_
  refine rq_topi (v := (-1)) (by decide) ?_
  refine rq_putf1 i_33_7 p_33_48 u17.1 rfl rfl rfl (fun L18 u18 => ?_)
  refine rq_loc i_33_10 rfl rfl ?_
  refine rq_pure i_33_11 rfl ?_
  refine rq_topi (v := 0) (by decide) ?_
  refine rq_putf1 i_33_12 p_33_55 u18.1 rfl rfl rfl (fun L19 u19 => ?_)
  refine rq_loc i_33_15 rfl rfl ?_
  refine rq_getf i_33_16 f_33_45 u19.1 rfl ?_
  refine rq_pure i_33_19 rfl ?_
  refine rq_topi (v := 0) (by decide) ?_
  refine rq_S1 (c1 := 0) (s1 := 0) (cb := 0) (sb := 0) (F' := 2043) (Lo' := 83894) i_33_20 c_33_58 (by decide) rfl rfl rfl rfl ?_
  have g80 := (u1.2 144 (by decide)).trans c144
  have g81 := (u2.2 144 (by decide)).trans g80
  have g82 := (u3.2 144 (by decide)).trans g81
  have g83 := (u4.2 144 (by decide)).trans g82
  have g84 := (u5.2 144 (by decide)).trans g83
  have g85 := (u6.2 144 (by decide)).trans g84
  have g86 := (u7.2 144 (by decide)).trans g85
  have g87 := (u8.2 144 (by decide)).trans g86
  have g88 := (u9.2 144 (by decide)).trans g87
  have g89 := (u10.2 144 (by decide)).trans g88
  have g90 := (u11.2 144 (by decide)).trans g89
  have g91 := (u12.2 144 (by decide)).trans g90
  have g92 := (u13.2 144 (by decide)).trans g91
  have g93 := (u14.2 144 (by decide)).trans g92
  have g94 := (u15.2 144 (by decide)).trans g93
  have g95 := (u16.2 144 (by decide)).trans g94
  have g96 := (u17.2 144 (by decide)).trans g95
  have g97 := (u18.2 144 (by decide)).trans g96
  have g98 := (u19.2 144 (by decide)).trans g97
  refine fill_spec (by decide) g98 (fun L20 u20 => ?_)
  refine rq_back0 ?_
  refine rq_vret i_33_23 r_33 ?_
  refine rq_back0 ?_
  refine rq_loc i_40_22 rfl rfl ?_
  refine rq_pure i_40_23 rfl ?_
  refine rq_topi (v := 0) (by decide) ?_
  have g99 := (u17.2 145 (by decide)).trans g63
  have g100 := (u18.2 145 (by decide)).trans g99
  have g101 := (u19.2 145 (by decide)).trans g100
  have g102 := (u20.2 145 (by decide)).trans g101
  refine rq_putf1 i_40_24 p_40_43 g102 rfl rfl rfl (fun L21 u21 => ?_)
  refine rq_loc i_40_27 rfl rfl ?_
  refine rq_pure i_40_28 rfl ?_
  refine rq_topi (v := 0) (by decide) ?_
  refine rq_putf1 i_40_29 p_40_46 u21.1 rfl rfl rfl (fun L22 u22 => ?_)
  refine rq_loc i_40_32 rfl rfl ?_
  refine rq_pure i_40_33 rfl ?_
  refine rq_topi (v := 0) (by decide) ?_
  refine rq_putf1 i_40_34 p_40_49 u22.1 rfl rfl rfl (fun L23 u23 => ?_)
  refine rq_loc i_40_37 rfl rfl ?_
  refine rq_getf i_40_38 f_40_9 u23.1 rfl ?_
  have g103 := (u1.2 1 (by decide)).trans c1
  have g104 := (u2.2 1 (by decide)).trans g103
  have g105 := (u3.2 1 (by decide)).trans g104
  have g106 := (u4.2 1 (by decide)).trans g105
  have g107 := (u5.2 1 (by decide)).trans g106
  have g108 := (u6.2 1 (by decide)).trans g107
  have g109 := (u7.2 1 (by decide)).trans g108
  have g110 := (u8.2 1 (by decide)).trans g109
  have g111 := (u9.2 1 (by decide)).trans g110
  have g112 := (u10.2 1 (by decide)).trans g111
  have g113 := (u11.2 1 (by decide)).trans g112
  have g114 := (u12.2 1 (by decide)).trans g113
  have g115 := (u13.2 1 (by decide)).trans g114
  have g116 := (u14.2 1 (by decide)).trans g115
  have g117 := (u15.2 1 (by decide)).trans g116
  have g118 := (u16.2 1 (by decide)).trans g117
  have g119 := (u17.2 1 (by decide)).trans g118
  have g120 := (u18.2 1 (by decide)).trans g119
  have g121 := (u19.2 1 (by decide)).trans g120
  have g122 := (u20.2 1 (by decide)).trans g121
  have g123 := (u21.2 1 (by decide)).trans g122
  have g124 := (u22.2 1 (by decide)).trans g123
  have g125 := (u23.2 1 (by decide)).trans g124
  refine rq_V1 (c1 := 0) (s1 := 0) (cb := 0) (sb := 0) (F' := 2044) (Lo' := 83916) i_40_41 c_40_52 rfl (rz_isa g125 a_3_25) rfl rfl rfl ?_
  refine rq_loc i_25_0 rfl rfl ?_
  refine rq_pure i_25_1 rfl ?_
  refine rq_topi (v := 0) (by decide) ?_
  refine rq_putf1 i_25_2 p_25_44 g125 rfl rfl rfl (fun L24 u24 => ?_)
  refine rq_loc i_25_5 rfl rfl ?_
  refine rq_pure i_25_6 rfl ?_
  refine rq_topi (v := 0) (by decide) ?_
  refine rq_putf1 i_25_7 p_25_47 u24.1 rfl rfl rfl (fun L25 u25 => ?_)
  refine rq_pure i_25_10 rfl ?_
  refine rq_topi (v := 0) (by decide) ?_
  refine rq_loc i_25_11 rfl rfl ?_
  refine rq_loc i_25_12 rfl rfl ?_
  refine rq_pure i_25_13 rfl ?_
  refine rq_topi (v := 4000) (by decide) ?_
  refine rq_icgt (tg := 92) i_25_16 ⟨by decide, by decide⟩ (fun q => absurd q (by decide)) (fun _ => ?_)
  refine rq_loc i_25_19 rfl rfl ?_
  refine rq_V1 (c1 := 0) (s1 := 0) (cb := 0) (sb := 0) (F' := 2043) (Lo' := 83896) i_25_20 c_25_50 rfl (rz_isa u25.1 a_3_26) rfl rfl rfl ?_
  refine rq_loc i_26_0 rfl rfl ?_
  refine rq_getf i_26_1 f_26_44 u25.1 rfl ?_
  refine rq_loc i_26_4 rfl rfl ?_
  refine rq_getf i_26_5 f_26_41 u25.1 rfl ?_
  refine rq_icge (tg := 52) i_26_8 ⟨by decide, by decide⟩ (fun _ => ?_) (fun q => absurd q (by decide))
  refine rq_vret i_26_52 r_26 ?_
  refine rq_back0 ?_
  refine rq_loc i_25_23 rfl rfl ?_
  refine rq_getf i_25_24 f_25_19 u25.1 rfl ?_
  refine rq_loc i_25_27 rfl rfl ?_
  refine rq_getf i_25_28 f_25_47 u25.1 rfl ?_
  refine rq_loc i_25_31 rfl rfl ?_
  refine rq_getf i_25_32 f_25_44 u25.1 rfl ?_
  have g126 := (u1.2 4 (by decide)).trans c4
  have g127 := (u2.2 4 (by decide)).trans g126
  have g128 := (u3.2 4 (by decide)).trans g127
  have g129 := (u4.2 4 (by decide)).trans g128
  have g130 := (u5.2 4 (by decide)).trans g129
  have g131 := (u6.2 4 (by decide)).trans g130
  have g132 := (u7.2 4 (by decide)).trans g131
  have g133 := (u8.2 4 (by decide)).trans g132
  have g134 := (u9.2 4 (by decide)).trans g133
  have g135 := (u10.2 4 (by decide)).trans g134
  have g136 := (u11.2 4 (by decide)).trans g135
  have g137 := (u12.2 4 (by decide)).trans g136
  have g138 := (u13.2 4 (by decide)).trans g137
  have g139 := (u14.2 4 (by decide)).trans g138
  have g140 := (u15.2 4 (by decide)).trans g139
  have g141 := (u16.2 4 (by decide)).trans g140
  have g142 := (u17.2 4 (by decide)).trans g141
  have g143 := (u18.2 4 (by decide)).trans g142
  have g144 := (u19.2 4 (by decide)).trans g143
  have g145 := (u20.2 4 (by decide)).trans g144
  have g146 := (u21.2 4 (by decide)).trans g145
  have g147 := (u22.2 4 (by decide)).trans g146
  have g148 := (u23.2 4 (by decide)).trans g147
  have g149 := (u24.2 4 (by decide)).trans g148
  have g150 := (u25.2 4 (by decide)).trans g149
  refine rq_iast1 i_25_35 g150 (by decide) (fun L26 u26 => ?_)
  refine rq_loc i_25_36 rfl rfl ?_
  have g151 := (u26.2 1 (by decide)).trans u25.1
  refine rq_getf i_25_37 f_25_44 g151 rfl ?_
  refine rq_loc i_25_40 rfl rfl ?_
  refine rq_getf i_25_41 f_25_41 g151 rfl ?_
  refine rq_iclt (tg := 59) i_25_44 ⟨by decide, by decide⟩ (fun q => absurd q (by decide)) (fun _ => ?_)
  refine rq_loc i_25_47 rfl rfl ?_
  refine rq_getf i_25_48 f_25_15 g151 rfl ?_
  refine rq_loc i_25_51 rfl rfl ?_
  refine rq_getf i_25_52 f_25_47 g151 rfl ?_
  refine rq_pure i_25_55 rfl ?_
  refine rq_topi (v := 0) (by decide) ?_
  have g152 := (u1.2 3 (by decide)).trans c3
  have g153 := (u2.2 3 (by decide)).trans g152
  have g154 := (u3.2 3 (by decide)).trans g153
  have g155 := (u4.2 3 (by decide)).trans g154
  have g156 := (u5.2 3 (by decide)).trans g155
  have g157 := (u6.2 3 (by decide)).trans g156
  have g158 := (u7.2 3 (by decide)).trans g157
  have g159 := (u8.2 3 (by decide)).trans g158
  have g160 := (u9.2 3 (by decide)).trans g159
  have g161 := (u10.2 3 (by decide)).trans g160
  have g162 := (u11.2 3 (by decide)).trans g161
  have g163 := (u12.2 3 (by decide)).trans g162
  have g164 := (u13.2 3 (by decide)).trans g163
  have g165 := (u14.2 3 (by decide)).trans g164
  have g166 := (u15.2 3 (by decide)).trans g165
  have g167 := (u16.2 3 (by decide)).trans g166
  have g168 := (u17.2 3 (by decide)).trans g167
  have g169 := (u18.2 3 (by decide)).trans g168
  have g170 := (u19.2 3 (by decide)).trans g169
  have g171 := (u20.2 3 (by decide)).trans g170
  have g172 := (u21.2 3 (by decide)).trans g171
  have g173 := (u22.2 3 (by decide)).trans g172
  have g174 := (u23.2 3 (by decide)).trans g173
  have g175 := (u24.2 3 (by decide)).trans g174
  have g176 := (u25.2 3 (by decide)).trans g175
  have g177 := (u26.2 3 (by decide)).trans g176
  refine rq_iast1 i_25_56 g177 (by decide) (fun L27 u27 => ?_)
  refine rq_pure i_25_57 rfl ?_
  refine rq_topi (v := (-1)) (by decide) ?_
  refine rq_iret i_25_58 r_25 rfl ?_
  refine rq_back1 ?_
  refine rq_loc i_40_44 rfl rfl ?_
  refine rq_loc i_40_45 rfl rfl ?_
  have g178 := (u24.2 145 (by decide)).trans u23.1
  have g179 := (u25.2 145 (by decide)).trans g178
  have g180 := (u26.2 145 (by decide)).trans g179
  have g181 := (u27.2 145 (by decide)).trans g180
  refine rq_getf i_40_46 f_40_9 g181 rfl ?_
  refine rq_pure i_40_49 rfl ?_
  refine rq_topi (v := 0) (by decide) ?_
  have g182 := (u27.2 1 (by decide)).trans g151
  refine rq_putf1 i_40_50 p_40_58 g182 rfl rfl rfl (fun L28 u28 => ?_)
  refine rq_loc i_40_53 rfl rfl ?_
  refine rq_iflt (tg := 63) i_40_54 ⟨by decide, by decide⟩ (fun _ => ?_) (fun q => absurd q (by decide))
  refine rq_vret i_40_63 r_40 ?_
  refine rq_back0 ?_
  refine rq_loc i_59_11 rfl rfl ?_
  have g183 := (u11.2 0 (by decide)).trans g22
  have g184 := (u12.2 0 (by decide)).trans g183
  have g185 := (u13.2 0 (by decide)).trans g184
  have g186 := (u14.2 0 (by decide)).trans g185
  have g187 := (u15.2 0 (by decide)).trans g186
  have g188 := (u16.2 0 (by decide)).trans g187
  have g189 := (u17.2 0 (by decide)).trans g188
  have g190 := (u18.2 0 (by decide)).trans g189
  have g191 := (u19.2 0 (by decide)).trans g190
  have g192 := (u20.2 0 (by decide)).trans g191
  have g193 := (u21.2 0 (by decide)).trans g192
  have g194 := (u22.2 0 (by decide)).trans g193
  have g195 := (u23.2 0 (by decide)).trans g194
  have g196 := (u24.2 0 (by decide)).trans g195
  have g197 := (u25.2 0 (by decide)).trans g196
  have g198 := (u26.2 0 (by decide)).trans g197
  have g199 := (u27.2 0 (by decide)).trans g198
  have g200 := (u28.2 0 (by decide)).trans g199
  refine rq_getf i_59_12 f_59_44 g200 rfl ?_
  have g201 := (u28.2 145 (by decide)).trans g181
  refine rq_V1 (c1 := 0) (s1 := 0) (cb := 1) (sb := 6) (F' := 2045) (Lo' := 83937) i_59_15 c_59_114 rfl (rz_isa g201 a_10_44) rfl rfl rfl ?_
  refine rq_pure i_44_0 rfl ?_
  refine rq_topi (v := 0) (by decide) ?_
  refine rq_loc i_44_1 rfl rfl ?_
  refine rq_loc i_44_2 rfl rfl ?_
  refine rq_pure i_44_3 rfl ?_
  refine rq_topi (v := 4000) (by decide) ?_
  refine rq_icge (tg := 29) i_44_6 ⟨by decide, by decide⟩ (fun q => absurd q (by decide)) (fun _ => ?_)
  refine rq_loc i_44_9 rfl rfl ?_
  refine rq_V1 (c1 := 0) (s1 := 0) (cb := 0) (sb := 0) (F' := 2044) (Lo' := 83917) i_44_10 c_44_82 rfl (rz_isa g201 a_10_43) rfl rfl rfl ?_
  refine rq_loc i_43_0 rfl rfl ?_
  refine rq_getf i_43_1 f_43_9 g201 rfl ?_
  refine rq_getf i_43_4 f_43_76 u28.1 rfl ?_
  refine rq_loc i_43_7 rfl rfl ?_
  refine rq_getf i_43_8 f_43_49 g201 rfl ?_
  have g202 := (u28.2 3 (by decide)).trans u27.1
  refine rq_iald i_43_11 g202 (by decide) ?_
  refine rq_topi (v := 0) rfl ?_
  refine rq_iret i_43_12 r_43 rfl ?_
  refine rq_back1 ?_
  refine rq_pure i_44_13 rfl ?_
  refine rq_topi (v := 200) (by decide) ?_
  refine rq_icne (tg := 29) i_44_16 ⟨by decide, by decide⟩ (fun _ => ?_) (fun q => absurd q (by decide))
  refine rq_pure i_44_29 rfl ?_
  refine rq_topi (v := 0) (by decide) ?_
  refine rq_loc i_44_30 rfl rfl ?_
  refine rq_loc i_44_31 rfl rfl ?_
  refine rq_pure i_44_32 rfl ?_
  refine rq_topi (v := 4000) (by decide) ?_
  refine rq_icge (tg := 58) i_44_35 ⟨by decide, by decide⟩ (fun q => absurd q (by decide)) (fun _ => ?_)
  refine rq_loc i_44_38 rfl rfl ?_
  refine rq_V1 (c1 := 0) (s1 := 0) (cb := 0) (sb := 0) (F' := 2044) (Lo' := 83917) i_44_39 c_44_82 rfl (rz_isa g201 a_10_43) rfl rfl rfl ?_
  refine rq_loc i_43_0 rfl rfl ?_
  refine rq_getf i_43_1 f_43_9 g201 rfl ?_
  refine rq_getf i_43_4 f_43_76 u28.1 rfl ?_
  refine rq_loc i_43_7 rfl rfl ?_
  refine rq_getf i_43_8 f_43_49 g201 rfl ?_
  refine rq_iald i_43_11 g202 (by decide) ?_
  refine rq_topi (v := 0) rfl ?_
  refine rq_iret i_43_12 r_43 rfl ?_
  refine rq_back1 ?_
  refine rq_pure i_44_42 rfl ?_
  refine rq_topi (v := 201) (by decide) ?_
  refine rq_icne (tg := 58) i_44_45 ⟨by decide, by decide⟩ (fun _ => ?_) (fun q => absurd q (by decide))
  refine rq_pure i_44_58 rfl ?_
  refine rq_topi (v := 0) (by decide) ?_
  refine rq_loc i_44_59 rfl rfl ?_
  refine rq_loc i_44_60 rfl rfl ?_
  refine rq_pure i_44_61 rfl ?_
  refine rq_topi (v := 4000) (by decide) ?_
  refine rq_icge (tg := 87) i_44_64 ⟨by decide, by decide⟩ (fun q => absurd q (by decide)) (fun _ => ?_)
  refine rq_loc i_44_67 rfl rfl ?_
  refine rq_V1 (c1 := 0) (s1 := 0) (cb := 0) (sb := 0) (F' := 2044) (Lo' := 83917) i_44_68 c_44_82 rfl (rz_isa g201 a_10_43) rfl rfl rfl ?_
  refine rq_loc i_43_0 rfl rfl ?_
  refine rq_getf i_43_1 f_43_9 g201 rfl ?_
  refine rq_getf i_43_4 f_43_76 u28.1 rfl ?_
  refine rq_loc i_43_7 rfl rfl ?_
  refine rq_getf i_43_8 f_43_49 g201 rfl ?_
  refine rq_iald i_43_11 g202 (by decide) ?_
  refine rq_topi (v := 0) rfl ?_
  refine rq_iret i_43_12 r_43 rfl ?_
  refine rq_back1 ?_
  refine rq_pure i_44_71 rfl ?_
  refine rq_topi (v := 206) (by decide) ?_
  refine rq_icne (tg := 87) i_44_74 ⟨by decide, by decide⟩ (fun _ => ?_) (fun q => absurd q (by decide))
  refine rq_vret i_44_87 r_44 ?_
  refine rq_back0 ?_
  refine rq_loc i_59_18 rfl rfl ?_
  refine rq_getf i_59_19 f_59_44 g200 rfl ?_
  refine rq_V1 (c1 := 1) (s1 := 6) (cb := 0) (sb := 0) (F' := 2045) (Lo' := 83935) i_59_22 c_59_117 rfl (rz_isa g201 a_10_45) rfl rfl rfl ?_
  refine rq_pure i_45_0 rfl ?_
  refine rq_topi (v := 0) (by decide) ?_
  refine rq_loc i_45_1 rfl rfl ?_
  refine rq_loc i_45_2 rfl rfl ?_
  refine rq_pure i_45_3 rfl ?_
  refine rq_topi (v := 4000) (by decide) ?_
  refine rq_icge (tg := 128) i_45_6 ⟨by decide, by decide⟩ (fun q => absurd q (by decide)) (fun _ => ?_)
  refine rq_loc i_45_9 rfl rfl ?_
  refine rq_V1 (c1 := 0) (s1 := 0) (cb := 1) (sb := 6) (F' := 2044) (Lo' := 83915) i_45_10 c_45_82 rfl (rz_isa g201 a_10_43) rfl rfl rfl ?_
  refine rq_loc i_43_0 rfl rfl ?_
  refine rq_getf i_43_1 f_43_9 g201 rfl ?_
  refine rq_getf i_43_4 f_43_76 u28.1 rfl ?_
  refine rq_loc i_43_7 rfl rfl ?_
  refine rq_getf i_43_8 f_43_49 g201 rfl ?_
  refine rq_iald i_43_11 g202 (by decide) ?_
  refine rq_topi (v := 0) rfl ?_
  refine rq_iret i_43_12 r_43 rfl ?_
  refine rq_back1 ?_
  refine rq_pure i_45_13 rfl ?_
  refine rq_topi (v := 202) (by decide) ?_
  refine rq_icne (tg := 128) i_45_16 ⟨by decide, by decide⟩ (fun _ => ?_) (fun q => absurd q (by decide))
  refine rq_loc i_45_128 rfl rfl ?_
  refine rq_getf i_45_129 f_45_15 g201 rfl ?_
  have g203 := (u16.2 7 (by decide)).trans u15.1
  have g204 := (u17.2 7 (by decide)).trans g203
  have g205 := (u18.2 7 (by decide)).trans g204
  have g206 := (u19.2 7 (by decide)).trans g205
  have g207 := (u20.2 7 (by decide)).trans g206
  have g208 := (u21.2 7 (by decide)).trans g207
  have g209 := (u22.2 7 (by decide)).trans g208
  have g210 := (u23.2 7 (by decide)).trans g209
  have g211 := (u24.2 7 (by decide)).trans g210
  have g212 := (u25.2 7 (by decide)).trans g211
  have g213 := (u26.2 7 (by decide)).trans g212
  have g214 := (u27.2 7 (by decide)).trans g213
  have g215 := (u28.2 7 (by decide)).trans g214
  refine rq_getf i_45_132 f_45_118 g215 rfl ?_
  refine rq_ifeq (tg := 145) i_45_135 ⟨by decide, by decide⟩ (fun _ => ?_) (fun q => absurd q (by decide))
  refine rq_loc i_45_145 rfl rfl ?_
  refine rq_pure i_45_146 rfl ?_
  refine rq_topi (v := 2) (by decide) ?_
  refine rq_loc i_45_147 rfl rfl ?_
  refine rq_V1 (c1 := 0) (s1 := 0) (cb := 1) (sb := 6) (F' := 2044) (Lo' := 83915) i_45_148 c_45_79 rfl (rz_isa g201 a_10_42) rfl rfl rfl ?_
  refine rq_loc i_42_0 rfl rfl ?_
  refine rq_getf i_42_1 f_42_9 g201 rfl ?_
  refine rq_getf i_42_4 f_42_72 u28.1 rfl ?_
  refine rq_loc i_42_7 rfl rfl ?_
  refine rq_getf i_42_8 f_42_49 g201 rfl ?_
  have g216 := (u27.2 4 (by decide)).trans u26.1
  have g217 := (u28.2 4 (by decide)).trans g216
  refine rq_iald i_42_11 g217 (by decide) ?_
  refine rq_topi (v := 0) rfl ?_
  refine rq_iret i_42_12 r_42 rfl ?_
  refine rq_back1 ?_
  refine rq_V1 (c1 := 1) (s1 := 6) (cb := 0) (sb := 0) (F' := 2044) (Lo' := 83913) i_45_151 c_45_61 rfl (rz_isa g201 a_10_41) rfl rfl rfl ?_
  refine rq_loc i_41_0 rfl rfl ?_
  refine rq_loc i_41_1 rfl rfl ?_
  refine rq_putf1 i_41_2 p_41_43 g201 rfl rfl rfl (fun L29 u29 => ?_)
  refine rq_loc i_41_5 rfl rfl ?_
  refine rq_loc i_41_6 rfl rfl ?_
  refine rq_putf1 i_41_7 p_41_46 u29.1 rfl rfl rfl (fun L30 u30 => ?_)
  refine rq_throw x_41_10 (by decide) (by decide) (by decide) (by decide) ?_
  refine rq_up h0_45_151_34 hh_45 ?_
  refine rq_up h0_59_22_34 hh_59 ?_
  refine rq_catch1 (pc2 := 12) h_16_3_34 rfl ?_
  refine rq_pure i_16_12 rfl ?_
  refine rq_topi (v := 1) (by decide) ?_
  refine rq_iret i_16_13 r_16 rfl ?_
  refine rq_back1 ?_
  refine rq_loc i_0_316 rfl rfl ?_
  refine rq_loc i_0_318 rfl rfl ?_
  have g218 := (u1.2 174 (by decide)).trans c174
  have g219 := (u2.2 174 (by decide)).trans g218
  have g220 := (u3.2 174 (by decide)).trans g219
  have g221 := (u4.2 174 (by decide)).trans g220
  have g222 := (u5.2 174 (by decide)).trans g221
  have g223 := (u6.2 174 (by decide)).trans g222
  have g224 := (u7.2 174 (by decide)).trans g223
  have g225 := (u8.2 174 (by decide)).trans g224
  have g226 := (u9.2 174 (by decide)).trans g225
  have g227 := (u10.2 174 (by decide)).trans g226
  have g228 := (u11.2 174 (by decide)).trans g227
  have g229 := (u12.2 174 (by decide)).trans g228
  have g230 := (u13.2 174 (by decide)).trans g229
  have g231 := (u14.2 174 (by decide)).trans g230
  have g232 := (u15.2 174 (by decide)).trans g231
  have g233 := (u16.2 174 (by decide)).trans g232
  have g234 := (u17.2 174 (by decide)).trans g233
  have g235 := (u18.2 174 (by decide)).trans g234
  have g236 := (u19.2 174 (by decide)).trans g235
  have g237 := (u20.2 174 (by decide)).trans g236
  have g238 := (u21.2 174 (by decide)).trans g237
  have g239 := (u22.2 174 (by decide)).trans g238
  have g240 := (u23.2 174 (by decide)).trans g239
  have g241 := (u24.2 174 (by decide)).trans g240
  have g242 := (u25.2 174 (by decide)).trans g241
  have g243 := (u26.2 174 (by decide)).trans g242
  have g244 := (u27.2 174 (by decide)).trans g243
  have g245 := (u28.2 174 (by decide)).trans g244
  have g246 := (u29.2 174 (by decide)).trans g245
  have g247 := (u30.2 174 (by decide)).trans g246
  refine rq_V1 (c1 := 0) (s1 := 0) (cb := 99) (sb := 994) (F' := 2047) (Lo' := 83977) i_0_319 c_0_49 rfl (rz_isa g247 a_15_106) rfl rfl rfl ?_
  refine rq_loc i_106_0 rfl rfl ?_
  refine rq_getf i_106_1 f_106_359 g247 rfl ?_
  refine rq_loc i_106_4 rfl rfl ?_
  refine rq_loc i_106_5 rfl rfl ?_
  refine rq_pure i_106_6 rfl ?_
  refine rq_topi (v := 0) (by decide) ?_
  refine rq_putf1 i_106_7 p_106_359 g247 rfl rfl rfl (fun L31 u31 => ?_)
  refine rq_loc i_106_10 rfl rfl ?_
  refine rq_pure i_106_11 rfl ?_
  refine rq_topi (v := 0) (by decide) ?_
  refine rq_putf1 i_106_12 p_106_409 u31.1 rfl rfl rfl (fun L32 u32 => ?_)
  refine rq_loc i_106_15 rfl rfl ?_
  refine rq_pure i_106_16 rfl ?_
  refine rq_topi (v := 0) (by decide) ?_
  refine rq_putf1 i_106_17 p_106_412 u32.1 rfl rfl rfl (fun L33 u33 => ?_)
  refine rq_loc i_106_20 rfl rfl ?_
  refine rq_pure i_106_21 rfl ?_
  refine rq_topi (v := 0) (by decide) ?_
  refine rq_putf1 i_106_22 p_106_415 u33.1 rfl rfl rfl (fun L34 u34 => ?_)
  refine rq_loc i_106_25 rfl rfl ?_
  refine rq_pure i_106_26 rfl ?_
  refine rq_topi (v := 0) (by decide) ?_
  refine rq_putf1 i_106_27 p_106_634 u34.1 rfl rfl rfl (fun L35 u35 => ?_)
  refine rq_loc i_106_30 rfl rfl ?_
  refine rq_V1 (c1 := 0) (s1 := 0) (cb := 0) (sb := 0) (F' := 2046) (Lo' := 83957) i_106_31 c_106_637 rfl (rz_isa u35.1 a_15_133) rfl rfl rfl ?_
  refine rq_loc i_133_0 rfl rfl ?_
  refine rq_pure i_133_1 rfl ?_
  refine rq_topi (v := 0) (by decide) ?_
  refine rq_putf1 i_133_2 p_133_894 u35.1 rfl rfl rfl (fun L36 u36 => ?_)
  refine rq_loc i_133_5 rfl rfl ?_
  refine rq_pure i_133_6 rfl ?_
  refine rq_topi (v := 0) (by decide) ?_
  refine rq_putf1 i_133_7 p_133_897 u36.1 rfl rfl rfl (fun L37 u37 => ?_)
  refine rq_loc i_133_10 rfl rfl ?_
  refine rq_pure i_133_11 rfl ?_
  refine rq_topi (v := (-1)) (by decide) ?_
  refine rq_putf1 i_133_12 p_133_292 u37.1 rfl rfl rfl (fun L38 u38 => ?_)
  refine rq_loc i_133_15 rfl rfl ?_
  refine rq_pure i_133_16 rfl ?_
  refine rq_topi (v := 0) (by decide) ?_
  refine rq_putf1 i_133_17 p_133_874 u38.1 rfl rfl rfl (fun L39 u39 => ?_)
  refine rq_loc i_133_20 rfl rfl ?_
  refine rq_pure i_133_21 rfl ?_
  refine rq_topi (v := 0) (by decide) ?_
  refine rq_putf1 i_133_22 p_133_900 u39.1 rfl rfl rfl (fun L40 u40 => ?_)
  refine rq_vret i_133_25 r_133 ?_
  refine rq_back0 ?_
  refine rq_loc i_106_34 rfl rfl ?_
  refine rq_loc i_106_35 rfl rfl ?_
  refine rq_V1 (c1 := 0) (s1 := 0) (cb := 0) (sb := 0) (F' := 2046) (Lo' := 83950) i_106_36 c_106_640 rfl (rz_isa u40.1 a_15_99) rfl rfl rfl ?_
  refine rq_loc i_99_0 rfl rfl ?_
  refine rq_pure i_99_1 rfl ?_
  refine rq_topi (v := 0) (by decide) ?_
  refine rq_putf1 i_99_2 p_99_418 u40.1 rfl rfl rfl (fun L41 u41 => ?_)
  refine rq_pure i_99_5 rfl ?_
  refine rq_topi (v := 0) (by decide) ?_
  refine rq_loc i_99_6 rfl rfl ?_
  refine rq_loc i_99_7 rfl rfl ?_
  refine rq_loc i_99_8 rfl rfl ?_
  refine rq_icge (tg := 419) i_99_9 ⟨by decide, by decide⟩ (fun _ => ?_) (fun q => absurd q (by decide))
  refine rq_loc i_99_419 rfl rfl ?_
  refine rq_pure i_99_420 rfl ?_
  refine rq_topi (v := 5) (by decide) ?_
  refine rq_loc i_99_421 rfl rfl ?_
  refine rq_pure i_99_422 rfl ?_
  refine rq_V1 (c1 := 0) (s1 := 0) (cb := 0) (sb := 0) (F' := 2045) (Lo' := 83926) i_99_423 c_99_440 rfl (rz_isa u41.1 a_15_98) rfl rfl rfl ?_
  refine rq_loc i_98_0 rfl rfl ?_
  refine rq_getf i_98_1 f_98_84 u41.1 rfl ?_
  refine rq_loc i_98_4 rfl rfl ?_
  refine rq_getf i_98_5 f_98_418 u41.1 rfl ?_
  refine rq_loc i_98_8 rfl rfl ?_
  have g248 := (u1.2 178 (by decide)).trans c178
  have g249 := (u2.2 178 (by decide)).trans g248
  have g250 := (u3.2 178 (by decide)).trans g249
  have g251 := (u4.2 178 (by decide)).trans g250
  have g252 := (u5.2 178 (by decide)).trans g251
  have g253 := (u6.2 178 (by decide)).trans g252
  have g254 := (u7.2 178 (by decide)).trans g253
  have g255 := (u8.2 178 (by decide)).trans g254
  have g256 := (u9.2 178 (by decide)).trans g255
  have g257 := (u10.2 178 (by decide)).trans g256
  have g258 := (u11.2 178 (by decide)).trans g257
  have g259 := (u12.2 178 (by decide)).trans g258
  have g260 := (u13.2 178 (by decide)).trans g259
  have g261 := (u14.2 178 (by decide)).trans g260
  have g262 := (u15.2 178 (by decide)).trans g261
  have g263 := (u16.2 178 (by decide)).trans g262
  have g264 := (u17.2 178 (by decide)).trans g263
  have g265 := (u18.2 178 (by decide)).trans g264
  have g266 := (u19.2 178 (by decide)).trans g265
  have g267 := (u20.2 178 (by decide)).trans g266
  have g268 := (u21.2 178 (by decide)).trans g267
  have g269 := (u22.2 178 (by decide)).trans g268
  have g270 := (u23.2 178 (by decide)).trans g269
  have g271 := (u24.2 178 (by decide)).trans g270
  have g272 := (u25.2 178 (by decide)).trans g271
  have g273 := (u26.2 178 (by decide)).trans g272
  have g274 := (u27.2 178 (by decide)).trans g273
  have g275 := (u28.2 178 (by decide)).trans g274
  have g276 := (u29.2 178 (by decide)).trans g275
  have g277 := (u30.2 178 (by decide)).trans g276
  have g278 := (u31.2 178 (by decide)).trans g277
  have g279 := (u32.2 178 (by decide)).trans g278
  have g280 := (u33.2 178 (by decide)).trans g279
  have g281 := (u34.2 178 (by decide)).trans g280
  have g282 := (u35.2 178 (by decide)).trans g281
  have g283 := (u36.2 178 (by decide)).trans g282
  have g284 := (u37.2 178 (by decide)).trans g283
  have g285 := (u38.2 178 (by decide)).trans g284
  have g286 := (u39.2 178 (by decide)).trans g285
  have g287 := (u40.2 178 (by decide)).trans g286
  have g288 := (u41.2 178 (by decide)).trans g287
  refine rq_iast1 i_98_9 g288 (by decide) (fun L42 u42 => ?_)
  refine rq_loc i_98_10 rfl rfl ?_
  have g289 := (u42.2 174 (by decide)).trans u41.1
  refine rq_getf i_98_11 f_98_87 g289 rfl ?_
  refine rq_loc i_98_14 rfl rfl ?_
  refine rq_getf i_98_15 f_98_418 g289 rfl ?_
  refine rq_loc i_98_18 rfl rfl ?_
  have g290 := (u1.2 179 (by decide)).trans c179
  have g291 := (u2.2 179 (by decide)).trans g290
  have g292 := (u3.2 179 (by decide)).trans g291
  have g293 := (u4.2 179 (by decide)).trans g292
  have g294 := (u5.2 179 (by decide)).trans g293
  have g295 := (u6.2 179 (by decide)).trans g294
  have g296 := (u7.2 179 (by decide)).trans g295
  have g297 := (u8.2 179 (by decide)).trans g296
  have g298 := (u9.2 179 (by decide)).trans g297
  have g299 := (u10.2 179 (by decide)).trans g298
  have g300 := (u11.2 179 (by decide)).trans g299
  have g301 := (u12.2 179 (by decide)).trans g300
  have g302 := (u13.2 179 (by decide)).trans g301
  have g303 := (u14.2 179 (by decide)).trans g302
  have g304 := (u15.2 179 (by decide)).trans g303
  have g305 := (u16.2 179 (by decide)).trans g304
  have g306 := (u17.2 179 (by decide)).trans g305
  have g307 := (u18.2 179 (by decide)).trans g306
  have g308 := (u19.2 179 (by decide)).trans g307
  have g309 := (u20.2 179 (by decide)).trans g308
  have g310 := (u21.2 179 (by decide)).trans g309
  have g311 := (u22.2 179 (by decide)).trans g310
  have g312 := (u23.2 179 (by decide)).trans g311
  have g313 := (u24.2 179 (by decide)).trans g312
  have g314 := (u25.2 179 (by decide)).trans g313
  have g315 := (u26.2 179 (by decide)).trans g314
  have g316 := (u27.2 179 (by decide)).trans g315
  have g317 := (u28.2 179 (by decide)).trans g316
  have g318 := (u29.2 179 (by decide)).trans g317
  have g319 := (u30.2 179 (by decide)).trans g318
  have g320 := (u31.2 179 (by decide)).trans g319
  have g321 := (u32.2 179 (by decide)).trans g320
  have g322 := (u33.2 179 (by decide)).trans g321
  have g323 := (u34.2 179 (by decide)).trans g322
  have g324 := (u35.2 179 (by decide)).trans g323
  have g325 := (u36.2 179 (by decide)).trans g324
  have g326 := (u37.2 179 (by decide)).trans g325
  have g327 := (u38.2 179 (by decide)).trans g326
  have g328 := (u39.2 179 (by decide)).trans g327
  have g329 := (u40.2 179 (by decide)).trans g328
  have g330 := (u41.2 179 (by decide)).trans g329
  have g331 := (u42.2 179 (by decide)).trans g330
  refine rq_iast1 i_98_19 g331 (by decide) (fun L43 u43 => ?_)
  refine rq_loc i_98_20 rfl rfl ?_
  have g332 := (u43.2 174 (by decide)).trans g289
  refine rq_getf i_98_21 f_98_90 g332 rfl ?_
  refine rq_loc i_98_24 rfl rfl ?_
  refine rq_getf i_98_25 f_98_418 g332 rfl ?_
  refine rq_loc i_98_28 rfl rfl ?_
  have g333 := (u1.2 180 (by decide)).trans c180
  have g334 := (u2.2 180 (by decide)).trans g333
  have g335 := (u3.2 180 (by decide)).trans g334
  have g336 := (u4.2 180 (by decide)).trans g335
  have g337 := (u5.2 180 (by decide)).trans g336
  have g338 := (u6.2 180 (by decide)).trans g337
  have g339 := (u7.2 180 (by decide)).trans g338
  have g340 := (u8.2 180 (by decide)).trans g339
  have g341 := (u9.2 180 (by decide)).trans g340
  have g342 := (u10.2 180 (by decide)).trans g341
  have g343 := (u11.2 180 (by decide)).trans g342
  have g344 := (u12.2 180 (by decide)).trans g343
  have g345 := (u13.2 180 (by decide)).trans g344
  have g346 := (u14.2 180 (by decide)).trans g345
  have g347 := (u15.2 180 (by decide)).trans g346
  have g348 := (u16.2 180 (by decide)).trans g347
  have g349 := (u17.2 180 (by decide)).trans g348
  have g350 := (u18.2 180 (by decide)).trans g349
  have g351 := (u19.2 180 (by decide)).trans g350
  have g352 := (u20.2 180 (by decide)).trans g351
  have g353 := (u21.2 180 (by decide)).trans g352
  have g354 := (u22.2 180 (by decide)).trans g353
  have g355 := (u23.2 180 (by decide)).trans g354
  have g356 := (u24.2 180 (by decide)).trans g355
  have g357 := (u25.2 180 (by decide)).trans g356
  have g358 := (u26.2 180 (by decide)).trans g357
  have g359 := (u27.2 180 (by decide)).trans g358
  have g360 := (u28.2 180 (by decide)).trans g359
  have g361 := (u29.2 180 (by decide)).trans g360
  have g362 := (u30.2 180 (by decide)).trans g361
  have g363 := (u31.2 180 (by decide)).trans g362
  have g364 := (u32.2 180 (by decide)).trans g363
  have g365 := (u33.2 180 (by decide)).trans g364
  have g366 := (u34.2 180 (by decide)).trans g365
  have g367 := (u35.2 180 (by decide)).trans g366
  have g368 := (u36.2 180 (by decide)).trans g367
  have g369 := (u37.2 180 (by decide)).trans g368
  have g370 := (u38.2 180 (by decide)).trans g369
  have g371 := (u39.2 180 (by decide)).trans g370
  have g372 := (u40.2 180 (by decide)).trans g371
  have g373 := (u41.2 180 (by decide)).trans g372
  have g374 := (u42.2 180 (by decide)).trans g373
  have g375 := (u43.2 180 (by decide)).trans g374
  refine rq_last1 i_98_29 g375 (by decide) (fun L44 u44 => ?_)
  refine rq_loc i_98_30 rfl rfl ?_
  refine rq_pure i_98_31 rfl ?_
  have g376 := (u44.2 174 (by decide)).trans g332
  refine rq_getf i_98_32 f_98_418 g376 rfl ?_
  refine rq_pure i_98_35 rfl ?_
  refine rq_topi (v := 1) (by decide) ?_
  refine rq_pure i_98_36 rfl ?_
  refine rq_topi (v := 1) (by decide) ?_
  refine rq_putf1 i_98_37 p_98_418 g376 rfl rfl rfl (fun L45 u45 => ?_)
  refine rq_vret i_98_40 r_98 ?_
  refine rq_back0 ?_
  refine rq_vret i_99_426 r_99 ?_
  refine rq_back0 ?_
  refine rq_loc i_106_39 rfl rfl ?_
  refine rq_getf i_106_40 f_106_409 u45.1 rfl ?_
  refine rq_ifne (tg := 50) i_106_43 ⟨by decide, by decide⟩ (fun q => absurd q (by decide)) (fun _ => ?_)
  refine rq_loc i_106_46 rfl rfl ?_
  refine rq_V1 (c1 := 0) (s1 := 0) (cb := 0) (sb := 0) (F' := 2046) (Lo' := 83956) i_106_47 c_106_643 rfl (rz_isa u45.1 a_15_104) rfl rfl rfl ?_
  refine rq_loc i_104_0 rfl rfl ?_
  refine rq_pure i_104_1 rfl ?_
  refine rq_topi (v := 0) (by decide) ?_
  refine rq_putf1 i_104_2 p_104_471 u45.1 rfl rfl rfl (fun L46 u46 => ?_)
  refine rq_loc i_104_5 rfl rfl ?_
  refine rq_pure i_104_6 rfl ?_
  refine rq_topi (v := 0) (by decide) ?_
  refine rq_putf1 i_104_7 p_104_447 u46.1 rfl rfl rfl (fun L47 u47 => ?_)
  refine rq_loc i_104_10 rfl rfl ?_
  refine rq_pure i_104_11 rfl ?_
  refine rq_topi (v := 0) (by decide) ?_
  refine rq_putf1 i_104_12 p_104_450 u47.1 rfl rfl rfl (fun L48 u48 => ?_)
  refine rq_loc i_104_15 rfl rfl ?_
  refine rq_pure i_104_16 rfl ?_
  refine rq_topi (v := 0) (by decide) ?_
  refine rq_putf1 i_104_17 p_104_453 u48.1 rfl rfl rfl (fun L49 u49 => ?_)
  refine rq_loc i_104_20 rfl rfl ?_
  refine rq_pure i_104_21 rfl ?_
  refine rq_topi (v := 0) (by decide) ?_
  refine rq_putf1 i_104_22 p_104_456 u49.1 rfl rfl rfl (fun L50 u50 => ?_)
  refine rq_pure i_104_25 rfl ?_
  refine rq_topi (v := 0) (by decide) ?_
  refine rq_loc i_104_26 rfl rfl ?_
  have g377 := (u1.2 222 (by decide)).trans c222
  have g378 := (u2.2 222 (by decide)).trans g377
  have g379 := (u3.2 222 (by decide)).trans g378
  have g380 := (u4.2 222 (by decide)).trans g379
  have g381 := (u5.2 222 (by decide)).trans g380
  have g382 := (u6.2 222 (by decide)).trans g381
  have g383 := (u7.2 222 (by decide)).trans g382
  have g384 := (u8.2 222 (by decide)).trans g383
  have g385 := (u9.2 222 (by decide)).trans g384
  have g386 := (u10.2 222 (by decide)).trans g385
  have g387 := (u11.2 222 (by decide)).trans g386
  have g388 := (u12.2 222 (by decide)).trans g387
  have g389 := (u13.2 222 (by decide)).trans g388
  have g390 := (u14.2 222 (by decide)).trans g389
  have g391 := (u15.2 222 (by decide)).trans g390
  have g392 := (u16.2 222 (by decide)).trans g391
  have g393 := (u17.2 222 (by decide)).trans g392
  have g394 := (u18.2 222 (by decide)).trans g393
  have g395 := (u19.2 222 (by decide)).trans g394
  have g396 := (u20.2 222 (by decide)).trans g395
  have g397 := (u21.2 222 (by decide)).trans g396
  have g398 := (u22.2 222 (by decide)).trans g397
  have g399 := (u23.2 222 (by decide)).trans g398
  have g400 := (u24.2 222 (by decide)).trans g399
  have g401 := (u25.2 222 (by decide)).trans g400
  have g402 := (u26.2 222 (by decide)).trans g401
  have g403 := (u27.2 222 (by decide)).trans g402
  have g404 := (u28.2 222 (by decide)).trans g403
  have g405 := (u29.2 222 (by decide)).trans g404
  have g406 := (u30.2 222 (by decide)).trans g405
  have g407 := (u31.2 222 (by decide)).trans g406
  have g408 := (u32.2 222 (by decide)).trans g407
  have g409 := (u33.2 222 (by decide)).trans g408
  have g410 := (u34.2 222 (by decide)).trans g409
  have g411 := (u35.2 222 (by decide)).trans g410
  have g412 := (u36.2 222 (by decide)).trans g411
  have g413 := (u37.2 222 (by decide)).trans g412
  have g414 := (u38.2 222 (by decide)).trans g413
  have g415 := (u39.2 222 (by decide)).trans g414
  have g416 := (u40.2 222 (by decide)).trans g415
  have g417 := (u41.2 222 (by decide)).trans g416
  have g418 := (u42.2 222 (by decide)).trans g417
  have g419 := (u43.2 222 (by decide)).trans g418
  have g420 := (u44.2 222 (by decide)).trans g419
  have g421 := (u45.2 222 (by decide)).trans g420
  have g422 := (u46.2 222 (by decide)).trans g421
  have g423 := (u47.2 222 (by decide)).trans g422
  have g424 := (u48.2 222 (by decide)).trans g423
  have g425 := (u49.2 222 (by decide)).trans g424
  have g426 := (u50.2 222 (by decide)).trans g425
  refine rp_loop (by decide) (by decide) rfl 1218 0 _ _ _ rfl u50.1 g426 rfl rfl (fun L51 lv51 u51 l427 => ?_)
  refine rq_aldn i_104_47 l427 ?_
  have g428 := (u51.2 174 (by decide)).trans u50.1
  refine rq_getf i_104_48 f_104_409 g428 rfl ?_
  refine rq_ifne (tg := 69) i_104_51 ⟨by decide, by decide⟩ (fun q => absurd q (by decide)) (fun _ => ?_)
  refine rq_aldn i_104_54 l427 ?_
  refine rq_pure i_104_55 rfl ?_
  refine rq_topi (v := 0) (by decide) ?_
  refine rq_V1 (c1 := 0) (s1 := 0) (cb := 0) (sb := 0) (F' := 2045) (Lo' := 83935) i_104_56 c_104_490 rfl (rz_isa g428 a_15_102) rfl rfl rfl ?_
  refine rq_loc i_102_0 rfl rfl ?_
  refine rq_getf i_102_1 f_102_409 g428 rfl ?_
  refine rq_ifne (tg := 15) i_102_4 ⟨by decide, by decide⟩ (fun q => absurd q (by decide)) (fun _ => ?_)
  refine rq_loc i_102_7 rfl rfl ?_
  refine rq_loc i_102_8 rfl rfl ?_
  refine rq_V1 (c1 := 0) (s1 := 0) (cb := 0) (sb := 0) (F' := 2044) (Lo' := 83914) i_102_9 c_102_474 rfl (rz_isa g428 a_15_100) rfl rfl rfl ?_
  refine rq_loc i_100_0 rfl rfl ?_
  refine rq_getf i_100_1 f_100_84 g428 rfl ?_
  refine rq_loc i_100_4 rfl rfl ?_
  refine rq_getf i_100_5 f_100_471 g428 rfl ?_
  have g429 := (u43.2 178 (by decide)).trans u42.1
  have g430 := (u44.2 178 (by decide)).trans g429
  have g431 := (u45.2 178 (by decide)).trans g430
  have g432 := (u46.2 178 (by decide)).trans g431
  have g433 := (u47.2 178 (by decide)).trans g432
  have g434 := (u48.2 178 (by decide)).trans g433
  have g435 := (u49.2 178 (by decide)).trans g434
  have g436 := (u50.2 178 (by decide)).trans g435
  have g437 := (u51.2 178 (by decide)).trans g436
  refine rq_iald i_100_8 g437 (by decide) ?_
  refine rq_topi (v := 5) rfl ?_
  refine rq_pure i_100_9 rfl ?_
  refine rq_topi (v := 4) (by decide) ?_
  refine rq_icne (tg := 32) i_100_10 ⟨by decide, by decide⟩ (fun _ => ?_) (fun q => absurd q (by decide))
  refine rq_pure i_100_32 rfl ?_
  refine rq_topi (v := 0) (by decide) ?_
  refine rq_iret i_100_33 r_100 rfl ?_
  refine rq_back1 ?_
  refine rq_ifne (tg := 17) i_102_12 ⟨by decide, by decide⟩ (fun q => absurd q (by decide)) (fun _ => ?_)
  refine rq_pure i_102_15 rfl ?_
  refine rq_topi (v := 0) (by decide) ?_
  refine rq_iret i_102_16 r_102 rfl ?_
  refine rq_back1 ?_
  refine rq_ifeq (tg := 69) i_104_59 ⟨by decide, by decide⟩ (fun _ => ?_) (fun q => absurd q (by decide))
  refine rq_aldn i_104_69 l427 ?_
  refine rq_getf i_104_70 f_104_409 g428 rfl ?_
  refine rq_ifne (tg := 91) i_104_73 ⟨by decide, by decide⟩ (fun q => absurd q (by decide)) (fun _ => ?_)
  refine rq_aldn i_104_76 l427 ?_
  refine rq_pure i_104_77 rfl ?_
  refine rq_topi (v := 1) (by decide) ?_
  refine rq_V1 (c1 := 0) (s1 := 0) (cb := 0) (sb := 0) (F' := 2045) (Lo' := 83935) i_104_78 c_104_490 rfl (rz_isa g428 a_15_102) rfl rfl rfl ?_
  refine rq_loc i_102_0 rfl rfl ?_
  refine rq_getf i_102_1 f_102_409 g428 rfl ?_
  refine rq_ifne (tg := 15) i_102_4 ⟨by decide, by decide⟩ (fun q => absurd q (by decide)) (fun _ => ?_)
  refine rq_loc i_102_7 rfl rfl ?_
  refine rq_loc i_102_8 rfl rfl ?_
  refine rq_V1 (c1 := 0) (s1 := 0) (cb := 0) (sb := 0) (F' := 2044) (Lo' := 83914) i_102_9 c_102_474 rfl (rz_isa g428 a_15_100) rfl rfl rfl ?_
  refine rq_loc i_100_0 rfl rfl ?_
  refine rq_getf i_100_1 f_100_84 g428 rfl ?_
  refine rq_loc i_100_4 rfl rfl ?_
  refine rq_getf i_100_5 f_100_471 g428 rfl ?_
  refine rq_iald i_100_8 g437 (by decide) ?_
  refine rq_topi (v := 5) rfl ?_
  refine rq_pure i_100_9 rfl ?_
  refine rq_topi (v := 4) (by decide) ?_
  refine rq_icne (tg := 32) i_100_10 ⟨by decide, by decide⟩ (fun _ => ?_) (fun q => absurd q (by decide))
  refine rq_pure i_100_32 rfl ?_
  refine rq_topi (v := 0) (by decide) ?_
  refine rq_iret i_100_33 r_100 rfl ?_
  refine rq_back1 ?_
  refine rq_ifne (tg := 17) i_102_12 ⟨by decide, by decide⟩ (fun q => absurd q (by decide)) (fun _ => ?_)
  refine rq_pure i_102_15 rfl ?_
  refine rq_topi (v := 0) (by decide) ?_
  refine rq_iret i_102_16 r_102 rfl ?_
  refine rq_back1 ?_
  refine rq_ifeq (tg := 91) i_104_81 ⟨by decide, by decide⟩ (fun _ => ?_) (fun q => absurd q (by decide))
  refine rq_aldn i_104_91 l427 ?_
  refine rq_getf i_104_92 f_104_409 g428 rfl ?_
  refine rq_ifne (tg := 114) i_104_95 ⟨by decide, by decide⟩ (fun q => absurd q (by decide)) (fun _ => ?_)
  refine rq_aldn i_104_98 l427 ?_
  refine rq_pure i_104_99 rfl ?_
  refine rq_topi (v := 6) (by decide) ?_
  refine rq_V1 (c1 := 0) (s1 := 0) (cb := 0) (sb := 0) (F' := 2045) (Lo' := 83935) i_104_101 c_104_490 rfl (rz_isa g428 a_15_102) rfl rfl rfl ?_
  refine rq_loc i_102_0 rfl rfl ?_
  refine rq_getf i_102_1 f_102_409 g428 rfl ?_
  refine rq_ifne (tg := 15) i_102_4 ⟨by decide, by decide⟩ (fun q => absurd q (by decide)) (fun _ => ?_)
  refine rq_loc i_102_7 rfl rfl ?_
  refine rq_loc i_102_8 rfl rfl ?_
  refine rq_V1 (c1 := 0) (s1 := 0) (cb := 0) (sb := 0) (F' := 2044) (Lo' := 83914) i_102_9 c_102_474 rfl (rz_isa g428 a_15_100) rfl rfl rfl ?_
  refine rq_loc i_100_0 rfl rfl ?_
  refine rq_getf i_100_1 f_100_84 g428 rfl ?_
  refine rq_loc i_100_4 rfl rfl ?_
  refine rq_getf i_100_5 f_100_471 g428 rfl ?_
  refine rq_iald i_100_8 g437 (by decide) ?_
  refine rq_topi (v := 5) rfl ?_
  refine rq_pure i_100_9 rfl ?_
  refine rq_topi (v := 4) (by decide) ?_
  refine rq_icne (tg := 32) i_100_10 ⟨by decide, by decide⟩ (fun _ => ?_) (fun q => absurd q (by decide))
  refine rq_pure i_100_32 rfl ?_
  refine rq_topi (v := 0) (by decide) ?_
  refine rq_iret i_100_33 r_100 rfl ?_
  refine rq_back1 ?_
  refine rq_ifne (tg := 17) i_102_12 ⟨by decide, by decide⟩ (fun q => absurd q (by decide)) (fun _ => ?_)
  refine rq_pure i_102_15 rfl ?_
  refine rq_topi (v := 0) (by decide) ?_
  refine rq_iret i_102_16 r_102 rfl ?_
  refine rq_back1 ?_
  refine rq_ifeq (tg := 114) i_104_104 ⟨by decide, by decide⟩ (fun _ => ?_) (fun q => absurd q (by decide))
  refine rq_aldn i_104_114 l427 ?_
  refine rq_getf i_104_115 f_104_409 g428 rfl ?_
  refine rq_ifne (tg := 133) i_104_118 ⟨by decide, by decide⟩ (fun q => absurd q (by decide)) (fun _ => ?_)
  refine rq_aldn i_104_121 l427 ?_
  refine rq_pure i_104_122 rfl ?_
  refine rq_topi (v := 2) (by decide) ?_
  refine rq_V1 (c1 := 0) (s1 := 0) (cb := 0) (sb := 0) (F' := 2045) (Lo' := 83935) i_104_123 c_104_474 rfl (rz_isa g428 a_15_100) rfl rfl rfl ?_
  refine rq_loc i_100_0 rfl rfl ?_
  refine rq_getf i_100_1 f_100_84 g428 rfl ?_
  refine rq_loc i_100_4 rfl rfl ?_
  refine rq_getf i_100_5 f_100_471 g428 rfl ?_
  refine rq_iald i_100_8 g437 (by decide) ?_
  refine rq_topi (v := 5) rfl ?_
  refine rq_pure i_100_9 rfl ?_
  refine rq_topi (v := 4) (by decide) ?_
  refine rq_icne (tg := 32) i_100_10 ⟨by decide, by decide⟩ (fun _ => ?_) (fun q => absurd q (by decide))
  refine rq_pure i_100_32 rfl ?_
  refine rq_topi (v := 0) (by decide) ?_
  refine rq_iret i_100_33 r_100 rfl ?_
  refine rq_back1 ?_
  refine rq_ifne (tg := 133) i_104_126 ⟨by decide, by decide⟩ (fun q => absurd q (by decide)) (fun _ => ?_)
  refine rq_aldn i_104_129 l427 ?_
  refine rq_V1 (c1 := 0) (s1 := 0) (cb := 0) (sb := 0) (F' := 2045) (Lo' := 83936) i_104_130 c_104_480 rfl (rz_isa g428 a_15_103) rfl rfl rfl ?_
  refine rq_loc i_103_0 rfl rfl ?_
  refine rq_pure i_103_1 rfl ?_
  refine rq_topi (v := 2) (by decide) ?_
  refine rq_loc i_103_2 rfl rfl ?_
  refine rq_getf i_103_3 f_103_87 g428 rfl ?_
  refine rq_loc i_103_6 rfl rfl ?_
  refine rq_getf i_103_7 f_103_471 g428 rfl ?_
  have g438 := (u44.2 179 (by decide)).trans u43.1
  have g439 := (u45.2 179 (by decide)).trans g438
  have g440 := (u46.2 179 (by decide)).trans g439
  have g441 := (u47.2 179 (by decide)).trans g440
  have g442 := (u48.2 179 (by decide)).trans g441
  have g443 := (u49.2 179 (by decide)).trans g442
  have g444 := (u50.2 179 (by decide)).trans g443
  have g445 := (u51.2 179 (by decide)).trans g444
  refine rq_iald i_103_10 g445 (by decide) ?_
  refine rq_topi (v := 0) rfl ?_
  refine rq_V1 (c1 := 0) (s1 := 0) (cb := 0) (sb := 0) (F' := 2044) (Lo' := 83914) i_103_11 c_103_432 rfl (rz_isa g428 a_15_97) rfl rfl rfl ?_
  refine rq_loc i_97_0 rfl rfl ?_
  refine rq_getf i_97_1 f_97_409 g428 rfl ?_
  refine rq_ifeq (tg := 8) i_97_4 ⟨by decide, by decide⟩ (fun _ => ?_) (fun q => absurd q (by decide))
  refine rq_loc i_97_8 rfl rfl ?_
  refine rq_pure i_97_9 rfl ?_
  refine rq_topi (v := 1) (by decide) ?_
  refine rq_putf1 i_97_10 p_97_409 g428 rfl rfl rfl (fun L52 u52 => ?_)
  refine rq_loc i_97_13 rfl rfl ?_
  refine rq_loc i_97_14 rfl rfl ?_
  refine rq_putf1 i_97_15 p_97_412 u52.1 rfl rfl rfl (fun L53 u53 => ?_)
  refine rq_loc i_97_18 rfl rfl ?_
  refine rq_loc i_97_19 rfl rfl ?_
  refine rq_putf1 i_97_20 p_97_415 u53.1 rfl rfl rfl (fun L54 u54 => ?_)
  refine rq_vret i_97_23 r_97 ?_
  refine rq_back0 ?_
  refine rq_vret i_103_14 r_103 ?_
  refine rq_back0 ?_
  refine rq_aldn i_104_133 l427 ?_
  refine rq_getf i_104_134 f_104_409 u54.1 rfl ?_
  refine rq_ifne (tg := 155) i_104_137 ⟨by decide, by decide⟩ (fun _ => ?_) (fun q => absurd q (by decide))
  refine rq_aldn i_104_155 l427 ?_
  refine rq_getf i_104_156 f_104_409 u54.1 rfl ?_
  refine rq_ifne (tg := 179) i_104_159 ⟨by decide, by decide⟩ (fun _ => ?_) (fun q => absurd q (by decide))
  refine rq_vret i_104_179 r_104 ?_
  refine rq_back0 ?_
  refine rq_loc i_106_50 rfl rfl ?_
  refine rq_getf i_106_51 f_106_409 u54.1 rfl ?_
  refine rq_ifne (tg := 61) i_106_54 ⟨by decide, by decide⟩ (fun _ => ?_) (fun q => absurd q (by decide))
  refine rq_pure i_106_61 rfl ?_
  refine rq_topi (v := 0) (by decide) ?_
  refine rq_loc i_106_62 rfl rfl ?_
  refine rq_loc i_106_63 rfl rfl ?_
  refine rq_pure i_106_64 rfl ?_
  refine rq_topi (v := 96) (by decide) ?_
  refine rq_icge (tg := 95) i_106_66 ⟨by decide, by decide⟩ (fun q => absurd q (by decide)) (fun _ => ?_)
  refine rq_loc i_106_69 rfl rfl ?_
  refine rq_getf i_106_70 f_106_409 u54.1 rfl ?_
  refine rq_ifne (tg := 95) i_106_73 ⟨by decide, by decide⟩ (fun _ => ?_) (fun q => absurd q (by decide))
  refine rq_loc i_106_95 rfl rfl ?_
  refine rq_loc i_106_96 rfl rfl ?_
  refine rq_getf i_106_97 f_106_409 u54.1 rfl ?_
  refine rq_ifeq (tg := 107) i_106_100 ⟨by decide, by decide⟩ (fun q => absurd q (by decide)) (fun _ => ?_)
  refine rq_pure i_106_103 rfl ?_
  refine rq_topi (v := 1) (by decide) ?_
  refine rq_goto (tg := 108) i_106_104 ⟨by decide, by decide⟩ ?_
  refine rq_putf1 i_106_108 p_106_356 u54.1 rfl rfl rfl (fun L55 u55 => ?_)
  refine rq_loc i_106_111 rfl rfl ?_
  refine rq_getf i_106_112 f_106_409 u55.1 rfl ?_
  refine rq_ifeq (tg := 120) i_106_115 ⟨by decide, by decide⟩ (fun q => absurd q (by decide)) (fun _ => ?_)
  refine rq_pure i_106_118 rfl ?_
  refine rq_topi (v := 0) (by decide) ?_
  refine rq_iret i_106_119 r_106 rfl ?_
  refine rq_back1 ?_
  refine rq_loc i_0_322 rfl rfl ?_
  refine rq_loc i_0_324 rfl rfl ?_
  refine rq_V1 (c1 := 0) (s1 := 0) (cb := 99) (sb := 994) (F' := 2047) (Lo' := 83980) i_0_325 c_0_50 rfl (rz_isa u55.1 a_15_92) rfl rfl rfl ?_
  refine rq_loc i_92_0 rfl rfl ?_
  refine rq_getf i_92_1 f_92_356 u55.1 rfl ?_
  refine rq_iret i_92_4 r_92 rfl ?_
  refine rq_back1 ?_
  refine rq_loc i_0_328 rfl rfl ?_
  refine rq_iceq (tg := 335) i_0_330 ⟨by decide, by decide⟩ (fun _ => ?_) (fun q => absurd q (by decide))
  refine rq_loc i_0_335 rfl rfl ?_
  refine rq_ifne (tg := 352) i_0_337 ⟨by decide, by decide⟩ (fun _ => ?_) (fun q => absurd q (by decide))
  refine rq_goto (tg := 1334) i_0_352 ⟨by decide, by decide⟩ ?_
  have g446 := (u1.2 rx_S (by decide)).trans hS
  have g447 := (u2.2 rx_S (by decide)).trans g446
  have g448 := (u3.2 rx_S (by decide)).trans g447
  have g449 := (u4.2 rx_S (by decide)).trans g448
  have g450 := (u5.2 rx_S (by decide)).trans g449
  have g451 := (u6.2 rx_S (by decide)).trans g450
  have g452 := (u7.2 rx_S (by decide)).trans g451
  have g453 := (u8.2 rx_S (by decide)).trans g452
  have g454 := (u9.2 rx_S (by decide)).trans g453
  have g455 := (u10.2 rx_S (by decide)).trans g454
  have g456 := (u11.2 rx_S (by decide)).trans g455
  have g457 := (u12.2 rx_S (by decide)).trans g456
  have g458 := (u13.2 rx_S (by decide)).trans g457
  have g459 := (u14.2 rx_S (by decide)).trans g458
  have g460 := (u15.2 rx_S (by decide)).trans g459
  have g461 := (u16.2 rx_S (by decide)).trans g460
  have g462 := (u17.2 rx_S (by decide)).trans g461
  have g463 := (u18.2 rx_S (by decide)).trans g462
  have g464 := (u19.2 rx_S (by decide)).trans g463
  have g465 := (u20.2 rx_S (by decide)).trans g464
  have g466 := (u21.2 rx_S (by decide)).trans g465
  have g467 := (u22.2 rx_S (by decide)).trans g466
  have g468 := (u23.2 rx_S (by decide)).trans g467
  have g469 := (u24.2 rx_S (by decide)).trans g468
  have g470 := (u25.2 rx_S (by decide)).trans g469
  have g471 := (u26.2 rx_S (by decide)).trans g470
  have g472 := (u27.2 rx_S (by decide)).trans g471
  have g473 := (u28.2 rx_S (by decide)).trans g472
  have g474 := (u29.2 rx_S (by decide)).trans g473
  have g475 := (u30.2 rx_S (by decide)).trans g474
  have g476 := (u31.2 rx_S (by decide)).trans g475
  have g477 := (u32.2 rx_S (by decide)).trans g476
  have g478 := (u33.2 rx_S (by decide)).trans g477
  have g479 := (u34.2 rx_S (by decide)).trans g478
  have g480 := (u35.2 rx_S (by decide)).trans g479
  have g481 := (u36.2 rx_S (by decide)).trans g480
  have g482 := (u37.2 rx_S (by decide)).trans g481
  have g483 := (u38.2 rx_S (by decide)).trans g482
  have g484 := (u39.2 rx_S (by decide)).trans g483
  have g485 := (u40.2 rx_S (by decide)).trans g484
  have g486 := (u41.2 rx_S (by decide)).trans g485
  have g487 := (u42.2 rx_S (by decide)).trans g486
  have g488 := (u43.2 rx_S (by decide)).trans g487
  have g489 := (u44.2 rx_S (by decide)).trans g488
  have g490 := (u45.2 rx_S (by decide)).trans g489
  have g491 := (u46.2 rx_S (by decide)).trans g490
  have g492 := (u47.2 rx_S (by decide)).trans g491
  have g493 := (u48.2 rx_S (by decide)).trans g492
  have g494 := (u49.2 rx_S (by decide)).trans g493
  have g495 := (u50.2 rx_S (by decide)).trans g494
  have g496 := (u51.2 rx_S (by decide)).trans g495
  have g497 := (u52.2 rx_S (by decide)).trans g496
  have g498 := (u53.2 rx_S (by decide)).trans g497
  have g499 := (u54.2 rx_S (by decide)).trans g498
  have g500 := (u55.2 rx_S (by decide)).trans g499
  exact p1_tail g500 rfl rfl
set_option maxRecDepth 8000 in
theorem p1c_run {xs : Nat → Int32} {fm : Value} {L : List va_E} (hL : rz_heap L rz_T0 = true) (hZ162 : rz_val L 162 12 [0, 0, 0, 0, 0, 0, 0, (-1), (-1), (-1), 0, 0] = true) : rq (rt_P (6, xs) fm) 0 2048 84000 100 1000 1246 p1_lv [] L p1_Q := by
  have c0 : L[0]? = some (.inr (14, [.ref 1, .ref 7, .ref 114, .ref 133, .ref 145, .ref 146, .ref 150, .ref 159, .ref 167, .ref 172])) := rz_obj hL (by decide +kernel)
  have c159 : L[159]? = some (.inr (11, [.ref 7, .ref 114, .ref 146, .ref 160, .ref 161, .int 0, .ref 162, .ref 163, .ref 164, .ref 165, .int 0, .ref 166, .int 0, .long 0, .long 0])) := rz_obj hL (by decide +kernel)
  obtain ⟨f162, c162, v162⟩ := rz_vals hZ162
  have c174 : L[174]? = some (.inr (15, [.int 0, .ref 175, .int 0, .ref 176, .int 0, .int 0, .ref 177, .int 0, .ref 178, .ref 179, .ref 180, .int 0, .int 0, .int 0, .int 0, .int 0, .ref 181, .ref 182, .ref 183, .ref 184, .ref 185, .ref 186, .ref 187, .ref 188, .int 0, .ref 189, .ref 190, .ref 191, .ref 192, .ref 193, .ref 194, .ref 195, .ref 196, .ref 197, .int 0, .ref 198, .ref 199, .int 0, .ref 200, .ref 201, .ref 202, .ref 203, .ref 204, .ref 205, .ref 206, .ref 207, .ref 208, .ref 209, .ref 210, .ref 211, .ref 212, .ref 213, .ref 214, .ref 215, .ref 216, .ref 217, .ref 218, .ref 219, .ref 220, .ref 221, .ref 222, .ref 223, .ref 224, .ref 225, .ref 226, .ref 227, .ref 228, .int 0, .long 0, .ref 229, .ref 230, .ref 231, .ref 232, .long 0, .int 0, .ref 233, .int 0, .int 0, .int 0, .long 0, .int 0, .int 0, .int 0, .ref 234, .ref 235, .ref 236, .ref 237, .ref 238, .ref 239, .ref 240, .int 0, .int 0, .ref 241, .ref 242, .ref 243, .ref 244, .ref 245, .int (-1), .ref 246, .ref 247, .ref 248, .int 0, .int 0, .ref 249, .int 0, .int 0, .int 0, .ref 250, .ref 251, .ref 252, .int 0, .int 0, .int 0, .int 0, .ref 253, .ref 254, .ref 255, .ref 256, .ref 257, .ref 258, .ref 259, .int 0, .ref 260, .int 0, .int 0, .int 0, .int 0, .int 0, .int 0, .int 0, .int 0, .int 0, .int 0, .int 0, .int 0, .ref 261, .ref 262, .ref 263, .ref 264, .ref 265])) := rz_obj hL (by decide +kernel)
  have hS : L[rx_S]? = none := p1_none hL
  refine rq_loc i_0_1246 rfl rfl ?_
  refine rq_loc i_0_1247 rfl rfl ?_
  refine rq_loc i_0_1248 rfl rfl ?_
  refine rq_pure i_0_1250 rfl ?_
  refine rq_topi (v := 1) (by decide) ?_
  refine rq_pure i_0_1251 rfl ?_
  refine rq_topi (v := 1) (by decide) ?_
  refine rq_sald1 (x := xs 1) i_0_1252 hS rfl (by decide) rfl ?_
  refine rq_V1 (c1 := 0) (s1 := 0) (cb := 100) (sb := 1000) (F' := 2047) (Lo' := 83979) i_0_1253 c_0_159 rfl (rz_isa c0 a_14_86) rfl rfl rfl ?_
  refine rq_loc i_86_0 rfl rfl ?_
  refine rq_getf i_86_1 f_86_69 c0 rfl ?_
  refine rq_loc i_86_4 rfl rfl ?_
  refine rq_V1 (c1 := 0) (s1 := 0) (cb := 0) (sb := 0) (F' := 2046) (Lo' := 83957) i_86_5 c_86_368 rfl (rz_isa c159 a_11_50) rfl rfl rfl ?_
  refine rq_loc i_50_0 rfl rfl ?_
  refine rq_iflt (tg := 10) i_50_1 ⟨by decide, by decide⟩ (fun h1 => ?_) (fun h1 => ?_)
  ·
    refine rq_pure i_50_10 rfl ?_
    refine rq_topi (v := (-1)) (by decide) ?_
    refine rq_iret i_50_11 r_50 rfl ?_
    refine rq_back1 ?_
    refine rq_iret i_86_8 r_86 rfl ?_
    refine rq_back1 ?_
    refine rq_loc i_0_1256 rfl rfl ?_
    refine rq_loc i_0_1257 rfl rfl ?_
    refine rq_loc i_0_1258 rfl rfl ?_
    refine rq_pure i_0_1260 rfl ?_
    refine rq_topi (v := 1) (by decide) ?_
    refine rq_pure i_0_1261 rfl ?_
    refine rq_topi (v := 1) (by decide) ?_
    refine rq_sald1 (x := xs 1) i_0_1262 hS rfl (by decide) rfl ?_
    refine rq_V1 (c1 := 0) (s1 := 0) (cb := 100) (sb := 1000) (F' := 2047) (Lo' := 83978) i_0_1263 c_0_162 rfl (rz_isa c174 a_15_141) rfl rfl rfl ?_
    refine rq_loc i_141_0 rfl rfl ?_
    refine rq_pure i_141_1 rfl ?_
    refine rq_topi (v := 0) (by decide) ?_
    refine rq_putf1 i_141_2 p_141_356 c174 rfl rfl rfl (fun L1 u1 => ?_)
    refine rq_loc i_141_5 rfl rfl ?_
    refine rq_iflt (tg := 15) i_141_6 ⟨by decide, by decide⟩ (fun _ => ?_) (fun q => absurd q (by intro q; simp only [Int32.lt_iff_toInt_lt, Int32.le_iff_toInt_le, Int32.not_lt, Int32.not_le, ← Int32.toInt_inj] at q h1; have e0 : (0 : Int32).toInt = 0 := (by decide); first | omega | (simp at q h1; omega)))
    refine rq_pure i_141_15 rfl ?_
    refine rq_topi (v := (-1)) (by decide) ?_
    refine rq_iret i_141_16 r_141 rfl ?_
    refine rq_back1 ?_
    refine rq_iceq (tg := 1334) i_0_1266 ⟨by decide, by decide⟩ (fun _ => ?_) (fun q => absurd q (by decide))
    have g2 := (u1.2 rx_S (by decide)).trans hS
    exact p1_tail g2 rfl rfl
  ·
    refine rq_loc i_50_4 rfl rfl ?_
    refine rq_pure i_50_5 rfl ?_
    refine rq_topi (v := 12) (by decide) ?_
    refine rq_iclt (tg := 12) i_50_7 ⟨by decide, by decide⟩ (fun h3 => ?_) (fun h3 => ?_)
    ·
      refine rq_loc i_50_12 rfl rfl ?_
      refine rq_getf i_50_13 f_50_18 c159 rfl ?_
      refine rq_pure i_50_16 rfl ?_
      refine rq_topi (v := 0) (by decide) ?_
      refine rq_iald i_50_17 c162 (by decide) ?_
      refine rq_topi (v := 0) ((v162 _ (by decide)).trans (by decide)) ?_
      refine rq_ifne (tg := 25) i_50_18 ⟨by decide, by decide⟩ (fun q => absurd q (by decide)) (fun _ => ?_)
      refine rq_pure i_50_21 rfl ?_
      refine rq_topi (v := 1) (by decide) ?_
      refine rq_goto (tg := 26) i_50_22 ⟨by decide, by decide⟩ ?_
      refine rq_loc i_50_26 rfl rfl ?_
      refine rq_loc i_50_27 rfl rfl ?_
      by_cases h4 : (xs 1) = 3
      ·
        refine rq_tsk (tg := 56) (off := 28) (v := 3) i_50_28 h4 (by decide) (by decide) ⟨by decide, by decide⟩ ?_
        refine rq_loc i_50_56 rfl rfl ?_
        refine rq_ifeq (tg := 64) i_50_57 ⟨by decide, by decide⟩ (fun q => absurd q (by decide)) (fun _ => ?_)
        refine rq_pure i_50_60 rfl ?_
        refine rq_topi (v := 0) (by decide) ?_
        refine rq_goto (tg := 82) i_50_61 ⟨by decide, by decide⟩ ?_
        refine rq_iret i_50_82 r_50 rfl ?_
        refine rq_back1 ?_
        refine rq_iret i_86_8 r_86 rfl ?_
        refine rq_back1 ?_
        refine rq_loc i_0_1256 rfl rfl ?_
        refine rq_loc i_0_1257 rfl rfl ?_
        refine rq_loc i_0_1258 rfl rfl ?_
        refine rq_pure i_0_1260 rfl ?_
        refine rq_topi (v := 1) (by decide) ?_
        refine rq_pure i_0_1261 rfl ?_
        refine rq_topi (v := 1) (by decide) ?_
        refine rq_sald1 (x := xs 1) i_0_1262 hS rfl (by decide) rfl ?_
        refine rq_V1 (c1 := 0) (s1 := 0) (cb := 100) (sb := 1000) (F' := 2047) (Lo' := 83978) i_0_1263 c_0_162 rfl (rz_isa c174 a_15_141) rfl rfl rfl ?_
        refine rq_loc i_141_0 rfl rfl ?_
        refine rq_pure i_141_1 rfl ?_
        refine rq_topi (v := 0) (by decide) ?_
        refine rq_putf1 i_141_2 p_141_356 c174 rfl rfl rfl (fun L1 u1 => ?_)
        refine rq_loc i_141_5 rfl rfl ?_
        refine rq_topi (v := 3) h4 ?_
        refine rq_iflt (tg := 15) i_141_6 ⟨by decide, by decide⟩ (fun q => absurd q (by decide)) (fun _ => ?_)
        refine rq_loc i_141_9 rfl rfl ?_
        refine rq_topi (v := 3) h4 ?_
        refine rq_pure i_141_10 rfl ?_
        refine rq_topi (v := 11) (by decide) ?_
        refine rq_icle (tg := 17) i_141_12 ⟨by decide, by decide⟩ (fun _ => ?_) (fun q => absurd q (by decide))
        refine rq_loc i_141_17 rfl rfl ?_
        refine rq_getf i_141_18 f_141_897 u1.1 rfl ?_
        refine rq_ifne (tg := 28) i_141_21 ⟨by decide, by decide⟩ (fun q => absurd q (by decide)) (fun _ => ?_)
        refine rq_pure i_141_24 rfl ?_
        refine rq_topi (v := 1) (by decide) ?_
        refine rq_goto (tg := 29) i_141_25 ⟨by decide, by decide⟩ ?_
        refine rq_loc i_141_29 rfl rfl ?_
        refine rq_loc i_141_30 rfl rfl ?_
        refine rq_topi (v := 3) h4 ?_
        refine rq_pure i_141_31 rfl ?_
        refine rq_topi (v := 7) (by decide) ?_
        refine rq_iclt (tg := 81) i_141_33 ⟨by decide, by decide⟩ (fun _ => ?_) (fun q => absurd q (by decide))
        refine rq_loc i_141_81 rfl rfl ?_
        refine rq_ifeq (tg := 87) i_141_82 ⟨by decide, by decide⟩ (fun q => absurd q (by decide)) (fun _ => ?_)
        refine rq_pure i_141_85 rfl ?_
        refine rq_topi (v := 0) (by decide) ?_
        refine rq_iret i_141_86 r_141 rfl ?_
        refine rq_back1 ?_
        refine rq_iceq (tg := 1334) i_0_1266 ⟨by decide, by decide⟩ (fun _ => ?_) (fun q => absurd q (by decide))
        have g5 := (u1.2 rx_S (by decide)).trans hS
        exact p1_tail g5 rfl rfl
      by_cases h6 : (xs 1) = 4
      ·
        refine rq_tsk (tg := 83) (off := 55) (v := 4) i_50_28 h6 (by decide) (by decide) ⟨by decide, by decide⟩ ?_
        refine rq_loc i_50_83 rfl rfl ?_
        refine rq_ifeq (tg := 91) i_50_84 ⟨by decide, by decide⟩ (fun q => absurd q (by decide)) (fun _ => ?_)
        refine rq_pure i_50_87 rfl ?_
        refine rq_topi (v := 0) (by decide) ?_
        refine rq_goto (tg := 102) i_50_88 ⟨by decide, by decide⟩ ?_
        refine rq_iret i_50_102 r_50 rfl ?_
        refine rq_back1 ?_
        refine rq_iret i_86_8 r_86 rfl ?_
        refine rq_back1 ?_
        refine rq_loc i_0_1256 rfl rfl ?_
        refine rq_loc i_0_1257 rfl rfl ?_
        refine rq_loc i_0_1258 rfl rfl ?_
        refine rq_pure i_0_1260 rfl ?_
        refine rq_topi (v := 1) (by decide) ?_
        refine rq_pure i_0_1261 rfl ?_
        refine rq_topi (v := 1) (by decide) ?_
        refine rq_sald1 (x := xs 1) i_0_1262 hS rfl (by decide) rfl ?_
        refine rq_V1 (c1 := 0) (s1 := 0) (cb := 100) (sb := 1000) (F' := 2047) (Lo' := 83978) i_0_1263 c_0_162 rfl (rz_isa c174 a_15_141) rfl rfl rfl ?_
        refine rq_loc i_141_0 rfl rfl ?_
        refine rq_pure i_141_1 rfl ?_
        refine rq_topi (v := 0) (by decide) ?_
        refine rq_putf1 i_141_2 p_141_356 c174 rfl rfl rfl (fun L1 u1 => ?_)
        refine rq_loc i_141_5 rfl rfl ?_
        refine rq_topi (v := 4) h6 ?_
        refine rq_iflt (tg := 15) i_141_6 ⟨by decide, by decide⟩ (fun q => absurd q (by decide)) (fun _ => ?_)
        refine rq_loc i_141_9 rfl rfl ?_
        refine rq_topi (v := 4) h6 ?_
        refine rq_pure i_141_10 rfl ?_
        refine rq_topi (v := 11) (by decide) ?_
        refine rq_icle (tg := 17) i_141_12 ⟨by decide, by decide⟩ (fun _ => ?_) (fun q => absurd q (by decide))
        refine rq_loc i_141_17 rfl rfl ?_
        refine rq_getf i_141_18 f_141_897 u1.1 rfl ?_
        refine rq_ifne (tg := 28) i_141_21 ⟨by decide, by decide⟩ (fun q => absurd q (by decide)) (fun _ => ?_)
        refine rq_pure i_141_24 rfl ?_
        refine rq_topi (v := 1) (by decide) ?_
        refine rq_goto (tg := 29) i_141_25 ⟨by decide, by decide⟩ ?_
        refine rq_loc i_141_29 rfl rfl ?_
        refine rq_loc i_141_30 rfl rfl ?_
        refine rq_topi (v := 4) h6 ?_
        refine rq_pure i_141_31 rfl ?_
        refine rq_topi (v := 7) (by decide) ?_
        refine rq_iclt (tg := 81) i_141_33 ⟨by decide, by decide⟩ (fun _ => ?_) (fun q => absurd q (by decide))
        refine rq_loc i_141_81 rfl rfl ?_
        refine rq_ifeq (tg := 87) i_141_82 ⟨by decide, by decide⟩ (fun q => absurd q (by decide)) (fun _ => ?_)
        refine rq_pure i_141_85 rfl ?_
        refine rq_topi (v := 0) (by decide) ?_
        refine rq_iret i_141_86 r_141 rfl ?_
        refine rq_back1 ?_
        refine rq_iceq (tg := 1334) i_0_1266 ⟨by decide, by decide⟩ (fun _ => ?_) (fun q => absurd q (by decide))
        have g7 := (u1.2 rx_S (by decide)).trans hS
        exact p1_tail g7 rfl rfl
      by_cases h8 : (xs 1) = 5
      ·
        refine rq_tsk (tg := 103) (off := 75) (v := 5) i_50_28 h8 (by decide) (by decide) ⟨by decide, by decide⟩ ?_
        refine rq_loc i_50_103 rfl rfl ?_
        refine rq_V1 (c1 := 0) (s1 := 0) (cb := 0) (sb := 0) (F' := 2045) (Lo' := 83937) i_50_104 c_50_114 rfl (rz_isa c159 a_11_49) rfl rfl rfl ?_
        refine rq_loc i_49_0 rfl rfl ?_
        refine rq_getf i_49_1 f_49_18 c159 rfl ?_
        refine rq_pure i_49_4 rfl ?_
        refine rq_topi (v := 0) (by decide) ?_
        refine rq_iald i_49_5 c162 (by decide) ?_
        refine rq_topi (v := 0) ((v162 _ (by decide)).trans (by decide)) ?_
        refine rq_pure i_49_6 rfl ?_
        refine rq_topi (v := 1) (by decide) ?_
        refine rq_icne (tg := 14) i_49_7 ⟨by decide, by decide⟩ (fun _ => ?_) (fun q => absurd q (by decide))
        refine rq_pure i_49_14 rfl ?_
        refine rq_topi (v := 0) (by decide) ?_
        refine rq_iret i_49_15 r_49 rfl ?_
        refine rq_back1 ?_
        refine rq_ifeq (tg := 117) i_50_107 ⟨by decide, by decide⟩ (fun _ => ?_) (fun q => absurd q (by decide))
        refine rq_pure i_50_117 rfl ?_
        refine rq_topi (v := 0) (by decide) ?_
        refine rq_iret i_50_118 r_50 rfl ?_
        refine rq_back1 ?_
        refine rq_iret i_86_8 r_86 rfl ?_
        refine rq_back1 ?_
        refine rq_loc i_0_1256 rfl rfl ?_
        refine rq_loc i_0_1257 rfl rfl ?_
        refine rq_loc i_0_1258 rfl rfl ?_
        refine rq_pure i_0_1260 rfl ?_
        refine rq_topi (v := 1) (by decide) ?_
        refine rq_pure i_0_1261 rfl ?_
        refine rq_topi (v := 1) (by decide) ?_
        refine rq_sald1 (x := xs 1) i_0_1262 hS rfl (by decide) rfl ?_
        refine rq_V1 (c1 := 0) (s1 := 0) (cb := 100) (sb := 1000) (F' := 2047) (Lo' := 83978) i_0_1263 c_0_162 rfl (rz_isa c174 a_15_141) rfl rfl rfl ?_
        refine rq_loc i_141_0 rfl rfl ?_
        refine rq_pure i_141_1 rfl ?_
        refine rq_topi (v := 0) (by decide) ?_
        refine rq_putf1 i_141_2 p_141_356 c174 rfl rfl rfl (fun L1 u1 => ?_)
        refine rq_loc i_141_5 rfl rfl ?_
        refine rq_topi (v := 5) h8 ?_
        refine rq_iflt (tg := 15) i_141_6 ⟨by decide, by decide⟩ (fun q => absurd q (by decide)) (fun _ => ?_)
        refine rq_loc i_141_9 rfl rfl ?_
        refine rq_topi (v := 5) h8 ?_
        refine rq_pure i_141_10 rfl ?_
        refine rq_topi (v := 11) (by decide) ?_
        refine rq_icle (tg := 17) i_141_12 ⟨by decide, by decide⟩ (fun _ => ?_) (fun q => absurd q (by decide))
        refine rq_loc i_141_17 rfl rfl ?_
        refine rq_getf i_141_18 f_141_897 u1.1 rfl ?_
        refine rq_ifne (tg := 28) i_141_21 ⟨by decide, by decide⟩ (fun q => absurd q (by decide)) (fun _ => ?_)
        refine rq_pure i_141_24 rfl ?_
        refine rq_topi (v := 1) (by decide) ?_
        refine rq_goto (tg := 29) i_141_25 ⟨by decide, by decide⟩ ?_
        refine rq_loc i_141_29 rfl rfl ?_
        refine rq_loc i_141_30 rfl rfl ?_
        refine rq_topi (v := 5) h8 ?_
        refine rq_pure i_141_31 rfl ?_
        refine rq_topi (v := 7) (by decide) ?_
        refine rq_iclt (tg := 81) i_141_33 ⟨by decide, by decide⟩ (fun _ => ?_) (fun q => absurd q (by decide))
        refine rq_loc i_141_81 rfl rfl ?_
        refine rq_ifeq (tg := 87) i_141_82 ⟨by decide, by decide⟩ (fun q => absurd q (by decide)) (fun _ => ?_)
        refine rq_pure i_141_85 rfl ?_
        refine rq_topi (v := 0) (by decide) ?_
        refine rq_iret i_141_86 r_141 rfl ?_
        refine rq_back1 ?_
        refine rq_iceq (tg := 1334) i_0_1266 ⟨by decide, by decide⟩ (fun _ => ?_) (fun q => absurd q (by decide))
        have g9 := (u1.2 rx_S (by decide)).trans hS
        exact p1_tail g9 rfl rfl
      refine rq_tsd (tg := 119) i_50_28 (rz_sw fun k k1 k2 => by
        have kk : k = 3 ∨ k = 4 ∨ k = 5 := by omega
        rcases kk with rfl | rfl | rfl
        · exact h4
        · exact h6
        · exact h8
        ) ⟨by decide, by decide⟩ ?_
      refine rq_loc i_50_119 rfl rfl ?_
      refine rq_getf i_50_120 f_50_18 c159 rfl ?_
      refine rq_loc i_50_123 rfl rfl ?_
      by_cases h10 : (xs 1) = 0
      ·
        refine rq_topi (v := 0) h10 ?_
        refine rq_iald i_50_124 c162 (by decide) ?_
        refine rq_topi (v := 0) ((v162 _ (by decide)).trans (by decide)) ?_
        refine rq_iret i_50_125 r_50 rfl ?_
        refine rq_back1 ?_
        refine rq_iret i_86_8 r_86 rfl ?_
        refine rq_back1 ?_
        refine rq_loc i_0_1256 rfl rfl ?_
        refine rq_loc i_0_1257 rfl rfl ?_
        refine rq_loc i_0_1258 rfl rfl ?_
        refine rq_pure i_0_1260 rfl ?_
        refine rq_topi (v := 1) (by decide) ?_
        refine rq_pure i_0_1261 rfl ?_
        refine rq_topi (v := 1) (by decide) ?_
        refine rq_sald1 (x := xs 1) i_0_1262 hS rfl (by decide) rfl ?_
        refine rq_V1 (c1 := 0) (s1 := 0) (cb := 100) (sb := 1000) (F' := 2047) (Lo' := 83978) i_0_1263 c_0_162 rfl (rz_isa c174 a_15_141) rfl rfl rfl ?_
        refine rq_loc i_141_0 rfl rfl ?_
        refine rq_pure i_141_1 rfl ?_
        refine rq_topi (v := 0) (by decide) ?_
        refine rq_putf1 i_141_2 p_141_356 c174 rfl rfl rfl (fun L1 u1 => ?_)
        refine rq_loc i_141_5 rfl rfl ?_
        refine rq_topi (v := 0) h10 ?_
        refine rq_iflt (tg := 15) i_141_6 ⟨by decide, by decide⟩ (fun q => absurd q (by decide)) (fun _ => ?_)
        refine rq_loc i_141_9 rfl rfl ?_
        refine rq_topi (v := 0) h10 ?_
        refine rq_pure i_141_10 rfl ?_
        refine rq_topi (v := 11) (by decide) ?_
        refine rq_icle (tg := 17) i_141_12 ⟨by decide, by decide⟩ (fun _ => ?_) (fun q => absurd q (by decide))
        refine rq_loc i_141_17 rfl rfl ?_
        refine rq_getf i_141_18 f_141_897 u1.1 rfl ?_
        refine rq_ifne (tg := 28) i_141_21 ⟨by decide, by decide⟩ (fun q => absurd q (by decide)) (fun _ => ?_)
        refine rq_pure i_141_24 rfl ?_
        refine rq_topi (v := 1) (by decide) ?_
        refine rq_goto (tg := 29) i_141_25 ⟨by decide, by decide⟩ ?_
        refine rq_loc i_141_29 rfl rfl ?_
        refine rq_loc i_141_30 rfl rfl ?_
        refine rq_topi (v := 0) h10 ?_
        refine rq_pure i_141_31 rfl ?_
        refine rq_topi (v := 7) (by decide) ?_
        refine rq_iclt (tg := 81) i_141_33 ⟨by decide, by decide⟩ (fun _ => ?_) (fun q => absurd q (by decide))
        refine rq_loc i_141_81 rfl rfl ?_
        refine rq_ifeq (tg := 87) i_141_82 ⟨by decide, by decide⟩ (fun q => absurd q (by decide)) (fun _ => ?_)
        refine rq_pure i_141_85 rfl ?_
        refine rq_topi (v := 0) (by decide) ?_
        refine rq_iret i_141_86 r_141 rfl ?_
        refine rq_back1 ?_
        refine rq_iceq (tg := 1334) i_0_1266 ⟨by decide, by decide⟩ (fun _ => ?_) (fun q => absurd q (by decide))
        have g11 := (u1.2 rx_S (by decide)).trans hS
        exact p1_tail g11 rfl rfl
      by_cases h12 : (xs 1) = 1
      ·
        refine rq_topi (v := 1) h12 ?_
        refine rq_iald i_50_124 c162 (by decide) ?_
        refine rq_topi (v := 0) ((v162 _ (by decide)).trans (by decide)) ?_
        refine rq_iret i_50_125 r_50 rfl ?_
        refine rq_back1 ?_
        refine rq_iret i_86_8 r_86 rfl ?_
        refine rq_back1 ?_
        refine rq_loc i_0_1256 rfl rfl ?_
        refine rq_loc i_0_1257 rfl rfl ?_
        refine rq_loc i_0_1258 rfl rfl ?_
        refine rq_pure i_0_1260 rfl ?_
        refine rq_topi (v := 1) (by decide) ?_
        refine rq_pure i_0_1261 rfl ?_
        refine rq_topi (v := 1) (by decide) ?_
        refine rq_sald1 (x := xs 1) i_0_1262 hS rfl (by decide) rfl ?_
        refine rq_V1 (c1 := 0) (s1 := 0) (cb := 100) (sb := 1000) (F' := 2047) (Lo' := 83978) i_0_1263 c_0_162 rfl (rz_isa c174 a_15_141) rfl rfl rfl ?_
        refine rq_loc i_141_0 rfl rfl ?_
        refine rq_pure i_141_1 rfl ?_
        refine rq_topi (v := 0) (by decide) ?_
        refine rq_putf1 i_141_2 p_141_356 c174 rfl rfl rfl (fun L1 u1 => ?_)
        refine rq_loc i_141_5 rfl rfl ?_
        refine rq_topi (v := 1) h12 ?_
        refine rq_iflt (tg := 15) i_141_6 ⟨by decide, by decide⟩ (fun q => absurd q (by decide)) (fun _ => ?_)
        refine rq_loc i_141_9 rfl rfl ?_
        refine rq_topi (v := 1) h12 ?_
        refine rq_pure i_141_10 rfl ?_
        refine rq_topi (v := 11) (by decide) ?_
        refine rq_icle (tg := 17) i_141_12 ⟨by decide, by decide⟩ (fun _ => ?_) (fun q => absurd q (by decide))
        refine rq_loc i_141_17 rfl rfl ?_
        refine rq_getf i_141_18 f_141_897 u1.1 rfl ?_
        refine rq_ifne (tg := 28) i_141_21 ⟨by decide, by decide⟩ (fun q => absurd q (by decide)) (fun _ => ?_)
        refine rq_pure i_141_24 rfl ?_
        refine rq_topi (v := 1) (by decide) ?_
        refine rq_goto (tg := 29) i_141_25 ⟨by decide, by decide⟩ ?_
        refine rq_loc i_141_29 rfl rfl ?_
        refine rq_loc i_141_30 rfl rfl ?_
        refine rq_topi (v := 1) h12 ?_
        refine rq_pure i_141_31 rfl ?_
        refine rq_topi (v := 7) (by decide) ?_
        refine rq_iclt (tg := 81) i_141_33 ⟨by decide, by decide⟩ (fun _ => ?_) (fun q => absurd q (by decide))
        refine rq_loc i_141_81 rfl rfl ?_
        refine rq_ifeq (tg := 87) i_141_82 ⟨by decide, by decide⟩ (fun q => absurd q (by decide)) (fun _ => ?_)
        refine rq_pure i_141_85 rfl ?_
        refine rq_topi (v := 0) (by decide) ?_
        refine rq_iret i_141_86 r_141 rfl ?_
        refine rq_back1 ?_
        refine rq_iceq (tg := 1334) i_0_1266 ⟨by decide, by decide⟩ (fun _ => ?_) (fun q => absurd q (by decide))
        have g13 := (u1.2 rx_S (by decide)).trans hS
        exact p1_tail g13 rfl rfl
      by_cases h14 : (xs 1) = 2
      ·
        refine rq_topi (v := 2) h14 ?_
        refine rq_iald i_50_124 c162 (by decide) ?_
        refine rq_topi (v := 0) ((v162 _ (by decide)).trans (by decide)) ?_
        refine rq_iret i_50_125 r_50 rfl ?_
        refine rq_back1 ?_
        refine rq_iret i_86_8 r_86 rfl ?_
        refine rq_back1 ?_
        refine rq_loc i_0_1256 rfl rfl ?_
        refine rq_loc i_0_1257 rfl rfl ?_
        refine rq_loc i_0_1258 rfl rfl ?_
        refine rq_pure i_0_1260 rfl ?_
        refine rq_topi (v := 1) (by decide) ?_
        refine rq_pure i_0_1261 rfl ?_
        refine rq_topi (v := 1) (by decide) ?_
        refine rq_sald1 (x := xs 1) i_0_1262 hS rfl (by decide) rfl ?_
        refine rq_V1 (c1 := 0) (s1 := 0) (cb := 100) (sb := 1000) (F' := 2047) (Lo' := 83978) i_0_1263 c_0_162 rfl (rz_isa c174 a_15_141) rfl rfl rfl ?_
        refine rq_loc i_141_0 rfl rfl ?_
        refine rq_pure i_141_1 rfl ?_
        refine rq_topi (v := 0) (by decide) ?_
        refine rq_putf1 i_141_2 p_141_356 c174 rfl rfl rfl (fun L1 u1 => ?_)
        refine rq_loc i_141_5 rfl rfl ?_
        refine rq_topi (v := 2) h14 ?_
        refine rq_iflt (tg := 15) i_141_6 ⟨by decide, by decide⟩ (fun q => absurd q (by decide)) (fun _ => ?_)
        refine rq_loc i_141_9 rfl rfl ?_
        refine rq_topi (v := 2) h14 ?_
        refine rq_pure i_141_10 rfl ?_
        refine rq_topi (v := 11) (by decide) ?_
        refine rq_icle (tg := 17) i_141_12 ⟨by decide, by decide⟩ (fun _ => ?_) (fun q => absurd q (by decide))
        refine rq_loc i_141_17 rfl rfl ?_
        refine rq_getf i_141_18 f_141_897 u1.1 rfl ?_
        refine rq_ifne (tg := 28) i_141_21 ⟨by decide, by decide⟩ (fun q => absurd q (by decide)) (fun _ => ?_)
        refine rq_pure i_141_24 rfl ?_
        refine rq_topi (v := 1) (by decide) ?_
        refine rq_goto (tg := 29) i_141_25 ⟨by decide, by decide⟩ ?_
        refine rq_loc i_141_29 rfl rfl ?_
        refine rq_loc i_141_30 rfl rfl ?_
        refine rq_topi (v := 2) h14 ?_
        refine rq_pure i_141_31 rfl ?_
        refine rq_topi (v := 7) (by decide) ?_
        refine rq_iclt (tg := 81) i_141_33 ⟨by decide, by decide⟩ (fun _ => ?_) (fun q => absurd q (by decide))
        refine rq_loc i_141_81 rfl rfl ?_
        refine rq_ifeq (tg := 87) i_141_82 ⟨by decide, by decide⟩ (fun q => absurd q (by decide)) (fun _ => ?_)
        refine rq_pure i_141_85 rfl ?_
        refine rq_topi (v := 0) (by decide) ?_
        refine rq_iret i_141_86 r_141 rfl ?_
        refine rq_back1 ?_
        refine rq_iceq (tg := 1334) i_0_1266 ⟨by decide, by decide⟩ (fun _ => ?_) (fun q => absurd q (by decide))
        have g15 := (u1.2 rx_S (by decide)).trans hS
        exact p1_tail g15 rfl rfl
      by_cases h16 : (xs 1) = 6
      ·
        refine rq_topi (v := 6) h16 ?_
        refine rq_iald i_50_124 c162 (by decide) ?_
        refine rq_topi (v := 0) ((v162 _ (by decide)).trans (by decide)) ?_
        refine rq_iret i_50_125 r_50 rfl ?_
        refine rq_back1 ?_
        refine rq_iret i_86_8 r_86 rfl ?_
        refine rq_back1 ?_
        refine rq_loc i_0_1256 rfl rfl ?_
        refine rq_loc i_0_1257 rfl rfl ?_
        refine rq_loc i_0_1258 rfl rfl ?_
        refine rq_pure i_0_1260 rfl ?_
        refine rq_topi (v := 1) (by decide) ?_
        refine rq_pure i_0_1261 rfl ?_
        refine rq_topi (v := 1) (by decide) ?_
        refine rq_sald1 (x := xs 1) i_0_1262 hS rfl (by decide) rfl ?_
        refine rq_V1 (c1 := 0) (s1 := 0) (cb := 100) (sb := 1000) (F' := 2047) (Lo' := 83978) i_0_1263 c_0_162 rfl (rz_isa c174 a_15_141) rfl rfl rfl ?_
        refine rq_loc i_141_0 rfl rfl ?_
        refine rq_pure i_141_1 rfl ?_
        refine rq_topi (v := 0) (by decide) ?_
        refine rq_putf1 i_141_2 p_141_356 c174 rfl rfl rfl (fun L1 u1 => ?_)
        refine rq_loc i_141_5 rfl rfl ?_
        refine rq_topi (v := 6) h16 ?_
        refine rq_iflt (tg := 15) i_141_6 ⟨by decide, by decide⟩ (fun q => absurd q (by decide)) (fun _ => ?_)
        refine rq_loc i_141_9 rfl rfl ?_
        refine rq_topi (v := 6) h16 ?_
        refine rq_pure i_141_10 rfl ?_
        refine rq_topi (v := 11) (by decide) ?_
        refine rq_icle (tg := 17) i_141_12 ⟨by decide, by decide⟩ (fun _ => ?_) (fun q => absurd q (by decide))
        refine rq_loc i_141_17 rfl rfl ?_
        refine rq_getf i_141_18 f_141_897 u1.1 rfl ?_
        refine rq_ifne (tg := 28) i_141_21 ⟨by decide, by decide⟩ (fun q => absurd q (by decide)) (fun _ => ?_)
        refine rq_pure i_141_24 rfl ?_
        refine rq_topi (v := 1) (by decide) ?_
        refine rq_goto (tg := 29) i_141_25 ⟨by decide, by decide⟩ ?_
        refine rq_loc i_141_29 rfl rfl ?_
        refine rq_loc i_141_30 rfl rfl ?_
        refine rq_topi (v := 6) h16 ?_
        refine rq_pure i_141_31 rfl ?_
        refine rq_topi (v := 7) (by decide) ?_
        refine rq_iclt (tg := 81) i_141_33 ⟨by decide, by decide⟩ (fun _ => ?_) (fun q => absurd q (by decide))
        refine rq_loc i_141_81 rfl rfl ?_
        refine rq_ifeq (tg := 87) i_141_82 ⟨by decide, by decide⟩ (fun q => absurd q (by decide)) (fun _ => ?_)
        refine rq_pure i_141_85 rfl ?_
        refine rq_topi (v := 0) (by decide) ?_
        refine rq_iret i_141_86 r_141 rfl ?_
        refine rq_back1 ?_
        refine rq_iceq (tg := 1334) i_0_1266 ⟨by decide, by decide⟩ (fun _ => ?_) (fun q => absurd q (by decide))
        have g17 := (u1.2 rx_S (by decide)).trans hS
        exact p1_tail g17 rfl rfl
      by_cases h18 : (xs 1) = 7
      ·
        refine rq_topi (v := 7) h18 ?_
        refine rq_iald i_50_124 c162 (by decide) ?_
        refine rq_topi (v := (-1)) ((v162 _ (by decide)).trans (by decide)) ?_
        refine rq_iret i_50_125 r_50 rfl ?_
        refine rq_back1 ?_
        refine rq_iret i_86_8 r_86 rfl ?_
        refine rq_back1 ?_
        refine rq_loc i_0_1256 rfl rfl ?_
        refine rq_loc i_0_1257 rfl rfl ?_
        refine rq_loc i_0_1258 rfl rfl ?_
        refine rq_pure i_0_1260 rfl ?_
        refine rq_topi (v := 1) (by decide) ?_
        refine rq_pure i_0_1261 rfl ?_
        refine rq_topi (v := 1) (by decide) ?_
        refine rq_sald1 (x := xs 1) i_0_1262 hS rfl (by decide) rfl ?_
        refine rq_V1 (c1 := 0) (s1 := 0) (cb := 100) (sb := 1000) (F' := 2047) (Lo' := 83978) i_0_1263 c_0_162 rfl (rz_isa c174 a_15_141) rfl rfl rfl ?_
        refine rq_loc i_141_0 rfl rfl ?_
        refine rq_pure i_141_1 rfl ?_
        refine rq_topi (v := 0) (by decide) ?_
        refine rq_putf1 i_141_2 p_141_356 c174 rfl rfl rfl (fun L1 u1 => ?_)
        refine rq_loc i_141_5 rfl rfl ?_
        refine rq_topi (v := 7) h18 ?_
        refine rq_iflt (tg := 15) i_141_6 ⟨by decide, by decide⟩ (fun q => absurd q (by decide)) (fun _ => ?_)
        refine rq_loc i_141_9 rfl rfl ?_
        refine rq_topi (v := 7) h18 ?_
        refine rq_pure i_141_10 rfl ?_
        refine rq_topi (v := 11) (by decide) ?_
        refine rq_icle (tg := 17) i_141_12 ⟨by decide, by decide⟩ (fun _ => ?_) (fun q => absurd q (by decide))
        refine rq_loc i_141_17 rfl rfl ?_
        refine rq_getf i_141_18 f_141_897 u1.1 rfl ?_
        refine rq_ifne (tg := 28) i_141_21 ⟨by decide, by decide⟩ (fun q => absurd q (by decide)) (fun _ => ?_)
        refine rq_pure i_141_24 rfl ?_
        refine rq_topi (v := 1) (by decide) ?_
        refine rq_goto (tg := 29) i_141_25 ⟨by decide, by decide⟩ ?_
        refine rq_loc i_141_29 rfl rfl ?_
        refine rq_loc i_141_30 rfl rfl ?_
        refine rq_topi (v := 7) h18 ?_
        refine rq_pure i_141_31 rfl ?_
        refine rq_topi (v := 7) (by decide) ?_
        refine rq_iclt (tg := 81) i_141_33 ⟨by decide, by decide⟩ (fun q => absurd q (by decide)) (fun _ => ?_)
        refine rq_loc i_141_36 rfl rfl ?_
        refine rq_topi (v := 7) h18 ?_
        refine rq_pure i_141_37 rfl ?_
        refine rq_topi (v := 9) (by decide) ?_
        refine rq_icgt (tg := 81) i_141_39 ⟨by decide, by decide⟩ (fun q => absurd q (by decide)) (fun _ => ?_)
        refine rq_loc i_141_42 rfl rfl ?_
        refine rq_ifeq (tg := 50) i_141_43 ⟨by decide, by decide⟩ (fun q => absurd q (by decide)) (fun _ => ?_)
        refine rq_pure i_141_46 rfl ?_
        refine rq_topi (v := (-1)) (by decide) ?_
        refine rq_goto (tg := 80) i_141_47 ⟨by decide, by decide⟩ ?_
        refine rq_iret i_141_80 r_141 rfl ?_
        refine rq_back1 ?_
        refine rq_iceq (tg := 1334) i_0_1266 ⟨by decide, by decide⟩ (fun _ => ?_) (fun q => absurd q (by decide))
        have g19 := (u1.2 rx_S (by decide)).trans hS
        exact p1_tail g19 rfl rfl
      by_cases h20 : (xs 1) = 8
      ·
        refine rq_topi (v := 8) h20 ?_
        refine rq_iald i_50_124 c162 (by decide) ?_
        refine rq_topi (v := (-1)) ((v162 _ (by decide)).trans (by decide)) ?_
        refine rq_iret i_50_125 r_50 rfl ?_
        refine rq_back1 ?_
        refine rq_iret i_86_8 r_86 rfl ?_
        refine rq_back1 ?_
        refine rq_loc i_0_1256 rfl rfl ?_
        refine rq_loc i_0_1257 rfl rfl ?_
        refine rq_loc i_0_1258 rfl rfl ?_
        refine rq_pure i_0_1260 rfl ?_
        refine rq_topi (v := 1) (by decide) ?_
        refine rq_pure i_0_1261 rfl ?_
        refine rq_topi (v := 1) (by decide) ?_
        refine rq_sald1 (x := xs 1) i_0_1262 hS rfl (by decide) rfl ?_
        refine rq_V1 (c1 := 0) (s1 := 0) (cb := 100) (sb := 1000) (F' := 2047) (Lo' := 83978) i_0_1263 c_0_162 rfl (rz_isa c174 a_15_141) rfl rfl rfl ?_
        refine rq_loc i_141_0 rfl rfl ?_
        refine rq_pure i_141_1 rfl ?_
        refine rq_topi (v := 0) (by decide) ?_
        refine rq_putf1 i_141_2 p_141_356 c174 rfl rfl rfl (fun L1 u1 => ?_)
        refine rq_loc i_141_5 rfl rfl ?_
        refine rq_topi (v := 8) h20 ?_
        refine rq_iflt (tg := 15) i_141_6 ⟨by decide, by decide⟩ (fun q => absurd q (by decide)) (fun _ => ?_)
        refine rq_loc i_141_9 rfl rfl ?_
        refine rq_topi (v := 8) h20 ?_
        refine rq_pure i_141_10 rfl ?_
        refine rq_topi (v := 11) (by decide) ?_
        refine rq_icle (tg := 17) i_141_12 ⟨by decide, by decide⟩ (fun _ => ?_) (fun q => absurd q (by decide))
        refine rq_loc i_141_17 rfl rfl ?_
        refine rq_getf i_141_18 f_141_897 u1.1 rfl ?_
        refine rq_ifne (tg := 28) i_141_21 ⟨by decide, by decide⟩ (fun q => absurd q (by decide)) (fun _ => ?_)
        refine rq_pure i_141_24 rfl ?_
        refine rq_topi (v := 1) (by decide) ?_
        refine rq_goto (tg := 29) i_141_25 ⟨by decide, by decide⟩ ?_
        refine rq_loc i_141_29 rfl rfl ?_
        refine rq_loc i_141_30 rfl rfl ?_
        refine rq_topi (v := 8) h20 ?_
        refine rq_pure i_141_31 rfl ?_
        refine rq_topi (v := 7) (by decide) ?_
        refine rq_iclt (tg := 81) i_141_33 ⟨by decide, by decide⟩ (fun q => absurd q (by decide)) (fun _ => ?_)
        refine rq_loc i_141_36 rfl rfl ?_
        refine rq_topi (v := 8) h20 ?_
        refine rq_pure i_141_37 rfl ?_
        refine rq_topi (v := 9) (by decide) ?_
        refine rq_icgt (tg := 81) i_141_39 ⟨by decide, by decide⟩ (fun q => absurd q (by decide)) (fun _ => ?_)
        refine rq_loc i_141_42 rfl rfl ?_
        refine rq_ifeq (tg := 50) i_141_43 ⟨by decide, by decide⟩ (fun q => absurd q (by decide)) (fun _ => ?_)
        refine rq_pure i_141_46 rfl ?_
        refine rq_topi (v := (-1)) (by decide) ?_
        refine rq_goto (tg := 80) i_141_47 ⟨by decide, by decide⟩ ?_
        refine rq_iret i_141_80 r_141 rfl ?_
        refine rq_back1 ?_
        refine rq_iceq (tg := 1334) i_0_1266 ⟨by decide, by decide⟩ (fun _ => ?_) (fun q => absurd q (by decide))
        have g21 := (u1.2 rx_S (by decide)).trans hS
        exact p1_tail g21 rfl rfl
      by_cases h22 : (xs 1) = 9
      ·
        refine rq_topi (v := 9) h22 ?_
        refine rq_iald i_50_124 c162 (by decide) ?_
        refine rq_topi (v := (-1)) ((v162 _ (by decide)).trans (by decide)) ?_
        refine rq_iret i_50_125 r_50 rfl ?_
        refine rq_back1 ?_
        refine rq_iret i_86_8 r_86 rfl ?_
        refine rq_back1 ?_
        refine rq_loc i_0_1256 rfl rfl ?_
        refine rq_loc i_0_1257 rfl rfl ?_
        refine rq_loc i_0_1258 rfl rfl ?_
        refine rq_pure i_0_1260 rfl ?_
        refine rq_topi (v := 1) (by decide) ?_
        refine rq_pure i_0_1261 rfl ?_
        refine rq_topi (v := 1) (by decide) ?_
        refine rq_sald1 (x := xs 1) i_0_1262 hS rfl (by decide) rfl ?_
        refine rq_V1 (c1 := 0) (s1 := 0) (cb := 100) (sb := 1000) (F' := 2047) (Lo' := 83978) i_0_1263 c_0_162 rfl (rz_isa c174 a_15_141) rfl rfl rfl ?_
        refine rq_loc i_141_0 rfl rfl ?_
        refine rq_pure i_141_1 rfl ?_
        refine rq_topi (v := 0) (by decide) ?_
        refine rq_putf1 i_141_2 p_141_356 c174 rfl rfl rfl (fun L1 u1 => ?_)
        refine rq_loc i_141_5 rfl rfl ?_
        refine rq_topi (v := 9) h22 ?_
        refine rq_iflt (tg := 15) i_141_6 ⟨by decide, by decide⟩ (fun q => absurd q (by decide)) (fun _ => ?_)
        refine rq_loc i_141_9 rfl rfl ?_
        refine rq_topi (v := 9) h22 ?_
        refine rq_pure i_141_10 rfl ?_
        refine rq_topi (v := 11) (by decide) ?_
        refine rq_icle (tg := 17) i_141_12 ⟨by decide, by decide⟩ (fun _ => ?_) (fun q => absurd q (by decide))
        refine rq_loc i_141_17 rfl rfl ?_
        refine rq_getf i_141_18 f_141_897 u1.1 rfl ?_
        refine rq_ifne (tg := 28) i_141_21 ⟨by decide, by decide⟩ (fun q => absurd q (by decide)) (fun _ => ?_)
        refine rq_pure i_141_24 rfl ?_
        refine rq_topi (v := 1) (by decide) ?_
        refine rq_goto (tg := 29) i_141_25 ⟨by decide, by decide⟩ ?_
        refine rq_loc i_141_29 rfl rfl ?_
        refine rq_loc i_141_30 rfl rfl ?_
        refine rq_topi (v := 9) h22 ?_
        refine rq_pure i_141_31 rfl ?_
        refine rq_topi (v := 7) (by decide) ?_
        refine rq_iclt (tg := 81) i_141_33 ⟨by decide, by decide⟩ (fun q => absurd q (by decide)) (fun _ => ?_)
        refine rq_loc i_141_36 rfl rfl ?_
        refine rq_topi (v := 9) h22 ?_
        refine rq_pure i_141_37 rfl ?_
        refine rq_topi (v := 9) (by decide) ?_
        refine rq_icgt (tg := 81) i_141_39 ⟨by decide, by decide⟩ (fun q => absurd q (by decide)) (fun _ => ?_)
        refine rq_loc i_141_42 rfl rfl ?_
        refine rq_ifeq (tg := 50) i_141_43 ⟨by decide, by decide⟩ (fun q => absurd q (by decide)) (fun _ => ?_)
        refine rq_pure i_141_46 rfl ?_
        refine rq_topi (v := (-1)) (by decide) ?_
        refine rq_goto (tg := 80) i_141_47 ⟨by decide, by decide⟩ ?_
        refine rq_iret i_141_80 r_141 rfl ?_
        refine rq_back1 ?_
        refine rq_iceq (tg := 1334) i_0_1266 ⟨by decide, by decide⟩ (fun _ => ?_) (fun q => absurd q (by decide))
        have g23 := (u1.2 rx_S (by decide)).trans hS
        exact p1_tail g23 rfl rfl
      by_cases h24 : (xs 1) = 10
      ·
        refine rq_topi (v := 10) h24 ?_
        refine rq_iald i_50_124 c162 (by decide) ?_
        refine rq_topi (v := 0) ((v162 _ (by decide)).trans (by decide)) ?_
        refine rq_iret i_50_125 r_50 rfl ?_
        refine rq_back1 ?_
        refine rq_iret i_86_8 r_86 rfl ?_
        refine rq_back1 ?_
        refine rq_loc i_0_1256 rfl rfl ?_
        refine rq_loc i_0_1257 rfl rfl ?_
        refine rq_loc i_0_1258 rfl rfl ?_
        refine rq_pure i_0_1260 rfl ?_
        refine rq_topi (v := 1) (by decide) ?_
        refine rq_pure i_0_1261 rfl ?_
        refine rq_topi (v := 1) (by decide) ?_
        refine rq_sald1 (x := xs 1) i_0_1262 hS rfl (by decide) rfl ?_
        refine rq_V1 (c1 := 0) (s1 := 0) (cb := 100) (sb := 1000) (F' := 2047) (Lo' := 83978) i_0_1263 c_0_162 rfl (rz_isa c174 a_15_141) rfl rfl rfl ?_
        refine rq_loc i_141_0 rfl rfl ?_
        refine rq_pure i_141_1 rfl ?_
        refine rq_topi (v := 0) (by decide) ?_
        refine rq_putf1 i_141_2 p_141_356 c174 rfl rfl rfl (fun L1 u1 => ?_)
        refine rq_loc i_141_5 rfl rfl ?_
        refine rq_topi (v := 10) h24 ?_
        refine rq_iflt (tg := 15) i_141_6 ⟨by decide, by decide⟩ (fun q => absurd q (by decide)) (fun _ => ?_)
        refine rq_loc i_141_9 rfl rfl ?_
        refine rq_topi (v := 10) h24 ?_
        refine rq_pure i_141_10 rfl ?_
        refine rq_topi (v := 11) (by decide) ?_
        refine rq_icle (tg := 17) i_141_12 ⟨by decide, by decide⟩ (fun _ => ?_) (fun q => absurd q (by decide))
        refine rq_loc i_141_17 rfl rfl ?_
        refine rq_getf i_141_18 f_141_897 u1.1 rfl ?_
        refine rq_ifne (tg := 28) i_141_21 ⟨by decide, by decide⟩ (fun q => absurd q (by decide)) (fun _ => ?_)
        refine rq_pure i_141_24 rfl ?_
        refine rq_topi (v := 1) (by decide) ?_
        refine rq_goto (tg := 29) i_141_25 ⟨by decide, by decide⟩ ?_
        refine rq_loc i_141_29 rfl rfl ?_
        refine rq_loc i_141_30 rfl rfl ?_
        refine rq_topi (v := 10) h24 ?_
        refine rq_pure i_141_31 rfl ?_
        refine rq_topi (v := 7) (by decide) ?_
        refine rq_iclt (tg := 81) i_141_33 ⟨by decide, by decide⟩ (fun q => absurd q (by decide)) (fun _ => ?_)
        refine rq_loc i_141_36 rfl rfl ?_
        refine rq_topi (v := 10) h24 ?_
        refine rq_pure i_141_37 rfl ?_
        refine rq_topi (v := 9) (by decide) ?_
        refine rq_icgt (tg := 81) i_141_39 ⟨by decide, by decide⟩ (fun _ => ?_) (fun q => absurd q (by decide))
        refine rq_loc i_141_81 rfl rfl ?_
        refine rq_ifeq (tg := 87) i_141_82 ⟨by decide, by decide⟩ (fun q => absurd q (by decide)) (fun _ => ?_)
        refine rq_pure i_141_85 rfl ?_
        refine rq_topi (v := 0) (by decide) ?_
        refine rq_iret i_141_86 r_141 rfl ?_
        refine rq_back1 ?_
        refine rq_iceq (tg := 1334) i_0_1266 ⟨by decide, by decide⟩ (fun _ => ?_) (fun q => absurd q (by decide))
        have g25 := (u1.2 rx_S (by decide)).trans hS
        exact p1_tail g25 rfl rfl
      by_cases h26 : (xs 1) = 11
      ·
        refine rq_topi (v := 11) h26 ?_
        refine rq_iald i_50_124 c162 (by decide) ?_
        refine rq_topi (v := 0) ((v162 _ (by decide)).trans (by decide)) ?_
        refine rq_iret i_50_125 r_50 rfl ?_
        refine rq_back1 ?_
        refine rq_iret i_86_8 r_86 rfl ?_
        refine rq_back1 ?_
        refine rq_loc i_0_1256 rfl rfl ?_
        refine rq_loc i_0_1257 rfl rfl ?_
        refine rq_loc i_0_1258 rfl rfl ?_
        refine rq_pure i_0_1260 rfl ?_
        refine rq_topi (v := 1) (by decide) ?_
        refine rq_pure i_0_1261 rfl ?_
        refine rq_topi (v := 1) (by decide) ?_
        refine rq_sald1 (x := xs 1) i_0_1262 hS rfl (by decide) rfl ?_
        refine rq_V1 (c1 := 0) (s1 := 0) (cb := 100) (sb := 1000) (F' := 2047) (Lo' := 83978) i_0_1263 c_0_162 rfl (rz_isa c174 a_15_141) rfl rfl rfl ?_
        refine rq_loc i_141_0 rfl rfl ?_
        refine rq_pure i_141_1 rfl ?_
        refine rq_topi (v := 0) (by decide) ?_
        refine rq_putf1 i_141_2 p_141_356 c174 rfl rfl rfl (fun L1 u1 => ?_)
        refine rq_loc i_141_5 rfl rfl ?_
        refine rq_topi (v := 11) h26 ?_
        refine rq_iflt (tg := 15) i_141_6 ⟨by decide, by decide⟩ (fun q => absurd q (by decide)) (fun _ => ?_)
        refine rq_loc i_141_9 rfl rfl ?_
        refine rq_topi (v := 11) h26 ?_
        refine rq_pure i_141_10 rfl ?_
        refine rq_topi (v := 11) (by decide) ?_
        refine rq_icle (tg := 17) i_141_12 ⟨by decide, by decide⟩ (fun _ => ?_) (fun q => absurd q (by decide))
        refine rq_loc i_141_17 rfl rfl ?_
        refine rq_getf i_141_18 f_141_897 u1.1 rfl ?_
        refine rq_ifne (tg := 28) i_141_21 ⟨by decide, by decide⟩ (fun q => absurd q (by decide)) (fun _ => ?_)
        refine rq_pure i_141_24 rfl ?_
        refine rq_topi (v := 1) (by decide) ?_
        refine rq_goto (tg := 29) i_141_25 ⟨by decide, by decide⟩ ?_
        refine rq_loc i_141_29 rfl rfl ?_
        refine rq_loc i_141_30 rfl rfl ?_
        refine rq_topi (v := 11) h26 ?_
        refine rq_pure i_141_31 rfl ?_
        refine rq_topi (v := 7) (by decide) ?_
        refine rq_iclt (tg := 81) i_141_33 ⟨by decide, by decide⟩ (fun q => absurd q (by decide)) (fun _ => ?_)
        refine rq_loc i_141_36 rfl rfl ?_
        refine rq_topi (v := 11) h26 ?_
        refine rq_pure i_141_37 rfl ?_
        refine rq_topi (v := 9) (by decide) ?_
        refine rq_icgt (tg := 81) i_141_39 ⟨by decide, by decide⟩ (fun _ => ?_) (fun q => absurd q (by decide))
        refine rq_loc i_141_81 rfl rfl ?_
        refine rq_ifeq (tg := 87) i_141_82 ⟨by decide, by decide⟩ (fun q => absurd q (by decide)) (fun _ => ?_)
        refine rq_pure i_141_85 rfl ?_
        refine rq_topi (v := 0) (by decide) ?_
        refine rq_iret i_141_86 r_141 rfl ?_
        refine rq_back1 ?_
        refine rq_iceq (tg := 1334) i_0_1266 ⟨by decide, by decide⟩ (fun _ => ?_) (fun q => absurd q (by decide))
        have g27 := (u1.2 rx_S (by decide)).trans hS
        exact p1_tail g27 rfl rfl
      refine (rz_out (n := 12) h1 h3 (by decide) (fun k k1 k2 => ?_)).elim
      have kk : k = 0 ∨ k = 1 ∨ k = 2 ∨ k = 3 ∨ k = 4 ∨ k = 5 ∨ k = 6 ∨ k = 7 ∨ k = 8 ∨ k = 9 ∨ k = 10 ∨ k = 11 := by omega
      rcases kk with rfl | rfl | rfl | rfl | rfl | rfl | rfl | rfl | rfl | rfl | rfl | rfl
      · exact h10
      · exact h12
      · exact h14
      · exact h4
      · exact h6
      · exact h8
      · exact h16
      · exact h18
      · exact h20
      · exact h22
      · exact h24
      · exact h26
    ·
      refine rq_pure i_50_10 rfl ?_
      refine rq_topi (v := (-1)) (by decide) ?_
      refine rq_iret i_50_11 r_50 rfl ?_
      refine rq_back1 ?_
      refine rq_iret i_86_8 r_86 rfl ?_
      refine rq_back1 ?_
      refine rq_loc i_0_1256 rfl rfl ?_
      refine rq_loc i_0_1257 rfl rfl ?_
      refine rq_loc i_0_1258 rfl rfl ?_
      refine rq_pure i_0_1260 rfl ?_
      refine rq_topi (v := 1) (by decide) ?_
      refine rq_pure i_0_1261 rfl ?_
      refine rq_topi (v := 1) (by decide) ?_
      refine rq_sald1 (x := xs 1) i_0_1262 hS rfl (by decide) rfl ?_
      refine rq_V1 (c1 := 0) (s1 := 0) (cb := 100) (sb := 1000) (F' := 2047) (Lo' := 83978) i_0_1263 c_0_162 rfl (rz_isa c174 a_15_141) rfl rfl rfl ?_
      refine rq_loc i_141_0 rfl rfl ?_
      refine rq_pure i_141_1 rfl ?_
      refine rq_topi (v := 0) (by decide) ?_
      refine rq_putf1 i_141_2 p_141_356 c174 rfl rfl rfl (fun L1 u1 => ?_)
      refine rq_loc i_141_5 rfl rfl ?_
      refine rq_iflt (tg := 15) i_141_6 ⟨by decide, by decide⟩ (fun q => absurd q (by intro q; simp only [Int32.lt_iff_toInt_lt, Int32.le_iff_toInt_le, Int32.not_lt, Int32.not_le, ← Int32.toInt_inj] at q h1 h3; have e0 : (0 : Int32).toInt = 0 := (by decide); first | omega | (simp at q h1 h3; omega))) (fun _ => ?_)
      refine rq_loc i_141_9 rfl rfl ?_
      refine rq_pure i_141_10 rfl ?_
      refine rq_topi (v := 11) (by decide) ?_
      refine rq_icle (tg := 17) i_141_12 ⟨by decide, by decide⟩ (fun q => absurd q (by intro q; simp only [Int32.lt_iff_toInt_lt, Int32.le_iff_toInt_le, Int32.not_lt, Int32.not_le, ← Int32.toInt_inj] at q h1 h3; have e0 : (0 : Int32).toInt = 0 := (by decide); first | omega | (simp at q h1 h3; omega))) (fun _ => ?_)
      refine rq_pure i_141_15 rfl ?_
      refine rq_topi (v := (-1)) (by decide) ?_
      refine rq_iret i_141_16 r_141 rfl ?_
      refine rq_back1 ?_
      refine rq_iceq (tg := 1334) i_0_1266 ⟨by decide, by decide⟩ (fun _ => ?_) (fun q => absurd q (by decide))
      have g28 := (u1.2 rx_S (by decide)).trans hS
      exact p1_tail g28 rfl rfl
