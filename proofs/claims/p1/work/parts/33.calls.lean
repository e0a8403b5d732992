/-! THE FIRST CALLS, the long ones: by wip/whole/sx.py -/
set_option maxRecDepth 8000 in
theorem p1c_feed {xs : Nat → Int32} {fm : Value} {L : List va_E} (hL : rz_heap L rz_T0 = true) : rq (rt_P (6, xs) fm) 0 2048 84000 100 1000 188 p1_lv [] L p1_Q := by
  have c0 : L[0]? = some (.inr (14, [.ref 1, .ref 7, .ref 114, .ref 133, .ref 145, .ref 146, .ref 150, .ref 159, .ref 167, .ref 172])) := rz_obj hL (by decide +kernel)
  have c1 : L[1]? = some (.inr (3, [.ref 2, .int 0, .ref 3, .ref 4, .ref 5, .ref 6, .int 0, .int 0])) := rz_obj hL (by decide +kernel)
  have c174 : L[174]? = some (.inr (15, [.int 0, .ref 175, .int 0, .ref 176, .int 0, .int 0, .ref 177, .int 0, .ref 178, .ref 179, .ref 180, .int 0, .int 0, .int 0, .int 0, .int 0, .ref 181, .ref 182, .ref 183, .ref 184, .ref 185, .ref 186, .ref 187, .ref 188, .int 0, .ref 189, .ref 190, .ref 191, .ref 192, .ref 193, .ref 194, .ref 195, .ref 196, .ref 197, .int 0, .ref 198, .ref 199, .int 0, .ref 200, .ref 201, .ref 202, .ref 203, .ref 204, .ref 205, .ref 206, .ref 207, .ref 208, .ref 209, .ref 210, .ref 211, .ref 212, .ref 213, .ref 214, .ref 215, .ref 216, .ref 217, .ref 218, .ref 219, .ref 220, .ref 221, .ref 222, .ref 223, .ref 224, .ref 225, .ref 226, .ref 227, .ref 228, .int 0, .long 0, .ref 229, .ref 230, .ref 231, .ref 232, .long 0, .int 0, .ref 233, .int 0, .int 0, .int 0, .long 0, .int 0, .int 0, .int 0, .ref 234, .ref 235, .ref 236, .ref 237, .ref 238, .ref 239, .ref 240, .int 0, .int 0, .ref 241, .ref 242, .ref 243, .ref 244, .ref 245, .int (-1), .ref 246, .ref 247, .ref 248, .int 0, .int 0, .ref 249, .int 0, .int 0, .int 0, .ref 250, .ref 251, .ref 252, .int 0, .int 0, .int 0, .int 0, .ref 253, .ref 254, .ref 255, .ref 256, .ref 257, .ref 258, .ref 259, .int 0, .ref 260, .int 0, .int 0, .int 0, .int 0, .int 0, .int 0, .int 0, .int 0, .int 0, .int 0, .int 0, .int 0, .ref 261, .ref 262, .ref 263, .ref 264, .ref 265])) := rz_obj hL (by decide +kernel)
  obtain ⟨f175, c175⟩ := rz_arrI (a := 175) (t := 0) (n := 4000) hL (by decide +kernel) (by decide)
  obtain ⟨f2, c2⟩ := rz_arrI (a := 2) (t := 2) (n := 4000) hL (by decide +kernel) (by decide)
  have hS : L[rx_S]? = none := p1_none hL
  refine rq_loc i_0_188 rfl rfl ?_
  refine rq_loc i_0_189 rfl rfl ?_
  refine rq_loc i_0_190 rfl rfl ?_
  refine rq_pure i_0_192 rfl ?_
  refine rq_topi (v := 1) (by decide) ?_
  refine rq_pure i_0_193 rfl ?_
  refine rq_topi (v := 1) (by decide) ?_
  refine rq_sald1 (x := xs 1) i_0_194 hS rfl (by decide) rfl ?_
  refine rq_loc i_0_195 rfl rfl ?_
  refine rq_loc i_0_196 rfl rfl ?_
  refine rq_pure i_0_198 rfl ?_
  refine rq_topi (v := 2) (by decide) ?_
  refine rq_pure i_0_199 rfl ?_
  refine rq_topi (v := 2) (by decide) ?_
  refine rq_sald1 (x := xs 2) i_0_200 hS rfl (by decide) rfl ?_
  refine rq_loc i_0_201 rfl rfl ?_
  refine rq_loc i_0_202 rfl rfl ?_
  refine rq_pure i_0_204 rfl ?_
  refine rq_topi (v := 3) (by decide) ?_
  refine rq_pure i_0_205 rfl ?_
  refine rq_topi (v := 3) (by decide) ?_
  refine rq_sald1 (x := xs 3) i_0_206 hS rfl (by decide) rfl ?_
  refine rq_loc i_0_207 rfl rfl ?_
  refine rq_loc i_0_208 rfl rfl ?_
  refine rq_pure i_0_210 rfl ?_
  refine rq_topi (v := 4) (by decide) ?_
  refine rq_pure i_0_211 rfl ?_
  refine rq_topi (v := 4) (by decide) ?_
  refine rq_sald1 (x := xs 4) i_0_212 hS rfl (by decide) rfl ?_
  refine rq_loc i_0_213 rfl rfl ?_
  refine rq_loc i_0_214 rfl rfl ?_
  refine rq_pure i_0_216 rfl ?_
  refine rq_topi (v := 5) (by decide) ?_
  refine rq_pure i_0_217 rfl ?_
  refine rq_topi (v := 5) (by decide) ?_
  refine rq_sald1 (x := xs 5) i_0_218 hS rfl (by decide) rfl ?_
  refine rq_V1 (c1 := 0) (s1 := 0) (cb := 100) (sb := 1000) (F' := 2047) (Lo' := 83975) i_0_219 c_0_31 rfl (rz_isa c0 a_14_56) rfl rfl rfl ?_
  refine rq_loc i_56_0 rfl rfl ?_
  refine rq_getf i_56_1 f_56_12 c0 rfl ?_
  refine rq_getf i_56_4 f_56_95 c1 rfl ?_
  refine rq_pure i_56_7 rfl ?_
  refine rq_topi (v := 20) (by decide) ?_
  refine rq_pure i_56_9 rfl ?_
  refine rq_topi (v := 20) (by decide) ?_
  refine rq_pure i_56_10 rfl ?_
  refine rq_topi (v := 4000) (by decide) ?_
  refine rq_icle (tg := 18) i_56_13 ⟨by decide, by decide⟩ (fun _ => ?_) (fun q => absurd q (by decide))
  refine rq_loc i_56_18 rfl rfl ?_
  refine rq_getf i_56_19 f_56_12 c0 rfl ?_
  refine rq_loc i_56_22 rfl rfl ?_
  refine rq_V1 (c1 := 0) (s1 := 0) (cb := 0) (sb := 0) (F' := 2046) (Lo' := 83953) i_56_23 c_56_99 rfl (rz_isa c1 a_3_24) rfl rfl rfl ?_
  refine rq_pure i_24_0 rfl ?_
  refine rq_topi (v := 24) (by decide) ?_
  refine rq_loc i_24_2 rfl rfl ?_
  refine rq_loc i_24_3 rfl rfl ?_
  refine rq_iflt (tg := 43) i_24_4 ⟨by decide, by decide⟩ (fun q => absurd q (by decide)) (fun _ => ?_)
  refine rq_loc i_24_7 rfl rfl ?_
  refine rq_getf i_24_8 f_24_41 c1 rfl ?_
  refine rq_pure i_24_11 rfl ?_
  refine rq_topi (v := 4000) (by decide) ?_
  refine rq_icge (tg := 43) i_24_14 ⟨by decide, by decide⟩ (fun q => absurd q (by decide)) (fun _ => ?_)
  refine rq_loc i_24_17 rfl rfl ?_
  refine rq_getf i_24_18 f_24_9 c1 rfl ?_
  refine rq_loc i_24_21 rfl rfl ?_
  refine rq_pure i_24_22 rfl ?_
  refine rq_getf i_24_23 f_24_41 c1 rfl ?_
  refine rq_pure i_24_26 rfl ?_
  refine rq_pure i_24_27 rfl ?_
  refine rq_topi (v := 1) (by decide) ?_
  refine rq_pure i_24_28 rfl ?_
  refine rq_topi (v := 1) (by decide) ?_
  refine rq_putf1 i_24_29 p_24_41 c1 rfl rfl rfl (fun L1 u1 => ?_)
  refine rq_loc i_24_32 rfl rfl ?_
  refine rq_loc i_24_33 rfl rfl ?_
  refine rq_pure i_24_34 rfl ?_
  refine rq_pure i_24_35 rfl ?_
  have g3 := (u1.2 2 (by decide)).trans c2
  refine rq_bast1 i_24_36 g3 (by decide) (fun L2 u2 => ?_)
  refine rq_loc i_24_37 rfl rfl ?_
  refine rq_goto (tg := 3) i_24_40 ⟨by decide, by decide⟩ ?_
  refine rq_loc i_24_3 rfl rfl ?_
  refine rq_topi (v := 16) (by decide) ?_
  refine rq_iflt (tg := 43) i_24_4 ⟨by decide, by decide⟩ (fun q => absurd q (by decide)) (fun _ => ?_)
  refine rq_loc i_24_7 rfl rfl ?_
  have g4 := (u2.2 1 (by decide)).trans u1.1
  refine rq_getf i_24_8 f_24_41 g4 rfl ?_
  refine rq_pure i_24_11 rfl ?_
  refine rq_topi (v := 4000) (by decide) ?_
  refine rq_icge (tg := 43) i_24_14 ⟨by decide, by decide⟩ (fun q => absurd q (by decide)) (fun _ => ?_)
  refine rq_loc i_24_17 rfl rfl ?_
  refine rq_getf i_24_18 f_24_9 g4 rfl ?_
  refine rq_loc i_24_21 rfl rfl ?_
  refine rq_pure i_24_22 rfl ?_
  refine rq_getf i_24_23 f_24_41 g4 rfl ?_
  refine rq_pure i_24_26 rfl ?_
  refine rq_pure i_24_27 rfl ?_
  refine rq_topi (v := 1) (by decide) ?_
  refine rq_pure i_24_28 rfl ?_
  refine rq_topi (v := 2) (by decide) ?_
  refine rq_putf1 i_24_29 p_24_41 g4 rfl rfl rfl (fun L3 u3 => ?_)
  refine rq_loc i_24_32 rfl rfl ?_
  refine rq_loc i_24_33 rfl rfl ?_
  refine rq_topi (v := 16) (by decide) ?_
  refine rq_pure i_24_34 rfl ?_
  refine rq_pure i_24_35 rfl ?_
  have g7 := (u3.2 2 (by decide)).trans u2.1
  refine rq_bast1 i_24_36 g7 (by decide) (fun L4 u4 => ?_)
  refine rq_loc i_24_37 rfl rfl ?_
  refine rq_goto (tg := 3) i_24_40 ⟨by decide, by decide⟩ ?_
  refine rq_loc i_24_3 rfl rfl ?_
  refine rq_topi (v := 8) (by decide) ?_
  refine rq_iflt (tg := 43) i_24_4 ⟨by decide, by decide⟩ (fun q => absurd q (by decide)) (fun _ => ?_)
  refine rq_loc i_24_7 rfl rfl ?_
  have g8 := (u4.2 1 (by decide)).trans u3.1
  refine rq_getf i_24_8 f_24_41 g8 rfl ?_
  refine rq_pure i_24_11 rfl ?_
  refine rq_topi (v := 4000) (by decide) ?_
  refine rq_icge (tg := 43) i_24_14 ⟨by decide, by decide⟩ (fun q => absurd q (by decide)) (fun _ => ?_)
  refine rq_loc i_24_17 rfl rfl ?_
  refine rq_getf i_24_18 f_24_9 g8 rfl ?_
  refine rq_loc i_24_21 rfl rfl ?_
  refine rq_pure i_24_22 rfl ?_
  refine rq_getf i_24_23 f_24_41 g8 rfl ?_
  refine rq_pure i_24_26 rfl ?_
  refine rq_pure i_24_27 rfl ?_
  refine rq_topi (v := 1) (by decide) ?_
  refine rq_pure i_24_28 rfl ?_
  refine rq_topi (v := 3) (by decide) ?_
  refine rq_putf1 i_24_29 p_24_41 g8 rfl rfl rfl (fun L5 u5 => ?_)
  refine rq_loc i_24_32 rfl rfl ?_
  refine rq_loc i_24_33 rfl rfl ?_
  refine rq_topi (v := 8) (by decide) ?_
  refine rq_pure i_24_34 rfl ?_
  refine rq_pure i_24_35 rfl ?_
  have g11 := (u5.2 2 (by decide)).trans u4.1
  refine rq_bast1 i_24_36 g11 (by decide) (fun L6 u6 => ?_)
  refine rq_loc i_24_37 rfl rfl ?_
  refine rq_goto (tg := 3) i_24_40 ⟨by decide, by decide⟩ ?_
  refine rq_loc i_24_3 rfl rfl ?_
  refine rq_topi (v := 0) (by decide) ?_
  refine rq_iflt (tg := 43) i_24_4 ⟨by decide, by decide⟩ (fun q => absurd q (by decide)) (fun _ => ?_)
  refine rq_loc i_24_7 rfl rfl ?_
  have g12 := (u6.2 1 (by decide)).trans u5.1
  refine rq_getf i_24_8 f_24_41 g12 rfl ?_
  refine rq_pure i_24_11 rfl ?_
  refine rq_topi (v := 4000) (by decide) ?_
  refine rq_icge (tg := 43) i_24_14 ⟨by decide, by decide⟩ (fun q => absurd q (by decide)) (fun _ => ?_)
  refine rq_loc i_24_17 rfl rfl ?_
  refine rq_getf i_24_18 f_24_9 g12 rfl ?_
  refine rq_loc i_24_21 rfl rfl ?_
  refine rq_pure i_24_22 rfl ?_
  refine rq_getf i_24_23 f_24_41 g12 rfl ?_
  refine rq_pure i_24_26 rfl ?_
  refine rq_pure i_24_27 rfl ?_
  refine rq_topi (v := 1) (by decide) ?_
  refine rq_pure i_24_28 rfl ?_
  refine rq_topi (v := 4) (by decide) ?_
  refine rq_putf1 i_24_29 p_24_41 g12 rfl rfl rfl (fun L7 u7 => ?_)
  refine rq_loc i_24_32 rfl rfl ?_
  refine rq_loc i_24_33 rfl rfl ?_
  refine rq_topi (v := 0) (by decide) ?_
  refine rq_pure i_24_34 rfl ?_
  refine rq_pure i_24_35 rfl ?_
  have g15 := (u7.2 2 (by decide)).trans u6.1
  refine rq_bast1 i_24_36 g15 (by decide) (fun L8 u8 => ?_)
  refine rq_loc i_24_37 rfl rfl ?_
  refine rq_goto (tg := 3) i_24_40 ⟨by decide, by decide⟩ ?_
  refine rq_loc i_24_3 rfl rfl ?_
  refine rq_topi (v := (-8)) (by decide) ?_
  refine rq_iflt (tg := 43) i_24_4 ⟨by decide, by decide⟩ (fun _ => ?_) (fun q => absurd q (by decide))
  refine rq_vret i_24_43 r_24 ?_
  refine rq_back0 ?_
  refine rq_loc i_56_26 rfl rfl ?_
  have g16 := (u1.2 0 (by decide)).trans c0
  have g17 := (u2.2 0 (by decide)).trans g16
  have g18 := (u3.2 0 (by decide)).trans g17
  have g19 := (u4.2 0 (by decide)).trans g18
  have g20 := (u5.2 0 (by decide)).trans g19
  have g21 := (u6.2 0 (by decide)).trans g20
  have g22 := (u7.2 0 (by decide)).trans g21
  have g23 := (u8.2 0 (by decide)).trans g22
  refine rq_getf i_56_27 f_56_12 g23 rfl ?_
  refine rq_loc i_56_30 rfl rfl ?_
  have g24 := (u8.2 1 (by decide)).trans u7.1
  refine rq_V1 (c1 := 0) (s1 := 0) (cb := 0) (sb := 0) (F' := 2046) (Lo' := 83953) i_56_31 c_56_99 rfl (rz_isa g24 a_3_24) rfl rfl rfl ?_
  refine rq_pure i_24_0 rfl ?_
  refine rq_topi (v := 24) (by decide) ?_
  refine rq_loc i_24_2 rfl rfl ?_
  refine rq_loc i_24_3 rfl rfl ?_
  refine rq_iflt (tg := 43) i_24_4 ⟨by decide, by decide⟩ (fun q => absurd q (by decide)) (fun _ => ?_)
  refine rq_loc i_24_7 rfl rfl ?_
  refine rq_getf i_24_8 f_24_41 g24 rfl ?_
  refine rq_pure i_24_11 rfl ?_
  refine rq_topi (v := 4000) (by decide) ?_
  refine rq_icge (tg := 43) i_24_14 ⟨by decide, by decide⟩ (fun q => absurd q (by decide)) (fun _ => ?_)
  refine rq_loc i_24_17 rfl rfl ?_
  refine rq_getf i_24_18 f_24_9 g24 rfl ?_
  refine rq_loc i_24_21 rfl rfl ?_
  refine rq_pure i_24_22 rfl ?_
  refine rq_getf i_24_23 f_24_41 g24 rfl ?_
  refine rq_pure i_24_26 rfl ?_
  refine rq_pure i_24_27 rfl ?_
  refine rq_topi (v := 1) (by decide) ?_
  refine rq_pure i_24_28 rfl ?_
  refine rq_topi (v := 5) (by decide) ?_
  refine rq_putf1 i_24_29 p_24_41 g24 rfl rfl rfl (fun L9 u9 => ?_)
  refine rq_loc i_24_32 rfl rfl ?_
  refine rq_loc i_24_33 rfl rfl ?_
  refine rq_pure i_24_34 rfl ?_
  refine rq_pure i_24_35 rfl ?_
  have g27 := (u9.2 2 (by decide)).trans u8.1
  refine rq_bast1 i_24_36 g27 (by decide) (fun L10 u10 => ?_)
  refine rq_loc i_24_37 rfl rfl ?_
  refine rq_goto (tg := 3) i_24_40 ⟨by decide, by decide⟩ ?_
  refine rq_loc i_24_3 rfl rfl ?_
  refine rq_topi (v := 16) (by decide) ?_
  refine rq_iflt (tg := 43) i_24_4 ⟨by decide, by decide⟩ (fun q => absurd q (by decide)) (fun _ => ?_)
  refine rq_loc i_24_7 rfl rfl ?_
  have g28 := (u10.2 1 (by decide)).trans u9.1
  refine rq_getf i_24_8 f_24_41 g28 rfl ?_
  refine rq_pure i_24_11 rfl ?_
  refine rq_topi (v := 4000) (by decide) ?_
  refine rq_icge (tg := 43) i_24_14 ⟨by decide, by decide⟩ (fun q => absurd q (by decide)) (fun _ => ?_)
  refine rq_loc i_24_17 rfl rfl ?_
  refine rq_getf i_24_18 f_24_9 g28 rfl ?_
  refine rq_loc i_24_21 rfl rfl ?_
  refine rq_pure i_24_22 rfl ?_
  refine rq_getf i_24_23 f_24_41 g28 rfl ?_
  refine rq_pure i_24_26 rfl ?_
  refine rq_pure i_24_27 rfl ?_
  refine rq_topi (v := 1) (by decide) ?_
  refine rq_pure i_24_28 rfl ?_
  refine rq_topi (v := 6) (by decide) ?_
  refine rq_putf1 i_24_29 p_24_41 g28 rfl rfl rfl (fun L11 u11 => ?_)
  refine rq_loc i_24_32 rfl rfl ?_
  refine rq_loc i_24_33 rfl rfl ?_
  refine rq_topi (v := 16) (by decide) ?_
  refine rq_pure i_24_34 rfl ?_
  refine rq_pure i_24_35 rfl ?_
  have g31 := (u11.2 2 (by decide)).trans u10.1
  refine rq_bast1 i_24_36 g31 (by decide) (fun L12 u12 => ?_)
  refine rq_loc i_24_37 rfl rfl ?_
  refine rq_goto (tg := 3) i_24_40 ⟨by decide, by decide⟩ ?_
  refine rq_loc i_24_3 rfl rfl ?_
  refine rq_topi (v := 8) (by decide) ?_
  refine rq_iflt (tg := 43) i_24_4 ⟨by decide, by decide⟩ (fun q => absurd q (by decide)) (fun _ => ?_)
  refine rq_loc i_24_7 rfl rfl ?_
  have g32 := (u12.2 1 (by decide)).trans u11.1
  refine rq_getf i_24_8 f_24_41 g32 rfl ?_
  refine rq_pure i_24_11 rfl ?_
  refine rq_topi (v := 4000) (by decide) ?_
  refine rq_icge (tg := 43) i_24_14 ⟨by decide, by decide⟩ (fun q => absurd q (by decide)) (fun _ => ?_)
  refine rq_loc i_24_17 rfl rfl ?_
  refine rq_getf i_24_18 f_24_9 g32 rfl ?_
  refine rq_loc i_24_21 rfl rfl ?_
  refine rq_pure i_24_22 rfl ?_
  refine rq_getf i_24_23 f_24_41 g32 rfl ?_
  refine rq_pure i_24_26 rfl ?_
  refine rq_pure i_24_27 rfl ?_
  refine rq_topi (v := 1) (by decide) ?_
  refine rq_pure i_24_28 rfl ?_
  refine rq_topi (v := 7) (by decide) ?_
  refine rq_putf1 i_24_29 p_24_41 g32 rfl rfl rfl (fun L13 u13 => ?_)
  refine rq_loc i_24_32 rfl rfl ?_
  refine rq_loc i_24_33 rfl rfl ?_
  refine rq_topi (v := 8) (by decide) ?_
  refine rq_pure i_24_34 rfl ?_
  refine rq_pure i_24_35 rfl ?_
  have g35 := (u13.2 2 (by decide)).trans u12.1
  refine rq_bast1 i_24_36 g35 (by decide) (fun L14 u14 => ?_)
  refine rq_loc i_24_37 rfl rfl ?_
  refine rq_goto (tg := 3) i_24_40 ⟨by decide, by decide⟩ ?_
  refine rq_loc i_24_3 rfl rfl ?_
  refine rq_topi (v := 0) (by decide) ?_
  refine rq_iflt (tg := 43) i_24_4 ⟨by decide, by decide⟩ (fun q => absurd q (by decide)) (fun _ => ?_)
  refine rq_loc i_24_7 rfl rfl ?_
  have g36 := (u14.2 1 (by decide)).trans u13.1
  refine rq_getf i_24_8 f_24_41 g36 rfl ?_
  refine rq_pure i_24_11 rfl ?_
  refine rq_topi (v := 4000) (by decide) ?_
  refine rq_icge (tg := 43) i_24_14 ⟨by decide, by decide⟩ (fun q => absurd q (by decide)) (fun _ => ?_)
  refine rq_loc i_24_17 rfl rfl ?_
  refine rq_getf i_24_18 f_24_9 g36 rfl ?_
  refine rq_loc i_24_21 rfl rfl ?_
  refine rq_pure i_24_22 rfl ?_
  refine rq_getf i_24_23 f_24_41 g36 rfl ?_
  refine rq_pure i_24_26 rfl ?_
  refine rq_pure i_24_27 rfl ?_
  refine rq_topi (v := 1) (by decide) ?_
  refine rq_pure i_24_28 rfl ?_
  refine rq_topi (v := 8) (by decide) ?_
  refine rq_putf1 i_24_29 p_24_41 g36 rfl rfl rfl (fun L15 u15 => ?_)
  refine rq_loc i_24_32 rfl rfl ?_
  refine rq_loc i_24_33 rfl rfl ?_
  refine rq_topi (v := 0) (by decide) ?_
  refine rq_pure i_24_34 rfl ?_
  refine rq_pure i_24_35 rfl ?_
  have g39 := (u15.2 2 (by decide)).trans u14.1
  refine rq_bast1 i_24_36 g39 (by decide) (fun L16 u16 => ?_)
  refine rq_loc i_24_37 rfl rfl ?_
  refine rq_goto (tg := 3) i_24_40 ⟨by decide, by decide⟩ ?_
  refine rq_loc i_24_3 rfl rfl ?_
  refine rq_topi (v := (-8)) (by decide) ?_
  refine rq_iflt (tg := 43) i_24_4 ⟨by decide, by decide⟩ (fun _ => ?_) (fun q => absurd q (by decide))
  refine rq_vret i_24_43 r_24 ?_
  refine rq_back0 ?_
  refine rq_loc i_56_34 rfl rfl ?_
  have g40 := (u9.2 0 (by decide)).trans g23
  have g41 := (u10.2 0 (by decide)).trans g40
  have g42 := (u11.2 0 (by decide)).trans g41
  have g43 := (u12.2 0 (by decide)).trans g42
  have g44 := (u13.2 0 (by decide)).trans g43
  have g45 := (u14.2 0 (by decide)).trans g44
  have g46 := (u15.2 0 (by decide)).trans g45
  have g47 := (u16.2 0 (by decide)).trans g46
  refine rq_getf i_56_35 f_56_12 g47 rfl ?_
  refine rq_loc i_56_38 rfl rfl ?_
  have g48 := (u16.2 1 (by decide)).trans u15.1
  refine rq_V1 (c1 := 0) (s1 := 0) (cb := 0) (sb := 0) (F' := 2046) (Lo' := 83953) i_56_39 c_56_99 rfl (rz_isa g48 a_3_24) rfl rfl rfl ?_
  refine rq_pure i_24_0 rfl ?_
  refine rq_topi (v := 24) (by decide) ?_
  refine rq_loc i_24_2 rfl rfl ?_
  refine rq_loc i_24_3 rfl rfl ?_
  refine rq_iflt (tg := 43) i_24_4 ⟨by decide, by decide⟩ (fun q => absurd q (by decide)) (fun _ => ?_)
  refine rq_loc i_24_7 rfl rfl ?_
  refine rq_getf i_24_8 f_24_41 g48 rfl ?_
  refine rq_pure i_24_11 rfl ?_
  refine rq_topi (v := 4000) (by decide) ?_
  refine rq_icge (tg := 43) i_24_14 ⟨by decide, by decide⟩ (fun q => absurd q (by decide)) (fun _ => ?_)
  refine rq_loc i_24_17 rfl rfl ?_
  refine rq_getf i_24_18 f_24_9 g48 rfl ?_
  refine rq_loc i_24_21 rfl rfl ?_
  refine rq_pure i_24_22 rfl ?_
  refine rq_getf i_24_23 f_24_41 g48 rfl ?_
  refine rq_pure i_24_26 rfl ?_
  refine rq_pure i_24_27 rfl ?_
  refine rq_topi (v := 1) (by decide) ?_
  refine rq_pure i_24_28 rfl ?_
  refine rq_topi (v := 9) (by decide) ?_
  refine rq_putf1 i_24_29 p_24_41 g48 rfl rfl rfl (fun L17 u17 => ?_)
  refine rq_loc i_24_32 rfl rfl ?_
  refine rq_loc i_24_33 rfl rfl ?_
  refine rq_pure i_24_34 rfl ?_
  refine rq_pure i_24_35 rfl ?_
  have g51 := (u17.2 2 (by decide)).trans u16.1
  refine rq_bast1 i_24_36 g51 (by decide) (fun L18 u18 => ?_)
  refine rq_loc i_24_37 rfl rfl ?_
  refine rq_goto (tg := 3) i_24_40 ⟨by decide, by decide⟩ ?_
  refine rq_loc i_24_3 rfl rfl ?_
  refine rq_topi (v := 16) (by decide) ?_
  refine rq_iflt (tg := 43) i_24_4 ⟨by decide, by decide⟩ (fun q => absurd q (by decide)) (fun _ => ?_)
  refine rq_loc i_24_7 rfl rfl ?_
  have g52 := (u18.2 1 (by decide)).trans u17.1
  refine rq_getf i_24_8 f_24_41 g52 rfl ?_
  refine rq_pure i_24_11 rfl ?_
  refine rq_topi (v := 4000) (by decide) ?_
  refine rq_icge (tg := 43) i_24_14 ⟨by decide, by decide⟩ (fun q => absurd q (by decide)) (fun _ => ?_)
  refine rq_loc i_24_17 rfl rfl ?_
  refine rq_getf i_24_18 f_24_9 g52 rfl ?_
  refine rq_loc i_24_21 rfl rfl ?_
  refine rq_pure i_24_22 rfl ?_
  refine rq_getf i_24_23 f_24_41 g52 rfl ?_
  refine rq_pure i_24_26 rfl ?_
  refine rq_pure i_24_27 rfl ?_
  refine rq_topi (v := 1) (by decide) ?_
  refine rq_pure i_24_28 rfl ?_
  refine rq_topi (v := 10) (by decide) ?_
  refine rq_putf1 i_24_29 p_24_41 g52 rfl rfl rfl (fun L19 u19 => ?_)
  refine rq_loc i_24_32 rfl rfl ?_
  refine rq_loc i_24_33 rfl rfl ?_
  refine rq_topi (v := 16) (by decide) ?_
  refine rq_pure i_24_34 rfl ?_
  refine rq_pure i_24_35 rfl ?_
  have g55 := (u19.2 2 (by decide)).trans u18.1
  refine rq_bast1 i_24_36 g55 (by decide) (fun L20 u20 => ?_)
  refine rq_loc i_24_37 rfl rfl ?_
  refine rq_goto (tg := 3) i_24_40 ⟨by decide, by decide⟩ ?_
  refine rq_loc i_24_3 rfl rfl ?_
  refine rq_topi (v := 8) (by decide) ?_
  refine rq_iflt (tg := 43) i_24_4 ⟨by decide, by decide⟩ (fun q => absurd q (by decide)) (fun _ => ?_)
  refine rq_loc i_24_7 rfl rfl ?_
  have g56 := (u20.2 1 (by decide)).trans u19.1
  refine rq_getf i_24_8 f_24_41 g56 rfl ?_
  refine rq_pure i_24_11 rfl ?_
  refine rq_topi (v := 4000) (by decide) ?_
  refine rq_icge (tg := 43) i_24_14 ⟨by decide, by decide⟩ (fun q => absurd q (by decide)) (fun _ => ?_)
  refine rq_loc i_24_17 rfl rfl ?_
  refine rq_getf i_24_18 f_24_9 g56 rfl ?_
  refine rq_loc i_24_21 rfl rfl ?_
  refine rq_pure i_24_22 rfl ?_
  refine rq_getf i_24_23 f_24_41 g56 rfl ?_
  refine rq_pure i_24_26 rfl ?_
  refine rq_pure i_24_27 rfl ?_
  refine rq_topi (v := 1) (by decide) ?_
  refine rq_pure i_24_28 rfl ?_
  refine rq_topi (v := 11) (by decide) ?_
  refine rq_putf1 i_24_29 p_24_41 g56 rfl rfl rfl (fun L21 u21 => ?_)
  refine rq_loc i_24_32 rfl rfl ?_
  refine rq_loc i_24_33 rfl rfl ?_
  refine rq_topi (v := 8) (by decide) ?_
  refine rq_pure i_24_34 rfl ?_
  refine rq_pure i_24_35 rfl ?_
  have g59 := (u21.2 2 (by decide)).trans u20.1
  refine rq_bast1 i_24_36 g59 (by decide) (fun L22 u22 => ?_)
  refine rq_loc i_24_37 rfl rfl ?_
  refine rq_goto (tg := 3) i_24_40 ⟨by decide, by decide⟩ ?_
  refine rq_loc i_24_3 rfl rfl ?_
  refine rq_topi (v := 0) (by decide) ?_
  refine rq_iflt (tg := 43) i_24_4 ⟨by decide, by decide⟩ (fun q => absurd q (by decide)) (fun _ => ?_)
  refine rq_loc i_24_7 rfl rfl ?_
  have g60 := (u22.2 1 (by decide)).trans u21.1
  refine rq_getf i_24_8 f_24_41 g60 rfl ?_
  refine rq_pure i_24_11 rfl ?_
  refine rq_topi (v := 4000) (by decide) ?_
  refine rq_icge (tg := 43) i_24_14 ⟨by decide, by decide⟩ (fun q => absurd q (by decide)) (fun _ => ?_)
  refine rq_loc i_24_17 rfl rfl ?_
  refine rq_getf i_24_18 f_24_9 g60 rfl ?_
  refine rq_loc i_24_21 rfl rfl ?_
  refine rq_pure i_24_22 rfl ?_
  refine rq_getf i_24_23 f_24_41 g60 rfl ?_
  refine rq_pure i_24_26 rfl ?_
  refine rq_pure i_24_27 rfl ?_
  refine rq_topi (v := 1) (by decide) ?_
  refine rq_pure i_24_28 rfl ?_
  refine rq_topi (v := 12) (by decide) ?_
  refine rq_putf1 i_24_29 p_24_41 g60 rfl rfl rfl (fun L23 u23 => ?_)
  refine rq_loc i_24_32 rfl rfl ?_
  refine rq_loc i_24_33 rfl rfl ?_
  refine rq_topi (v := 0) (by decide) ?_
  refine rq_pure i_24_34 rfl ?_
  refine rq_pure i_24_35 rfl ?_
  have g63 := (u23.2 2 (by decide)).trans u22.1
  refine rq_bast1 i_24_36 g63 (by decide) (fun L24 u24 => ?_)
  refine rq_loc i_24_37 rfl rfl ?_
  refine rq_goto (tg := 3) i_24_40 ⟨by decide, by decide⟩ ?_
  refine rq_loc i_24_3 rfl rfl ?_
  refine rq_topi (v := (-8)) (by decide) ?_
  refine rq_iflt (tg := 43) i_24_4 ⟨by decide, by decide⟩ (fun _ => ?_) (fun q => absurd q (by decide))
  refine rq_vret i_24_43 r_24 ?_
  refine rq_back0 ?_
  refine rq_loc i_56_42 rfl rfl ?_
  have g64 := (u17.2 0 (by decide)).trans g47
  have g65 := (u18.2 0 (by decide)).trans g64
  have g66 := (u19.2 0 (by decide)).trans g65
  have g67 := (u20.2 0 (by decide)).trans g66
  have g68 := (u21.2 0 (by decide)).trans g67
  have g69 := (u22.2 0 (by decide)).trans g68
  have g70 := (u23.2 0 (by decide)).trans g69
  have g71 := (u24.2 0 (by decide)).trans g70
  refine rq_getf i_56_43 f_56_12 g71 rfl ?_
  refine rq_loc i_56_46 rfl rfl ?_
  have g72 := (u24.2 1 (by decide)).trans u23.1
  refine rq_V1 (c1 := 0) (s1 := 0) (cb := 0) (sb := 0) (F' := 2046) (Lo' := 83953) i_56_48 c_56_99 rfl (rz_isa g72 a_3_24) rfl rfl rfl ?_
  refine rq_pure i_24_0 rfl ?_
  refine rq_topi (v := 24) (by decide) ?_
  refine rq_loc i_24_2 rfl rfl ?_
  refine rq_loc i_24_3 rfl rfl ?_
  refine rq_iflt (tg := 43) i_24_4 ⟨by decide, by decide⟩ (fun q => absurd q (by decide)) (fun _ => ?_)
  refine rq_loc i_24_7 rfl rfl ?_
  refine rq_getf i_24_8 f_24_41 g72 rfl ?_
  refine rq_pure i_24_11 rfl ?_
  refine rq_topi (v := 4000) (by decide) ?_
  refine rq_icge (tg := 43) i_24_14 ⟨by decide, by decide⟩ (fun q => absurd q (by decide)) (fun _ => ?_)
  refine rq_loc i_24_17 rfl rfl ?_
  refine rq_getf i_24_18 f_24_9 g72 rfl ?_
  refine rq_loc i_24_21 rfl rfl ?_
  refine rq_pure i_24_22 rfl ?_
  refine rq_getf i_24_23 f_24_41 g72 rfl ?_
  refine rq_pure i_24_26 rfl ?_
  refine rq_pure i_24_27 rfl ?_
  refine rq_topi (v := 1) (by decide) ?_
  refine rq_pure i_24_28 rfl ?_
  refine rq_topi (v := 13) (by decide) ?_
  refine rq_putf1 i_24_29 p_24_41 g72 rfl rfl rfl (fun L25 u25 => ?_)
  refine rq_loc i_24_32 rfl rfl ?_
  refine rq_loc i_24_33 rfl rfl ?_
  refine rq_pure i_24_34 rfl ?_
  refine rq_pure i_24_35 rfl ?_
  have g75 := (u25.2 2 (by decide)).trans u24.1
  refine rq_bast1 i_24_36 g75 (by decide) (fun L26 u26 => ?_)
  refine rq_loc i_24_37 rfl rfl ?_
  refine rq_goto (tg := 3) i_24_40 ⟨by decide, by decide⟩ ?_
  refine rq_loc i_24_3 rfl rfl ?_
  refine rq_topi (v := 16) (by decide) ?_
  refine rq_iflt (tg := 43) i_24_4 ⟨by decide, by decide⟩ (fun q => absurd q (by decide)) (fun _ => ?_)
  refine rq_loc i_24_7 rfl rfl ?_
  have g76 := (u26.2 1 (by decide)).trans u25.1
  refine rq_getf i_24_8 f_24_41 g76 rfl ?_
  refine rq_pure i_24_11 rfl ?_
  refine rq_topi (v := 4000) (by decide) ?_
  refine rq_icge (tg := 43) i_24_14 ⟨by decide, by decide⟩ (fun q => absurd q (by decide)) (fun _ => ?_)
  refine rq_loc i_24_17 rfl rfl ?_
  refine rq_getf i_24_18 f_24_9 g76 rfl ?_
  refine rq_loc i_24_21 rfl rfl ?_
  refine rq_pure i_24_22 rfl ?_
  refine rq_getf i_24_23 f_24_41 g76 rfl ?_
  refine rq_pure i_24_26 rfl ?_
  refine rq_pure i_24_27 rfl ?_
  refine rq_topi (v := 1) (by decide) ?_
  refine rq_pure i_24_28 rfl ?_
  refine rq_topi (v := 14) (by decide) ?_
  refine rq_putf1 i_24_29 p_24_41 g76 rfl rfl rfl (fun L27 u27 => ?_)
  refine rq_loc i_24_32 rfl rfl ?_
  refine rq_loc i_24_33 rfl rfl ?_
  refine rq_topi (v := 16) (by decide) ?_
  refine rq_pure i_24_34 rfl ?_
  refine rq_pure i_24_35 rfl ?_
  have g79 := (u27.2 2 (by decide)).trans u26.1
  refine rq_bast1 i_24_36 g79 (by decide) (fun L28 u28 => ?_)
  refine rq_loc i_24_37 rfl rfl ?_
  refine rq_goto (tg := 3) i_24_40 ⟨by decide, by decide⟩ ?_
  refine rq_loc i_24_3 rfl rfl ?_
  refine rq_topi (v := 8) (by decide) ?_
  refine rq_iflt (tg := 43) i_24_4 ⟨by decide, by decide⟩ (fun q => absurd q (by decide)) (fun _ => ?_)
  refine rq_loc i_24_7 rfl rfl ?_
  have g80 := (u28.2 1 (by decide)).trans u27.1
  refine rq_getf i_24_8 f_24_41 g80 rfl ?_
  refine rq_pure i_24_11 rfl ?_
  refine rq_topi (v := 4000) (by decide) ?_
  refine rq_icge (tg := 43) i_24_14 ⟨by decide, by decide⟩ (fun q => absurd q (by decide)) (fun _ => ?_)
  refine rq_loc i_24_17 rfl rfl ?_
  refine rq_getf i_24_18 f_24_9 g80 rfl ?_
  refine rq_loc i_24_21 rfl rfl ?_
  refine rq_pure i_24_22 rfl ?_
  refine rq_getf i_24_23 f_24_41 g80 rfl ?_
  refine rq_pure i_24_26 rfl ?_
  refine rq_pure i_24_27 rfl ?_
  refine rq_topi (v := 1) (by decide) ?_
  refine rq_pure i_24_28 rfl ?_
  refine rq_topi (v := 15) (by decide) ?_
  refine rq_putf1 i_24_29 p_24_41 g80 rfl rfl rfl (fun L29 u29 => ?_)
  refine rq_loc i_24_32 rfl rfl ?_
  refine rq_loc i_24_33 rfl rfl ?_
  refine rq_topi (v := 8) (by decide) ?_
  refine rq_pure i_24_34 rfl ?_
  refine rq_pure i_24_35 rfl ?_
  have g83 := (u29.2 2 (by decide)).trans u28.1
  refine rq_bast1 i_24_36 g83 (by decide) (fun L30 u30 => ?_)
  refine rq_loc i_24_37 rfl rfl ?_
  refine rq_goto (tg := 3) i_24_40 ⟨by decide, by decide⟩ ?_
  refine rq_loc i_24_3 rfl rfl ?_
  refine rq_topi (v := 0) (by decide) ?_
  refine rq_iflt (tg := 43) i_24_4 ⟨by decide, by decide⟩ (fun q => absurd q (by decide)) (fun _ => ?_)
  refine rq_loc i_24_7 rfl rfl ?_
  have g84 := (u30.2 1 (by decide)).trans u29.1
  refine rq_getf i_24_8 f_24_41 g84 rfl ?_
  refine rq_pure i_24_11 rfl ?_
  refine rq_topi (v := 4000) (by decide) ?_
  refine rq_icge (tg := 43) i_24_14 ⟨by decide, by decide⟩ (fun q => absurd q (by decide)) (fun _ => ?_)
  refine rq_loc i_24_17 rfl rfl ?_
  refine rq_getf i_24_18 f_24_9 g84 rfl ?_
  refine rq_loc i_24_21 rfl rfl ?_
  refine rq_pure i_24_22 rfl ?_
  refine rq_getf i_24_23 f_24_41 g84 rfl ?_
  refine rq_pure i_24_26 rfl ?_
  refine rq_pure i_24_27 rfl ?_
  refine rq_topi (v := 1) (by decide) ?_
  refine rq_pure i_24_28 rfl ?_
  refine rq_topi (v := 16) (by decide) ?_
  refine rq_putf1 i_24_29 p_24_41 g84 rfl rfl rfl (fun L31 u31 => ?_)
  refine rq_loc i_24_32 rfl rfl ?_
  refine rq_loc i_24_33 rfl rfl ?_
  refine rq_topi (v := 0) (by decide) ?_
  refine rq_pure i_24_34 rfl ?_
  refine rq_pure i_24_35 rfl ?_
  have g87 := (u31.2 2 (by decide)).trans u30.1
  refine rq_bast1 i_24_36 g87 (by decide) (fun L32 u32 => ?_)
  refine rq_loc i_24_37 rfl rfl ?_
  refine rq_goto (tg := 3) i_24_40 ⟨by decide, by decide⟩ ?_
  refine rq_loc i_24_3 rfl rfl ?_
  refine rq_topi (v := (-8)) (by decide) ?_
  refine rq_iflt (tg := 43) i_24_4 ⟨by decide, by decide⟩ (fun _ => ?_) (fun q => absurd q (by decide))
  refine rq_vret i_24_43 r_24 ?_
  refine rq_back0 ?_
  refine rq_loc i_56_51 rfl rfl ?_
  have g88 := (u25.2 0 (by decide)).trans g71
  have g89 := (u26.2 0 (by decide)).trans g88
  have g90 := (u27.2 0 (by decide)).trans g89
  have g91 := (u28.2 0 (by decide)).trans g90
  have g92 := (u29.2 0 (by decide)).trans g91
  have g93 := (u30.2 0 (by decide)).trans g92
  have g94 := (u31.2 0 (by decide)).trans g93
  have g95 := (u32.2 0 (by decide)).trans g94
  refine rq_getf i_56_52 f_56_12 g95 rfl ?_
  refine rq_loc i_56_55 rfl rfl ?_
  have g96 := (u32.2 1 (by decide)).trans u31.1
  refine rq_V1 (c1 := 0) (s1 := 0) (cb := 0) (sb := 0) (F' := 2046) (Lo' := 83953) i_56_57 c_56_99 rfl (rz_isa g96 a_3_24) rfl rfl rfl ?_
  refine rq_pure i_24_0 rfl ?_
  refine rq_topi (v := 24) (by decide) ?_
  refine rq_loc i_24_2 rfl rfl ?_
  refine rq_loc i_24_3 rfl rfl ?_
  refine rq_iflt (tg := 43) i_24_4 ⟨by decide, by decide⟩ (fun q => absurd q (by decide)) (fun _ => ?_)
  refine rq_loc i_24_7 rfl rfl ?_
  refine rq_getf i_24_8 f_24_41 g96 rfl ?_
  refine rq_pure i_24_11 rfl ?_
  refine rq_topi (v := 4000) (by decide) ?_
  refine rq_icge (tg := 43) i_24_14 ⟨by decide, by decide⟩ (fun q => absurd q (by decide)) (fun _ => ?_)
  refine rq_loc i_24_17 rfl rfl ?_
  refine rq_getf i_24_18 f_24_9 g96 rfl ?_
  refine rq_loc i_24_21 rfl rfl ?_
  refine rq_pure i_24_22 rfl ?_
  refine rq_getf i_24_23 f_24_41 g96 rfl ?_
  refine rq_pure i_24_26 rfl ?_
  refine rq_pure i_24_27 rfl ?_
  refine rq_topi (v := 1) (by decide) ?_
  refine rq_pure i_24_28 rfl ?_
  refine rq_topi (v := 17) (by decide) ?_
  refine rq_putf1 i_24_29 p_24_41 g96 rfl rfl rfl (fun L33 u33 => ?_)
  refine rq_loc i_24_32 rfl rfl ?_
  refine rq_loc i_24_33 rfl rfl ?_
  refine rq_pure i_24_34 rfl ?_
  refine rq_pure i_24_35 rfl ?_
  have g99 := (u33.2 2 (by decide)).trans u32.1
  refine rq_bast1 i_24_36 g99 (by decide) (fun L34 u34 => ?_)
  refine rq_loc i_24_37 rfl rfl ?_
  refine rq_goto (tg := 3) i_24_40 ⟨by decide, by decide⟩ ?_
  refine rq_loc i_24_3 rfl rfl ?_
  refine rq_topi (v := 16) (by decide) ?_
  refine rq_iflt (tg := 43) i_24_4 ⟨by decide, by decide⟩ (fun q => absurd q (by decide)) (fun _ => ?_)
  refine rq_loc i_24_7 rfl rfl ?_
  have g100 := (u34.2 1 (by decide)).trans u33.1
  refine rq_getf i_24_8 f_24_41 g100 rfl ?_
  refine rq_pure i_24_11 rfl ?_
  refine rq_topi (v := 4000) (by decide) ?_
  refine rq_icge (tg := 43) i_24_14 ⟨by decide, by decide⟩ (fun q => absurd q (by decide)) (fun _ => ?_)
  refine rq_loc i_24_17 rfl rfl ?_
  refine rq_getf i_24_18 f_24_9 g100 rfl ?_
  refine rq_loc i_24_21 rfl rfl ?_
  refine rq_pure i_24_22 rfl ?_
  refine rq_getf i_24_23 f_24_41 g100 rfl ?_
  refine rq_pure i_24_26 rfl ?_
  refine rq_pure i_24_27 rfl ?_
  refine rq_topi (v := 1) (by decide) ?_
  refine rq_pure i_24_28 rfl ?_
  refine rq_topi (v := 18) (by decide) ?_
  refine rq_putf1 i_24_29 p_24_41 g100 rfl rfl rfl (fun L35 u35 => ?_)
  refine rq_loc i_24_32 rfl rfl ?_
  refine rq_loc i_24_33 rfl rfl ?_
  refine rq_topi (v := 16) (by decide) ?_
  refine rq_pure i_24_34 rfl ?_
  refine rq_pure i_24_35 rfl ?_
  have g103 := (u35.2 2 (by decide)).trans u34.1
  refine rq_bast1 i_24_36 g103 (by decide) (fun L36 u36 => ?_)
  refine rq_loc i_24_37 rfl rfl ?_
  refine rq_goto (tg := 3) i_24_40 ⟨by decide, by decide⟩ ?_
  refine rq_loc i_24_3 rfl rfl ?_
  refine rq_topi (v := 8) (by decide) ?_
  refine rq_iflt (tg := 43) i_24_4 ⟨by decide, by decide⟩ (fun q => absurd q (by decide)) (fun _ => ?_)
  refine rq_loc i_24_7 rfl rfl ?_
  have g104 := (u36.2 1 (by decide)).trans u35.1
  refine rq_getf i_24_8 f_24_41 g104 rfl ?_
  refine rq_pure i_24_11 rfl ?_
  refine rq_topi (v := 4000) (by decide) ?_
  refine rq_icge (tg := 43) i_24_14 ⟨by decide, by decide⟩ (fun q => absurd q (by decide)) (fun _ => ?_)
  refine rq_loc i_24_17 rfl rfl ?_
  refine rq_getf i_24_18 f_24_9 g104 rfl ?_
  refine rq_loc i_24_21 rfl rfl ?_
  refine rq_pure i_24_22 rfl ?_
  refine rq_getf i_24_23 f_24_41 g104 rfl ?_
  refine rq_pure i_24_26 rfl ?_
  refine rq_pure i_24_27 rfl ?_
  refine rq_topi (v := 1) (by decide) ?_
  refine rq_pure i_24_28 rfl ?_
  refine rq_topi (v := 19) (by decide) ?_
  refine rq_putf1 i_24_29 p_24_41 g104 rfl rfl rfl (fun L37 u37 => ?_)
  refine rq_loc i_24_32 rfl rfl ?_
  refine rq_loc i_24_33 rfl rfl ?_
  refine rq_topi (v := 8) (by decide) ?_
  refine rq_pure i_24_34 rfl ?_
  refine rq_pure i_24_35 rfl ?_
  have g107 := (u37.2 2 (by decide)).trans u36.1
  refine rq_bast1 i_24_36 g107 (by decide) (fun L38 u38 => ?_)
  refine rq_loc i_24_37 rfl rfl ?_
  refine rq_goto (tg := 3) i_24_40 ⟨by decide, by decide⟩ ?_
  refine rq_loc i_24_3 rfl rfl ?_
  refine rq_topi (v := 0) (by decide) ?_
  refine rq_iflt (tg := 43) i_24_4 ⟨by decide, by decide⟩ (fun q => absurd q (by decide)) (fun _ => ?_)
  refine rq_loc i_24_7 rfl rfl ?_
  have g108 := (u38.2 1 (by decide)).trans u37.1
  refine rq_getf i_24_8 f_24_41 g108 rfl ?_
  refine rq_pure i_24_11 rfl ?_
  refine rq_topi (v := 4000) (by decide) ?_
  refine rq_icge (tg := 43) i_24_14 ⟨by decide, by decide⟩ (fun q => absurd q (by decide)) (fun _ => ?_)
  refine rq_loc i_24_17 rfl rfl ?_
  refine rq_getf i_24_18 f_24_9 g108 rfl ?_
  refine rq_loc i_24_21 rfl rfl ?_
  refine rq_pure i_24_22 rfl ?_
  refine rq_getf i_24_23 f_24_41 g108 rfl ?_
  refine rq_pure i_24_26 rfl ?_
  refine rq_pure i_24_27 rfl ?_
  refine rq_topi (v := 1) (by decide) ?_
  refine rq_pure i_24_28 rfl ?_
  refine rq_topi (v := 20) (by decide) ?_
  refine rq_putf1 i_24_29 p_24_41 g108 rfl rfl rfl (fun L39 u39 => ?_)
  refine rq_loc i_24_32 rfl rfl ?_
  refine rq_loc i_24_33 rfl rfl ?_
  refine rq_topi (v := 0) (by decide) ?_
  refine rq_pure i_24_34 rfl ?_
  refine rq_pure i_24_35 rfl ?_
  have g111 := (u39.2 2 (by decide)).trans u38.1
  refine rq_bast1 i_24_36 g111 (by decide) (fun L40 u40 => ?_)
  refine rq_loc i_24_37 rfl rfl ?_
  refine rq_goto (tg := 3) i_24_40 ⟨by decide, by decide⟩ ?_
  refine rq_loc i_24_3 rfl rfl ?_
  refine rq_topi (v := (-8)) (by decide) ?_
  refine rq_iflt (tg := 43) i_24_4 ⟨by decide, by decide⟩ (fun _ => ?_) (fun q => absurd q (by decide))
  refine rq_vret i_24_43 r_24 ?_
  refine rq_back0 ?_
  refine rq_loc i_56_60 rfl rfl ?_
  have g112 := (u33.2 0 (by decide)).trans g95
  have g113 := (u34.2 0 (by decide)).trans g112
  have g114 := (u35.2 0 (by decide)).trans g113
  have g115 := (u36.2 0 (by decide)).trans g114
  have g116 := (u37.2 0 (by decide)).trans g115
  have g117 := (u38.2 0 (by decide)).trans g116
  have g118 := (u39.2 0 (by decide)).trans g117
  have g119 := (u40.2 0 (by decide)).trans g118
  refine rq_getf i_56_61 f_56_12 g119 rfl ?_
  have g120 := (u40.2 1 (by decide)).trans u39.1
  refine rq_getf i_56_64 f_56_95 g120 rfl ?_
  refine rq_iret i_56_67 r_56 rfl ?_
  refine rq_back1 ?_
  refine rq_loc i_0_222 rfl rfl ?_
  refine rq_loc i_0_223 rfl rfl ?_
  refine rq_loc i_0_224 rfl rfl ?_
  refine rq_pure i_0_226 rfl ?_
  refine rq_topi (v := 1) (by decide) ?_
  refine rq_pure i_0_227 rfl ?_
  refine rq_topi (v := 1) (by decide) ?_
  have g121 := (u1.2 rx_S (by decide)).trans hS
  have g122 := (u2.2 rx_S (by decide)).trans g121
  have g123 := (u3.2 rx_S (by decide)).trans g122
  have g124 := (u4.2 rx_S (by decide)).trans g123
  have g125 := (u5.2 rx_S (by decide)).trans g124
  have g126 := (u6.2 rx_S (by decide)).trans g125
  have g127 := (u7.2 rx_S (by decide)).trans g126
  have g128 := (u8.2 rx_S (by decide)).trans g127
  have g129 := (u9.2 rx_S (by decide)).trans g128
  have g130 := (u10.2 rx_S (by decide)).trans g129
  have g131 := (u11.2 rx_S (by decide)).trans g130
  have g132 := (u12.2 rx_S (by decide)).trans g131
  have g133 := (u13.2 rx_S (by decide)).trans g132
  have g134 := (u14.2 rx_S (by decide)).trans g133
  have g135 := (u15.2 rx_S (by decide)).trans g134
  have g136 := (u16.2 rx_S (by decide)).trans g135
  have g137 := (u17.2 rx_S (by decide)).trans g136
  have g138 := (u18.2 rx_S (by decide)).trans g137
  have g139 := (u19.2 rx_S (by decide)).trans g138
  have g140 := (u20.2 rx_S (by decide)).trans g139
  have g141 := (u21.2 rx_S (by decide)).trans g140
  have g142 := (u22.2 rx_S (by decide)).trans g141
  have g143 := (u23.2 rx_S (by decide)).trans g142
  have g144 := (u24.2 rx_S (by decide)).trans g143
  have g145 := (u25.2 rx_S (by decide)).trans g144
  have g146 := (u26.2 rx_S (by decide)).trans g145
  have g147 := (u27.2 rx_S (by decide)).trans g146
  have g148 := (u28.2 rx_S (by decide)).trans g147
  have g149 := (u29.2 rx_S (by decide)).trans g148
  have g150 := (u30.2 rx_S (by decide)).trans g149
  have g151 := (u31.2 rx_S (by decide)).trans g150
  have g152 := (u32.2 rx_S (by decide)).trans g151
  have g153 := (u33.2 rx_S (by decide)).trans g152
  have g154 := (u34.2 rx_S (by decide)).trans g153
  have g155 := (u35.2 rx_S (by decide)).trans g154
  have g156 := (u36.2 rx_S (by decide)).trans g155
  have g157 := (u37.2 rx_S (by decide)).trans g156
  have g158 := (u38.2 rx_S (by decide)).trans g157
  have g159 := (u39.2 rx_S (by decide)).trans g158
  have g160 := (u40.2 rx_S (by decide)).trans g159
  refine rq_sald1 (x := xs 1) i_0_228 g160 rfl (by decide) rfl ?_
  refine rq_loc i_0_229 rfl rfl ?_
  refine rq_loc i_0_230 rfl rfl ?_
  refine rq_pure i_0_232 rfl ?_
  refine rq_topi (v := 2) (by decide) ?_
  refine rq_pure i_0_233 rfl ?_
  refine rq_topi (v := 2) (by decide) ?_
  refine rq_sald1 (x := xs 2) i_0_234 g160 rfl (by decide) rfl ?_
  refine rq_loc i_0_235 rfl rfl ?_
  refine rq_loc i_0_236 rfl rfl ?_
  refine rq_pure i_0_238 rfl ?_
  refine rq_topi (v := 3) (by decide) ?_
  refine rq_pure i_0_239 rfl ?_
  refine rq_topi (v := 3) (by decide) ?_
  refine rq_sald1 (x := xs 3) i_0_240 g160 rfl (by decide) rfl ?_
  refine rq_loc i_0_241 rfl rfl ?_
  refine rq_loc i_0_242 rfl rfl ?_
  refine rq_pure i_0_244 rfl ?_
  refine rq_topi (v := 4) (by decide) ?_
  refine rq_pure i_0_245 rfl ?_
  refine rq_topi (v := 4) (by decide) ?_
  refine rq_sald1 (x := xs 4) i_0_246 g160 rfl (by decide) rfl ?_
  refine rq_loc i_0_247 rfl rfl ?_
  refine rq_loc i_0_248 rfl rfl ?_
  refine rq_pure i_0_250 rfl ?_
  refine rq_topi (v := 5) (by decide) ?_
  refine rq_pure i_0_251 rfl ?_
  refine rq_topi (v := 5) (by decide) ?_
  refine rq_sald1 (x := xs 5) i_0_252 g160 rfl (by decide) rfl ?_
  have g161 := (u1.2 174 (by decide)).trans c174
  have g162 := (u2.2 174 (by decide)).trans g161
  have g163 := (u3.2 174 (by decide)).trans g162
  have g164 := (u4.2 174 (by decide)).trans g163
  have g165 := (u5.2 174 (by decide)).trans g164
  have g166 := (u6.2 174 (by decide)).trans g165
  have g167 := (u7.2 174 (by decide)).trans g166
  have g168 := (u8.2 174 (by decide)).trans g167
  have g169 := (u9.2 174 (by decide)).trans g168
  have g170 := (u10.2 174 (by decide)).trans g169
  have g171 := (u11.2 174 (by decide)).trans g170
  have g172 := (u12.2 174 (by decide)).trans g171
  have g173 := (u13.2 174 (by decide)).trans g172
  have g174 := (u14.2 174 (by decide)).trans g173
  have g175 := (u15.2 174 (by decide)).trans g174
  have g176 := (u16.2 174 (by decide)).trans g175
  have g177 := (u17.2 174 (by decide)).trans g176
  have g178 := (u18.2 174 (by decide)).trans g177
  have g179 := (u19.2 174 (by decide)).trans g178
  have g180 := (u20.2 174 (by decide)).trans g179
  have g181 := (u21.2 174 (by decide)).trans g180
  have g182 := (u22.2 174 (by decide)).trans g181
  have g183 := (u23.2 174 (by decide)).trans g182
  have g184 := (u24.2 174 (by decide)).trans g183
  have g185 := (u25.2 174 (by decide)).trans g184
  have g186 := (u26.2 174 (by decide)).trans g185
  have g187 := (u27.2 174 (by decide)).trans g186
  have g188 := (u28.2 174 (by decide)).trans g187
  have g189 := (u29.2 174 (by decide)).trans g188
  have g190 := (u30.2 174 (by decide)).trans g189
  have g191 := (u31.2 174 (by decide)).trans g190
  have g192 := (u32.2 174 (by decide)).trans g191
  have g193 := (u33.2 174 (by decide)).trans g192
  have g194 := (u34.2 174 (by decide)).trans g193
  have g195 := (u35.2 174 (by decide)).trans g194
  have g196 := (u36.2 174 (by decide)).trans g195
  have g197 := (u37.2 174 (by decide)).trans g196
  have g198 := (u38.2 174 (by decide)).trans g197
  have g199 := (u39.2 174 (by decide)).trans g198
  have g200 := (u40.2 174 (by decide)).trans g199
  refine rq_V1 (c1 := 0) (s1 := 0) (cb := 100) (sb := 1000) (F' := 2047) (Lo' := 83975) i_0_253 c_0_35 rfl (rz_isa g200 a_15_93) rfl rfl rfl ?_
  refine rq_loc i_93_0 rfl rfl ?_
  refine rq_pure i_93_1 rfl ?_
  refine rq_topi (v := 0) (by decide) ?_
  refine rq_putf1 i_93_2 p_93_356 g200 rfl rfl rfl (fun L41 u41 => ?_)
  refine rq_loc i_93_5 rfl rfl ?_
  refine rq_getf i_93_6 f_93_359 u41.1 rfl ?_
  refine rq_pure i_93_9 rfl ?_
  refine rq_topi (v := 20) (by decide) ?_
  refine rq_pure i_93_11 rfl ?_
  refine rq_topi (v := 20) (by decide) ?_
  refine rq_pure i_93_12 rfl ?_
  refine rq_topi (v := 4000) (by decide) ?_
  refine rq_icle (tg := 20) i_93_15 ⟨by decide, by decide⟩ (fun _ => ?_) (fun q => absurd q (by decide))
  refine rq_loc i_93_20 rfl rfl ?_
  refine rq_loc i_93_21 rfl rfl ?_
  refine rq_V1 (c1 := 0) (s1 := 0) (cb := 0) (sb := 0) (F' := 2046) (Lo' := 83953) i_93_22 c_93_362 rfl (rz_isa u41.1 a_15_94) rfl rfl rfl ?_
  refine rq_pure i_94_0 rfl ?_
  refine rq_topi (v := 24) (by decide) ?_
  refine rq_loc i_94_2 rfl rfl ?_
  refine rq_loc i_94_3 rfl rfl ?_
  refine rq_iflt (tg := 39) i_94_4 ⟨by decide, by decide⟩ (fun q => absurd q (by decide)) (fun _ => ?_)
  refine rq_loc i_94_7 rfl rfl ?_
  refine rq_getf i_94_8 f_94_9 u41.1 rfl ?_
  refine rq_loc i_94_11 rfl rfl ?_
  refine rq_getf i_94_12 f_94_359 u41.1 rfl ?_
  refine rq_loc i_94_15 rfl rfl ?_
  refine rq_loc i_94_16 rfl rfl ?_
  refine rq_pure i_94_17 rfl ?_
  refine rq_pure i_94_18 rfl ?_
  refine rq_topi (v := 255) (by decide) ?_
  refine rq_pure i_94_21 rfl ?_
  have g203 := (u1.2 175 (by decide)).trans c175
  have g204 := (u2.2 175 (by decide)).trans g203
  have g205 := (u3.2 175 (by decide)).trans g204
  have g206 := (u4.2 175 (by decide)).trans g205
  have g207 := (u5.2 175 (by decide)).trans g206
  have g208 := (u6.2 175 (by decide)).trans g207
  have g209 := (u7.2 175 (by decide)).trans g208
  have g210 := (u8.2 175 (by decide)).trans g209
  have g211 := (u9.2 175 (by decide)).trans g210
  have g212 := (u10.2 175 (by decide)).trans g211
  have g213 := (u11.2 175 (by decide)).trans g212
  have g214 := (u12.2 175 (by decide)).trans g213
  have g215 := (u13.2 175 (by decide)).trans g214
  have g216 := (u14.2 175 (by decide)).trans g215
  have g217 := (u15.2 175 (by decide)).trans g216
  have g218 := (u16.2 175 (by decide)).trans g217
  have g219 := (u17.2 175 (by decide)).trans g218
  have g220 := (u18.2 175 (by decide)).trans g219
  have g221 := (u19.2 175 (by decide)).trans g220
  have g222 := (u20.2 175 (by decide)).trans g221
  have g223 := (u21.2 175 (by decide)).trans g222
  have g224 := (u22.2 175 (by decide)).trans g223
  have g225 := (u23.2 175 (by decide)).trans g224
  have g226 := (u24.2 175 (by decide)).trans g225
  have g227 := (u25.2 175 (by decide)).trans g226
  have g228 := (u26.2 175 (by decide)).trans g227
  have g229 := (u27.2 175 (by decide)).trans g228
  have g230 := (u28.2 175 (by decide)).trans g229
  have g231 := (u29.2 175 (by decide)).trans g230
  have g232 := (u30.2 175 (by decide)).trans g231
  have g233 := (u31.2 175 (by decide)).trans g232
  have g234 := (u32.2 175 (by decide)).trans g233
  have g235 := (u33.2 175 (by decide)).trans g234
  have g236 := (u34.2 175 (by decide)).trans g235
  have g237 := (u35.2 175 (by decide)).trans g236
  have g238 := (u36.2 175 (by decide)).trans g237
  have g239 := (u37.2 175 (by decide)).trans g238
  have g240 := (u38.2 175 (by decide)).trans g239
  have g241 := (u39.2 175 (by decide)).trans g240
  have g242 := (u40.2 175 (by decide)).trans g241
  have g243 := (u41.2 175 (by decide)).trans g242
  refine rq_iast1 i_94_22 g243 (by decide) (fun L42 u42 => ?_)
  refine rq_loc i_94_23 rfl rfl ?_
  refine rq_pure i_94_24 rfl ?_
  have g244 := (u42.2 174 (by decide)).trans u41.1
  refine rq_getf i_94_25 f_94_359 g244 rfl ?_
  refine rq_pure i_94_28 rfl ?_
  refine rq_topi (v := 1) (by decide) ?_
  refine rq_pure i_94_29 rfl ?_
  refine rq_topi (v := 1) (by decide) ?_
  refine rq_putf1 i_94_30 p_94_359 g244 rfl rfl rfl (fun L43 u43 => ?_)
  refine rq_loc i_94_33 rfl rfl ?_
  refine rq_goto (tg := 3) i_94_36 ⟨by decide, by decide⟩ ?_
  refine rq_loc i_94_3 rfl rfl ?_
  refine rq_topi (v := 16) (by decide) ?_
  refine rq_iflt (tg := 39) i_94_4 ⟨by decide, by decide⟩ (fun q => absurd q (by decide)) (fun _ => ?_)
  refine rq_loc i_94_7 rfl rfl ?_
  refine rq_getf i_94_8 f_94_9 u43.1 rfl ?_
  refine rq_loc i_94_11 rfl rfl ?_
  refine rq_getf i_94_12 f_94_359 u43.1 rfl ?_
  refine rq_loc i_94_15 rfl rfl ?_
  refine rq_loc i_94_16 rfl rfl ?_
  refine rq_topi (v := 16) (by decide) ?_
  refine rq_pure i_94_17 rfl ?_
  refine rq_pure i_94_18 rfl ?_
  refine rq_topi (v := 255) (by decide) ?_
  refine rq_pure i_94_21 rfl ?_
  have g247 := (u43.2 175 (by decide)).trans u42.1
  refine rq_iast1 i_94_22 g247 (by decide) (fun L44 u44 => ?_)
  refine rq_loc i_94_23 rfl rfl ?_
  refine rq_pure i_94_24 rfl ?_
  have g248 := (u44.2 174 (by decide)).trans u43.1
  refine rq_getf i_94_25 f_94_359 g248 rfl ?_
  refine rq_pure i_94_28 rfl ?_
  refine rq_topi (v := 1) (by decide) ?_
  refine rq_pure i_94_29 rfl ?_
  refine rq_topi (v := 2) (by decide) ?_
  refine rq_putf1 i_94_30 p_94_359 g248 rfl rfl rfl (fun L45 u45 => ?_)
  refine rq_loc i_94_33 rfl rfl ?_
  refine rq_goto (tg := 3) i_94_36 ⟨by decide, by decide⟩ ?_
  refine rq_loc i_94_3 rfl rfl ?_
  refine rq_topi (v := 8) (by decide) ?_
  refine rq_iflt (tg := 39) i_94_4 ⟨by decide, by decide⟩ (fun q => absurd q (by decide)) (fun _ => ?_)
  refine rq_loc i_94_7 rfl rfl ?_
  refine rq_getf i_94_8 f_94_9 u45.1 rfl ?_
  refine rq_loc i_94_11 rfl rfl ?_
  refine rq_getf i_94_12 f_94_359 u45.1 rfl ?_
  refine rq_loc i_94_15 rfl rfl ?_
  refine rq_loc i_94_16 rfl rfl ?_
  refine rq_topi (v := 8) (by decide) ?_
  refine rq_pure i_94_17 rfl ?_
  refine rq_pure i_94_18 rfl ?_
  refine rq_topi (v := 255) (by decide) ?_
  refine rq_pure i_94_21 rfl ?_
  have g251 := (u45.2 175 (by decide)).trans u44.1
  refine rq_iast1 i_94_22 g251 (by decide) (fun L46 u46 => ?_)
  refine rq_loc i_94_23 rfl rfl ?_
  refine rq_pure i_94_24 rfl ?_
  have g252 := (u46.2 174 (by decide)).trans u45.1
  refine rq_getf i_94_25 f_94_359 g252 rfl ?_
  refine rq_pure i_94_28 rfl ?_
  refine rq_topi (v := 1) (by decide) ?_
  refine rq_pure i_94_29 rfl ?_
  refine rq_topi (v := 3) (by decide) ?_
  refine rq_putf1 i_94_30 p_94_359 g252 rfl rfl rfl (fun L47 u47 => ?_)
  refine rq_loc i_94_33 rfl rfl ?_
  refine rq_goto (tg := 3) i_94_36 ⟨by decide, by decide⟩ ?_
  refine rq_loc i_94_3 rfl rfl ?_
  refine rq_topi (v := 0) (by decide) ?_
  refine rq_iflt (tg := 39) i_94_4 ⟨by decide, by decide⟩ (fun q => absurd q (by decide)) (fun _ => ?_)
  refine rq_loc i_94_7 rfl rfl ?_
  refine rq_getf i_94_8 f_94_9 u47.1 rfl ?_
  refine rq_loc i_94_11 rfl rfl ?_
  refine rq_getf i_94_12 f_94_359 u47.1 rfl ?_
  refine rq_loc i_94_15 rfl rfl ?_
  refine rq_loc i_94_16 rfl rfl ?_
  refine rq_topi (v := 0) (by decide) ?_
  refine rq_pure i_94_17 rfl ?_
  refine rq_pure i_94_18 rfl ?_
  refine rq_topi (v := 255) (by decide) ?_
  refine rq_pure i_94_21 rfl ?_
  have g255 := (u47.2 175 (by decide)).trans u46.1
  refine rq_iast1 i_94_22 g255 (by decide) (fun L48 u48 => ?_)
  refine rq_loc i_94_23 rfl rfl ?_
  refine rq_pure i_94_24 rfl ?_
  have g256 := (u48.2 174 (by decide)).trans u47.1
  refine rq_getf i_94_25 f_94_359 g256 rfl ?_
  refine rq_pure i_94_28 rfl ?_
  refine rq_topi (v := 1) (by decide) ?_
  refine rq_pure i_94_29 rfl ?_
  refine rq_topi (v := 4) (by decide) ?_
  refine rq_putf1 i_94_30 p_94_359 g256 rfl rfl rfl (fun L49 u49 => ?_)
  refine rq_loc i_94_33 rfl rfl ?_
  refine rq_goto (tg := 3) i_94_36 ⟨by decide, by decide⟩ ?_
  refine rq_loc i_94_3 rfl rfl ?_
  refine rq_topi (v := (-8)) (by decide) ?_
  refine rq_iflt (tg := 39) i_94_4 ⟨by decide, by decide⟩ (fun _ => ?_) (fun q => absurd q (by decide))
  refine rq_vret i_94_39 r_94 ?_
  refine rq_back0 ?_
  refine rq_loc i_93_25 rfl rfl ?_
  refine rq_loc i_93_26 rfl rfl ?_
  refine rq_V1 (c1 := 0) (s1 := 0) (cb := 0) (sb := 0) (F' := 2046) (Lo' := 83953) i_93_27 c_93_362 rfl (rz_isa u49.1 a_15_94) rfl rfl rfl ?_
  refine rq_pure i_94_0 rfl ?_
  refine rq_topi (v := 24) (by decide) ?_
  refine rq_loc i_94_2 rfl rfl ?_
  refine rq_loc i_94_3 rfl rfl ?_
  refine rq_iflt (tg := 39) i_94_4 ⟨by decide, by decide⟩ (fun q => absurd q (by decide)) (fun _ => ?_)
  refine rq_loc i_94_7 rfl rfl ?_
  refine rq_getf i_94_8 f_94_9 u49.1 rfl ?_
  refine rq_loc i_94_11 rfl rfl ?_
  refine rq_getf i_94_12 f_94_359 u49.1 rfl ?_
  refine rq_loc i_94_15 rfl rfl ?_
  refine rq_loc i_94_16 rfl rfl ?_
  refine rq_pure i_94_17 rfl ?_
  refine rq_pure i_94_18 rfl ?_
  refine rq_topi (v := 255) (by decide) ?_
  refine rq_pure i_94_21 rfl ?_
  have g259 := (u49.2 175 (by decide)).trans u48.1
  refine rq_iast1 i_94_22 g259 (by decide) (fun L50 u50 => ?_)
  refine rq_loc i_94_23 rfl rfl ?_
  refine rq_pure i_94_24 rfl ?_
  have g260 := (u50.2 174 (by decide)).trans u49.1
  refine rq_getf i_94_25 f_94_359 g260 rfl ?_
  refine rq_pure i_94_28 rfl ?_
  refine rq_topi (v := 1) (by decide) ?_
  refine rq_pure i_94_29 rfl ?_
  refine rq_topi (v := 5) (by decide) ?_
  refine rq_putf1 i_94_30 p_94_359 g260 rfl rfl rfl (fun L51 u51 => ?_)
  refine rq_loc i_94_33 rfl rfl ?_
  refine rq_goto (tg := 3) i_94_36 ⟨by decide, by decide⟩ ?_
  refine rq_loc i_94_3 rfl rfl ?_
  refine rq_topi (v := 16) (by decide) ?_
  refine rq_iflt (tg := 39) i_94_4 ⟨by decide, by decide⟩ (fun q => absurd q (by decide)) (fun _ => ?_)
  refine rq_loc i_94_7 rfl rfl ?_
  refine rq_getf i_94_8 f_94_9 u51.1 rfl ?_
  refine rq_loc i_94_11 rfl rfl ?_
  refine rq_getf i_94_12 f_94_359 u51.1 rfl ?_
  refine rq_loc i_94_15 rfl rfl ?_
  refine rq_loc i_94_16 rfl rfl ?_
  refine rq_topi (v := 16) (by decide) ?_
  refine rq_pure i_94_17 rfl ?_
  refine rq_pure i_94_18 rfl ?_
  refine rq_topi (v := 255) (by decide) ?_
  refine rq_pure i_94_21 rfl ?_
  have g263 := (u51.2 175 (by decide)).trans u50.1
  refine rq_iast1 i_94_22 g263 (by decide) (fun L52 u52 => ?_)
  refine rq_loc i_94_23 rfl rfl ?_
  refine rq_pure i_94_24 rfl ?_
  have g264 := (u52.2 174 (by decide)).trans u51.1
  refine rq_getf i_94_25 f_94_359 g264 rfl ?_
  refine rq_pure i_94_28 rfl ?_
  refine rq_topi (v := 1) (by decide) ?_
  refine rq_pure i_94_29 rfl ?_
  refine rq_topi (v := 6) (by decide) ?_
  refine rq_putf1 i_94_30 p_94_359 g264 rfl rfl rfl (fun L53 u53 => ?_)
  refine rq_loc i_94_33 rfl rfl ?_
  refine rq_goto (tg := 3) i_94_36 ⟨by decide, by decide⟩ ?_
  refine rq_loc i_94_3 rfl rfl ?_
  refine rq_topi (v := 8) (by decide) ?_
  refine rq_iflt (tg := 39) i_94_4 ⟨by decide, by decide⟩ (fun q => absurd q (by decide)) (fun _ => ?_)
  refine rq_loc i_94_7 rfl rfl ?_
  refine rq_getf i_94_8 f_94_9 u53.1 rfl ?_
  refine rq_loc i_94_11 rfl rfl ?_
  refine rq_getf i_94_12 f_94_359 u53.1 rfl ?_
  refine rq_loc i_94_15 rfl rfl ?_
  refine rq_loc i_94_16 rfl rfl ?_
  refine rq_topi (v := 8) (by decide) ?_
  refine rq_pure i_94_17 rfl ?_
  refine rq_pure i_94_18 rfl ?_
  refine rq_topi (v := 255) (by decide) ?_
  refine rq_pure i_94_21 rfl ?_
  have g267 := (u53.2 175 (by decide)).trans u52.1
  refine rq_iast1 i_94_22 g267 (by decide) (fun L54 u54 => ?_)
  refine rq_loc i_94_23 rfl rfl ?_
  refine rq_pure i_94_24 rfl ?_
  have g268 := (u54.2 174 (by decide)).trans u53.1
  refine rq_getf i_94_25 f_94_359 g268 rfl ?_
  refine rq_pure i_94_28 rfl ?_
  refine rq_topi (v := 1) (by decide) ?_
  refine rq_pure i_94_29 rfl ?_
  refine rq_topi (v := 7) (by decide) ?_
  refine rq_putf1 i_94_30 p_94_359 g268 rfl rfl rfl (fun L55 u55 => ?_)
  refine rq_loc i_94_33 rfl rfl ?_
  refine rq_goto (tg := 3) i_94_36 ⟨by decide, by decide⟩ ?_
  refine rq_loc i_94_3 rfl rfl ?_
  refine rq_topi (v := 0) (by decide) ?_
  refine rq_iflt (tg := 39) i_94_4 ⟨by decide, by decide⟩ (fun q => absurd q (by decide)) (fun _ => ?_)
  refine rq_loc i_94_7 rfl rfl ?_
  refine rq_getf i_94_8 f_94_9 u55.1 rfl ?_
  refine rq_loc i_94_11 rfl rfl ?_
  refine rq_getf i_94_12 f_94_359 u55.1 rfl ?_
  refine rq_loc i_94_15 rfl rfl ?_
  refine rq_loc i_94_16 rfl rfl ?_
  refine rq_topi (v := 0) (by decide) ?_
  refine rq_pure i_94_17 rfl ?_
  refine rq_pure i_94_18 rfl ?_
  refine rq_topi (v := 255) (by decide) ?_
  refine rq_pure i_94_21 rfl ?_
  have g271 := (u55.2 175 (by decide)).trans u54.1
  refine rq_iast1 i_94_22 g271 (by decide) (fun L56 u56 => ?_)
  refine rq_loc i_94_23 rfl rfl ?_
  refine rq_pure i_94_24 rfl ?_
  have g272 := (u56.2 174 (by decide)).trans u55.1
  refine rq_getf i_94_25 f_94_359 g272 rfl ?_
  refine rq_pure i_94_28 rfl ?_
  refine rq_topi (v := 1) (by decide) ?_
  refine rq_pure i_94_29 rfl ?_
  refine rq_topi (v := 8) (by decide) ?_
  refine rq_putf1 i_94_30 p_94_359 g272 rfl rfl rfl (fun L57 u57 => ?_)
  refine rq_loc i_94_33 rfl rfl ?_
  refine rq_goto (tg := 3) i_94_36 ⟨by decide, by decide⟩ ?_
  refine rq_loc i_94_3 rfl rfl ?_
  refine rq_topi (v := (-8)) (by decide) ?_
  refine rq_iflt (tg := 39) i_94_4 ⟨by decide, by decide⟩ (fun _ => ?_) (fun q => absurd q (by decide))
  refine rq_vret i_94_39 r_94 ?_
  refine rq_back0 ?_
  refine rq_loc i_93_30 rfl rfl ?_
  refine rq_loc i_93_31 rfl rfl ?_
  refine rq_V1 (c1 := 0) (s1 := 0) (cb := 0) (sb := 0) (F' := 2046) (Lo' := 83953) i_93_32 c_93_362 rfl (rz_isa u57.1 a_15_94) rfl rfl rfl ?_
  refine rq_pure i_94_0 rfl ?_
  refine rq_topi (v := 24) (by decide) ?_
  refine rq_loc i_94_2 rfl rfl ?_
  refine rq_loc i_94_3 rfl rfl ?_
  refine rq_iflt (tg := 39) i_94_4 ⟨by decide, by decide⟩ (fun q => absurd q (by decide)) (fun _ => ?_)
  refine rq_loc i_94_7 rfl rfl ?_
  refine rq_getf i_94_8 f_94_9 u57.1 rfl ?_
  refine rq_loc i_94_11 rfl rfl ?_
  refine rq_getf i_94_12 f_94_359 u57.1 rfl ?_
  refine rq_loc i_94_15 rfl rfl ?_
  refine rq_loc i_94_16 rfl rfl ?_
  refine rq_pure i_94_17 rfl ?_
  refine rq_pure i_94_18 rfl ?_
  refine rq_topi (v := 255) (by decide) ?_
  refine rq_pure i_94_21 rfl ?_
  have g275 := (u57.2 175 (by decide)).trans u56.1
  refine rq_iast1 i_94_22 g275 (by decide) (fun L58 u58 => ?_)
  refine rq_loc i_94_23 rfl rfl ?_
  refine rq_pure i_94_24 rfl ?_
  have g276 := (u58.2 174 (by decide)).trans u57.1
  refine rq_getf i_94_25 f_94_359 g276 rfl ?_
  refine rq_pure i_94_28 rfl ?_
  refine rq_topi (v := 1) (by decide) ?_
  refine rq_pure i_94_29 rfl ?_
  refine rq_topi (v := 9) (by decide) ?_
  refine rq_putf1 i_94_30 p_94_359 g276 rfl rfl rfl (fun L59 u59 => ?_)
  refine rq_loc i_94_33 rfl rfl ?_
  refine rq_goto (tg := 3) i_94_36 ⟨by decide, by decide⟩ ?_
  refine rq_loc i_94_3 rfl rfl ?_
  refine rq_topi (v := 16) (by decide) ?_
  refine rq_iflt (tg := 39) i_94_4 ⟨by decide, by decide⟩ (fun q => absurd q (by decide)) (fun _ => ?_)
  refine rq_loc i_94_7 rfl rfl ?_
  refine rq_getf i_94_8 f_94_9 u59.1 rfl ?_
  refine rq_loc i_94_11 rfl rfl ?_
  refine rq_getf i_94_12 f_94_359 u59.1 rfl ?_
  refine rq_loc i_94_15 rfl rfl ?_
  refine rq_loc i_94_16 rfl rfl ?_
  refine rq_topi (v := 16) (by decide) ?_
  refine rq_pure i_94_17 rfl ?_
  refine rq_pure i_94_18 rfl ?_
  refine rq_topi (v := 255) (by decide) ?_
  refine rq_pure i_94_21 rfl ?_
  have g279 := (u59.2 175 (by decide)).trans u58.1
  refine rq_iast1 i_94_22 g279 (by decide) (fun L60 u60 => ?_)
  refine rq_loc i_94_23 rfl rfl ?_
  refine rq_pure i_94_24 rfl ?_
  have g280 := (u60.2 174 (by decide)).trans u59.1
  refine rq_getf i_94_25 f_94_359 g280 rfl ?_
  refine rq_pure i_94_28 rfl ?_
  refine rq_topi (v := 1) (by decide) ?_
  refine rq_pure i_94_29 rfl ?_
  refine rq_topi (v := 10) (by decide) ?_
  refine rq_putf1 i_94_30 p_94_359 g280 rfl rfl rfl (fun L61 u61 => ?_)
  refine rq_loc i_94_33 rfl rfl ?_
  refine rq_goto (tg := 3) i_94_36 ⟨by decide, by decide⟩ ?_
  refine rq_loc i_94_3 rfl rfl ?_
  refine rq_topi (v := 8) (by decide) ?_
  refine rq_iflt (tg := 39) i_94_4 ⟨by decide, by decide⟩ (fun q => absurd q (by decide)) (fun _ => ?_)
  refine rq_loc i_94_7 rfl rfl ?_
  refine rq_getf i_94_8 f_94_9 u61.1 rfl ?_
  refine rq_loc i_94_11 rfl rfl ?_
  refine rq_getf i_94_12 f_94_359 u61.1 rfl ?_
  refine rq_loc i_94_15 rfl rfl ?_
  refine rq_loc i_94_16 rfl rfl ?_
  refine rq_topi (v := 8) (by decide) ?_
  refine rq_pure i_94_17 rfl ?_
  refine rq_pure i_94_18 rfl ?_
  refine rq_topi (v := 255) (by decide) ?_
  refine rq_pure i_94_21 rfl ?_
  have g283 := (u61.2 175 (by decide)).trans u60.1
  refine rq_iast1 i_94_22 g283 (by decide) (fun L62 u62 => ?_)
  refine rq_loc i_94_23 rfl rfl ?_
  refine rq_pure i_94_24 rfl ?_
  have g284 := (u62.2 174 (by decide)).trans u61.1
  refine rq_getf i_94_25 f_94_359 g284 rfl ?_
  refine rq_pure i_94_28 rfl ?_
  refine rq_topi (v := 1) (by decide) ?_
  refine rq_pure i_94_29 rfl ?_
  refine rq_topi (v := 11) (by decide) ?_
  refine rq_putf1 i_94_30 p_94_359 g284 rfl rfl rfl (fun L63 u63 => ?_)
  refine rq_loc i_94_33 rfl rfl ?_
  refine rq_goto (tg := 3) i_94_36 ⟨by decide, by decide⟩ ?_
  refine rq_loc i_94_3 rfl rfl ?_
  refine rq_topi (v := 0) (by decide) ?_
  refine rq_iflt (tg := 39) i_94_4 ⟨by decide, by decide⟩ (fun q => absurd q (by decide)) (fun _ => ?_)
  refine rq_loc i_94_7 rfl rfl ?_
  refine rq_getf i_94_8 f_94_9 u63.1 rfl ?_
  refine rq_loc i_94_11 rfl rfl ?_
  refine rq_getf i_94_12 f_94_359 u63.1 rfl ?_
  refine rq_loc i_94_15 rfl rfl ?_
  refine rq_loc i_94_16 rfl rfl ?_
  refine rq_topi (v := 0) (by decide) ?_
  refine rq_pure i_94_17 rfl ?_
  refine rq_pure i_94_18 rfl ?_
  refine rq_topi (v := 255) (by decide) ?_
  refine rq_pure i_94_21 rfl ?_
  have g287 := (u63.2 175 (by decide)).trans u62.1
  refine rq_iast1 i_94_22 g287 (by decide) (fun L64 u64 => ?_)
  refine rq_loc i_94_23 rfl rfl ?_
  refine rq_pure i_94_24 rfl ?_
  have g288 := (u64.2 174 (by decide)).trans u63.1
  refine rq_getf i_94_25 f_94_359 g288 rfl ?_
  refine rq_pure i_94_28 rfl ?_
  refine rq_topi (v := 1) (by decide) ?_
  refine rq_pure i_94_29 rfl ?_
  refine rq_topi (v := 12) (by decide) ?_
  refine rq_putf1 i_94_30 p_94_359 g288 rfl rfl rfl (fun L65 u65 => ?_)
  refine rq_loc i_94_33 rfl rfl ?_
  refine rq_goto (tg := 3) i_94_36 ⟨by decide, by decide⟩ ?_
  refine rq_loc i_94_3 rfl rfl ?_
  refine rq_topi (v := (-8)) (by decide) ?_
  refine rq_iflt (tg := 39) i_94_4 ⟨by decide, by decide⟩ (fun _ => ?_) (fun q => absurd q (by decide))
  refine rq_vret i_94_39 r_94 ?_
  refine rq_back0 ?_
  refine rq_loc i_93_35 rfl rfl ?_
  refine rq_loc i_93_36 rfl rfl ?_
  refine rq_V1 (c1 := 0) (s1 := 0) (cb := 0) (sb := 0) (F' := 2046) (Lo' := 83953) i_93_38 c_93_362 rfl (rz_isa u65.1 a_15_94) rfl rfl rfl ?_
  refine rq_pure i_94_0 rfl ?_
  refine rq_topi (v := 24) (by decide) ?_
  refine rq_loc i_94_2 rfl rfl ?_
  refine rq_loc i_94_3 rfl rfl ?_
  refine rq_iflt (tg := 39) i_94_4 ⟨by decide, by decide⟩ (fun q => absurd q (by decide)) (fun _ => ?_)
  refine rq_loc i_94_7 rfl rfl ?_
  refine rq_getf i_94_8 f_94_9 u65.1 rfl ?_
  refine rq_loc i_94_11 rfl rfl ?_
  refine rq_getf i_94_12 f_94_359 u65.1 rfl ?_
  refine rq_loc i_94_15 rfl rfl ?_
  refine rq_loc i_94_16 rfl rfl ?_
  refine rq_pure i_94_17 rfl ?_
  refine rq_pure i_94_18 rfl ?_
  refine rq_topi (v := 255) (by decide) ?_
  refine rq_pure i_94_21 rfl ?_
  have g291 := (u65.2 175 (by decide)).trans u64.1
  refine rq_iast1 i_94_22 g291 (by decide) (fun L66 u66 => ?_)
  refine rq_loc i_94_23 rfl rfl ?_
  refine rq_pure i_94_24 rfl ?_
  have g292 := (u66.2 174 (by decide)).trans u65.1
  refine rq_getf i_94_25 f_94_359 g292 rfl ?_
  refine rq_pure i_94_28 rfl ?_
  refine rq_topi (v := 1) (by decide) ?_
  refine rq_pure i_94_29 rfl ?_
  refine rq_topi (v := 13) (by decide) ?_
  refine rq_putf1 i_94_30 p_94_359 g292 rfl rfl rfl (fun L67 u67 => ?_)
  refine rq_loc i_94_33 rfl rfl ?_
  refine rq_goto (tg := 3) i_94_36 ⟨by decide, by decide⟩ ?_
  refine rq_loc i_94_3 rfl rfl ?_
  refine rq_topi (v := 16) (by decide) ?_
  refine rq_iflt (tg := 39) i_94_4 ⟨by decide, by decide⟩ (fun q => absurd q (by decide)) (fun _ => ?_)
  refine rq_loc i_94_7 rfl rfl ?_
  refine rq_getf i_94_8 f_94_9 u67.1 rfl ?_
  refine rq_loc i_94_11 rfl rfl ?_
  refine rq_getf i_94_12 f_94_359 u67.1 rfl ?_
  refine rq_loc i_94_15 rfl rfl ?_
  refine rq_loc i_94_16 rfl rfl ?_
  refine rq_topi (v := 16) (by decide) ?_
  refine rq_pure i_94_17 rfl ?_
  refine rq_pure i_94_18 rfl ?_
  refine rq_topi (v := 255) (by decide) ?_
  refine rq_pure i_94_21 rfl ?_
  have g295 := (u67.2 175 (by decide)).trans u66.1
  refine rq_iast1 i_94_22 g295 (by decide) (fun L68 u68 => ?_)
  refine rq_loc i_94_23 rfl rfl ?_
  refine rq_pure i_94_24 rfl ?_
  have g296 := (u68.2 174 (by decide)).trans u67.1
  refine rq_getf i_94_25 f_94_359 g296 rfl ?_
  refine rq_pure i_94_28 rfl ?_
  refine rq_topi (v := 1) (by decide) ?_
  refine rq_pure i_94_29 rfl ?_
  refine rq_topi (v := 14) (by decide) ?_
  refine rq_putf1 i_94_30 p_94_359 g296 rfl rfl rfl (fun L69 u69 => ?_)
  refine rq_loc i_94_33 rfl rfl ?_
  refine rq_goto (tg := 3) i_94_36 ⟨by decide, by decide⟩ ?_
  refine rq_loc i_94_3 rfl rfl ?_
  refine rq_topi (v := 8) (by decide) ?_
  refine rq_iflt (tg := 39) i_94_4 ⟨by decide, by decide⟩ (fun q => absurd q (by decide)) (fun _ => ?_)
  refine rq_loc i_94_7 rfl rfl ?_
  refine rq_getf i_94_8 f_94_9 u69.1 rfl ?_
  refine rq_loc i_94_11 rfl rfl ?_
  refine rq_getf i_94_12 f_94_359 u69.1 rfl ?_
  refine rq_loc i_94_15 rfl rfl ?_
  refine rq_loc i_94_16 rfl rfl ?_
  refine rq_topi (v := 8) (by decide) ?_
  refine rq_pure i_94_17 rfl ?_
  refine rq_pure i_94_18 rfl ?_
  refine rq_topi (v := 255) (by decide) ?_
  refine rq_pure i_94_21 rfl ?_
  have g299 := (u69.2 175 (by decide)).trans u68.1
  refine rq_iast1 i_94_22 g299 (by decide) (fun L70 u70 => ?_)
  refine rq_loc i_94_23 rfl rfl ?_
  refine rq_pure i_94_24 rfl ?_
  have g300 := (u70.2 174 (by decide)).trans u69.1
  refine rq_getf i_94_25 f_94_359 g300 rfl ?_
  refine rq_pure i_94_28 rfl ?_
  refine rq_topi (v := 1) (by decide) ?_
  refine rq_pure i_94_29 rfl ?_
  refine rq_topi (v := 15) (by decide) ?_
  refine rq_putf1 i_94_30 p_94_359 g300 rfl rfl rfl (fun L71 u71 => ?_)
  refine rq_loc i_94_33 rfl rfl ?_
  refine rq_goto (tg := 3) i_94_36 ⟨by decide, by decide⟩ ?_
  refine rq_loc i_94_3 rfl rfl ?_
  refine rq_topi (v := 0) (by decide) ?_
  refine rq_iflt (tg := 39) i_94_4 ⟨by decide, by decide⟩ (fun q => absurd q (by decide)) (fun _ => ?_)
  refine rq_loc i_94_7 rfl rfl ?_
  refine rq_getf i_94_8 f_94_9 u71.1 rfl ?_
  refine rq_loc i_94_11 rfl rfl ?_
  refine rq_getf i_94_12 f_94_359 u71.1 rfl ?_
  refine rq_loc i_94_15 rfl rfl ?_
  refine rq_loc i_94_16 rfl rfl ?_
  refine rq_topi (v := 0) (by decide) ?_
  refine rq_pure i_94_17 rfl ?_
  refine rq_pure i_94_18 rfl ?_
  refine rq_topi (v := 255) (by decide) ?_
  refine rq_pure i_94_21 rfl ?_
  have g303 := (u71.2 175 (by decide)).trans u70.1
  refine rq_iast1 i_94_22 g303 (by decide) (fun L72 u72 => ?_)
  refine rq_loc i_94_23 rfl rfl ?_
  refine rq_pure i_94_24 rfl ?_
  have g304 := (u72.2 174 (by decide)).trans u71.1
  refine rq_getf i_94_25 f_94_359 g304 rfl ?_
  refine rq_pure i_94_28 rfl ?_
  refine rq_topi (v := 1) (by decide) ?_
  refine rq_pure i_94_29 rfl ?_
  refine rq_topi (v := 16) (by decide) ?_
  refine rq_putf1 i_94_30 p_94_359 g304 rfl rfl rfl (fun L73 u73 => ?_)
  refine rq_loc i_94_33 rfl rfl ?_
  refine rq_goto (tg := 3) i_94_36 ⟨by decide, by decide⟩ ?_
  refine rq_loc i_94_3 rfl rfl ?_
  refine rq_topi (v := (-8)) (by decide) ?_
  refine rq_iflt (tg := 39) i_94_4 ⟨by decide, by decide⟩ (fun _ => ?_) (fun q => absurd q (by decide))
  refine rq_vret i_94_39 r_94 ?_
  refine rq_back0 ?_
  refine rq_loc i_93_41 rfl rfl ?_
  refine rq_loc i_93_42 rfl rfl ?_
  refine rq_V1 (c1 := 0) (s1 := 0) (cb := 0) (sb := 0) (F' := 2046) (Lo' := 83953) i_93_44 c_93_362 rfl (rz_isa u73.1 a_15_94) rfl rfl rfl ?_
  refine rq_pure i_94_0 rfl ?_
  refine rq_topi (v := 24) (by decide) ?_
  refine rq_loc i_94_2 rfl rfl ?_
  refine rq_loc i_94_3 rfl rfl ?_
  refine rq_iflt (tg := 39) i_94_4 ⟨by decide, by decide⟩ (fun q => absurd q (by decide)) (fun _ => ?_)
  refine rq_loc i_94_7 rfl rfl ?_
  refine rq_getf i_94_8 f_94_9 u73.1 rfl ?_
  refine rq_loc i_94_11 rfl rfl ?_
  refine rq_getf i_94_12 f_94_359 u73.1 rfl ?_
  refine rq_loc i_94_15 rfl rfl ?_
  refine rq_loc i_94_16 rfl rfl ?_
  refine rq_pure i_94_17 rfl ?_
  refine rq_pure i_94_18 rfl ?_
  refine rq_topi (v := 255) (by decide) ?_
  refine rq_pure i_94_21 rfl ?_
  have g307 := (u73.2 175 (by decide)).trans u72.1
  refine rq_iast1 i_94_22 g307 (by decide) (fun L74 u74 => ?_)
  refine rq_loc i_94_23 rfl rfl ?_
  refine rq_pure i_94_24 rfl ?_
  have g308 := (u74.2 174 (by decide)).trans u73.1
  refine rq_getf i_94_25 f_94_359 g308 rfl ?_
  refine rq_pure i_94_28 rfl ?_
  refine rq_topi (v := 1) (by decide) ?_
  refine rq_pure i_94_29 rfl ?_
  refine rq_topi (v := 17) (by decide) ?_
  refine rq_putf1 i_94_30 p_94_359 g308 rfl rfl rfl (fun L75 u75 => ?_)
  refine rq_loc i_94_33 rfl rfl ?_
  refine rq_goto (tg := 3) i_94_36 ⟨by decide, by decide⟩ ?_
  refine rq_loc i_94_3 rfl rfl ?_
  refine rq_topi (v := 16) (by decide) ?_
  refine rq_iflt (tg := 39) i_94_4 ⟨by decide, by decide⟩ (fun q => absurd q (by decide)) (fun _ => ?_)
  refine rq_loc i_94_7 rfl rfl ?_
  refine rq_getf i_94_8 f_94_9 u75.1 rfl ?_
  refine rq_loc i_94_11 rfl rfl ?_
  refine rq_getf i_94_12 f_94_359 u75.1 rfl ?_
  refine rq_loc i_94_15 rfl rfl ?_
  refine rq_loc i_94_16 rfl rfl ?_
  refine rq_topi (v := 16) (by decide) ?_
  refine rq_pure i_94_17 rfl ?_
  refine rq_pure i_94_18 rfl ?_
  refine rq_topi (v := 255) (by decide) ?_
  refine rq_pure i_94_21 rfl ?_
  have g311 := (u75.2 175 (by decide)).trans u74.1
  refine rq_iast1 i_94_22 g311 (by decide) (fun L76 u76 => ?_)
  refine rq_loc i_94_23 rfl rfl ?_
  refine rq_pure i_94_24 rfl ?_
  have g312 := (u76.2 174 (by decide)).trans u75.1
  refine rq_getf i_94_25 f_94_359 g312 rfl ?_
  refine rq_pure i_94_28 rfl ?_
  refine rq_topi (v := 1) (by decide) ?_
  refine rq_pure i_94_29 rfl ?_
  refine rq_topi (v := 18) (by decide) ?_
  refine rq_putf1 i_94_30 p_94_359 g312 rfl rfl rfl (fun L77 u77 => ?_)
  refine rq_loc i_94_33 rfl rfl ?_
  refine rq_goto (tg := 3) i_94_36 ⟨by decide, by decide⟩ ?_
  refine rq_loc i_94_3 rfl rfl ?_
  refine rq_topi (v := 8) (by decide) ?_
  refine rq_iflt (tg := 39) i_94_4 ⟨by decide, by decide⟩ (fun q => absurd q (by decide)) (fun _ => ?_)
  refine rq_loc i_94_7 rfl rfl ?_
  refine rq_getf i_94_8 f_94_9 u77.1 rfl ?_
  refine rq_loc i_94_11 rfl rfl ?_
  refine rq_getf i_94_12 f_94_359 u77.1 rfl ?_
  refine rq_loc i_94_15 rfl rfl ?_
  refine rq_loc i_94_16 rfl rfl ?_
  refine rq_topi (v := 8) (by decide) ?_
  refine rq_pure i_94_17 rfl ?_
  refine rq_pure i_94_18 rfl ?_
  refine rq_topi (v := 255) (by decide) ?_
  refine rq_pure i_94_21 rfl ?_
  have g315 := (u77.2 175 (by decide)).trans u76.1
  refine rq_iast1 i_94_22 g315 (by decide) (fun L78 u78 => ?_)
  refine rq_loc i_94_23 rfl rfl ?_
  refine rq_pure i_94_24 rfl ?_
  have g316 := (u78.2 174 (by decide)).trans u77.1
  refine rq_getf i_94_25 f_94_359 g316 rfl ?_
  refine rq_pure i_94_28 rfl ?_
  refine rq_topi (v := 1) (by decide) ?_
  refine rq_pure i_94_29 rfl ?_
  refine rq_topi (v := 19) (by decide) ?_
  refine rq_putf1 i_94_30 p_94_359 g316 rfl rfl rfl (fun L79 u79 => ?_)
  refine rq_loc i_94_33 rfl rfl ?_
  refine rq_goto (tg := 3) i_94_36 ⟨by decide, by decide⟩ ?_
  refine rq_loc i_94_3 rfl rfl ?_
  refine rq_topi (v := 0) (by decide) ?_
  refine rq_iflt (tg := 39) i_94_4 ⟨by decide, by decide⟩ (fun q => absurd q (by decide)) (fun _ => ?_)
  refine rq_loc i_94_7 rfl rfl ?_
  refine rq_getf i_94_8 f_94_9 u79.1 rfl ?_
  refine rq_loc i_94_11 rfl rfl ?_
  refine rq_getf i_94_12 f_94_359 u79.1 rfl ?_
  refine rq_loc i_94_15 rfl rfl ?_
  refine rq_loc i_94_16 rfl rfl ?_
  refine rq_topi (v := 0) (by decide) ?_
  refine rq_pure i_94_17 rfl ?_
  refine rq_pure i_94_18 rfl ?_
  refine rq_topi (v := 255) (by decide) ?_
  refine rq_pure i_94_21 rfl ?_
  have g319 := (u79.2 175 (by decide)).trans u78.1
  refine rq_iast1 i_94_22 g319 (by decide) (fun L80 u80 => ?_)
  refine rq_loc i_94_23 rfl rfl ?_
  refine rq_pure i_94_24 rfl ?_
  have g320 := (u80.2 174 (by decide)).trans u79.1
  refine rq_getf i_94_25 f_94_359 g320 rfl ?_
  refine rq_pure i_94_28 rfl ?_
  refine rq_topi (v := 1) (by decide) ?_
  refine rq_pure i_94_29 rfl ?_
  refine rq_topi (v := 20) (by decide) ?_
  refine rq_putf1 i_94_30 p_94_359 g320 rfl rfl rfl (fun L81 u81 => ?_)
  refine rq_loc i_94_33 rfl rfl ?_
  refine rq_goto (tg := 3) i_94_36 ⟨by decide, by decide⟩ ?_
  refine rq_loc i_94_3 rfl rfl ?_
  refine rq_topi (v := (-8)) (by decide) ?_
  refine rq_iflt (tg := 39) i_94_4 ⟨by decide, by decide⟩ (fun _ => ?_) (fun q => absurd q (by decide))
  refine rq_vret i_94_39 r_94 ?_
  refine rq_back0 ?_
  refine rq_loc i_93_47 rfl rfl ?_
  refine rq_getf i_93_48 f_93_359 u81.1 rfl ?_
  refine rq_iret i_93_51 r_93 rfl ?_
  refine rq_back1 ?_
  refine rq_iceq (tg := 1334) i_0_256 ⟨by decide, by decide⟩ (fun _ => ?_) (fun q => absurd q (by decide))
  have g321 := (u41.2 rx_S (by decide)).trans g160
  have g322 := (u42.2 rx_S (by decide)).trans g321
  have g323 := (u43.2 rx_S (by decide)).trans g322
  have g324 := (u44.2 rx_S (by decide)).trans g323
  have g325 := (u45.2 rx_S (by decide)).trans g324
  have g326 := (u46.2 rx_S (by decide)).trans g325
  have g327 := (u47.2 rx_S (by decide)).trans g326
  have g328 := (u48.2 rx_S (by decide)).trans g327
  have g329 := (u49.2 rx_S (by decide)).trans g328
  have g330 := (u50.2 rx_S (by decide)).trans g329
  have g331 := (u51.2 rx_S (by decide)).trans g330
  have g332 := (u52.2 rx_S (by decide)).trans g331
  have g333 := (u53.2 rx_S (by decide)).trans g332
  have g334 := (u54.2 rx_S (by decide)).trans g333
  have g335 := (u55.2 rx_S (by decide)).trans g334
  have g336 := (u56.2 rx_S (by decide)).trans g335
  have g337 := (u57.2 rx_S (by decide)).trans g336
  have g338 := (u58.2 rx_S (by decide)).trans g337
  have g339 := (u59.2 rx_S (by decide)).trans g338
  have g340 := (u60.2 rx_S (by decide)).trans g339
  have g341 := (u61.2 rx_S (by decide)).trans g340
  have g342 := (u62.2 rx_S (by decide)).trans g341
  have g343 := (u63.2 rx_S (by decide)).trans g342
  have g344 := (u64.2 rx_S (by decide)).trans g343
  have g345 := (u65.2 rx_S (by decide)).trans g344
  have g346 := (u66.2 rx_S (by decide)).trans g345
  have g347 := (u67.2 rx_S (by decide)).trans g346
  have g348 := (u68.2 rx_S (by decide)).trans g347
  have g349 := (u69.2 rx_S (by decide)).trans g348
  have g350 := (u70.2 rx_S (by decide)).trans g349
  have g351 := (u71.2 rx_S (by decide)).trans g350
  have g352 := (u72.2 rx_S (by decide)).trans g351
  have g353 := (u73.2 rx_S (by decide)).trans g352
  have g354 := (u74.2 rx_S (by decide)).trans g353
  have g355 := (u75.2 rx_S (by decide)).trans g354
  have g356 := (u76.2 rx_S (by decide)).trans g355
  have g357 := (u77.2 rx_S (by decide)).trans g356
  have g358 := (u78.2 rx_S (by decide)).trans g357
  have g359 := (u79.2 rx_S (by decide)).trans g358
  have g360 := (u80.2 rx_S (by decide)).trans g359
  have g361 := (u81.2 rx_S (by decide)).trans g360
  exact p1_tail g361 rfl rfl
set_option maxRecDepth 8000 in
theorem p1c_run {xs : Nat → Int32} {fm : Value} {L : List va_E} (hL : rz_heap L rz_T0 = true) (hZ162 : rz_val L 162 12 [0, 0, 0, 0, 0, 0, 0, (-1), (-1), (-1), 0, 0] = true) : rq (rt_P (6, xs) fm) 0 2048 84000 100 1000 1246 p1_lv [] L p1_Q := by
  have c0 : L[0]? = some (.inr (14, [.ref 1, .ref 7, .ref 114, .ref 133, .ref 145, .ref 146, .ref 150, .ref 159, .ref 167, .ref 172])) := rz_obj hL (by decide +kernel)
  have c159 : L[159]? = some (.inr (11, [.ref 7, .ref 114, .ref 146, .ref 160, .ref 161, .int 0, .ref 162, .ref 163, .ref 164, .ref 165, .int 0, .ref 166, .int 0, .long 0, .long 0])) := rz_obj hL (by decide +kernel)
  obtain ⟨f162, c162, v162⟩ := rz_vals hZ162
  have c174 : L[174]? = some (.inr (15, [.int 0, .ref 175, .int 0, .ref 176, .int 0, .int 0, .ref 177, .int 0, .ref 178, .ref 179, .ref 180, .int 0, .int 0, .int 0, .int 0, .int 0, .ref 181, .ref 182, .ref 183, .ref 184, .ref 185, .ref 186, .ref 187, .ref 188, .int 0, .ref 189, .ref 190, .ref 191, .ref 192, .ref 193, .ref 194, .ref 195, .ref 196, .ref 197, .int 0, .ref 198, .ref 199, .int 0, .ref 200, .ref 201, .ref 202, .ref 203, .ref 204, .ref 205, .ref 206, .ref 207, .ref 208, .ref 209, .ref 210, .ref 211, .ref 212, .ref 213, .ref 214, .ref 215, .ref 216, .ref 217, .ref 218, .ref 219, .ref 220, .ref 221, .ref 222, .ref 223, .ref 224, .ref 225, .ref 226, .ref 227, .ref 228, .int 0, .long 0, .ref 229, .ref 230, .ref 231, .ref 232, .long 0, .int 0, .ref 233, .int 0, .int 0, .int 0, .long 0, .int 0, .int 0, .int 0, .ref 234, .ref 235, .ref 236, .ref 237, .ref 238, .ref 239, .ref 240, .int 0, .int 0, .ref 241, .ref 242, .ref 243, .ref 244, .ref 245, .int (-1), .ref 246, .ref 247, .ref 248, .int 0, .int 0, .ref 249, .int 0, .int 0, .int 0, .ref 250, .ref 251, .ref 252, .int 0, .int 0, .int 0, .int 0, .ref 253, .ref 254, .ref 255, .ref 256, .ref 257, .ref 258, .ref 259, .int 0, .ref 260, .int 0, .int 0, .int 0, .int 0, .int 0, .int 0, .int 0, .int 0, .int 0, .int 0, .int 0, .int 0, .ref 261, .ref 262, .ref 263, .ref 264, .ref 265])) := rz_obj hL (by decide +kernel)
  have hS : L[rx_S]? = none := p1_none hL
  refine rq_loc i_0_1246 rfl rfl ?_
  refine rq_loc i_0_1247 rfl rfl ?_
  refine rq_loc i_0_1248 rfl rfl ?_
  refine rq_pure i_0_1250 rfl ?_
  refine rq_topi (v := 1) (by decide) ?_
  refine rq_pure i_0_1251 rfl ?_
  refine rq_topi (v := 1) (by decide) ?_
  refine rq_sald1 (x := xs 1) i_0_1252 hS rfl (by decide) rfl ?_
  refine rq_V1 (c1 := 0) (s1 := 0) (cb := 100) (sb := 1000) (F' := 2047) (Lo' := 83979) i_0_1253 c_0_159 rfl (rz_isa c0 a_14_86) rfl rfl rfl ?_
  refine rq_loc i_86_0 rfl rfl ?_
  refine rq_getf i_86_1 f_86_69 c0 rfl ?_
  refine rq_loc i_86_4 rfl rfl ?_
  refine rq_V1 (c1 := 0) (s1 := 0) (cb := 0) (sb := 0) (F' := 2046) (Lo' := 83957) i_86_5 c_86_368 rfl (rz_isa c159 a_11_50) rfl rfl rfl ?_
  refine rq_loc i_50_0 rfl rfl ?_
  refine rq_iflt (tg := 10) i_50_1 ⟨by decide, by decide⟩ (fun h1 => ?_) (fun h1 => ?_)
  ·
    refine rq_pure i_50_10 rfl ?_
    refine rq_topi (v := (-1)) (by decide) ?_
    refine rq_iret i_50_11 r_50 rfl ?_
    refine rq_back1 ?_
    refine rq_iret i_86_8 r_86 rfl ?_
    refine rq_back1 ?_
    refine rq_loc i_0_1256 rfl rfl ?_
    refine rq_loc i_0_1257 rfl rfl ?_
    refine rq_loc i_0_1258 rfl rfl ?_
    refine rq_pure i_0_1260 rfl ?_
    refine rq_topi (v := 1) (by decide) ?_
    refine rq_pure i_0_1261 rfl ?_
    refine rq_topi (v := 1) (by decide) ?_
    refine rq_sald1 (x := xs 1) i_0_1262 hS rfl (by decide) rfl ?_
    refine rq_V1 (c1 := 0) (s1 := 0) (cb := 100) (sb := 1000) (F' := 2047) (Lo' := 83978) i_0_1263 c_0_162 rfl (rz_isa c174 a_15_141) rfl rfl rfl ?_
    refine rq_loc i_141_0 rfl rfl ?_
    refine rq_pure i_141_1 rfl ?_
    refine rq_topi (v := 0) (by decide) ?_
    refine rq_putf1 i_141_2 p_141_356 c174 rfl rfl rfl (fun L1 u1 => ?_)
    refine rq_loc i_141_5 rfl rfl ?_
    refine rq_iflt (tg := 15) i_141_6 ⟨by decide, by decide⟩ (fun _ => ?_) (fun q => absurd q (by intro q; simp only [Int32.lt_iff_toInt_lt, Int32.le_iff_toInt_le, Int32.not_lt, Int32.not_le, ← Int32.toInt_inj] at q h1; have e0 : (0 : Int32).toInt = 0 := (by decide); first | omega | (simp at q h1; omega)))
    refine rq_pure i_141_15 rfl ?_
    refine rq_topi (v := (-1)) (by decide) ?_
    refine rq_iret i_141_16 r_141 rfl ?_
    refine rq_back1 ?_
    refine rq_iceq (tg := 1334) i_0_1266 ⟨by decide, by decide⟩ (fun _ => ?_) (fun q => absurd q (by decide))
    have g2 := (u1.2 rx_S (by decide)).trans hS
    exact p1_tail g2 rfl rfl
  ·
    refine rq_loc i_50_4 rfl rfl ?_
    refine rq_pure i_50_5 rfl ?_
    refine rq_topi (v := 12) (by decide) ?_
    refine rq_iclt (tg := 12) i_50_7 ⟨by decide, by decide⟩ (fun h3 => ?_) (fun h3 => ?_)
    ·
      refine rq_loc i_50_12 rfl rfl ?_
      refine rq_getf i_50_13 f_50_18 c159 rfl ?_
      refine rq_pure i_50_16 rfl ?_
      refine rq_topi (v := 0) (by decide) ?_
      refine rq_iald i_50_17 c162 (by decide) ?_
      refine rq_topi (v := 0) ((v162 _ (by decide)).trans (by decide)) ?_
      refine rq_ifne (tg := 25) i_50_18 ⟨by decide, by decide⟩ (fun q => absurd q (by decide)) (fun _ => ?_)
      refine rq_pure i_50_21 rfl ?_
      refine rq_topi (v := 1) (by decide) ?_
      refine rq_goto (tg := 26) i_50_22 ⟨by decide, by decide⟩ ?_
      refine rq_loc i_50_26 rfl rfl ?_
      refine rq_loc i_50_27 rfl rfl ?_
      by_cases h4 : (xs 1) = 3
      ·
        refine rq_tsk (tg := 56) (off := 28) (v := 3) i_50_28 h4 (by decide) (by decide) ⟨by decide, by decide⟩ ?_
        refine rq_loc i_50_56 rfl rfl ?_
        refine rq_ifeq (tg := 64) i_50_57 ⟨by decide, by decide⟩ (fun q => absurd q (by decide)) (fun _ => ?_)
        refine rq_pure i_50_60 rfl ?_
        refine rq_topi (v := 0) (by decide) ?_
        refine rq_goto (tg := 82) i_50_61 ⟨by decide, by decide⟩ ?_
        refine rq_iret i_50_82 r_50 rfl ?_
        refine rq_back1 ?_
        refine rq_iret i_86_8 r_86 rfl ?_
        refine rq_back1 ?_
        refine rq_loc i_0_1256 rfl rfl ?_
        refine rq_loc i_0_1257 rfl rfl ?_
        refine rq_loc i_0_1258 rfl rfl ?_
        refine rq_pure i_0_1260 rfl ?_
        refine rq_topi (v := 1) (by decide) ?_
        refine rq_pure i_0_1261 rfl ?_
        refine rq_topi (v := 1) (by decide) ?_
        refine rq_sald1 (x := xs 1) i_0_1262 hS rfl (by decide) rfl ?_
        refine rq_V1 (c1 := 0) (s1 := 0) (cb := 100) (sb := 1000) (F' := 2047) (Lo' := 83978) i_0_1263 c_0_162 rfl (rz_isa c174 a_15_141) rfl rfl rfl ?_
        refine rq_loc i_141_0 rfl rfl ?_
        refine rq_pure i_141_1 rfl ?_
        refine rq_topi (v := 0) (by decide) ?_
        refine rq_putf1 i_141_2 p_141_356 c174 rfl rfl rfl (fun L1 u1 => ?_)
        refine rq_loc i_141_5 rfl rfl ?_
        refine rq_topi (v := 3) h4 ?_
        refine rq_iflt (tg := 15) i_141_6 ⟨by decide, by decide⟩ (fun q => absurd q (by decide)) (fun _ => ?_)
        refine rq_loc i_141_9 rfl rfl ?_
        refine rq_topi (v := 3) h4 ?_
        refine rq_pure i_141_10 rfl ?_
        refine rq_topi (v := 11) (by decide) ?_
        refine rq_icle (tg := 17) i_141_12 ⟨by decide, by decide⟩ (fun _ => ?_) (fun q => absurd q (by decide))
        refine rq_loc i_141_17 rfl rfl ?_
        refine rq_getf i_141_18 f_141_897 u1.1 rfl ?_
        refine rq_ifne (tg := 28) i_141_21 ⟨by decide, by decide⟩ (fun q => absurd q (by decide)) (fun _ => ?_)
        refine rq_pure i_141_24 rfl ?_
        refine rq_topi (v := 1) (by decide) ?_
        refine rq_goto (tg := 29) i_141_25 ⟨by decide, by decide⟩ ?_
        refine rq_loc i_141_29 rfl rfl ?_
        refine rq_loc i_141_30 rfl rfl ?_
        refine rq_topi (v := 3) h4 ?_
        refine rq_pure i_141_31 rfl ?_
        refine rq_topi (v := 7) (by decide) ?_
        refine rq_iclt (tg := 81) i_141_33 ⟨by decide, by decide⟩ (fun _ => ?_) (fun q => absurd q (by decide))
        refine rq_loc i_141_81 rfl rfl ?_
        refine rq_ifeq (tg := 87) i_141_82 ⟨by decide, by decide⟩ (fun q => absurd q (by decide)) (fun _ => ?_)
        refine rq_pure i_141_85 rfl ?_
        refine rq_topi (v := 0) (by decide) ?_
        refine rq_iret i_141_86 r_141 rfl ?_
        refine rq_back1 ?_
        refine rq_iceq (tg := 1334) i_0_1266 ⟨by decide, by decide⟩ (fun _ => ?_) (fun q => absurd q (by decide))
        have g5 := (u1.2 rx_S (by decide)).trans hS
        exact p1_tail g5 rfl rfl
      by_cases h6 : (xs 1) = 4
      ·
        refine rq_tsk (tg := 83) (off := 55) (v := 4) i_50_28 h6 (by decide) (by decide) ⟨by decide, by decide⟩ ?_
        refine rq_loc i_50_83 rfl rfl ?_
        refine rq_ifeq (tg := 91) i_50_84 ⟨by decide, by decide⟩ (fun q => absurd q (by decide)) (fun _ => ?_)
        refine rq_pure i_50_87 rfl ?_
        refine rq_topi (v := 0) (by decide) ?_
        refine rq_goto (tg := 102) i_50_88 ⟨by decide, by decide⟩ ?_
        refine rq_iret i_50_102 r_50 rfl ?_
        refine rq_back1 ?_
        refine rq_iret i_86_8 r_86 rfl ?_
        refine rq_back1 ?_
        refine rq_loc i_0_1256 rfl rfl ?_
        refine rq_loc i_0_1257 rfl rfl ?_
        refine rq_loc i_0_1258 rfl rfl ?_
        refine rq_pure i_0_1260 rfl ?_
        refine rq_topi (v := 1) (by decide) ?_
        refine rq_pure i_0_1261 rfl ?_
        refine rq_topi (v := 1) (by decide) ?_
        refine rq_sald1 (x := xs 1) i_0_1262 hS rfl (by decide) rfl ?_
        refine rq_V1 (c1 := 0) (s1 := 0) (cb := 100) (sb := 1000) (F' := 2047) (Lo' := 83978) i_0_1263 c_0_162 rfl (rz_isa c174 a_15_141) rfl rfl rfl ?_
        refine rq_loc i_141_0 rfl rfl ?_
        refine rq_pure i_141_1 rfl ?_
        refine rq_topi (v := 0) (by decide) ?_
        refine rq_putf1 i_141_2 p_141_356 c174 rfl rfl rfl (fun L1 u1 => ?_)
        refine rq_loc i_141_5 rfl rfl ?_
        refine rq_topi (v := 4) h6 ?_
        refine rq_iflt (tg := 15) i_141_6 ⟨by decide, by decide⟩ (fun q => absurd q (by decide)) (fun _ => ?_)
        refine rq_loc i_141_9 rfl rfl ?_
        refine rq_topi (v := 4) h6 ?_
        refine rq_pure i_141_10 rfl ?_
        refine rq_topi (v := 11) (by decide) ?_
        refine rq_icle (tg := 17) i_141_12 ⟨by decide, by decide⟩ (fun _ => ?_) (fun q => absurd q (by decide))
        refine rq_loc i_141_17 rfl rfl ?_
        refine rq_getf i_141_18 f_141_897 u1.1 rfl ?_
        refine rq_ifne (tg := 28) i_141_21 ⟨by decide, by decide⟩ (fun q => absurd q (by decide)) (fun _ => ?_)
        refine rq_pure i_141_24 rfl ?_
        refine rq_topi (v := 1) (by decide) ?_
        refine rq_goto (tg := 29) i_141_25 ⟨by decide, by decide⟩ ?_
        refine rq_loc i_141_29 rfl rfl ?_
        refine rq_loc i_141_30 rfl rfl ?_
        refine rq_topi (v := 4) h6 ?_
        refine rq_pure i_141_31 rfl ?_
        refine rq_topi (v := 7) (by decide) ?_
        refine rq_iclt (tg := 81) i_141_33 ⟨by decide, by decide⟩ (fun _ => ?_) (fun q => absurd q (by decide))
        refine rq_loc i_141_81 rfl rfl ?_
        refine rq_ifeq (tg := 87) i_141_82 ⟨by decide, by decide⟩ (fun q => absurd q (by decide)) (fun _ => ?_)
        refine rq_pure i_141_85 rfl ?_
        refine rq_topi (v := 0) (by decide) ?_
        refine rq_iret i_141_86 r_141 rfl ?_
        refine rq_back1 ?_
        refine rq_iceq (tg := 1334) i_0_1266 ⟨by decide, by decide⟩ (fun _ => ?_) (fun q => absurd q (by decide))
        have g7 := (u1.2 rx_S (by decide)).trans hS
        exact p1_tail g7 rfl rfl
      by_cases h8 : (xs 1) = 5
      ·
        refine rq_tsk (tg := 103) (off := 75) (v := 5) i_50_28 h8 (by decide) (by decide) ⟨by decide, by decide⟩ ?_
        refine rq_loc i_50_103 rfl rfl ?_
        refine rq_V1 (c1 := 0) (s1 := 0) (cb := 0) (sb := 0) (F' := 2045) (Lo' := 83937) i_50_104 c_50_114 rfl (rz_isa c159 a_11_49) rfl rfl rfl ?_
        refine rq_loc i_49_0 rfl rfl ?_
        refine rq_getf i_49_1 f_49_18 c159 rfl ?_
        refine rq_pure i_49_4 rfl ?_
        refine rq_topi (v := 0) (by decide) ?_
        refine rq_iald i_49_5 c162 (by decide) ?_
        refine rq_topi (v := 0) ((v162 _ (by decide)).trans (by decide)) ?_
        refine rq_pure i_49_6 rfl ?_
        refine rq_topi (v := 1) (by decide) ?_
        refine rq_icne (tg := 14) i_49_7 ⟨by decide, by decide⟩ (fun _ => ?_) (fun q => absurd q (by decide))
        refine rq_pure i_49_14 rfl ?_
        refine rq_topi (v := 0) (by decide) ?_
        refine rq_iret i_49_15 r_49 rfl ?_
        refine rq_back1 ?_
        refine rq_ifeq (tg := 117) i_50_107 ⟨by decide, by decide⟩ (fun _ => ?_) (fun q => absurd q (by decide))
        refine rq_pure i_50_117 rfl ?_
        refine rq_topi (v := 0) (by decide) ?_
        refine rq_iret i_50_118 r_50 rfl ?_
        refine rq_back1 ?_
        refine rq_iret i_86_8 r_86 rfl ?_
        refine rq_back1 ?_
        refine rq_loc i_0_1256 rfl rfl ?_
        refine rq_loc i_0_1257 rfl rfl ?_
        refine rq_loc i_0_1258 rfl rfl ?_
        refine rq_pure i_0_1260 rfl ?_
        refine rq_topi (v := 1) (by decide) ?_
        refine rq_pure i_0_1261 rfl ?_
        refine rq_topi (v := 1) (by decide) ?_
        refine rq_sald1 (x := xs 1) i_0_1262 hS rfl (by decide) rfl ?_
        refine rq_V1 (c1 := 0) (s1 := 0) (cb := 100) (sb := 1000) (F' := 2047) (Lo' := 83978) i_0_1263 c_0_162 rfl (rz_isa c174 a_15_141) rfl rfl rfl ?_
        refine rq_loc i_141_0 rfl rfl ?_
        refine rq_pure i_141_1 rfl ?_
        refine rq_topi (v := 0) (by decide) ?_
        refine rq_putf1 i_141_2 p_141_356 c174 rfl rfl rfl (fun L1 u1 => ?_)
        refine rq_loc i_141_5 rfl rfl ?_
        refine rq_topi (v := 5) h8 ?_
        refine rq_iflt (tg := 15) i_141_6 ⟨by decide, by decide⟩ (fun q => absurd q (by decide)) (fun _ => ?_)
        refine rq_loc i_141_9 rfl rfl ?_
        refine rq_topi (v := 5) h8 ?_
        refine rq_pure i_141_10 rfl ?_
        refine rq_topi (v := 11) (by decide) ?_
        refine rq_icle (tg := 17) i_141_12 ⟨by decide, by decide⟩ (fun _ => ?_) (fun q => absurd q (by decide))
        refine rq_loc i_141_17 rfl rfl ?_
        refine rq_getf i_141_18 f_141_897 u1.1 rfl ?_
        refine rq_ifne (tg := 28) i_141_21 ⟨by decide, by decide⟩ (fun q => absurd q (by decide)) (fun _ => ?_)
        refine rq_pure i_141_24 rfl ?_
        refine rq_topi (v := 1) (by decide) ?_
        refine rq_goto (tg := 29) i_141_25 ⟨by decide, by decide⟩ ?_
        refine rq_loc i_141_29 rfl rfl ?_
        refine rq_loc i_141_30 rfl rfl ?_
        refine rq_topi (v := 5) h8 ?_
        refine rq_pure i_141_31 rfl ?_
        refine rq_topi (v := 7) (by decide) ?_
        refine rq_iclt (tg := 81) i_141_33 ⟨by decide, by decide⟩ (fun _ => ?_) (fun q => absurd q (by decide))
        refine rq_loc i_141_81 rfl rfl ?_
        refine rq_ifeq (tg := 87) i_141_82 ⟨by decide, by decide⟩ (fun q => absurd q (by decide)) (fun _ => ?_)
        refine rq_pure i_141_85 rfl ?_
        refine rq_topi (v := 0) (by decide) ?_
        refine rq_iret i_141_86 r_141 rfl ?_
        refine rq_back1 ?_
        refine rq_iceq (tg := 1334) i_0_1266 ⟨by decide, by decide⟩ (fun _ => ?_) (fun q => absurd q (by decide))
        have g9 := (u1.2 rx_S (by decide)).trans hS
        exact p1_tail g9 rfl rfl
      refine rq_tsd (tg := 119) i_50_28 (rz_sw fun k k1 k2 => by
        have kk : k = 3 ∨ k = 4 ∨ k = 5 := by omega
        rcases kk with rfl | rfl | rfl
        · exact h4
        · exact h6
        · exact h8
        ) ⟨by decide, by decide⟩ ?_
      refine rq_loc i_50_119 rfl rfl ?_
      refine rq_getf i_50_120 f_50_18 c159 rfl ?_
      refine rq_loc i_50_123 rfl rfl ?_
      by_cases h10 : (xs 1) = 0
      ·
        refine rq_topi (v := 0) h10 ?_
        refine rq_iald i_50_124 c162 (by decide) ?_
        refine rq_topi (v := 0) ((v162 _ (by decide)).trans (by decide)) ?_
        refine rq_iret i_50_125 r_50 rfl ?_
        refine rq_back1 ?_
        refine rq_iret i_86_8 r_86 rfl ?_
        refine rq_back1 ?_
        refine rq_loc i_0_1256 rfl rfl ?_
        refine rq_loc i_0_1257 rfl rfl ?_
        refine rq_loc i_0_1258 rfl rfl ?_
        refine rq_pure i_0_1260 rfl ?_
        refine rq_topi (v := 1) (by decide) ?_
        refine rq_pure i_0_1261 rfl ?_
        refine rq_topi (v := 1) (by decide) ?_
        refine rq_sald1 (x := xs 1) i_0_1262 hS rfl (by decide) rfl ?_
        refine rq_V1 (c1 := 0) (s1 := 0) (cb := 100) (sb := 1000) (F' := 2047) (Lo' := 83978) i_0_1263 c_0_162 rfl (rz_isa c174 a_15_141) rfl rfl rfl ?_
        refine rq_loc i_141_0 rfl rfl ?_
        refine rq_pure i_141_1 rfl ?_
        refine rq_topi (v := 0) (by decide) ?_
        refine rq_putf1 i_141_2 p_141_356 c174 rfl rfl rfl (fun L1 u1 => ?_)
        refine rq_loc i_141_5 rfl rfl ?_
        refine rq_topi (v := 0) h10 ?_
        refine rq_iflt (tg := 15) i_141_6 ⟨by decide, by decide⟩ (fun q => absurd q (by decide)) (fun _ => ?_)
        refine rq_loc i_141_9 rfl rfl ?_
        refine rq_topi (v := 0) h10 ?_
        refine rq_pure i_141_10 rfl ?_
        refine rq_topi (v := 11) (by decide) ?_
        refine rq_icle (tg := 17) i_141_12 ⟨by decide, by decide⟩ (fun _ => ?_) (fun q => absurd q (by decide))
        refine rq_loc i_141_17 rfl rfl ?_
        refine rq_getf i_141_18 f_141_897 u1.1 rfl ?_
        refine rq_ifne (tg := 28) i_141_21 ⟨by decide, by decide⟩ (fun q => absurd q (by decide)) (fun _ => ?_)
        refine rq_pure i_141_24 rfl ?_
        refine rq_topi (v := 1) (by decide) ?_
        refine rq_goto (tg := 29) i_141_25 ⟨by decide, by decide⟩ ?_
        refine rq_loc i_141_29 rfl rfl ?_
        refine rq_loc i_141_30 rfl rfl ?_
        refine rq_topi (v := 0) h10 ?_
        refine rq_pure i_141_31 rfl ?_
        refine rq_topi (v := 7) (by decide) ?_
        refine rq_iclt (tg := 81) i_141_33 ⟨by decide, by decide⟩ (fun _ => ?_) (fun q => absurd q (by decide))
        refine rq_loc i_141_81 rfl rfl ?_
        refine rq_ifeq (tg := 87) i_141_82 ⟨by decide, by decide⟩ (fun q => absurd q (by decide)) (fun _ => ?_)
        refine rq_pure i_141_85 rfl ?_
        refine rq_topi (v := 0) (by decide) ?_
        refine rq_iret i_141_86 r_141 rfl ?_
        refine rq_back1 ?_
        refine rq_iceq (tg := 1334) i_0_1266 ⟨by decide, by decide⟩ (fun _ => ?_) (fun q => absurd q (by decide))
        have g11 := (u1.2 rx_S (by decide)).trans hS
        exact p1_tail g11 rfl rfl
      by_cases h12 : (xs 1) = 1
      ·
        refine rq_topi (v := 1) h12 ?_
        refine rq_iald i_50_124 c162 (by decide) ?_
        refine rq_topi (v := 0) ((v162 _ (by decide)).trans (by decide)) ?_
        refine rq_iret i_50_125 r_50 rfl ?_
        refine rq_back1 ?_
        refine rq_iret i_86_8 r_86 rfl ?_
        refine rq_back1 ?_
        refine rq_loc i_0_1256 rfl rfl ?_
        refine rq_loc i_0_1257 rfl rfl ?_
        refine rq_loc i_0_1258 rfl rfl ?_
        refine rq_pure i_0_1260 rfl ?_
        refine rq_topi (v := 1) (by decide) ?_
        refine rq_pure i_0_1261 rfl ?_
        refine rq_topi (v := 1) (by decide) ?_
        refine rq_sald1 (x := xs 1) i_0_1262 hS rfl (by decide) rfl ?_
        refine rq_V1 (c1 := 0) (s1 := 0) (cb := 100) (sb := 1000) (F' := 2047) (Lo' := 83978) i_0_1263 c_0_162 rfl (rz_isa c174 a_15_141) rfl rfl rfl ?_
        refine rq_loc i_141_0 rfl rfl ?_
        refine rq_pure i_141_1 rfl ?_
        refine rq_topi (v := 0) (by decide) ?_
        refine rq_putf1 i_141_2 p_141_356 c174 rfl rfl rfl (fun L1 u1 => ?_)
        refine rq_loc i_141_5 rfl rfl ?_
        refine rq_topi (v := 1) h12 ?_
        refine rq_iflt (tg := 15) i_141_6 ⟨by decide, by decide⟩ (fun q => absurd q (by decide)) (fun _ => ?_)
        refine rq_loc i_141_9 rfl rfl ?_
        refine rq_topi (v := 1) h12 ?_
        refine rq_pure i_141_10 rfl ?_
        refine rq_topi (v := 11) (by decide) ?_
        refine rq_icle (tg := 17) i_141_12 ⟨by decide, by decide⟩ (fun _ => ?_) (fun q => absurd q (by decide))
        refine rq_loc i_141_17 rfl rfl ?_
        refine rq_getf i_141_18 f_141_897 u1.1 rfl ?_
        refine rq_ifne (tg := 28) i_141_21 ⟨by decide, by decide⟩ (fun q => absurd q (by decide)) (fun _ => ?_)
        refine rq_pure i_141_24 rfl ?_
        refine rq_topi (v := 1) (by decide) ?_
        refine rq_goto (tg := 29) i_141_25 ⟨by decide, by decide⟩ ?_
        refine rq_loc i_141_29 rfl rfl ?_
        refine rq_loc i_141_30 rfl rfl ?_
        refine rq_topi (v := 1) h12 ?_
        refine rq_pure i_141_31 rfl ?_
        refine rq_topi (v := 7) (by decide) ?_
        refine rq_iclt (tg := 81) i_141_33 ⟨by decide, by decide⟩ (fun _ => ?_) (fun q => absurd q (by decide))
        refine rq_loc i_141_81 rfl rfl ?_
        refine rq_ifeq (tg := 87) i_141_82 ⟨by decide, by decide⟩ (fun q => absurd q (by decide)) (fun _ => ?_)
        refine rq_pure i_141_85 rfl ?_
        refine rq_topi (v := 0) (by decide) ?_
        refine rq_iret i_141_86 r_141 rfl ?_
        refine rq_back1 ?_
        refine rq_iceq (tg := 1334) i_0_1266 ⟨by decide, by decide⟩ (fun _ => ?_) (fun q => absurd q (by decide))
        have g13 := (u1.2 rx_S (by decide)).trans hS
        exact p1_tail g13 rfl rfl
      by_cases h14 : (xs 1) = 2
      ·
        refine rq_topi (v := 2) h14 ?_
        refine rq_iald i_50_124 c162 (by decide) ?_
        refine rq_topi (v := 0) ((v162 _ (by decide)).trans (by decide)) ?_
        refine rq_iret i_50_125 r_50 rfl ?_
        refine rq_back1 ?_
        refine rq_iret i_86_8 r_86 rfl ?_
        refine rq_back1 ?_
        refine rq_loc i_0_1256 rfl rfl ?_
        refine rq_loc i_0_1257 rfl rfl ?_
        refine rq_loc i_0_1258 rfl rfl ?_
        refine rq_pure i_0_1260 rfl ?_
        refine rq_topi (v := 1) (by decide) ?_
        refine rq_pure i_0_1261 rfl ?_
        refine rq_topi (v := 1) (by decide) ?_
        refine rq_sald1 (x := xs 1) i_0_1262 hS rfl (by decide) rfl ?_
        refine rq_V1 (c1 := 0) (s1 := 0) (cb := 100) (sb := 1000) (F' := 2047) (Lo' := 83978) i_0_1263 c_0_162 rfl (rz_isa c174 a_15_141) rfl rfl rfl ?_
        refine rq_loc i_141_0 rfl rfl ?_
        refine rq_pure i_141_1 rfl ?_
        refine rq_topi (v := 0) (by decide) ?_
        refine rq_putf1 i_141_2 p_141_356 c174 rfl rfl rfl (fun L1 u1 => ?_)
        refine rq_loc i_141_5 rfl rfl ?_
        refine rq_topi (v := 2) h14 ?_
        refine rq_iflt (tg := 15) i_141_6 ⟨by decide, by decide⟩ (fun q => absurd q (by decide)) (fun _ => ?_)
        refine rq_loc i_141_9 rfl rfl ?_
        refine rq_topi (v := 2) h14 ?_
        refine rq_pure i_141_10 rfl ?_
        refine rq_topi (v := 11) (by decide) ?_
        refine rq_icle (tg := 17) i_141_12 ⟨by decide, by decide⟩ (fun _ => ?_) (fun q => absurd q (by decide))
        refine rq_loc i_141_17 rfl rfl ?_
        refine rq_getf i_141_18 f_141_897 u1.1 rfl ?_
        refine rq_ifne (tg := 28) i_141_21 ⟨by decide, by decide⟩ (fun q => absurd q (by decide)) (fun _ => ?_)
        refine rq_pure i_141_24 rfl ?_
        refine rq_topi (v := 1) (by decide) ?_
        refine rq_goto (tg := 29) i_141_25 ⟨by decide, by decide⟩ ?_
        refine rq_loc i_141_29 rfl rfl ?_
        refine rq_loc i_141_30 rfl rfl ?_
        refine rq_topi (v := 2) h14 ?_
        refine rq_pure i_141_31 rfl ?_
        refine rq_topi (v := 7) (by decide) ?_
        refine rq_iclt (tg := 81) i_141_33 ⟨by decide, by decide⟩ (fun _ => ?_) (fun q => absurd q (by decide))
        refine rq_loc i_141_81 rfl rfl ?_
        refine rq_ifeq (tg := 87) i_141_82 ⟨by decide, by decide⟩ (fun q => absurd q (by decide)) (fun _ => ?_)
        refine rq_pure i_141_85 rfl ?_
        refine rq_topi (v := 0) (by decide) ?_
        refine rq_iret i_141_86 r_141 rfl ?_
        refine rq_back1 ?_
        refine rq_iceq (tg := 1334) i_0_1266 ⟨by decide, by decide⟩ (fun _ => ?_) (fun q => absurd q (by decide))
        have g15 := (u1.2 rx_S (by decide)).trans hS
        exact p1_tail g15 rfl rfl
      by_cases h16 : (xs 1) = 6
      ·
        refine rq_topi (v := 6) h16 ?_
        refine rq_iald i_50_124 c162 (by decide) ?_
        refine rq_topi (v := 0) ((v162 _ (by decide)).trans (by decide)) ?_
        refine rq_iret i_50_125 r_50 rfl ?_
        refine rq_back1 ?_
        refine rq_iret i_86_8 r_86 rfl ?_
        refine rq_back1 ?_
        refine rq_loc i_0_1256 rfl rfl ?_
        refine rq_loc i_0_1257 rfl rfl ?_
        refine rq_loc i_0_1258 rfl rfl ?_
        refine rq_pure i_0_1260 rfl ?_
        refine rq_topi (v := 1) (by decide) ?_
        refine rq_pure i_0_1261 rfl ?_
        refine rq_topi (v := 1) (by decide) ?_
        refine rq_sald1 (x := xs 1) i_0_1262 hS rfl (by decide) rfl ?_
        refine rq_V1 (c1 := 0) (s1 := 0) (cb := 100) (sb := 1000) (F' := 2047) (Lo' := 83978) i_0_1263 c_0_162 rfl (rz_isa c174 a_15_141) rfl rfl rfl ?_
        refine rq_loc i_141_0 rfl rfl ?_
        refine rq_pure i_141_1 rfl ?_
        refine rq_topi (v := 0) (by decide) ?_
        refine rq_putf1 i_141_2 p_141_356 c174 rfl rfl rfl (fun L1 u1 => ?_)
        refine rq_loc i_141_5 rfl rfl ?_
        refine rq_topi (v := 6) h16 ?_
        refine rq_iflt (tg := 15) i_141_6 ⟨by decide, by decide⟩ (fun q => absurd q (by decide)) (fun _ => ?_)
        refine rq_loc i_141_9 rfl rfl ?_
        refine rq_topi (v := 6) h16 ?_
        refine rq_pure i_141_10 rfl ?_
        refine rq_topi (v := 11) (by decide) ?_
        refine rq_icle (tg := 17) i_141_12 ⟨by decide, by decide⟩ (fun _ => ?_) (fun q => absurd q (by decide))
        refine rq_loc i_141_17 rfl rfl ?_
        refine rq_getf i_141_18 f_141_897 u1.1 rfl ?_
        refine rq_ifne (tg := 28) i_141_21 ⟨by decide, by decide⟩ (fun q => absurd q (by decide)) (fun _ => ?_)
        refine rq_pure i_141_24 rfl ?_
        refine rq_topi (v := 1) (by decide) ?_
        refine rq_goto (tg := 29) i_141_25 ⟨by decide, by decide⟩ ?_
        refine rq_loc i_141_29 rfl rfl ?_
        refine rq_loc i_141_30 rfl rfl ?_
        refine rq_topi (v := 6) h16 ?_
        refine rq_pure i_141_31 rfl ?_
        refine rq_topi (v := 7) (by decide) ?_
        refine rq_iclt (tg := 81) i_141_33 ⟨by decide, by decide⟩ (fun _ => ?_) (fun q => absurd q (by decide))
        refine rq_loc i_141_81 rfl rfl ?_
        refine rq_ifeq (tg := 87) i_141_82 ⟨by decide, by decide⟩ (fun q => absurd q (by decide)) (fun _ => ?_)
        refine rq_pure i_141_85 rfl ?_
        refine rq_topi (v := 0) (by decide) ?_
        refine rq_iret i_141_86 r_141 rfl ?_
        refine rq_back1 ?_
        refine rq_iceq (tg := 1334) i_0_1266 ⟨by decide, by decide⟩ (fun _ => ?_) (fun q => absurd q (by decide))
        have g17 := (u1.2 rx_S (by decide)).trans hS
        exact p1_tail g17 rfl rfl
      by_cases h18 : (xs 1) = 7
      ·
        refine rq_topi (v := 7) h18 ?_
        refine rq_iald i_50_124 c162 (by decide) ?_
        refine rq_topi (v := (-1)) ((v162 _ (by decide)).trans (by decide)) ?_
        refine rq_iret i_50_125 r_50 rfl ?_
        refine rq_back1 ?_
        refine rq_iret i_86_8 r_86 rfl ?_
        refine rq_back1 ?_
        refine rq_loc i_0_1256 rfl rfl ?_
        refine rq_loc i_0_1257 rfl rfl ?_
        refine rq_loc i_0_1258 rfl rfl ?_
        refine rq_pure i_0_1260 rfl ?_
        refine rq_topi (v := 1) (by decide) ?_
        refine rq_pure i_0_1261 rfl ?_
        refine rq_topi (v := 1) (by decide) ?_
        refine rq_sald1 (x := xs 1) i_0_1262 hS rfl (by decide) rfl ?_
        refine rq_V1 (c1 := 0) (s1 := 0) (cb := 100) (sb := 1000) (F' := 2047) (Lo' := 83978) i_0_1263 c_0_162 rfl (rz_isa c174 a_15_141) rfl rfl rfl ?_
        refine rq_loc i_141_0 rfl rfl ?_
        refine rq_pure i_141_1 rfl ?_
        refine rq_topi (v := 0) (by decide) ?_
        refine rq_putf1 i_141_2 p_141_356 c174 rfl rfl rfl (fun L1 u1 => ?_)
        refine rq_loc i_141_5 rfl rfl ?_
        refine rq_topi (v := 7) h18 ?_
        refine rq_iflt (tg := 15) i_141_6 ⟨by decide, by decide⟩ (fun q => absurd q (by decide)) (fun _ => ?_)
        refine rq_loc i_141_9 rfl rfl ?_
        refine rq_topi (v := 7) h18 ?_
        refine rq_pure i_141_10 rfl ?_
        refine rq_topi (v := 11) (by decide) ?_
        refine rq_icle (tg := 17) i_141_12 ⟨by decide, by decide⟩ (fun _ => ?_) (fun q => absurd q (by decide))
        refine rq_loc i_141_17 rfl rfl ?_
        refine rq_getf i_141_18 f_141_897 u1.1 rfl ?_
        refine rq_ifne (tg := 28) i_141_21 ⟨by decide, by decide⟩ (fun q => absurd q (by decide)) (fun _ => ?_)
        refine rq_pure i_141_24 rfl ?_
        refine rq_topi (v := 1) (by decide) ?_
        refine rq_goto (tg := 29) i_141_25 ⟨by decide, by decide⟩ ?_
        refine rq_loc i_141_29 rfl rfl ?_
        refine rq_loc i_141_30 rfl rfl ?_
        refine rq_topi (v := 7) h18 ?_
        refine rq_pure i_141_31 rfl ?_
        refine rq_topi (v := 7) (by decide) ?_
        refine rq_iclt (tg := 81) i_141_33 ⟨by decide, by decide⟩ (fun q => absurd q (by decide)) (fun _ => ?_)
        refine rq_loc i_141_36 rfl rfl ?_
        refine rq_topi (v := 7) h18 ?_
        refine rq_pure i_141_37 rfl ?_
        refine rq_topi (v := 9) (by decide) ?_
        refine rq_icgt (tg := 81) i_141_39 ⟨by decide, by decide⟩ (fun q => absurd q (by decide)) (fun _ => ?_)
        refine rq_loc i_141_42 rfl rfl ?_
        refine rq_ifeq (tg := 50) i_141_43 ⟨by decide, by decide⟩ (fun q => absurd q (by decide)) (fun _ => ?_)
        refine rq_pure i_141_46 rfl ?_
        refine rq_topi (v := (-1)) (by decide) ?_
        refine rq_goto (tg := 80) i_141_47 ⟨by decide, by decide⟩ ?_
        refine rq_iret i_141_80 r_141 rfl ?_
        refine rq_back1 ?_
        refine rq_iceq (tg := 1334) i_0_1266 ⟨by decide, by decide⟩ (fun _ => ?_) (fun q => absurd q (by decide))
        have g19 := (u1.2 rx_S (by decide)).trans hS
        exact p1_tail g19 rfl rfl
      by_cases h20 : (xs 1) = 8
      ·
        refine rq_topi (v := 8) h20 ?_
        refine rq_iald i_50_124 c162 (by decide) ?_
        refine rq_topi (v := (-1)) ((v162 _ (by decide)).trans (by decide)) ?_
        refine rq_iret i_50_125 r_50 rfl ?_
        refine rq_back1 ?_
        refine rq_iret i_86_8 r_86 rfl ?_
        refine rq_back1 ?_
        refine rq_loc i_0_1256 rfl rfl ?_
        refine rq_loc i_0_1257 rfl rfl ?_
        refine rq_loc i_0_1258 rfl rfl ?_
        refine rq_pure i_0_1260 rfl ?_
        refine rq_topi (v := 1) (by decide) ?_
        refine rq_pure i_0_1261 rfl ?_
        refine rq_topi (v := 1) (by decide) ?_
        refine rq_sald1 (x := xs 1) i_0_1262 hS rfl (by decide) rfl ?_
        refine rq_V1 (c1 := 0) (s1 := 0) (cb := 100) (sb := 1000) (F' := 2047) (Lo' := 83978) i_0_1263 c_0_162 rfl (rz_isa c174 a_15_141) rfl rfl rfl ?_
        refine rq_loc i_141_0 rfl rfl ?_
        refine rq_pure i_141_1 rfl ?_
        refine rq_topi (v := 0) (by decide) ?_
        refine rq_putf1 i_141_2 p_141_356 c174 rfl rfl rfl (fun L1 u1 => ?_)
        refine rq_loc i_141_5 rfl rfl ?_
        refine rq_topi (v := 8) h20 ?_
        refine rq_iflt (tg := 15) i_141_6 ⟨by decide, by decide⟩ (fun q => absurd q (by decide)) (fun _ => ?_)
        refine rq_loc i_141_9 rfl rfl ?_
        refine rq_topi (v := 8) h20 ?_
        refine rq_pure i_141_10 rfl ?_
        refine rq_topi (v := 11) (by decide) ?_
        refine rq_icle (tg := 17) i_141_12 ⟨by decide, by decide⟩ (fun _ => ?_) (fun q => absurd q (by decide))
        refine rq_loc i_141_17 rfl rfl ?_
        refine rq_getf i_141_18 f_141_897 u1.1 rfl ?_
        refine rq_ifne (tg := 28) i_141_21 ⟨by decide, by decide⟩ (fun q => absurd q (by decide)) (fun _ => ?_)
        refine rq_pure i_141_24 rfl ?_
        refine rq_topi (v := 1) (by decide) ?_
        refine rq_goto (tg := 29) i_141_25 ⟨by decide, by decide⟩ ?_
        refine rq_loc i_141_29 rfl rfl ?_
        refine rq_loc i_141_30 rfl rfl ?_
        refine rq_topi (v := 8) h20 ?_
        refine rq_pure i_141_31 rfl ?_
        refine rq_topi (v := 7) (by decide) ?_
        refine rq_iclt (tg := 81) i_141_33 ⟨by decide, by decide⟩ (fun q => absurd q (by decide)) (fun _ => ?_)
        refine rq_loc i_141_36 rfl rfl ?_
        refine rq_topi (v := 8) h20 ?_
        refine rq_pure i_141_37 rfl ?_
        refine rq_topi (v := 9) (by decide) ?_
        refine rq_icgt (tg := 81) i_141_39 ⟨by decide, by decide⟩ (fun q => absurd q (by decide)) (fun _ => ?_)
        refine rq_loc i_141_42 rfl rfl ?_
        refine rq_ifeq (tg := 50) i_141_43 ⟨by decide, by decide⟩ (fun q => absurd q (by decide)) (fun _ => ?_)
        refine rq_pure i_141_46 rfl ?_
        refine rq_topi (v := (-1)) (by decide) ?_
        refine rq_goto (tg := 80) i_141_47 ⟨by decide, by decide⟩ ?_
        refine rq_iret i_141_80 r_141 rfl ?_
        refine rq_back1 ?_
        refine rq_iceq (tg := 1334) i_0_1266 ⟨by decide, by decide⟩ (fun _ => ?_) (fun q => absurd q (by decide))
        have g21 := (u1.2 rx_S (by decide)).trans hS
        exact p1_tail g21 rfl rfl
      by_cases h22 : (xs 1) = 9
      ·
        refine rq_topi (v := 9) h22 ?_
        refine rq_iald i_50_124 c162 (by decide) ?_
        refine rq_topi (v := (-1)) ((v162 _ (by decide)).trans (by decide)) ?_
        refine rq_iret i_50_125 r_50 rfl ?_
        refine rq_back1 ?_
        refine rq_iret i_86_8 r_86 rfl ?_
        refine rq_back1 ?_
        refine rq_loc i_0_1256 rfl rfl ?_
        refine rq_loc i_0_1257 rfl rfl ?_
        refine rq_loc i_0_1258 rfl rfl ?_
        refine rq_pure i_0_1260 rfl ?_
        refine rq_topi (v := 1) (by decide) ?_
        refine rq_pure i_0_1261 rfl ?_
        refine rq_topi (v := 1) (by decide) ?_
        refine rq_sald1 (x := xs 1) i_0_1262 hS rfl (by decide) rfl ?_
        refine rq_V1 (c1 := 0) (s1 := 0) (cb := 100) (sb := 1000) (F' := 2047) (Lo' := 83978) i_0_1263 c_0_162 rfl (rz_isa c174 a_15_141) rfl rfl rfl ?_
        refine rq_loc i_141_0 rfl rfl ?_
        refine rq_pure i_141_1 rfl ?_
        refine rq_topi (v := 0) (by decide) ?_
        refine rq_putf1 i_141_2 p_141_356 c174 rfl rfl rfl (fun L1 u1 => ?_)
        refine rq_loc i_141_5 rfl rfl ?_
        refine rq_topi (v := 9) h22 ?_
        refine rq_iflt (tg := 15) i_141_6 ⟨by decide, by decide⟩ (fun q => absurd q (by decide)) (fun _ => ?_)
        refine rq_loc i_141_9 rfl rfl ?_
        refine rq_topi (v := 9) h22 ?_
        refine rq_pure i_141_10 rfl ?_
        refine rq_topi (v := 11) (by decide) ?_
        refine rq_icle (tg := 17) i_141_12 ⟨by decide, by decide⟩ (fun _ => ?_) (fun q => absurd q (by decide))
        refine rq_loc i_141_17 rfl rfl ?_
        refine rq_getf i_141_18 f_141_897 u1.1 rfl ?_
        refine rq_ifne (tg := 28) i_141_21 ⟨by decide, by decide⟩ (fun q => absurd q (by decide)) (fun _ => ?_)
        refine rq_pure i_141_24 rfl ?_
        refine rq_topi (v := 1) (by decide) ?_
        refine rq_goto (tg := 29) i_141_25 ⟨by decide, by decide⟩ ?_
        refine rq_loc i_141_29 rfl rfl ?_
        refine rq_loc i_141_30 rfl rfl ?_
        refine rq_topi (v := 9) h22 ?_
        refine rq_pure i_141_31 rfl ?_
        refine rq_topi (v := 7) (by decide) ?_
        refine rq_iclt (tg := 81) i_141_33 ⟨by decide, by decide⟩ (fun q => absurd q (by decide)) (fun _ => ?_)
        refine rq_loc i_141_36 rfl rfl ?_
        refine rq_topi (v := 9) h22 ?_
        refine rq_pure i_141_37 rfl ?_
        refine rq_topi (v := 9) (by decide) ?_
        refine rq_icgt (tg := 81) i_141_39 ⟨by decide, by decide⟩ (fun q => absurd q (by decide)) (fun _ => ?_)
        refine rq_loc i_141_42 rfl rfl ?_
        refine rq_ifeq (tg := 50) i_141_43 ⟨by decide, by decide⟩ (fun q => absurd q (by decide)) (fun _ => ?_)
        refine rq_pure i_141_46 rfl ?_
        refine rq_topi (v := (-1)) (by decide) ?_
        refine rq_goto (tg := 80) i_141_47 ⟨by decide, by decide⟩ ?_
        refine rq_iret i_141_80 r_141 rfl ?_
        refine rq_back1 ?_
        refine rq_iceq (tg := 1334) i_0_1266 ⟨by decide, by decide⟩ (fun _ => ?_) (fun q => absurd q (by decide))
        have g23 := (u1.2 rx_S (by decide)).trans hS
        exact p1_tail g23 rfl rfl
      by_cases h24 : (xs 1) = 10
      ·
        refine rq_topi (v := 10) h24 ?_
        refine rq_iald i_50_124 c162 (by decide) ?_
        refine rq_topi (v := 0) ((v162 _ (by decide)).trans (by decide)) ?_
        refine rq_iret i_50_125 r_50 rfl ?_
        refine rq_back1 ?_
        refine rq_iret i_86_8 r_86 rfl ?_
        refine rq_back1 ?_
        refine rq_loc i_0_1256 rfl rfl ?_
        refine rq_loc i_0_1257 rfl rfl ?_
        refine rq_loc i_0_1258 rfl rfl ?_
        refine rq_pure i_0_1260 rfl ?_
        refine rq_topi (v := 1) (by decide) ?_
        refine rq_pure i_0_1261 rfl ?_
        refine rq_topi (v := 1) (by decide) ?_
        refine rq_sald1 (x := xs 1) i_0_1262 hS rfl (by decide) rfl ?_
        refine rq_V1 (c1 := 0) (s1 := 0) (cb := 100) (sb := 1000) (F' := 2047) (Lo' := 83978) i_0_1263 c_0_162 rfl (rz_isa c174 a_15_141) rfl rfl rfl ?_
        refine rq_loc i_141_0 rfl rfl ?_
        refine rq_pure i_141_1 rfl ?_
        refine rq_topi (v := 0) (by decide) ?_
        refine rq_putf1 i_141_2 p_141_356 c174 rfl rfl rfl (fun L1 u1 => ?_)
        refine rq_loc i_141_5 rfl rfl ?_
        refine rq_topi (v := 10) h24 ?_
        refine rq_iflt (tg := 15) i_141_6 ⟨by decide, by decide⟩ (fun q => absurd q (by decide)) (fun _ => ?_)
        refine rq_loc i_141_9 rfl rfl ?_
        refine rq_topi (v := 10) h24 ?_
        refine rq_pure i_141_10 rfl ?_
        refine rq_topi (v := 11) (by decide) ?_
        refine rq_icle (tg := 17) i_141_12 ⟨by decide, by decide⟩ (fun _ => ?_) (fun q => absurd q (by decide))
        refine rq_loc i_141_17 rfl rfl ?_
        refine rq_getf i_141_18 f_141_897 u1.1 rfl ?_
        refine rq_ifne (tg := 28) i_141_21 ⟨by decide, by decide⟩ (fun q => absurd q (by decide)) (fun _ => ?_)
        refine rq_pure i_141_24 rfl ?_
        refine rq_topi (v := 1) (by decide) ?_
        refine rq_goto (tg := 29) i_141_25 ⟨by decide, by decide⟩ ?_
        refine rq_loc i_141_29 rfl rfl ?_
        refine rq_loc i_141_30 rfl rfl ?_
        refine rq_topi (v := 10) h24 ?_
        refine rq_pure i_141_31 rfl ?_
        refine rq_topi (v := 7) (by decide) ?_
        refine rq_iclt (tg := 81) i_141_33 ⟨by decide, by decide⟩ (fun q => absurd q (by decide)) (fun _ => ?_)
        refine rq_loc i_141_36 rfl rfl ?_
        refine rq_topi (v := 10) h24 ?_
        refine rq_pure i_141_37 rfl ?_
        refine rq_topi (v := 9) (by decide) ?_
        refine rq_icgt (tg := 81) i_141_39 ⟨by decide, by decide⟩ (fun _ => ?_) (fun q => absurd q (by decide))
        refine rq_loc i_141_81 rfl rfl ?_
        refine rq_ifeq (tg := 87) i_141_82 ⟨by decide, by decide⟩ (fun q => absurd q (by decide)) (fun _ => ?_)
        refine rq_pure i_141_85 rfl ?_
        refine rq_topi (v := 0) (by decide) ?_
        refine rq_iret i_141_86 r_141 rfl ?_
        refine rq_back1 ?_
        refine rq_iceq (tg := 1334) i_0_1266 ⟨by decide, by decide⟩ (fun _ => ?_) (fun q => absurd q (by decide))
        have g25 := (u1.2 rx_S (by decide)).trans hS
        exact p1_tail g25 rfl rfl
      by_cases h26 : (xs 1) = 11
      ·
        refine rq_topi (v := 11) h26 ?_
        refine rq_iald i_50_124 c162 (by decide) ?_
        refine rq_topi (v := 0) ((v162 _ (by decide)).trans (by decide)) ?_
        refine rq_iret i_50_125 r_50 rfl ?_
        refine rq_back1 ?_
        refine rq_iret i_86_8 r_86 rfl ?_
        refine rq_back1 ?_
        refine rq_loc i_0_1256 rfl rfl ?_
        refine rq_loc i_0_1257 rfl rfl ?_
        refine rq_loc i_0_1258 rfl rfl ?_
        refine rq_pure i_0_1260 rfl ?_
        refine rq_topi (v := 1) (by decide) ?_
        refine rq_pure i_0_1261 rfl ?_
        refine rq_topi (v := 1) (by decide) ?_
        refine rq_sald1 (x := xs 1) i_0_1262 hS rfl (by decide) rfl ?_
        refine rq_V1 (c1 := 0) (s1 := 0) (cb := 100) (sb := 1000) (F' := 2047) (Lo' := 83978) i_0_1263 c_0_162 rfl (rz_isa c174 a_15_141) rfl rfl rfl ?_
        refine rq_loc i_141_0 rfl rfl ?_
        refine rq_pure i_141_1 rfl ?_
        refine rq_topi (v := 0) (by decide) ?_
        refine rq_putf1 i_141_2 p_141_356 c174 rfl rfl rfl (fun L1 u1 => ?_)
        refine rq_loc i_141_5 rfl rfl ?_
        refine rq_topi (v := 11) h26 ?_
        refine rq_iflt (tg := 15) i_141_6 ⟨by decide, by decide⟩ (fun q => absurd q (by decide)) (fun _ => ?_)
        refine rq_loc i_141_9 rfl rfl ?_
        refine rq_topi (v := 11) h26 ?_
        refine rq_pure i_141_10 rfl ?_
        refine rq_topi (v := 11) (by decide) ?_
        refine rq_icle (tg := 17) i_141_12 ⟨by decide, by decide⟩ (fun _ => ?_) (fun q => absurd q (by decide))
        refine rq_loc i_141_17 rfl rfl ?_
        refine rq_getf i_141_18 f_141_897 u1.1 rfl ?_
        refine rq_ifne (tg := 28) i_141_21 ⟨by decide, by decide⟩ (fun q => absurd q (by decide)) (fun _ => ?_)
        refine rq_pure i_141_24 rfl ?_
        refine rq_topi (v := 1) (by decide) ?_
        refine rq_goto (tg := 29) i_141_25 ⟨by decide, by decide⟩ ?_
        refine rq_loc i_141_29 rfl rfl ?_
        refine rq_loc i_141_30 rfl rfl ?_
        refine rq_topi (v := 11) h26 ?_
        refine rq_pure i_141_31 rfl ?_
        refine rq_topi (v := 7) (by decide) ?_
        refine rq_iclt (tg := 81) i_141_33 ⟨by decide, by decide⟩ (fun q => absurd q (by decide)) (fun _ => ?_)
        refine rq_loc i_141_36 rfl rfl ?_
        refine rq_topi (v := 11) h26 ?_
        refine rq_pure i_141_37 rfl ?_
        refine rq_topi (v := 9) (by decide) ?_
        refine rq_icgt (tg := 81) i_141_39 ⟨by decide, by decide⟩ (fun _ => ?_) (fun q => absurd q (by decide))
        refine rq_loc i_141_81 rfl rfl ?_
        refine rq_ifeq (tg := 87) i_141_82 ⟨by decide, by decide⟩ (fun q => absurd q (by decide)) (fun _ => ?_)
        refine rq_pure i_141_85 rfl ?_
        refine rq_topi (v := 0) (by decide) ?_
        refine rq_iret i_141_86 r_141 rfl ?_
        refine rq_back1 ?_
        refine rq_iceq (tg := 1334) i_0_1266 ⟨by decide, by decide⟩ (fun _ => ?_) (fun q => absurd q (by decide))
        have g27 := (u1.2 rx_S (by decide)).trans hS
        exact p1_tail g27 rfl rfl
      refine (rz_out (n := 12) h1 h3 (by decide) (fun k k1 k2 => ?_)).elim
      have kk : k = 0 ∨ k = 1 ∨ k = 2 ∨ k = 3 ∨ k = 4 ∨ k = 5 ∨ k = 6 ∨ k = 7 ∨ k = 8 ∨ k = 9 ∨ k = 10 ∨ k = 11 := by omega
      rcases kk with rfl | rfl | rfl | rfl | rfl | rfl | rfl | rfl | rfl | rfl | rfl | rfl
      · exact h10
      · exact h12
      · exact h14
      · exact h4
      · exact h6
      · exact h8
      · exact h16
      · exact h18
      · exact h20
      · exact h22
      · exact h24
      · exact h26
    ·
      refine rq_pure i_50_10 rfl ?_
      refine rq_topi (v := (-1)) (by decide) ?_
      refine rq_iret i_50_11 r_50 rfl ?_
      refine rq_back1 ?_
      refine rq_iret i_86_8 r_86 rfl ?_
      refine rq_back1 ?_
      refine rq_loc i_0_1256 rfl rfl ?_
      refine rq_loc i_0_1257 rfl rfl ?_
      refine rq_loc i_0_1258 rfl rfl ?_
      refine rq_pure i_0_1260 rfl ?_
      refine rq_topi (v := 1) (by decide) ?_
      refine rq_pure i_0_1261 rfl ?_
      refine rq_topi (v := 1) (by decide) ?_
      refine rq_sald1 (x := xs 1) i_0_1262 hS rfl (by decide) rfl ?_
      refine rq_V1 (c1 := 0) (s1 := 0) (cb := 100) (sb := 1000) (F' := 2047) (Lo' := 83978) i_0_1263 c_0_162 rfl (rz_isa c174 a_15_141) rfl rfl rfl ?_
      refine rq_loc i_141_0 rfl rfl ?_
      refine rq_pure i_141_1 rfl ?_
      refine rq_topi (v := 0) (by decide) ?_
      refine rq_putf1 i_141_2 p_141_356 c174 rfl rfl rfl (fun L1 u1 => ?_)
      refine rq_loc i_141_5 rfl rfl ?_
      refine rq_iflt (tg := 15) i_141_6 ⟨by decide, by decide⟩ (fun q => absurd q (by intro q; simp only [Int32.lt_iff_toInt_lt, Int32.le_iff_toInt_le, Int32.not_lt, Int32.not_le, ← Int32.toInt_inj] at q h1 h3; have e0 : (0 : Int32).toInt = 0 := (by decide); first | omega | (simp at q h1 h3; omega))) (fun _ => ?_)
      refine rq_loc i_141_9 rfl rfl ?_
      refine rq_pure i_141_10 rfl ?_
      refine rq_topi (v := 11) (by decide) ?_
      refine rq_icle (tg := 17) i_141_12 ⟨by decide, by decide⟩ (fun q => absurd q (by intro q; simp only [Int32.lt_iff_toInt_lt, Int32.le_iff_toInt_le, Int32.not_lt, Int32.not_le, ← Int32.toInt_inj] at q h1 h3; have e0 : (0 : Int32).toInt = 0 := (by decide); first | omega | (simp at q h1 h3; omega))) (fun _ => ?_)
      refine rq_pure i_141_15 rfl ?_
      refine rq_topi (v := (-1)) (by decide) ?_
      refine rq_iret i_141_16 r_141 rfl ?_
      refine rq_back1 ?_
      refine rq_iceq (tg := 1334) i_0_1266 ⟨by decide, by decide⟩ (fun _ => ?_) (fun q => absurd q (by decide))
      have g28 := (u1.2 rx_S (by decide)).trans hS
      exact p1_tail g28 rfl rfl
