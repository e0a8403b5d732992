/-! THE FIRST CALLS, chain by chain: by wip/whole/sx.py -/
set_option maxRecDepth 8000 in
theorem p1c_end {xs : Nat → Int32} {fm : Value} {L : List va_E} (hL : rz_heap L rz_T0 = true) : rq (rt_P (6, xs) fm) 0 2048 84000 100 1000 261 p1_lv [] L p1_Q := by
  have c0 : L[0]? = some (.inr (14, [.ref 1, .ref 7, .ref 114, .ref 133, .ref 145, .ref 146, .ref 150, .ref 159, .ref 167, .ref 172])) := rz_obj hL (by decide +kernel)
  have c1 : L[1]? = some (.inr (3, [.ref 2, .int 0, .ref 3, .ref 4, .ref 5, .ref 6, .int 0, .int 0])) := rz_obj hL (by decide +kernel)
  have c174 : L[174]? = some (.inr (15, [.int 0, .ref 175, .int 0, .ref 176, .int 0, .int 0, .ref 177, .int 0, .ref 178, .ref 179, .ref 180, .int 0, .int 0, .int 0, .int 0, .int 0, .ref 181, .ref 182, .ref 183, .ref 184, .ref 185, .ref 186, .ref 187, .ref 188, .int 0, .ref 189, .ref 190, .ref 191, .ref 192, .ref 193, .ref 194, .ref 195, .ref 196, .ref 197, .int 0, .ref 198, .ref 199, .int 0, .ref 200, .ref 201, .ref 202, .ref 203, .ref 204, .ref 205, .ref 206, .ref 207, .ref 208, .ref 209, .ref 210, .ref 211, .ref 212, .ref 213, .ref 214, .ref 215, .ref 216, .ref 217, .ref 218, .ref 219, .ref 220, .ref 221, .ref 222, .ref 223, .ref 224, .ref 225, .ref 226, .ref 227, .ref 228, .int 0, .long 0, .ref 229, .ref 230, .ref 231, .ref 232, .long 0, .int 0, .ref 233, .int 0, .int 0, .int 0, .long 0, .int 0, .int 0, .int 0, .ref 234, .ref 235, .ref 236, .ref 237, .ref 238, .ref 239, .ref 240, .int 0, .int 0, .ref 241, .ref 242, .ref 243, .ref 244, .ref 245, .int (-1), .ref 246, .ref 247, .ref 248, .int 0, .int 0, .ref 249, .int 0, .int 0, .int 0, .ref 250, .ref 251, .ref 252, .int 0, .int 0, .int 0, .int 0, .ref 253, .ref 254, .ref 255, .ref 256, .ref 257, .ref 258, .ref 259, .int 0, .ref 260, .int 0, .int 0, .int 0, .int 0, .int 0, .int 0, .int 0, .int 0, .int 0, .int 0, .int 0, .int 0, .ref 261, .ref 262, .ref 263, .ref 264, .ref 265])) := rz_obj hL (by decide +kernel)
  have hS : L[rx_S]? = none := p1_none hL
  refine rq_loc i_0_261 rfl rfl ?_
  refine rq_loc i_0_262 rfl rfl ?_
  refine rq_loc i_0_263 rfl rfl ?_
  refine rq_pure i_0_265 rfl ?_
  refine rq_topi (v := 1) (by decide) ?_
  refine rq_pure i_0_266 rfl ?_
  refine rq_topi (v := 1) (by decide) ?_
  refine rq_sald1 (x := xs 1) i_0_267 hS rfl (by decide) rfl ?_
  refine rq_V1 (c1 := 0) (s1 := 0) (cb := 100) (sb := 1000) (F' := 2047) (Lo' := 83979) i_0_268 c_0_36 rfl (rz_isa c0 a_14_57) rfl rfl rfl ?_
  refine rq_loc i_57_0 rfl rfl ?_
  refine rq_iflt (tg := 15) i_57_1 ⟨by decide, by decide⟩ (fun h1 => ?_) (fun h1 => ?_)
  ·
    refine rq_pure i_57_15 rfl ?_
    refine rq_topi (v := (-1)) (by decide) ?_
    refine rq_iret i_57_16 r_57 rfl ?_
    refine rq_back1 ?_
    refine rq_loc i_0_271 rfl rfl ?_
    refine rq_loc i_0_272 rfl rfl ?_
    refine rq_loc i_0_273 rfl rfl ?_
    refine rq_pure i_0_275 rfl ?_
    refine rq_topi (v := 1) (by decide) ?_
    refine rq_pure i_0_276 rfl ?_
    refine rq_topi (v := 1) (by decide) ?_
    refine rq_sald1 (x := xs 1) i_0_277 hS rfl (by decide) rfl ?_
    refine rq_V1 (c1 := 0) (s1 := 0) (cb := 100) (sb := 1000) (F' := 2047) (Lo' := 83979) i_0_278 c_0_39 rfl (rz_isa c174 a_15_95) rfl rfl rfl ?_
    refine rq_loc i_95_0 rfl rfl ?_
    refine rq_pure i_95_1 rfl ?_
    refine rq_topi (v := 0) (by decide) ?_
    refine rq_putf1 i_95_2 p_95_356 c174 rfl rfl rfl (fun L1 u1 => ?_)
    refine rq_loc i_95_5 rfl rfl ?_
    refine rq_iflt (tg := 17) i_95_6 ⟨by decide, by decide⟩ (fun _ => ?_) (fun q => absurd q (by intro q; simp only [Int32.lt_iff_toInt_lt, Int32.le_iff_toInt_le, Int32.not_lt, Int32.not_le, ← Int32.toInt_inj] at q h1; have e0 : (0 : Int32).toInt = 0 := (by decide); first | omega | (simp at q h1; omega)))
    refine rq_pure i_95_17 rfl ?_
    refine rq_topi (v := (-1)) (by decide) ?_
    refine rq_iret i_95_18 r_95 rfl ?_
    refine rq_back1 ?_
    refine rq_iceq (tg := 1334) i_0_281 ⟨by decide, by decide⟩ (fun _ => ?_) (fun q => absurd q (by decide))
    have g2 := (u1.2 rx_S (by decide)).trans hS
    exact p1_tail g2 rfl rfl
  ·
    refine rq_loc i_57_4 rfl rfl ?_
    refine rq_loc i_57_5 rfl rfl ?_
    refine rq_getf i_57_6 f_57_12 c0 rfl ?_
    refine rq_getf i_57_9 f_57_95 c1 rfl ?_
    refine rq_icle (tg := 17) i_57_12 ⟨by decide, by decide⟩ (fun h3 => ?_) (fun h3 => ?_)
    ·
      refine rq_loc i_57_17 rfl rfl ?_
      refine rq_getf i_57_18 f_57_12 c0 rfl ?_
      refine rq_loc i_57_21 rfl rfl ?_
      refine rq_putf1 i_57_22 p_57_95 c1 rfl rfl rfl (fun L1 u1 => ?_)
      refine rq_loc i_57_25 rfl rfl ?_
      refine rq_iret i_57_26 r_57 rfl ?_
      refine rq_back1 ?_
      refine rq_loc i_0_271 rfl rfl ?_
      refine rq_loc i_0_272 rfl rfl ?_
      refine rq_loc i_0_273 rfl rfl ?_
      refine rq_pure i_0_275 rfl ?_
      refine rq_topi (v := 1) (by decide) ?_
      refine rq_pure i_0_276 rfl ?_
      refine rq_topi (v := 1) (by decide) ?_
      have g4 := (u1.2 rx_S (by decide)).trans hS
      refine rq_sald1 (x := xs 1) i_0_277 g4 rfl (by decide) rfl ?_
      have g5 := (u1.2 174 (by decide)).trans c174
      refine rq_V1 (c1 := 0) (s1 := 0) (cb := 100) (sb := 1000) (F' := 2047) (Lo' := 83979) i_0_278 c_0_39 rfl (rz_isa g5 a_15_95) rfl rfl rfl ?_
      refine rq_loc i_95_0 rfl rfl ?_
      refine rq_pure i_95_1 rfl ?_
      refine rq_topi (v := 0) (by decide) ?_
      refine rq_putf1 i_95_2 p_95_356 g5 rfl rfl rfl (fun L2 u2 => ?_)
      refine rq_loc i_95_5 rfl rfl ?_
      refine rq_iflt (tg := 17) i_95_6 ⟨by decide, by decide⟩ (fun q => absurd q (by intro q; simp only [Int32.lt_iff_toInt_lt, Int32.le_iff_toInt_le, Int32.not_lt, Int32.not_le, ← Int32.toInt_inj] at q h1 h3; have e0 : (0 : Int32).toInt = 0 := (by decide); first | omega | (simp at q h1 h3; omega))) (fun _ => ?_)
      refine rq_loc i_95_9 rfl rfl ?_
      refine rq_loc i_95_10 rfl rfl ?_
      refine rq_getf i_95_11 f_95_359 u2.1 rfl ?_
      refine rq_icle (tg := 19) i_95_14 ⟨by decide, by decide⟩ (fun _ => ?_) (fun q => absurd q (by intro q; simp only [Int32.lt_iff_toInt_lt, Int32.le_iff_toInt_le, Int32.not_lt, Int32.not_le, ← Int32.toInt_inj] at q h1 h3; have e0 : (0 : Int32).toInt = 0 := (by decide); first | omega | (simp at q h1 h3; omega)))
      refine rq_loc i_95_19 rfl rfl ?_
      refine rq_loc i_95_20 rfl rfl ?_
      refine rq_putf1 i_95_21 p_95_359 u2.1 rfl rfl rfl (fun L3 u3 => ?_)
      refine rq_loc i_95_24 rfl rfl ?_
      refine rq_iret i_95_25 r_95 rfl ?_
      refine rq_back1 ?_
      refine rq_iceq (tg := 1334) i_0_281 ⟨by decide, by decide⟩ (fun _ => ?_) (fun q => absurd q (by simp))
      have g6 := (u2.2 rx_S (by decide)).trans g4
      have g7 := (u3.2 rx_S (by decide)).trans g6
      exact p1_tail g7 rfl rfl
    ·
      refine rq_pure i_57_15 rfl ?_
      refine rq_topi (v := (-1)) (by decide) ?_
      refine rq_iret i_57_16 r_57 rfl ?_
      refine rq_back1 ?_
      refine rq_loc i_0_271 rfl rfl ?_
      refine rq_loc i_0_272 rfl rfl ?_
      refine rq_loc i_0_273 rfl rfl ?_
      refine rq_pure i_0_275 rfl ?_
      refine rq_topi (v := 1) (by decide) ?_
      refine rq_pure i_0_276 rfl ?_
      refine rq_topi (v := 1) (by decide) ?_
      refine rq_sald1 (x := xs 1) i_0_277 hS rfl (by decide) rfl ?_
      refine rq_V1 (c1 := 0) (s1 := 0) (cb := 100) (sb := 1000) (F' := 2047) (Lo' := 83979) i_0_278 c_0_39 rfl (rz_isa c174 a_15_95) rfl rfl rfl ?_
      refine rq_loc i_95_0 rfl rfl ?_
      refine rq_pure i_95_1 rfl ?_
      refine rq_topi (v := 0) (by decide) ?_
      refine rq_putf1 i_95_2 p_95_356 c174 rfl rfl rfl (fun L1 u1 => ?_)
      refine rq_loc i_95_5 rfl rfl ?_
      refine rq_iflt (tg := 17) i_95_6 ⟨by decide, by decide⟩ (fun q => absurd q (by intro q; simp only [Int32.lt_iff_toInt_lt, Int32.le_iff_toInt_le, Int32.not_lt, Int32.not_le, ← Int32.toInt_inj] at q h1 h3; have e0 : (0 : Int32).toInt = 0 := (by decide); first | omega | (simp at q h1 h3; omega))) (fun _ => ?_)
      refine rq_loc i_95_9 rfl rfl ?_
      refine rq_loc i_95_10 rfl rfl ?_
      refine rq_getf i_95_11 f_95_359 u1.1 rfl ?_
      refine rq_icle (tg := 19) i_95_14 ⟨by decide, by decide⟩ (fun q => absurd q (by intro q; simp only [Int32.lt_iff_toInt_lt, Int32.le_iff_toInt_le, Int32.not_lt, Int32.not_le, ← Int32.toInt_inj] at q h1 h3; have e0 : (0 : Int32).toInt = 0 := (by decide); first | omega | (simp at q h1 h3; omega))) (fun _ => ?_)
      refine rq_pure i_95_17 rfl ?_
      refine rq_topi (v := (-1)) (by decide) ?_
      refine rq_iret i_95_18 r_95 rfl ?_
      refine rq_back1 ?_
      refine rq_iceq (tg := 1334) i_0_281 ⟨by decide, by decide⟩ (fun _ => ?_) (fun q => absurd q (by decide))
      have g8 := (u1.2 rx_S (by decide)).trans hS
      exact p1_tail g8 rfl rfl
set_option maxRecDepth 8000 in
theorem p1c_out {xs : Nat → Int32} {fm : Value} {L : List va_E} (hL : rz_heap L rz_T0 = true) : rq (rt_P (6, xs) fm) 0 2048 84000 100 1000 286 p1_lv [] L p1_Q := by
  have c0 : L[0]? = some (.inr (14, [.ref 1, .ref 7, .ref 114, .ref 133, .ref 145, .ref 146, .ref 150, .ref 159, .ref 167, .ref 172])) := rz_obj hL (by decide +kernel)
  have c172 : L[172]? = some (.inr (12, [.ref 173, .int 0, .ref 6, .ref 7, .ref 114, .ref 133, .ref 146])) := rz_obj hL (by decide +kernel)
  have c174 : L[174]? = some (.inr (15, [.int 0, .ref 175, .int 0, .ref 176, .int 0, .int 0, .ref 177, .int 0, .ref 178, .ref 179, .ref 180, .int 0, .int 0, .int 0, .int 0, .int 0, .ref 181, .ref 182, .ref 183, .ref 184, .ref 185, .ref 186, .ref 187, .ref 188, .int 0, .ref 189, .ref 190, .ref 191, .ref 192, .ref 193, .ref 194, .ref 195, .ref 196, .ref 197, .int 0, .ref 198, .ref 199, .int 0, .ref 200, .ref 201, .ref 202, .ref 203, .ref 204, .ref 205, .ref 206, .ref 207, .ref 208, .ref 209, .ref 210, .ref 211, .ref 212, .ref 213, .ref 214, .ref 215, .ref 216, .ref 217, .ref 218, .ref 219, .ref 220, .ref 221, .ref 222, .ref 223, .ref 224, .ref 225, .ref 226, .ref 227, .ref 228, .int 0, .long 0, .ref 229, .ref 230, .ref 231, .ref 232, .long 0, .int 0, .ref 233, .int 0, .int 0, .int 0, .long 0, .int 0, .int 0, .int 0, .ref 234, .ref 235, .ref 236, .ref 237, .ref 238, .ref 239, .ref 240, .int 0, .int 0, .ref 241, .ref 242, .ref 243, .ref 244, .ref 245, .int (-1), .ref 246, .ref 247, .ref 248, .int 0, .int 0, .ref 249, .int 0, .int 0, .int 0, .ref 250, .ref 251, .ref 252, .int 0, .int 0, .int 0, .int 0, .ref 253, .ref 254, .ref 255, .ref 256, .ref 257, .ref 258, .ref 259, .int 0, .ref 260, .int 0, .int 0, .int 0, .int 0, .int 0, .int 0, .int 0, .int 0, .int 0, .int 0, .int 0, .int 0, .ref 261, .ref 262, .ref 263, .ref 264, .ref 265])) := rz_obj hL (by decide +kernel)
  have hS : L[rx_S]? = none := p1_none hL
  refine rq_loc i_0_286 rfl rfl ?_
  refine rq_loc i_0_287 rfl rfl ?_
  refine rq_loc i_0_288 rfl rfl ?_
  refine rq_pure i_0_290 rfl ?_
  refine rq_topi (v := 1) (by decide) ?_
  refine rq_pure i_0_291 rfl ?_
  refine rq_topi (v := 1) (by decide) ?_
  refine rq_sald1 (x := xs 1) i_0_292 hS rfl (by decide) rfl ?_
  refine rq_V1 (c1 := 0) (s1 := 0) (cb := 100) (sb := 1000) (F' := 2047) (Lo' := 83979) i_0_293 c_0_40 rfl (rz_isa c0 a_14_58) rfl rfl rfl ?_
  refine rq_loc i_58_0 rfl rfl ?_
  refine rq_iflt (tg := 15) i_58_1 ⟨by decide, by decide⟩ (fun h1 => ?_) (fun h1 => ?_)
  ·
    refine rq_pure i_58_15 rfl ?_
    refine rq_topi (v := (-1)) (by decide) ?_
    refine rq_iret i_58_16 r_58 rfl ?_
    refine rq_back1 ?_
    refine rq_loc i_0_296 rfl rfl ?_
    refine rq_loc i_0_297 rfl rfl ?_
    refine rq_loc i_0_298 rfl rfl ?_
    refine rq_pure i_0_300 rfl ?_
    refine rq_topi (v := 1) (by decide) ?_
    refine rq_pure i_0_301 rfl ?_
    refine rq_topi (v := 1) (by decide) ?_
    refine rq_sald1 (x := xs 1) i_0_302 hS rfl (by decide) rfl ?_
    refine rq_V1 (c1 := 0) (s1 := 0) (cb := 100) (sb := 1000) (F' := 2047) (Lo' := 83979) i_0_303 c_0_43 rfl (rz_isa c174 a_15_96) rfl rfl rfl ?_
    refine rq_loc i_96_0 rfl rfl ?_
    refine rq_pure i_96_1 rfl ?_
    refine rq_topi (v := 0) (by decide) ?_
    refine rq_putf1 i_96_2 p_96_356 c174 rfl rfl rfl (fun L1 u1 => ?_)
    refine rq_loc i_96_5 rfl rfl ?_
    refine rq_iflt (tg := 26) i_96_6 ⟨by decide, by decide⟩ (fun _ => ?_) (fun q => absurd q (by intro q; simp only [Int32.lt_iff_toInt_lt, Int32.le_iff_toInt_le, Int32.not_lt, Int32.not_le, ← Int32.toInt_inj] at q h1; have e0 : (0 : Int32).toInt = 0 := (by decide); first | omega | (simp at q h1; omega)))
    refine rq_pure i_96_26 rfl ?_
    refine rq_topi (v := (-1)) (by decide) ?_
    refine rq_iret i_96_27 r_96 rfl ?_
    refine rq_back1 ?_
    refine rq_iceq (tg := 1334) i_0_306 ⟨by decide, by decide⟩ (fun _ => ?_) (fun q => absurd q (by decide))
    have g2 := (u1.2 rx_S (by decide)).trans hS
    exact p1_tail g2 rfl rfl
  ·
    refine rq_loc i_58_4 rfl rfl ?_
    refine rq_loc i_58_5 rfl rfl ?_
    refine rq_getf i_58_6 f_58_91 c0 rfl ?_
    refine rq_getf i_58_9 f_58_103 c172 rfl ?_
    refine rq_iclt (tg := 17) i_58_12 ⟨by decide, by decide⟩ (fun q => absurd q (by intro q; simp only [Int32.lt_iff_toInt_lt, Int32.le_iff_toInt_le, Int32.not_lt, Int32.not_le, ← Int32.toInt_inj] at q h1; have e0 : (0 : Int32).toInt = 0 := (by decide); first | omega | (simp at q h1; omega))) (fun _ => ?_)
    refine rq_pure i_58_15 rfl ?_
    refine rq_topi (v := (-1)) (by decide) ?_
    refine rq_iret i_58_16 r_58 rfl ?_
    refine rq_back1 ?_
    refine rq_loc i_0_296 rfl rfl ?_
    refine rq_loc i_0_297 rfl rfl ?_
    refine rq_loc i_0_298 rfl rfl ?_
    refine rq_pure i_0_300 rfl ?_
    refine rq_topi (v := 1) (by decide) ?_
    refine rq_pure i_0_301 rfl ?_
    refine rq_topi (v := 1) (by decide) ?_
    refine rq_sald1 (x := xs 1) i_0_302 hS rfl (by decide) rfl ?_
    refine rq_V1 (c1 := 0) (s1 := 0) (cb := 100) (sb := 1000) (F' := 2047) (Lo' := 83979) i_0_303 c_0_43 rfl (rz_isa c174 a_15_96) rfl rfl rfl ?_
    refine rq_loc i_96_0 rfl rfl ?_
    refine rq_pure i_96_1 rfl ?_
    refine rq_topi (v := 0) (by decide) ?_
    refine rq_putf1 i_96_2 p_96_356 c174 rfl rfl rfl (fun L1 u1 => ?_)
    refine rq_loc i_96_5 rfl rfl ?_
    refine rq_iflt (tg := 26) i_96_6 ⟨by decide, by decide⟩ (fun q => absurd q (by intro q; simp only [Int32.lt_iff_toInt_lt, Int32.le_iff_toInt_le, Int32.not_lt, Int32.not_le, ← Int32.toInt_inj] at q h1; have e0 : (0 : Int32).toInt = 0 := (by decide); first | omega | (simp at q h1; omega))) (fun _ => ?_)
    refine rq_loc i_96_9 rfl rfl ?_
    refine rq_loc i_96_10 rfl rfl ?_
    refine rq_getf i_96_11 f_96_366 u1.1 rfl ?_
    refine rq_icge (tg := 26) i_96_14 ⟨by decide, by decide⟩ (fun _ => ?_) (fun q => absurd q (by intro q; simp only [Int32.lt_iff_toInt_lt, Int32.le_iff_toInt_le, Int32.not_lt, Int32.not_le, ← Int32.toInt_inj] at q h1; have e0 : (0 : Int32).toInt = 0 := (by decide); first | omega | (simp at q h1; omega)))
    refine rq_pure i_96_26 rfl ?_
    refine rq_topi (v := (-1)) (by decide) ?_
    refine rq_iret i_96_27 r_96 rfl ?_
    refine rq_back1 ?_
    refine rq_iceq (tg := 1334) i_0_306 ⟨by decide, by decide⟩ (fun _ => ?_) (fun q => absurd q (by decide))
    have g3 := (u1.2 rx_S (by decide)).trans hS
    exact p1_tail g3 rfl rfl
set_option maxRecDepth 8000 in
theorem p1c_fault {xs : Nat → Int32} {fm : Value} {L : List va_E} (hL : rz_heap L rz_T0 = true) : rq (rt_P (6, xs) fm) 0 2048 84000 100 1000 355 p1_lv [] L p1_Q := by
  have c0 : L[0]? = some (.inr (14, [.ref 1, .ref 7, .ref 114, .ref 133, .ref 145, .ref 146, .ref 150, .ref 159, .ref 167, .ref 172])) := rz_obj hL (by decide +kernel)
  have c145 : L[145]? = some (.inr (10, [.ref 1, .ref 7, .ref 114, .ref 133, .int 0, .int 0, .int 0, .int 0, .int 0, .int 0, .int 0, .int 0])) := rz_obj hL (by decide +kernel)
  have c174 : L[174]? = some (.inr (15, [.int 0, .ref 175, .int 0, .ref 176, .int 0, .int 0, .ref 177, .int 0, .ref 178, .ref 179, .ref 180, .int 0, .int 0, .int 0, .int 0, .int 0, .ref 181, .ref 182, .ref 183, .ref 184, .ref 185, .ref 186, .ref 187, .ref 188, .int 0, .ref 189, .ref 190, .ref 191, .ref 192, .ref 193, .ref 194, .ref 195, .ref 196, .ref 197, .int 0, .ref 198, .ref 199, .int 0, .ref 200, .ref 201, .ref 202, .ref 203, .ref 204, .ref 205, .ref 206, .ref 207, .ref 208, .ref 209, .ref 210, .ref 211, .ref 212, .ref 213, .ref 214, .ref 215, .ref 216, .ref 217, .ref 218, .ref 219, .ref 220, .ref 221, .ref 222, .ref 223, .ref 224, .ref 225, .ref 226, .ref 227, .ref 228, .int 0, .long 0, .ref 229, .ref 230, .ref 231, .ref 232, .long 0, .int 0, .ref 233, .int 0, .int 0, .int 0, .long 0, .int 0, .int 0, .int 0, .ref 234, .ref 235, .ref 236, .ref 237, .ref 238, .ref 239, .ref 240, .int 0, .int 0, .ref 241, .ref 242, .ref 243, .ref 244, .ref 245, .int (-1), .ref 246, .ref 247, .ref 248, .int 0, .int 0, .ref 249, .int 0, .int 0, .int 0, .ref 250, .ref 251, .ref 252, .int 0, .int 0, .int 0, .int 0, .ref 253, .ref 254, .ref 255, .ref 256, .ref 257, .ref 258, .ref 259, .int 0, .ref 260, .int 0, .int 0, .int 0, .int 0, .int 0, .int 0, .int 0, .int 0, .int 0, .int 0, .int 0, .int 0, .ref 261, .ref 262, .ref 263, .ref 264, .ref 265])) := rz_obj hL (by decide +kernel)
  have hS : L[rx_S]? = none := p1_none hL
  refine rq_loc i_0_355 rfl rfl ?_
  refine rq_loc i_0_356 rfl rfl ?_
  refine rq_loc i_0_357 rfl rfl ?_
  refine rq_pure i_0_359 rfl ?_
  refine rq_topi (v := 1) (by decide) ?_
  refine rq_pure i_0_360 rfl ?_
  refine rq_topi (v := 1) (by decide) ?_
  refine rq_sald1 (x := xs 1) i_0_361 hS rfl (by decide) rfl ?_
  refine rq_V1 (c1 := 0) (s1 := 0) (cb := 100) (sb := 1000) (F' := 2047) (Lo' := 83979) i_0_362 c_0_53 rfl (rz_isa c0 a_14_60) rfl rfl rfl ?_
  refine rq_loc i_60_0 rfl rfl ?_
  refine rq_ifne (tg := 12) i_60_1 ⟨by decide, by decide⟩ (fun h1 => ?_) (fun h1 => ?_)
  ·
    refine rq_loc i_60_12 rfl rfl ?_
    refine rq_pure i_60_13 rfl ?_
    refine rq_topi (v := 1) (by decide) ?_
    refine rq_icne (tg := 27) i_60_14 ⟨by decide, by decide⟩ (fun h2 => ?_) (fun h2 => ?_)
    ·
      refine rq_pure i_60_27 rfl ?_
      refine rq_topi (v := (-1)) (by decide) ?_
      refine rq_iret i_60_28 r_60 rfl ?_
      refine rq_back1 ?_
      refine rq_loc i_0_365 rfl rfl ?_
      refine rq_loc i_0_366 rfl rfl ?_
      refine rq_loc i_0_367 rfl rfl ?_
      refine rq_pure i_0_369 rfl ?_
      refine rq_topi (v := 1) (by decide) ?_
      refine rq_pure i_0_370 rfl ?_
      refine rq_topi (v := 1) (by decide) ?_
      refine rq_sald1 (x := xs 1) i_0_371 hS rfl (by decide) rfl ?_
      refine rq_V1 (c1 := 0) (s1 := 0) (cb := 100) (sb := 1000) (F' := 2047) (Lo' := 83979) i_0_372 c_0_56 rfl (rz_isa c174 a_15_107) rfl rfl rfl ?_
      refine rq_loc i_107_0 rfl rfl ?_
      refine rq_pure i_107_1 rfl ?_
      refine rq_topi (v := 0) (by decide) ?_
      refine rq_putf1 i_107_2 p_107_356 c174 rfl rfl rfl (fun L1 u1 => ?_)
      refine rq_loc i_107_5 rfl rfl ?_
      refine rq_ifne (tg := 16) i_107_6 ⟨by decide, by decide⟩ (fun _ => ?_) (fun q => absurd q (by intro q; simp only [Int32.lt_iff_toInt_lt, Int32.le_iff_toInt_le, Int32.not_lt, Int32.not_le, ← Int32.toInt_inj] at q h1 h2; have e0 : (0 : Int32).toInt = 0 := (by decide); first | omega | (simp at q h1 h2; omega)))
      refine rq_loc i_107_16 rfl rfl ?_
      refine rq_pure i_107_17 rfl ?_
      refine rq_topi (v := 1) (by decide) ?_
      refine rq_icne (tg := 28) i_107_18 ⟨by decide, by decide⟩ (fun _ => ?_) (fun q => absurd q (by intro q; simp only [Int32.lt_iff_toInt_lt, Int32.le_iff_toInt_le, Int32.not_lt, Int32.not_le, ← Int32.toInt_inj] at q h1 h2; have e0 : (0 : Int32).toInt = 0 := (by decide); first | omega | (simp at q h1 h2; omega)))
      refine rq_pure i_107_28 rfl ?_
      refine rq_topi (v := (-1)) (by decide) ?_
      refine rq_iret i_107_29 r_107 rfl ?_
      refine rq_back1 ?_
      refine rq_iceq (tg := 1334) i_0_375 ⟨by decide, by decide⟩ (fun _ => ?_) (fun q => absurd q (by decide))
      have g3 := (u1.2 rx_S (by decide)).trans hS
      exact p1_tail g3 rfl rfl
    ·
      refine rq_loc i_60_17 rfl rfl ?_
      refine rq_getf i_60_18 f_60_44 c0 rfl ?_
      refine rq_getf i_60_21 f_60_139 c145 rfl ?_
      refine rq_goto (tg := 28) i_60_24 ⟨by decide, by decide⟩ ?_
      refine rq_iret i_60_28 r_60 rfl ?_
      refine rq_back1 ?_
      refine rq_loc i_0_365 rfl rfl ?_
      refine rq_loc i_0_366 rfl rfl ?_
      refine rq_loc i_0_367 rfl rfl ?_
      refine rq_pure i_0_369 rfl ?_
      refine rq_topi (v := 1) (by decide) ?_
      refine rq_pure i_0_370 rfl ?_
      refine rq_topi (v := 1) (by decide) ?_
      refine rq_sald1 (x := xs 1) i_0_371 hS rfl (by decide) rfl ?_
      refine rq_V1 (c1 := 0) (s1 := 0) (cb := 100) (sb := 1000) (F' := 2047) (Lo' := 83979) i_0_372 c_0_56 rfl (rz_isa c174 a_15_107) rfl rfl rfl ?_
      refine rq_loc i_107_0 rfl rfl ?_
      refine rq_pure i_107_1 rfl ?_
      refine rq_topi (v := 0) (by decide) ?_
      refine rq_putf1 i_107_2 p_107_356 c174 rfl rfl rfl (fun L1 u1 => ?_)
      refine rq_loc i_107_5 rfl rfl ?_
      refine rq_topi (v := 1) h2 ?_
      refine rq_ifne (tg := 16) i_107_6 ⟨by decide, by decide⟩ (fun _ => ?_) (fun q => absurd q (by decide))
      refine rq_loc i_107_16 rfl rfl ?_
      refine rq_topi (v := 1) h2 ?_
      refine rq_pure i_107_17 rfl ?_
      refine rq_topi (v := 1) (by decide) ?_
      refine rq_icne (tg := 28) i_107_18 ⟨by decide, by decide⟩ (fun q => absurd q (by decide)) (fun _ => ?_)
      refine rq_loc i_107_21 rfl rfl ?_
      refine rq_getf i_107_22 f_107_415 u1.1 rfl ?_
      refine rq_goto (tg := 29) i_107_25 ⟨by decide, by decide⟩ ?_
      refine rq_iret i_107_29 r_107 rfl ?_
      refine rq_back1 ?_
      refine rq_iceq (tg := 1334) i_0_375 ⟨by decide, by decide⟩ (fun _ => ?_) (fun q => absurd q (by decide))
      have g4 := (u1.2 rx_S (by decide)).trans hS
      exact p1_tail g4 rfl rfl
  ·
    refine rq_loc i_60_4 rfl rfl ?_
    refine rq_getf i_60_5 f_60_44 c0 rfl ?_
    refine rq_getf i_60_8 f_60_136 c145 rfl ?_
    refine rq_iret i_60_11 r_60 rfl ?_
    refine rq_back1 ?_
    refine rq_loc i_0_365 rfl rfl ?_
    refine rq_loc i_0_366 rfl rfl ?_
    refine rq_loc i_0_367 rfl rfl ?_
    refine rq_pure i_0_369 rfl ?_
    refine rq_topi (v := 1) (by decide) ?_
    refine rq_pure i_0_370 rfl ?_
    refine rq_topi (v := 1) (by decide) ?_
    refine rq_sald1 (x := xs 1) i_0_371 hS rfl (by decide) rfl ?_
    refine rq_V1 (c1 := 0) (s1 := 0) (cb := 100) (sb := 1000) (F' := 2047) (Lo' := 83979) i_0_372 c_0_56 rfl (rz_isa c174 a_15_107) rfl rfl rfl ?_
    refine rq_loc i_107_0 rfl rfl ?_
    refine rq_pure i_107_1 rfl ?_
    refine rq_topi (v := 0) (by decide) ?_
    refine rq_putf1 i_107_2 p_107_356 c174 rfl rfl rfl (fun L1 u1 => ?_)
    refine rq_loc i_107_5 rfl rfl ?_
    refine rq_topi (v := 0) h1 ?_
    refine rq_ifne (tg := 16) i_107_6 ⟨by decide, by decide⟩ (fun q => absurd q (by decide)) (fun _ => ?_)
    refine rq_loc i_107_9 rfl rfl ?_
    refine rq_getf i_107_10 f_107_412 u1.1 rfl ?_
    refine rq_goto (tg := 29) i_107_13 ⟨by decide, by decide⟩ ?_
    refine rq_iret i_107_29 r_107 rfl ?_
    refine rq_back1 ?_
    refine rq_iceq (tg := 1334) i_0_375 ⟨by decide, by decide⟩ (fun _ => ?_) (fun q => absurd q (by decide))
    have g5 := (u1.2 rx_S (by decide)).trans hS
    exact p1_tail g5 rfl rfl
set_option maxRecDepth 8000 in
theorem p1c_tell {xs : Nat → Int32} {fm : Value} {L : List va_E} (hL : rz_heap L rz_T0 = true) : rq (rt_P (6, xs) fm) 0 2048 84000 100 1000 380 p1_lv [] L p1_Q := by
  have c0 : L[0]? = some (.inr (14, [.ref 1, .ref 7, .ref 114, .ref 133, .ref 145, .ref 146, .ref 150, .ref 159, .ref 167, .ref 172])) := rz_obj hL (by decide +kernel)
  have c174 : L[174]? = some (.inr (15, [.int 0, .ref 175, .int 0, .ref 176, .int 0, .int 0, .ref 177, .int 0, .ref 178, .ref 179, .ref 180, .int 0, .int 0, .int 0, .int 0, .int 0, .ref 181, .ref 182, .ref 183, .ref 184, .ref 185, .ref 186, .ref 187, .ref 188, .int 0, .ref 189, .ref 190, .ref 191, .ref 192, .ref 193, .ref 194, .ref 195, .ref 196, .ref 197, .int 0, .ref 198, .ref 199, .int 0, .ref 200, .ref 201, .ref 202, .ref 203, .ref 204, .ref 205, .ref 206, .ref 207, .ref 208, .ref 209, .ref 210, .ref 211, .ref 212, .ref 213, .ref 214, .ref 215, .ref 216, .ref 217, .ref 218, .ref 219, .ref 220, .ref 221, .ref 222, .ref 223, .ref 224, .ref 225, .ref 226, .ref 227, .ref 228, .int 0, .long 0, .ref 229, .ref 230, .ref 231, .ref 232, .long 0, .int 0, .ref 233, .int 0, .int 0, .int 0, .long 0, .int 0, .int 0, .int 0, .ref 234, .ref 235, .ref 236, .ref 237, .ref 238, .ref 239, .ref 240, .int 0, .int 0, .ref 241, .ref 242, .ref 243, .ref 244, .ref 245, .int (-1), .ref 246, .ref 247, .ref 248, .int 0, .int 0, .ref 249, .int 0, .int 0, .int 0, .ref 250, .ref 251, .ref 252, .int 0, .int 0, .int 0, .int 0, .ref 253, .ref 254, .ref 255, .ref 256, .ref 257, .ref 258, .ref 259, .int 0, .ref 260, .int 0, .int 0, .int 0, .int 0, .int 0, .int 0, .int 0, .int 0, .int 0, .int 0, .int 0, .int 0, .ref 261, .ref 262, .ref 263, .ref 264, .ref 265])) := rz_obj hL (by decide +kernel)
  have c7 : L[7]? = some (.inr (9, [.int 0, .ref 8, .int 0, .ref 9, .int 0, .ref 10, .ref 11, .int 0, .ref 12, .ref 13, .int 0, .ref 14, .ref 15, .ref 16, .ref 17])) := rz_obj hL (by decide +kernel)
  have hS : L[rx_S]? = none := p1_none hL
  refine rq_loc i_0_380 rfl rfl ?_
  refine rq_V1 (c1 := 0) (s1 := 0) (cb := 100) (sb := 1000) (F' := 2047) (Lo' := 83980) i_0_381 c_0_57 rfl (rz_isa c0 a_14_61) rfl rfl rfl ?_
  refine rq_loc i_61_0 rfl rfl ?_
  refine rq_getf i_61_1 f_61_19 c0 rfl ?_
  refine rq_getf i_61_4 f_61_126 c7 rfl ?_
  refine rq_ifeq (tg := 20) i_61_7 ⟨by decide, by decide⟩ (fun _ => ?_) (fun q => absurd q (by decide))
  refine rq_pure i_61_20 rfl ?_
  refine rq_topi (v := (-1)) (by decide) ?_
  refine rq_iret i_61_21 r_61 rfl ?_
  refine rq_back1 ?_
  refine rq_loc i_0_384 rfl rfl ?_
  refine rq_V1 (c1 := 0) (s1 := 0) (cb := 100) (sb := 1000) (F' := 2047) (Lo' := 83979) i_0_385 c_0_60 rfl (rz_isa c174 a_15_123) rfl rfl rfl ?_
  refine rq_loc i_123_0 rfl rfl ?_
  refine rq_pure i_123_1 rfl ?_
  refine rq_topi (v := 0) (by decide) ?_
  refine rq_putf1 i_123_2 p_123_356 c174 rfl rfl rfl (fun L1 u1 => ?_)
  refine rq_loc i_123_5 rfl rfl ?_
  refine rq_getf i_123_6 f_123_634 u1.1 rfl ?_
  refine rq_ifne (tg := 14) i_123_9 ⟨by decide, by decide⟩ (fun q => absurd q (by decide)) (fun _ => ?_)
  refine rq_pure i_123_12 rfl ?_
  refine rq_topi (v := (-1)) (by decide) ?_
  refine rq_iret i_123_13 r_123 rfl ?_
  refine rq_back1 ?_
  refine rq_iceq (tg := 1334) i_0_388 ⟨by decide, by decide⟩ (fun _ => ?_) (fun q => absurd q (by decide))
  have g1 := (u1.2 rx_S (by decide)).trans hS
  exact p1_tail g1 rfl rfl
set_option maxRecDepth 8000 in
theorem p1c_size {xs : Nat → Int32} {fm : Value} {L : List va_E} (hL : rz_heap L rz_T0 = true) : rq (rt_P (6, xs) fm) 0 2048 84000 100 1000 393 p1_lv [] L p1_Q := by
  have c0 : L[0]? = some (.inr (14, [.ref 1, .ref 7, .ref 114, .ref 133, .ref 145, .ref 146, .ref 150, .ref 159, .ref 167, .ref 172])) := rz_obj hL (by decide +kernel)
  have c174 : L[174]? = some (.inr (15, [.int 0, .ref 175, .int 0, .ref 176, .int 0, .int 0, .ref 177, .int 0, .ref 178, .ref 179, .ref 180, .int 0, .int 0, .int 0, .int 0, .int 0, .ref 181, .ref 182, .ref 183, .ref 184, .ref 185, .ref 186, .ref 187, .ref 188, .int 0, .ref 189, .ref 190, .ref 191, .ref 192, .ref 193, .ref 194, .ref 195, .ref 196, .ref 197, .int 0, .ref 198, .ref 199, .int 0, .ref 200, .ref 201, .ref 202, .ref 203, .ref 204, .ref 205, .ref 206, .ref 207, .ref 208, .ref 209, .ref 210, .ref 211, .ref 212, .ref 213, .ref 214, .ref 215, .ref 216, .ref 217, .ref 218, .ref 219, .ref 220, .ref 221, .ref 222, .ref 223, .ref 224, .ref 225, .ref 226, .ref 227, .ref 228, .int 0, .long 0, .ref 229, .ref 230, .ref 231, .ref 232, .long 0, .int 0, .ref 233, .int 0, .int 0, .int 0, .long 0, .int 0, .int 0, .int 0, .ref 234, .ref 235, .ref 236, .ref 237, .ref 238, .ref 239, .ref 240, .int 0, .int 0, .ref 241, .ref 242, .ref 243, .ref 244, .ref 245, .int (-1), .ref 246, .ref 247, .ref 248, .int 0, .int 0, .ref 249, .int 0, .int 0, .int 0, .ref 250, .ref 251, .ref 252, .int 0, .int 0, .int 0, .int 0, .ref 253, .ref 254, .ref 255, .ref 256, .ref 257, .ref 258, .ref 259, .int 0, .ref 260, .int 0, .int 0, .int 0, .int 0, .int 0, .int 0, .int 0, .int 0, .int 0, .int 0, .int 0, .int 0, .ref 261, .ref 262, .ref 263, .ref 264, .ref 265])) := rz_obj hL (by decide +kernel)
  have c7 : L[7]? = some (.inr (9, [.int 0, .ref 8, .int 0, .ref 9, .int 0, .ref 10, .ref 11, .int 0, .ref 12, .ref 13, .int 0, .ref 14, .ref 15, .ref 16, .ref 17])) := rz_obj hL (by decide +kernel)
  have hS : L[rx_S]? = none := p1_none hL
  refine rq_loc i_0_393 rfl rfl ?_
  refine rq_loc i_0_394 rfl rfl ?_
  refine rq_loc i_0_395 rfl rfl ?_
  refine rq_pure i_0_397 rfl ?_
  refine rq_topi (v := 1) (by decide) ?_
  refine rq_pure i_0_398 rfl ?_
  refine rq_topi (v := 1) (by decide) ?_
  refine rq_sald1 (x := xs 1) i_0_399 hS rfl (by decide) rfl ?_
  refine rq_loc i_0_400 rfl rfl ?_
  refine rq_loc i_0_401 rfl rfl ?_
  refine rq_pure i_0_403 rfl ?_
  refine rq_topi (v := 2) (by decide) ?_
  refine rq_pure i_0_404 rfl ?_
  refine rq_topi (v := 2) (by decide) ?_
  refine rq_sald1 (x := xs 2) i_0_405 hS rfl (by decide) rfl ?_
  refine rq_V1 (c1 := 0) (s1 := 0) (cb := 100) (sb := 1000) (F' := 2047) (Lo' := 83978) i_0_406 c_0_61 rfl (rz_isa c0 a_14_62) rfl rfl rfl ?_
  refine rq_loc i_62_0 rfl rfl ?_
  refine rq_getf i_62_1 f_62_19 c0 rfl ?_
  refine rq_getf i_62_4 f_62_126 c7 rfl ?_
  refine rq_ifne (tg := 12) i_62_7 ⟨by decide, by decide⟩ (fun q => absurd q (by decide)) (fun _ => ?_)
  refine rq_pure i_62_10 rfl ?_
  refine rq_topi (v := (-1)) (by decide) ?_
  refine rq_iret i_62_11 r_62 rfl ?_
  refine rq_back1 ?_
  refine rq_loc i_0_409 rfl rfl ?_
  refine rq_loc i_0_410 rfl rfl ?_
  refine rq_loc i_0_411 rfl rfl ?_
  refine rq_pure i_0_413 rfl ?_
  refine rq_topi (v := 1) (by decide) ?_
  refine rq_pure i_0_414 rfl ?_
  refine rq_topi (v := 1) (by decide) ?_
  refine rq_sald1 (x := xs 1) i_0_415 hS rfl (by decide) rfl ?_
  refine rq_loc i_0_416 rfl rfl ?_
  refine rq_loc i_0_417 rfl rfl ?_
  refine rq_pure i_0_419 rfl ?_
  refine rq_topi (v := 2) (by decide) ?_
  refine rq_pure i_0_420 rfl ?_
  refine rq_topi (v := 2) (by decide) ?_
  refine rq_sald1 (x := xs 2) i_0_421 hS rfl (by decide) rfl ?_
  refine rq_V1 (c1 := 0) (s1 := 0) (cb := 100) (sb := 1000) (F' := 2047) (Lo' := 83978) i_0_422 c_0_65 rfl (rz_isa c174 a_15_118) rfl rfl rfl ?_
  refine rq_loc i_118_0 rfl rfl ?_
  refine rq_pure i_118_1 rfl ?_
  refine rq_topi (v := 0) (by decide) ?_
  refine rq_putf1 i_118_2 p_118_356 c174 rfl rfl rfl (fun L1 u1 => ?_)
  refine rq_loc i_118_5 rfl rfl ?_
  refine rq_getf i_118_6 f_118_634 u1.1 rfl ?_
  refine rq_ifne (tg := 14) i_118_9 ⟨by decide, by decide⟩ (fun q => absurd q (by decide)) (fun _ => ?_)
  refine rq_pure i_118_12 rfl ?_
  refine rq_topi (v := (-1)) (by decide) ?_
  refine rq_iret i_118_13 r_118 rfl ?_
  refine rq_back1 ?_
  refine rq_iceq (tg := 1334) i_0_425 ⟨by decide, by decide⟩ (fun _ => ?_) (fun q => absurd q (by decide))
  have g1 := (u1.2 rx_S (by decide)).trans hS
  exact p1_tail g1 rfl rfl
set_option maxRecDepth 8000 in
theorem p1c_order {xs : Nat → Int32} {fm : Value} {L : List va_E} (hL : rz_heap L rz_T0 = true) : rq (rt_P (6, xs) fm) 0 2048 84000 100 1000 430 p1_lv [] L p1_Q := by
  have c0 : L[0]? = some (.inr (14, [.ref 1, .ref 7, .ref 114, .ref 133, .ref 145, .ref 146, .ref 150, .ref 159, .ref 167, .ref 172])) := rz_obj hL (by decide +kernel)
  have c174 : L[174]? = some (.inr (15, [.int 0, .ref 175, .int 0, .ref 176, .int 0, .int 0, .ref 177, .int 0, .ref 178, .ref 179, .ref 180, .int 0, .int 0, .int 0, .int 0, .int 0, .ref 181, .ref 182, .ref 183, .ref 184, .ref 185, .ref 186, .ref 187, .ref 188, .int 0, .ref 189, .ref 190, .ref 191, .ref 192, .ref 193, .ref 194, .ref 195, .ref 196, .ref 197, .int 0, .ref 198, .ref 199, .int 0, .ref 200, .ref 201, .ref 202, .ref 203, .ref 204, .ref 205, .ref 206, .ref 207, .ref 208, .ref 209, .ref 210, .ref 211, .ref 212, .ref 213, .ref 214, .ref 215, .ref 216, .ref 217, .ref 218, .ref 219, .ref 220, .ref 221, .ref 222, .ref 223, .ref 224, .ref 225, .ref 226, .ref 227, .ref 228, .int 0, .long 0, .ref 229, .ref 230, .ref 231, .ref 232, .long 0, .int 0, .ref 233, .int 0, .int 0, .int 0, .long 0, .int 0, .int 0, .int 0, .ref 234, .ref 235, .ref 236, .ref 237, .ref 238, .ref 239, .ref 240, .int 0, .int 0, .ref 241, .ref 242, .ref 243, .ref 244, .ref 245, .int (-1), .ref 246, .ref 247, .ref 248, .int 0, .int 0, .ref 249, .int 0, .int 0, .int 0, .ref 250, .ref 251, .ref 252, .int 0, .int 0, .int 0, .int 0, .ref 253, .ref 254, .ref 255, .ref 256, .ref 257, .ref 258, .ref 259, .int 0, .ref 260, .int 0, .int 0, .int 0, .int 0, .int 0, .int 0, .int 0, .int 0, .int 0, .int 0, .int 0, .int 0, .ref 261, .ref 262, .ref 263, .ref 264, .ref 265])) := rz_obj hL (by decide +kernel)
  have c7 : L[7]? = some (.inr (9, [.int 0, .ref 8, .int 0, .ref 9, .int 0, .ref 10, .ref 11, .int 0, .ref 12, .ref 13, .int 0, .ref 14, .ref 15, .ref 16, .ref 17])) := rz_obj hL (by decide +kernel)
  have hS : L[rx_S]? = none := p1_none hL
  refine rq_loc i_0_430 rfl rfl ?_
  refine rq_loc i_0_431 rfl rfl ?_
  refine rq_loc i_0_432 rfl rfl ?_
  refine rq_pure i_0_434 rfl ?_
  refine rq_topi (v := 1) (by decide) ?_
  refine rq_pure i_0_435 rfl ?_
  refine rq_topi (v := 1) (by decide) ?_
  refine rq_sald1 (x := xs 1) i_0_436 hS rfl (by decide) rfl ?_
  refine rq_loc i_0_437 rfl rfl ?_
  refine rq_loc i_0_438 rfl rfl ?_
  refine rq_pure i_0_440 rfl ?_
  refine rq_topi (v := 2) (by decide) ?_
  refine rq_pure i_0_441 rfl ?_
  refine rq_topi (v := 2) (by decide) ?_
  refine rq_sald1 (x := xs 2) i_0_442 hS rfl (by decide) rfl ?_
  refine rq_loc i_0_443 rfl rfl ?_
  refine rq_loc i_0_444 rfl rfl ?_
  refine rq_pure i_0_446 rfl ?_
  refine rq_topi (v := 3) (by decide) ?_
  refine rq_pure i_0_447 rfl ?_
  refine rq_topi (v := 3) (by decide) ?_
  refine rq_sald1 (x := xs 3) i_0_448 hS rfl (by decide) rfl ?_
  refine rq_loc i_0_449 rfl rfl ?_
  refine rq_loc i_0_450 rfl rfl ?_
  refine rq_pure i_0_452 rfl ?_
  refine rq_topi (v := 4) (by decide) ?_
  refine rq_pure i_0_453 rfl ?_
  refine rq_topi (v := 4) (by decide) ?_
  refine rq_sald1 (x := xs 4) i_0_454 hS rfl (by decide) rfl ?_
  refine rq_V1 (c1 := 0) (s1 := 0) (cb := 100) (sb := 1000) (F' := 2047) (Lo' := 83975) i_0_455 c_0_66 rfl (rz_isa c0 a_14_63) rfl rfl rfl ?_
  refine rq_loc i_63_0 rfl rfl ?_
  refine rq_getf i_63_1 f_63_19 c0 rfl ?_
  refine rq_loc i_63_4 rfl rfl ?_
  refine rq_V1 (c1 := 0) (s1 := 0) (cb := 0) (sb := 0) (F' := 2046) (Lo' := 83954) i_63_5 c_63_170 rfl (rz_isa c7 a_9_37) rfl rfl rfl ?_
  refine rq_loc i_37_0 rfl rfl ?_
  refine rq_getf i_37_1 f_37_51 c7 rfl ?_
  refine rq_ifeq (tg := 23) i_37_4 ⟨by decide, by decide⟩ (fun _ => ?_) (fun q => absurd q (by decide))
  refine rq_pure i_37_23 rfl ?_
  refine rq_topi (v := 0) (by decide) ?_
  refine rq_iret i_37_24 r_37 rfl ?_
  refine rq_back1 ?_
  refine rq_ifne (tg := 13) i_63_8 ⟨by decide, by decide⟩ (fun q => absurd q (by decide)) (fun _ => ?_)
  refine rq_pure i_63_11 rfl ?_
  refine rq_topi (v := (-1)) (by decide) ?_
  refine rq_iret i_63_12 r_63 rfl ?_
  refine rq_back1 ?_
  refine rq_loc i_0_458 rfl rfl ?_
  refine rq_loc i_0_459 rfl rfl ?_
  refine rq_loc i_0_460 rfl rfl ?_
  refine rq_pure i_0_462 rfl ?_
  refine rq_topi (v := 1) (by decide) ?_
  refine rq_pure i_0_463 rfl ?_
  refine rq_topi (v := 1) (by decide) ?_
  refine rq_sald1 (x := xs 1) i_0_464 hS rfl (by decide) rfl ?_
  refine rq_loc i_0_465 rfl rfl ?_
  refine rq_loc i_0_466 rfl rfl ?_
  refine rq_pure i_0_468 rfl ?_
  refine rq_topi (v := 2) (by decide) ?_
  refine rq_pure i_0_469 rfl ?_
  refine rq_topi (v := 2) (by decide) ?_
  refine rq_sald1 (x := xs 2) i_0_470 hS rfl (by decide) rfl ?_
  refine rq_loc i_0_471 rfl rfl ?_
  refine rq_loc i_0_472 rfl rfl ?_
  refine rq_pure i_0_474 rfl ?_
  refine rq_topi (v := 3) (by decide) ?_
  refine rq_pure i_0_475 rfl ?_
  refine rq_topi (v := 3) (by decide) ?_
  refine rq_sald1 (x := xs 3) i_0_476 hS rfl (by decide) rfl ?_
  refine rq_loc i_0_477 rfl rfl ?_
  refine rq_loc i_0_478 rfl rfl ?_
  refine rq_pure i_0_480 rfl ?_
  refine rq_topi (v := 4) (by decide) ?_
  refine rq_pure i_0_481 rfl ?_
  refine rq_topi (v := 4) (by decide) ?_
  refine rq_sald1 (x := xs 4) i_0_482 hS rfl (by decide) rfl ?_
  refine rq_V1 (c1 := 0) (s1 := 0) (cb := 100) (sb := 1000) (F' := 2047) (Lo' := 83976) i_0_483 c_0_70 rfl (rz_isa c174 a_15_120) rfl rfl rfl ?_
  refine rq_loc i_120_0 rfl rfl ?_
  refine rq_pure i_120_1 rfl ?_
  refine rq_topi (v := 0) (by decide) ?_
  refine rq_putf1 i_120_2 p_120_356 c174 rfl rfl rfl (fun L1 u1 => ?_)
  refine rq_loc i_120_5 rfl rfl ?_
  refine rq_loc i_120_6 rfl rfl ?_
  refine rq_V1 (c1 := 0) (s1 := 0) (cb := 0) (sb := 0) (F' := 2046) (Lo' := 83955) i_120_7 c_120_724 rfl (rz_isa u1.1 a_15_119) rfl rfl rfl ?_
  refine rq_loc i_119_0 rfl rfl ?_
  refine rq_getf i_119_1 f_119_634 u1.1 rfl ?_
  refine rq_ifeq (tg := 23) i_119_4 ⟨by decide, by decide⟩ (fun _ => ?_) (fun q => absurd q (by decide))
  refine rq_pure i_119_23 rfl ?_
  refine rq_topi (v := 0) (by decide) ?_
  refine rq_iret i_119_24 r_119 rfl ?_
  refine rq_back1 ?_
  refine rq_ifeq (tg := 41) i_120_10 ⟨by decide, by decide⟩ (fun _ => ?_) (fun q => absurd q (by decide))
  refine rq_pure i_120_41 rfl ?_
  refine rq_topi (v := (-1)) (by decide) ?_
  refine rq_iret i_120_42 r_120 rfl ?_
  refine rq_back1 ?_
  refine rq_iceq (tg := 1334) i_0_486 ⟨by decide, by decide⟩ (fun _ => ?_) (fun q => absurd q (by decide))
  have g1 := (u1.2 rx_S (by decide)).trans hS
  exact p1_tail g1 rfl rfl
set_option maxRecDepth 8000 in
theorem p1c_mark {xs : Nat → Int32} {fm : Value} {L : List va_E} (hL : rz_heap L rz_T0 = true) : rq (rt_P (6, xs) fm) 0 2048 84000 100 1000 491 p1_lv [] L p1_Q := by
  have c0 : L[0]? = some (.inr (14, [.ref 1, .ref 7, .ref 114, .ref 133, .ref 145, .ref 146, .ref 150, .ref 159, .ref 167, .ref 172])) := rz_obj hL (by decide +kernel)
  have c114 : L[114]? = some (.inr (2, [.ref 7, .ref 115, .ref 116, .ref 117, .ref 118, .ref 119, .ref 120, .int 0, .ref 121, .ref 122, .ref 123, .ref 124, .ref 125, .ref 126, .ref 127, .ref 128, .ref 129, .ref 130, .ref 131, .ref 132])) := rz_obj hL (by decide +kernel)
  have c174 : L[174]? = some (.inr (15, [.int 0, .ref 175, .int 0, .ref 176, .int 0, .int 0, .ref 177, .int 0, .ref 178, .ref 179, .ref 180, .int 0, .int 0, .int 0, .int 0, .int 0, .ref 181, .ref 182, .ref 183, .ref 184, .ref 185, .ref 186, .ref 187, .ref 188, .int 0, .ref 189, .ref 190, .ref 191, .ref 192, .ref 193, .ref 194, .ref 195, .ref 196, .ref 197, .int 0, .ref 198, .ref 199, .int 0, .ref 200, .ref 201, .ref 202, .ref 203, .ref 204, .ref 205, .ref 206, .ref 207, .ref 208, .ref 209, .ref 210, .ref 211, .ref 212, .ref 213, .ref 214, .ref 215, .ref 216, .ref 217, .ref 218, .ref 219, .ref 220, .ref 221, .ref 222, .ref 223, .ref 224, .ref 225, .ref 226, .ref 227, .ref 228, .int 0, .long 0, .ref 229, .ref 230, .ref 231, .ref 232, .long 0, .int 0, .ref 233, .int 0, .int 0, .int 0, .long 0, .int 0, .int 0, .int 0, .ref 234, .ref 235, .ref 236, .ref 237, .ref 238, .ref 239, .ref 240, .int 0, .int 0, .ref 241, .ref 242, .ref 243, .ref 244, .ref 245, .int (-1), .ref 246, .ref 247, .ref 248, .int 0, .int 0, .ref 249, .int 0, .int 0, .int 0, .ref 250, .ref 251, .ref 252, .int 0, .int 0, .int 0, .int 0, .ref 253, .ref 254, .ref 255, .ref 256, .ref 257, .ref 258, .ref 259, .int 0, .ref 260, .int 0, .int 0, .int 0, .int 0, .int 0, .int 0, .int 0, .int 0, .int 0, .int 0, .int 0, .int 0, .ref 261, .ref 262, .ref 263, .ref 264, .ref 265])) := rz_obj hL (by decide +kernel)
  have c7 : L[7]? = some (.inr (9, [.int 0, .ref 8, .int 0, .ref 9, .int 0, .ref 10, .ref 11, .int 0, .ref 12, .ref 13, .int 0, .ref 14, .ref 15, .ref 16, .ref 17])) := rz_obj hL (by decide +kernel)
  have hS : L[rx_S]? = none := p1_none hL
  refine rq_loc i_0_491 rfl rfl ?_
  refine rq_loc i_0_492 rfl rfl ?_
  refine rq_loc i_0_493 rfl rfl ?_
  refine rq_pure i_0_495 rfl ?_
  refine rq_topi (v := 1) (by decide) ?_
  refine rq_pure i_0_496 rfl ?_
  refine rq_topi (v := 1) (by decide) ?_
  refine rq_sald1 (x := xs 1) i_0_497 hS rfl (by decide) rfl ?_
  refine rq_loc i_0_498 rfl rfl ?_
  refine rq_loc i_0_499 rfl rfl ?_
  refine rq_pure i_0_501 rfl ?_
  refine rq_topi (v := 2) (by decide) ?_
  refine rq_pure i_0_502 rfl ?_
  refine rq_topi (v := 2) (by decide) ?_
  refine rq_sald1 (x := xs 2) i_0_503 hS rfl (by decide) rfl ?_
  refine rq_loc i_0_504 rfl rfl ?_
  refine rq_loc i_0_505 rfl rfl ?_
  refine rq_pure i_0_507 rfl ?_
  refine rq_topi (v := 3) (by decide) ?_
  refine rq_pure i_0_508 rfl ?_
  refine rq_topi (v := 3) (by decide) ?_
  refine rq_sald1 (x := xs 3) i_0_509 hS rfl (by decide) rfl ?_
  refine rq_V1 (c1 := 0) (s1 := 0) (cb := 100) (sb := 1000) (F' := 2047) (Lo' := 83976) i_0_510 c_0_71 rfl (rz_isa c0 a_14_64) rfl rfl rfl ?_
  refine rq_loc i_64_0 rfl rfl ?_
  refine rq_getf i_64_1 f_64_28 c0 rfl ?_
  refine rq_loc i_64_4 rfl rfl ?_
  refine rq_V1 (c1 := 0) (s1 := 0) (cb := 0) (sb := 0) (F' := 2046) (Lo' := 83953) i_64_5 c_64_146 rfl (rz_isa c114 a_2_21) rfl rfl rfl ?_
  refine rq_loc i_21_0 rfl rfl ?_
  refine rq_pure i_21_1 rfl ?_
  refine rq_topi (v := 100) (by decide) ?_
  refine rq_pure i_21_3 rfl ?_
  refine rq_loc i_21_4 rfl rfl ?_
  refine rq_loc i_21_5 rfl rfl ?_
  refine rq_pure i_21_6 rfl ?_
  refine rq_topi (v := 100) (by decide) ?_
  refine rq_pure i_21_8 rfl ?_
  refine rq_loc i_21_9 rfl rfl ?_
  refine rq_loc i_21_10 rfl rfl ?_
  refine rq_getf i_21_11 f_21_67 c114 rfl ?_
  refine rq_getf i_21_14 f_21_81 c7 rfl ?_
  refine rq_ifeq (tg := 35) i_21_17 ⟨by decide, by decide⟩ (fun _ => ?_) (fun q => absurd q (by decide))
  refine rq_pure i_21_35 rfl ?_
  refine rq_topi (v := (-1)) (by decide) ?_
  refine rq_iret i_21_36 r_21 rfl ?_
  refine rq_back1 ?_
  refine rq_iflt (tg := 28) i_64_8 ⟨by decide, by decide⟩ (fun _ => ?_) (fun q => absurd q (by decide))
  refine rq_pure i_64_28 rfl ?_
  refine rq_topi (v := (-1)) (by decide) ?_
  refine rq_iret i_64_29 r_64 rfl ?_
  refine rq_back1 ?_
  refine rq_loc i_0_513 rfl rfl ?_
  refine rq_loc i_0_514 rfl rfl ?_
  refine rq_loc i_0_515 rfl rfl ?_
  refine rq_pure i_0_517 rfl ?_
  refine rq_topi (v := 1) (by decide) ?_
  refine rq_pure i_0_518 rfl ?_
  refine rq_topi (v := 1) (by decide) ?_
  refine rq_sald1 (x := xs 1) i_0_519 hS rfl (by decide) rfl ?_
  refine rq_loc i_0_520 rfl rfl ?_
  refine rq_loc i_0_521 rfl rfl ?_
  refine rq_pure i_0_523 rfl ?_
  refine rq_topi (v := 2) (by decide) ?_
  refine rq_pure i_0_524 rfl ?_
  refine rq_topi (v := 2) (by decide) ?_
  refine rq_sald1 (x := xs 2) i_0_525 hS rfl (by decide) rfl ?_
  refine rq_loc i_0_526 rfl rfl ?_
  refine rq_loc i_0_527 rfl rfl ?_
  refine rq_pure i_0_529 rfl ?_
  refine rq_topi (v := 3) (by decide) ?_
  refine rq_pure i_0_530 rfl ?_
  refine rq_topi (v := 3) (by decide) ?_
  refine rq_sald1 (x := xs 3) i_0_531 hS rfl (by decide) rfl ?_
  refine rq_V1 (c1 := 0) (s1 := 0) (cb := 100) (sb := 1000) (F' := 2047) (Lo' := 83975) i_0_532 c_0_75 rfl (rz_isa c174 a_15_117) rfl rfl rfl ?_
  refine rq_loc i_117_0 rfl rfl ?_
  refine rq_pure i_117_1 rfl ?_
  refine rq_topi (v := 0) (by decide) ?_
  refine rq_putf1 i_117_2 p_117_356 c174 rfl rfl rfl (fun L1 u1 => ?_)
  refine rq_loc i_117_5 rfl rfl ?_
  refine rq_loc i_117_6 rfl rfl ?_
  refine rq_V1 (c1 := 0) (s1 := 0) (cb := 0) (sb := 0) (F' := 2046) (Lo' := 83951) i_117_7 c_117_652 rfl (rz_isa u1.1 a_15_109) rfl rfl rfl ?_
  refine rq_loc i_109_0 rfl rfl ?_
  refine rq_getf i_109_1 f_109_634 u1.1 rfl ?_
  refine rq_ifeq (tg := 22) i_109_4 ⟨by decide, by decide⟩ (fun _ => ?_) (fun q => absurd q (by decide))
  refine rq_pure i_109_22 rfl ?_
  refine rq_topi (v := 0) (by decide) ?_
  refine rq_iret i_109_23 r_109 rfl ?_
  refine rq_back1 ?_
  refine rq_ifeq (tg := 27) i_117_10 ⟨by decide, by decide⟩ (fun _ => ?_) (fun q => absurd q (by decide))
  refine rq_pure i_117_27 rfl ?_
  refine rq_topi (v := (-1)) (by decide) ?_
  refine rq_iret i_117_28 r_117 rfl ?_
  refine rq_back1 ?_
  refine rq_iceq (tg := 1334) i_0_535 ⟨by decide, by decide⟩ (fun _ => ?_) (fun q => absurd q (by decide))
  have g3 := (u1.2 rx_S (by decide)).trans hS
  exact p1_tail g3 rfl rfl
set_option maxRecDepth 8000 in
theorem p1c_give {xs : Nat → Int32} {fm : Value} {L : List va_E} (hL : rz_heap L rz_T0 = true) : rq (rt_P (6, xs) fm) 0 2048 84000 100 1000 540 p1_lv [] L p1_Q := by
  have c0 : L[0]? = some (.inr (14, [.ref 1, .ref 7, .ref 114, .ref 133, .ref 145, .ref 146, .ref 150, .ref 159, .ref 167, .ref 172])) := rz_obj hL (by decide +kernel)
  have c1 : L[1]? = some (.inr (3, [.ref 2, .int 0, .ref 3, .ref 4, .ref 5, .ref 6, .int 0, .int 0])) := rz_obj hL (by decide +kernel)
  have c114 : L[114]? = some (.inr (2, [.ref 7, .ref 115, .ref 116, .ref 117, .ref 118, .ref 119, .ref 120, .int 0, .ref 121, .ref 122, .ref 123, .ref 124, .ref 125, .ref 126, .ref 127, .ref 128, .ref 129, .ref 130, .ref 131, .ref 132])) := rz_obj hL (by decide +kernel)
  have c174 : L[174]? = some (.inr (15, [.int 0, .ref 175, .int 0, .ref 176, .int 0, .int 0, .ref 177, .int 0, .ref 178, .ref 179, .ref 180, .int 0, .int 0, .int 0, .int 0, .int 0, .ref 181, .ref 182, .ref 183, .ref 184, .ref 185, .ref 186, .ref 187, .ref 188, .int 0, .ref 189, .ref 190, .ref 191, .ref 192, .ref 193, .ref 194, .ref 195, .ref 196, .ref 197, .int 0, .ref 198, .ref 199, .int 0, .ref 200, .ref 201, .ref 202, .ref 203, .ref 204, .ref 205, .ref 206, .ref 207, .ref 208, .ref 209, .ref 210, .ref 211, .ref 212, .ref 213, .ref 214, .ref 215, .ref 216, .ref 217, .ref 218, .ref 219, .ref 220, .ref 221, .ref 222, .ref 223, .ref 224, .ref 225, .ref 226, .ref 227, .ref 228, .int 0, .long 0, .ref 229, .ref 230, .ref 231, .ref 232, .long 0, .int 0, .ref 233, .int 0, .int 0, .int 0, .long 0, .int 0, .int 0, .int 0, .ref 234, .ref 235, .ref 236, .ref 237, .ref 238, .ref 239, .ref 240, .int 0, .int 0, .ref 241, .ref 242, .ref 243, .ref 244, .ref 245, .int (-1), .ref 246, .ref 247, .ref 248, .int 0, .int 0, .ref 249, .int 0, .int 0, .int 0, .ref 250, .ref 251, .ref 252, .int 0, .int 0, .int 0, .int 0, .ref 253, .ref 254, .ref 255, .ref 256, .ref 257, .ref 258, .ref 259, .int 0, .ref 260, .int 0, .int 0, .int 0, .int 0, .int 0, .int 0, .int 0, .int 0, .int 0, .int 0, .int 0, .int 0, .ref 261, .ref 262, .ref 263, .ref 264, .ref 265])) := rz_obj hL (by decide +kernel)
  have c7 : L[7]? = some (.inr (9, [.int 0, .ref 8, .int 0, .ref 9, .int 0, .ref 10, .ref 11, .int 0, .ref 12, .ref 13, .int 0, .ref 14, .ref 15, .ref 16, .ref 17])) := rz_obj hL (by decide +kernel)
  have hS : L[rx_S]? = none := p1_none hL
  refine rq_loc i_0_540 rfl rfl ?_
  refine rq_loc i_0_541 rfl rfl ?_
  refine rq_loc i_0_542 rfl rfl ?_
  refine rq_pure i_0_544 rfl ?_
  refine rq_topi (v := 1) (by decide) ?_
  refine rq_pure i_0_545 rfl ?_
  refine rq_topi (v := 1) (by decide) ?_
  refine rq_sald1 (x := xs 1) i_0_546 hS rfl (by decide) rfl ?_
  refine rq_V1 (c1 := 0) (s1 := 0) (cb := 100) (sb := 1000) (F' := 2047) (Lo' := 83977) i_0_547 c_0_76 rfl (rz_isa c0 a_14_65) rfl rfl rfl ?_
  refine rq_loc i_65_0 rfl rfl ?_
  refine rq_getf i_65_1 f_65_12 c0 rfl ?_
  refine rq_getf i_65_4 f_65_95 c1 rfl ?_
  refine rq_loc i_65_7 rfl rfl ?_
  refine rq_loc i_65_8 rfl rfl ?_
  refine rq_getf i_65_9 f_65_12 c0 rfl ?_
  refine rq_pure i_65_12 rfl ?_
  refine rq_topi (v := 0) (by decide) ?_
  refine rq_putf1 i_65_13 p_65_95 c1 rfl rfl rfl (fun L1 u1 => ?_)
  refine rq_loc i_65_16 rfl rfl ?_
  have g1 := (u1.2 0 (by decide)).trans c0
  refine rq_getf i_65_17 f_65_28 g1 rfl ?_
  refine rq_loc i_65_20 rfl rfl ?_
  have g2 := (u1.2 114 (by decide)).trans c114
  refine rq_V1 (c1 := 0) (s1 := 0) (cb := 0) (sb := 0) (F' := 2046) (Lo' := 83954) i_65_21 c_65_146 rfl (rz_isa g2 a_2_21) rfl rfl rfl ?_
  refine rq_loc i_21_0 rfl rfl ?_
  refine rq_pure i_21_1 rfl ?_
  refine rq_topi (v := 100) (by decide) ?_
  refine rq_pure i_21_3 rfl ?_
  refine rq_loc i_21_4 rfl rfl ?_
  refine rq_loc i_21_5 rfl rfl ?_
  refine rq_pure i_21_6 rfl ?_
  refine rq_topi (v := 100) (by decide) ?_
  refine rq_pure i_21_8 rfl ?_
  refine rq_loc i_21_9 rfl rfl ?_
  refine rq_loc i_21_10 rfl rfl ?_
  refine rq_getf i_21_11 f_21_67 g2 rfl ?_
  have g5 := (u1.2 7 (by decide)).trans c7
  refine rq_getf i_21_14 f_21_81 g5 rfl ?_
  refine rq_ifeq (tg := 35) i_21_17 ⟨by decide, by decide⟩ (fun _ => ?_) (fun q => absurd q (by decide))
  refine rq_pure i_21_35 rfl ?_
  refine rq_topi (v := (-1)) (by decide) ?_
  refine rq_iret i_21_36 r_21 rfl ?_
  refine rq_back1 ?_
  refine rq_loc i_65_24 rfl rfl ?_
  refine rq_loc i_65_25 rfl rfl ?_
  refine rq_ifge (tg := 31) i_65_26 ⟨by decide, by decide⟩ (fun q => absurd q (by decide)) (fun _ => ?_)
  refine rq_pure i_65_29 rfl ?_
  refine rq_topi (v := (-1)) (by decide) ?_
  refine rq_iret i_65_30 r_65 rfl ?_
  refine rq_back1 ?_
  refine rq_loc i_0_550 rfl rfl ?_
  refine rq_loc i_0_551 rfl rfl ?_
  refine rq_loc i_0_552 rfl rfl ?_
  refine rq_pure i_0_554 rfl ?_
  refine rq_topi (v := 1) (by decide) ?_
  refine rq_pure i_0_555 rfl ?_
  refine rq_topi (v := 1) (by decide) ?_
  have g6 := (u1.2 rx_S (by decide)).trans hS
  refine rq_sald1 (x := xs 1) i_0_556 g6 rfl (by decide) rfl ?_
  have g7 := (u1.2 174 (by decide)).trans c174
  refine rq_V1 (c1 := 0) (s1 := 0) (cb := 100) (sb := 1000) (F' := 2047) (Lo' := 83972) i_0_557 c_0_79 rfl (rz_isa g7 a_15_121) rfl rfl rfl ?_
  refine rq_loc i_121_0 rfl rfl ?_
  refine rq_pure i_121_1 rfl ?_
  refine rq_topi (v := 0) (by decide) ?_
  refine rq_putf1 i_121_2 p_121_356 g7 rfl rfl rfl (fun L2 u2 => ?_)
  refine rq_loc i_121_5 rfl rfl ?_
  refine rq_loc i_121_6 rfl rfl ?_
  refine rq_getf i_121_7 f_121_359 u2.1 rfl ?_
  refine rq_putf1 i_121_10 p_121_739 u2.1 rfl rfl rfl (fun L3 u3 => ?_)
  refine rq_loc i_121_13 rfl rfl ?_
  refine rq_pure i_121_14 rfl ?_
  refine rq_topi (v := 0) (by decide) ?_
  refine rq_putf1 i_121_15 p_121_359 u3.1 rfl rfl rfl (fun L4 u4 => ?_)
  refine rq_loc i_121_18 rfl rfl ?_
  refine rq_loc i_121_19 rfl rfl ?_
  refine rq_V1 (c1 := 0) (s1 := 0) (cb := 0) (sb := 0) (F' := 2046) (Lo' := 83948) i_121_20 c_121_652 rfl (rz_isa u4.1 a_15_109) rfl rfl rfl ?_
  refine rq_loc i_109_0 rfl rfl ?_
  refine rq_getf i_109_1 f_109_634 u4.1 rfl ?_
  refine rq_ifeq (tg := 22) i_109_4 ⟨by decide, by decide⟩ (fun _ => ?_) (fun q => absurd q (by decide))
  refine rq_pure i_109_22 rfl ?_
  refine rq_topi (v := 0) (by decide) ?_
  refine rq_iret i_109_23 r_109 rfl ?_
  refine rq_back1 ?_
  refine rq_ifne (tg := 28) i_121_23 ⟨by decide, by decide⟩ (fun q => absurd q (by decide)) (fun _ => ?_)
  refine rq_pure i_121_26 rfl ?_
  refine rq_topi (v := (-1)) (by decide) ?_
  refine rq_iret i_121_27 r_121 rfl ?_
  refine rq_back1 ?_
  refine rq_iceq (tg := 1334) i_0_560 ⟨by decide, by decide⟩ (fun _ => ?_) (fun q => absurd q (by decide))
  have g8 := (u2.2 rx_S (by decide)).trans g6
  have g9 := (u3.2 rx_S (by decide)).trans g8
  have g10 := (u4.2 rx_S (by decide)).trans g9
  exact p1_tail g10 rfl rfl
set_option maxRecDepth 8000 in
theorem p1c_file {xs : Nat → Int32} {fm : Value} {L : List va_E} (hL : rz_heap L rz_T0 = true) : rq (rt_P (6, xs) fm) 0 2048 84000 100 1000 565 p1_lv [] L p1_Q := by
  have c0 : L[0]? = some (.inr (14, [.ref 1, .ref 7, .ref 114, .ref 133, .ref 145, .ref 146, .ref 150, .ref 159, .ref 167, .ref 172])) := rz_obj hL (by decide +kernel)
  have c114 : L[114]? = some (.inr (2, [.ref 7, .ref 115, .ref 116, .ref 117, .ref 118, .ref 119, .ref 120, .int 0, .ref 121, .ref 122, .ref 123, .ref 124, .ref 125, .ref 126, .ref 127, .ref 128, .ref 129, .ref 130, .ref 131, .ref 132])) := rz_obj hL (by decide +kernel)
  have c174 : L[174]? = some (.inr (15, [.int 0, .ref 175, .int 0, .ref 176, .int 0, .int 0, .ref 177, .int 0, .ref 178, .ref 179, .ref 180, .int 0, .int 0, .int 0, .int 0, .int 0, .ref 181, .ref 182, .ref 183, .ref 184, .ref 185, .ref 186, .ref 187, .ref 188, .int 0, .ref 189, .ref 190, .ref 191, .ref 192, .ref 193, .ref 194, .ref 195, .ref 196, .ref 197, .int 0, .ref 198, .ref 199, .int 0, .ref 200, .ref 201, .ref 202, .ref 203, .ref 204, .ref 205, .ref 206, .ref 207, .ref 208, .ref 209, .ref 210, .ref 211, .ref 212, .ref 213, .ref 214, .ref 215, .ref 216, .ref 217, .ref 218, .ref 219, .ref 220, .ref 221, .ref 222, .ref 223, .ref 224, .ref 225, .ref 226, .ref 227, .ref 228, .int 0, .long 0, .ref 229, .ref 230, .ref 231, .ref 232, .long 0, .int 0, .ref 233, .int 0, .int 0, .int 0, .long 0, .int 0, .int 0, .int 0, .ref 234, .ref 235, .ref 236, .ref 237, .ref 238, .ref 239, .ref 240, .int 0, .int 0, .ref 241, .ref 242, .ref 243, .ref 244, .ref 245, .int (-1), .ref 246, .ref 247, .ref 248, .int 0, .int 0, .ref 249, .int 0, .int 0, .int 0, .ref 250, .ref 251, .ref 252, .int 0, .int 0, .int 0, .int 0, .ref 253, .ref 254, .ref 255, .ref 256, .ref 257, .ref 258, .ref 259, .int 0, .ref 260, .int 0, .int 0, .int 0, .int 0, .int 0, .int 0, .int 0, .int 0, .int 0, .int 0, .int 0, .int 0, .ref 261, .ref 262, .ref 263, .ref 264, .ref 265])) := rz_obj hL (by decide +kernel)
  have c7 : L[7]? = some (.inr (9, [.int 0, .ref 8, .int 0, .ref 9, .int 0, .ref 10, .ref 11, .int 0, .ref 12, .ref 13, .int 0, .ref 14, .ref 15, .ref 16, .ref 17])) := rz_obj hL (by decide +kernel)
  have hS : L[rx_S]? = none := p1_none hL
  refine rq_loc i_0_565 rfl rfl ?_
  refine rq_loc i_0_566 rfl rfl ?_
  refine rq_loc i_0_567 rfl rfl ?_
  refine rq_pure i_0_569 rfl ?_
  refine rq_topi (v := 1) (by decide) ?_
  refine rq_pure i_0_570 rfl ?_
  refine rq_topi (v := 1) (by decide) ?_
  refine rq_sald1 (x := xs 1) i_0_571 hS rfl (by decide) rfl ?_
  refine rq_V1 (c1 := 0) (s1 := 0) (cb := 100) (sb := 1000) (F' := 2047) (Lo' := 83979) i_0_572 c_0_80 rfl (rz_isa c0 a_14_66) rfl rfl rfl ?_
  refine rq_loc i_66_0 rfl rfl ?_
  refine rq_getf i_66_1 f_66_28 c0 rfl ?_
  refine rq_loc i_66_4 rfl rfl ?_
  refine rq_V1 (c1 := 0) (s1 := 0) (cb := 0) (sb := 0) (F' := 2046) (Lo' := 83956) i_66_5 c_66_146 rfl (rz_isa c114 a_2_21) rfl rfl rfl ?_
  refine rq_loc i_21_0 rfl rfl ?_
  refine rq_pure i_21_1 rfl ?_
  refine rq_topi (v := 100) (by decide) ?_
  refine rq_pure i_21_3 rfl ?_
  refine rq_loc i_21_4 rfl rfl ?_
  refine rq_loc i_21_5 rfl rfl ?_
  refine rq_pure i_21_6 rfl ?_
  refine rq_topi (v := 100) (by decide) ?_
  refine rq_pure i_21_8 rfl ?_
  refine rq_loc i_21_9 rfl rfl ?_
  refine rq_loc i_21_10 rfl rfl ?_
  refine rq_getf i_21_11 f_21_67 c114 rfl ?_
  refine rq_getf i_21_14 f_21_81 c7 rfl ?_
  refine rq_ifeq (tg := 35) i_21_17 ⟨by decide, by decide⟩ (fun _ => ?_) (fun q => absurd q (by decide))
  refine rq_pure i_21_35 rfl ?_
  refine rq_topi (v := (-1)) (by decide) ?_
  refine rq_iret i_21_36 r_21 rfl ?_
  refine rq_back1 ?_
  refine rq_ifge (tg := 15) i_66_8 ⟨by decide, by decide⟩ (fun q => absurd q (by decide)) (fun _ => ?_)
  refine rq_pure i_66_11 rfl ?_
  refine rq_topi (v := (-1)) (by decide) ?_
  refine rq_goto (tg := 23) i_66_12 ⟨by decide, by decide⟩ ?_
  refine rq_iret i_66_23 r_66 rfl ?_
  refine rq_back1 ?_
  refine rq_loc i_0_575 rfl rfl ?_
  refine rq_loc i_0_576 rfl rfl ?_
  refine rq_loc i_0_577 rfl rfl ?_
  refine rq_pure i_0_579 rfl ?_
  refine rq_topi (v := 1) (by decide) ?_
  refine rq_pure i_0_580 rfl ?_
  refine rq_topi (v := 1) (by decide) ?_
  refine rq_sald1 (x := xs 1) i_0_581 hS rfl (by decide) rfl ?_
  refine rq_V1 (c1 := 0) (s1 := 0) (cb := 100) (sb := 1000) (F' := 2047) (Lo' := 83974) i_0_582 c_0_83 rfl (rz_isa c174 a_15_122) rfl rfl rfl ?_
  refine rq_loc i_122_0 rfl rfl ?_
  refine rq_pure i_122_1 rfl ?_
  refine rq_topi (v := 0) (by decide) ?_
  refine rq_putf1 i_122_2 p_122_356 c174 rfl rfl rfl (fun L1 u1 => ?_)
  refine rq_loc i_122_5 rfl rfl ?_
  refine rq_loc i_122_6 rfl rfl ?_
  refine rq_V1 (c1 := 0) (s1 := 0) (cb := 0) (sb := 0) (F' := 2046) (Lo' := 83950) i_122_7 c_122_652 rfl (rz_isa u1.1 a_15_109) rfl rfl rfl ?_
  refine rq_loc i_109_0 rfl rfl ?_
  refine rq_getf i_109_1 f_109_634 u1.1 rfl ?_
  refine rq_ifeq (tg := 22) i_109_4 ⟨by decide, by decide⟩ (fun _ => ?_) (fun q => absurd q (by decide))
  refine rq_pure i_109_22 rfl ?_
  refine rq_topi (v := 0) (by decide) ?_
  refine rq_iret i_109_23 r_109 rfl ?_
  refine rq_back1 ?_
  refine rq_ifne (tg := 15) i_122_10 ⟨by decide, by decide⟩ (fun q => absurd q (by decide)) (fun _ => ?_)
  refine rq_pure i_122_13 rfl ?_
  refine rq_topi (v := (-1)) (by decide) ?_
  refine rq_iret i_122_14 r_122 rfl ?_
  refine rq_back1 ?_
  refine rq_iceq (tg := 1334) i_0_585 ⟨by decide, by decide⟩ (fun _ => ?_) (fun q => absurd q (by decide))
  have g3 := (u1.2 rx_S (by decide)).trans hS
  exact p1_tail g3 rfl rfl
set_option maxRecDepth 8000 in
theorem p1c_effective {xs : Nat → Int32} {fm : Value} {L : List va_E} (hL : rz_heap L rz_T0 = true) : rq (rt_P (6, xs) fm) 0 2048 84000 100 1000 590 p1_lv [] L p1_Q := by
  have c0 : L[0]? = some (.inr (14, [.ref 1, .ref 7, .ref 114, .ref 133, .ref 145, .ref 146, .ref 150, .ref 159, .ref 167, .ref 172])) := rz_obj hL (by decide +kernel)
  have c114 : L[114]? = some (.inr (2, [.ref 7, .ref 115, .ref 116, .ref 117, .ref 118, .ref 119, .ref 120, .int 0, .ref 121, .ref 122, .ref 123, .ref 124, .ref 125, .ref 126, .ref 127, .ref 128, .ref 129, .ref 130, .ref 131, .ref 132])) := rz_obj hL (by decide +kernel)
  have c174 : L[174]? = some (.inr (15, [.int 0, .ref 175, .int 0, .ref 176, .int 0, .int 0, .ref 177, .int 0, .ref 178, .ref 179, .ref 180, .int 0, .int 0, .int 0, .int 0, .int 0, .ref 181, .ref 182, .ref 183, .ref 184, .ref 185, .ref 186, .ref 187, .ref 188, .int 0, .ref 189, .ref 190, .ref 191, .ref 192, .ref 193, .ref 194, .ref 195, .ref 196, .ref 197, .int 0, .ref 198, .ref 199, .int 0, .ref 200, .ref 201, .ref 202, .ref 203, .ref 204, .ref 205, .ref 206, .ref 207, .ref 208, .ref 209, .ref 210, .ref 211, .ref 212, .ref 213, .ref 214, .ref 215, .ref 216, .ref 217, .ref 218, .ref 219, .ref 220, .ref 221, .ref 222, .ref 223, .ref 224, .ref 225, .ref 226, .ref 227, .ref 228, .int 0, .long 0, .ref 229, .ref 230, .ref 231, .ref 232, .long 0, .int 0, .ref 233, .int 0, .int 0, .int 0, .long 0, .int 0, .int 0, .int 0, .ref 234, .ref 235, .ref 236, .ref 237, .ref 238, .ref 239, .ref 240, .int 0, .int 0, .ref 241, .ref 242, .ref 243, .ref 244, .ref 245, .int (-1), .ref 246, .ref 247, .ref 248, .int 0, .int 0, .ref 249, .int 0, .int 0, .int 0, .ref 250, .ref 251, .ref 252, .int 0, .int 0, .int 0, .int 0, .ref 253, .ref 254, .ref 255, .ref 256, .ref 257, .ref 258, .ref 259, .int 0, .ref 260, .int 0, .int 0, .int 0, .int 0, .int 0, .int 0, .int 0, .int 0, .int 0, .int 0, .int 0, .int 0, .ref 261, .ref 262, .ref 263, .ref 264, .ref 265])) := rz_obj hL (by decide +kernel)
  have c7 : L[7]? = some (.inr (9, [.int 0, .ref 8, .int 0, .ref 9, .int 0, .ref 10, .ref 11, .int 0, .ref 12, .ref 13, .int 0, .ref 14, .ref 15, .ref 16, .ref 17])) := rz_obj hL (by decide +kernel)
  have hS : L[rx_S]? = none := p1_none hL
  refine rq_loc i_0_590 rfl rfl ?_
  refine rq_loc i_0_591 rfl rfl ?_
  refine rq_loc i_0_592 rfl rfl ?_
  refine rq_pure i_0_594 rfl ?_
  refine rq_topi (v := 1) (by decide) ?_
  refine rq_pure i_0_595 rfl ?_
  refine rq_topi (v := 1) (by decide) ?_
  refine rq_sald1 (x := xs 1) i_0_596 hS rfl (by decide) rfl ?_
  refine rq_loc i_0_597 rfl rfl ?_
  refine rq_loc i_0_598 rfl rfl ?_
  refine rq_pure i_0_600 rfl ?_
  refine rq_topi (v := 2) (by decide) ?_
  refine rq_pure i_0_601 rfl ?_
  refine rq_topi (v := 2) (by decide) ?_
  refine rq_sald1 (x := xs 2) i_0_602 hS rfl (by decide) rfl ?_
  refine rq_V1 (c1 := 0) (s1 := 0) (cb := 100) (sb := 1000) (F' := 2047) (Lo' := 83978) i_0_603 c_0_84 rfl (rz_isa c0 a_14_67) rfl rfl rfl ?_
  refine rq_loc i_67_0 rfl rfl ?_
  refine rq_loc i_67_1 rfl rfl ?_
  refine rq_loc i_67_2 rfl rfl ?_
  refine rq_V1 (c1 := 0) (s1 := 0) (cb := 0) (sb := 0) (F' := 2046) (Lo' := 83956) i_67_3 c_67_230 rfl (rz_isa c0 a_14_70) rfl rfl rfl ?_
  refine rq_loc i_70_0 rfl rfl ?_
  refine rq_getf i_70_1 f_70_28 c0 rfl ?_
  refine rq_loc i_70_4 rfl rfl ?_
  refine rq_V1 (c1 := 0) (s1 := 0) (cb := 0) (sb := 0) (F' := 2045) (Lo' := 83933) i_70_5 c_70_146 rfl (rz_isa c114 a_2_21) rfl rfl rfl ?_
  refine rq_loc i_21_0 rfl rfl ?_
  refine rq_pure i_21_1 rfl ?_
  refine rq_topi (v := 100) (by decide) ?_
  refine rq_pure i_21_3 rfl ?_
  refine rq_loc i_21_4 rfl rfl ?_
  refine rq_loc i_21_5 rfl rfl ?_
  refine rq_pure i_21_6 rfl ?_
  refine rq_topi (v := 100) (by decide) ?_
  refine rq_pure i_21_8 rfl ?_
  refine rq_loc i_21_9 rfl rfl ?_
  refine rq_loc i_21_10 rfl rfl ?_
  refine rq_getf i_21_11 f_21_67 c114 rfl ?_
  refine rq_getf i_21_14 f_21_81 c7 rfl ?_
  refine rq_ifeq (tg := 35) i_21_17 ⟨by decide, by decide⟩ (fun _ => ?_) (fun q => absurd q (by decide))
  refine rq_pure i_21_35 rfl ?_
  refine rq_topi (v := (-1)) (by decide) ?_
  refine rq_iret i_21_36 r_21 rfl ?_
  refine rq_back1 ?_
  refine rq_iflt (tg := 26) i_70_8 ⟨by decide, by decide⟩ (fun _ => ?_) (fun q => absurd q (by decide))
  refine rq_pure i_70_26 rfl ?_
  refine rq_topi (v := 0) (by decide) ?_
  refine rq_iret i_70_27 r_70 rfl ?_
  refine rq_back1 ?_
  refine rq_ifeq (tg := 21) i_67_6 ⟨by decide, by decide⟩ (fun _ => ?_) (fun q => absurd q (by decide))
  refine rq_pure i_67_21 rfl ?_
  refine rq_topi (v := (-1)) (by decide) ?_
  refine rq_iret i_67_22 r_67 rfl ?_
  refine rq_back1 ?_
  refine rq_loc i_0_606 rfl rfl ?_
  refine rq_loc i_0_607 rfl rfl ?_
  refine rq_loc i_0_608 rfl rfl ?_
  refine rq_pure i_0_610 rfl ?_
  refine rq_topi (v := 1) (by decide) ?_
  refine rq_pure i_0_611 rfl ?_
  refine rq_topi (v := 1) (by decide) ?_
  refine rq_sald1 (x := xs 1) i_0_612 hS rfl (by decide) rfl ?_
  refine rq_loc i_0_613 rfl rfl ?_
  refine rq_loc i_0_614 rfl rfl ?_
  refine rq_pure i_0_616 rfl ?_
  refine rq_topi (v := 2) (by decide) ?_
  refine rq_pure i_0_617 rfl ?_
  refine rq_topi (v := 2) (by decide) ?_
  refine rq_sald1 (x := xs 2) i_0_618 hS rfl (by decide) rfl ?_
  refine rq_V1 (c1 := 0) (s1 := 0) (cb := 100) (sb := 1000) (F' := 2047) (Lo' := 83978) i_0_619 c_0_87 rfl (rz_isa c174 a_15_114) rfl rfl rfl ?_
  refine rq_loc i_114_0 rfl rfl ?_
  refine rq_pure i_114_1 rfl ?_
  refine rq_topi (v := 0) (by decide) ?_
  refine rq_putf1 i_114_2 p_114_356 c174 rfl rfl rfl (fun L1 u1 => ?_)
  refine rq_loc i_114_5 rfl rfl ?_
  refine rq_loc i_114_6 rfl rfl ?_
  refine rq_V1 (c1 := 0) (s1 := 0) (cb := 0) (sb := 0) (F' := 2046) (Lo' := 83954) i_114_7 c_114_652 rfl (rz_isa u1.1 a_15_109) rfl rfl rfl ?_
  refine rq_loc i_109_0 rfl rfl ?_
  refine rq_getf i_109_1 f_109_634 u1.1 rfl ?_
  refine rq_ifeq (tg := 22) i_109_4 ⟨by decide, by decide⟩ (fun _ => ?_) (fun q => absurd q (by decide))
  refine rq_pure i_109_22 rfl ?_
  refine rq_topi (v := 0) (by decide) ?_
  refine rq_iret i_109_23 r_109 rfl ?_
  refine rq_back1 ?_
  refine rq_ifeq (tg := 21) i_114_10 ⟨by decide, by decide⟩ (fun _ => ?_) (fun q => absurd q (by decide))
  refine rq_pure i_114_21 rfl ?_
  refine rq_topi (v := (-1)) (by decide) ?_
  refine rq_iret i_114_22 r_114 rfl ?_
  refine rq_back1 ?_
  refine rq_iceq (tg := 1334) i_0_622 ⟨by decide, by decide⟩ (fun _ => ?_) (fun q => absurd q (by decide))
  have g3 := (u1.2 rx_S (by decide)).trans hS
  exact p1_tail g3 rfl rfl
set_option maxRecDepth 8000 in
theorem p1c_whence {xs : Nat → Int32} {fm : Value} {L : List va_E} (hL : rz_heap L rz_T0 = true) : rq (rt_P (6, xs) fm) 0 2048 84000 100 1000 627 p1_lv [] L p1_Q := by
  have c0 : L[0]? = some (.inr (14, [.ref 1, .ref 7, .ref 114, .ref 133, .ref 145, .ref 146, .ref 150, .ref 159, .ref 167, .ref 172])) := rz_obj hL (by decide +kernel)
  have c114 : L[114]? = some (.inr (2, [.ref 7, .ref 115, .ref 116, .ref 117, .ref 118, .ref 119, .ref 120, .int 0, .ref 121, .ref 122, .ref 123, .ref 124, .ref 125, .ref 126, .ref 127, .ref 128, .ref 129, .ref 130, .ref 131, .ref 132])) := rz_obj hL (by decide +kernel)
  have c174 : L[174]? = some (.inr (15, [.int 0, .ref 175, .int 0, .ref 176, .int 0, .int 0, .ref 177, .int 0, .ref 178, .ref 179, .ref 180, .int 0, .int 0, .int 0, .int 0, .int 0, .ref 181, .ref 182, .ref 183, .ref 184, .ref 185, .ref 186, .ref 187, .ref 188, .int 0, .ref 189, .ref 190, .ref 191, .ref 192, .ref 193, .ref 194, .ref 195, .ref 196, .ref 197, .int 0, .ref 198, .ref 199, .int 0, .ref 200, .ref 201, .ref 202, .ref 203, .ref 204, .ref 205, .ref 206, .ref 207, .ref 208, .ref 209, .ref 210, .ref 211, .ref 212, .ref 213, .ref 214, .ref 215, .ref 216, .ref 217, .ref 218, .ref 219, .ref 220, .ref 221, .ref 222, .ref 223, .ref 224, .ref 225, .ref 226, .ref 227, .ref 228, .int 0, .long 0, .ref 229, .ref 230, .ref 231, .ref 232, .long 0, .int 0, .ref 233, .int 0, .int 0, .int 0, .long 0, .int 0, .int 0, .int 0, .ref 234, .ref 235, .ref 236, .ref 237, .ref 238, .ref 239, .ref 240, .int 0, .int 0, .ref 241, .ref 242, .ref 243, .ref 244, .ref 245, .int (-1), .ref 246, .ref 247, .ref 248, .int 0, .int 0, .ref 249, .int 0, .int 0, .int 0, .ref 250, .ref 251, .ref 252, .int 0, .int 0, .int 0, .int 0, .ref 253, .ref 254, .ref 255, .ref 256, .ref 257, .ref 258, .ref 259, .int 0, .ref 260, .int 0, .int 0, .int 0, .int 0, .int 0, .int 0, .int 0, .int 0, .int 0, .int 0, .int 0, .int 0, .ref 261, .ref 262, .ref 263, .ref 264, .ref 265])) := rz_obj hL (by decide +kernel)
  have c7 : L[7]? = some (.inr (9, [.int 0, .ref 8, .int 0, .ref 9, .int 0, .ref 10, .ref 11, .int 0, .ref 12, .ref 13, .int 0, .ref 14, .ref 15, .ref 16, .ref 17])) := rz_obj hL (by decide +kernel)
  have hS : L[rx_S]? = none := p1_none hL
  refine rq_loc i_0_627 rfl rfl ?_
  refine rq_loc i_0_628 rfl rfl ?_
  refine rq_loc i_0_629 rfl rfl ?_
  refine rq_pure i_0_631 rfl ?_
  refine rq_topi (v := 1) (by decide) ?_
  refine rq_pure i_0_632 rfl ?_
  refine rq_topi (v := 1) (by decide) ?_
  refine rq_sald1 (x := xs 1) i_0_633 hS rfl (by decide) rfl ?_
  refine rq_loc i_0_634 rfl rfl ?_
  refine rq_loc i_0_635 rfl rfl ?_
  refine rq_pure i_0_637 rfl ?_
  refine rq_topi (v := 2) (by decide) ?_
  refine rq_pure i_0_638 rfl ?_
  refine rq_topi (v := 2) (by decide) ?_
  refine rq_sald1 (x := xs 2) i_0_639 hS rfl (by decide) rfl ?_
  refine rq_loc i_0_640 rfl rfl ?_
  refine rq_loc i_0_641 rfl rfl ?_
  refine rq_pure i_0_643 rfl ?_
  refine rq_topi (v := 3) (by decide) ?_
  refine rq_pure i_0_644 rfl ?_
  refine rq_topi (v := 3) (by decide) ?_
  refine rq_sald1 (x := xs 3) i_0_645 hS rfl (by decide) rfl ?_
  refine rq_V1 (c1 := 0) (s1 := 0) (cb := 100) (sb := 1000) (F' := 2047) (Lo' := 83977) i_0_646 c_0_88 rfl (rz_isa c0 a_14_68) rfl rfl rfl ?_
  refine rq_loc i_68_0 rfl rfl ?_
  refine rq_loc i_68_1 rfl rfl ?_
  refine rq_loc i_68_2 rfl rfl ?_
  refine rq_V1 (c1 := 0) (s1 := 0) (cb := 0) (sb := 0) (F' := 2046) (Lo' := 83955) i_68_3 c_68_230 rfl (rz_isa c0 a_14_70) rfl rfl rfl ?_
  refine rq_loc i_70_0 rfl rfl ?_
  refine rq_getf i_70_1 f_70_28 c0 rfl ?_
  refine rq_loc i_70_4 rfl rfl ?_
  refine rq_V1 (c1 := 0) (s1 := 0) (cb := 0) (sb := 0) (F' := 2045) (Lo' := 83932) i_70_5 c_70_146 rfl (rz_isa c114 a_2_21) rfl rfl rfl ?_
  refine rq_loc i_21_0 rfl rfl ?_
  refine rq_pure i_21_1 rfl ?_
  refine rq_topi (v := 100) (by decide) ?_
  refine rq_pure i_21_3 rfl ?_
  refine rq_loc i_21_4 rfl rfl ?_
  refine rq_loc i_21_5 rfl rfl ?_
  refine rq_pure i_21_6 rfl ?_
  refine rq_topi (v := 100) (by decide) ?_
  refine rq_pure i_21_8 rfl ?_
  refine rq_loc i_21_9 rfl rfl ?_
  refine rq_loc i_21_10 rfl rfl ?_
  refine rq_getf i_21_11 f_21_67 c114 rfl ?_
  refine rq_getf i_21_14 f_21_81 c7 rfl ?_
  refine rq_ifeq (tg := 35) i_21_17 ⟨by decide, by decide⟩ (fun _ => ?_) (fun q => absurd q (by decide))
  refine rq_pure i_21_35 rfl ?_
  refine rq_topi (v := (-1)) (by decide) ?_
  refine rq_iret i_21_36 r_21 rfl ?_
  refine rq_back1 ?_
  refine rq_iflt (tg := 26) i_70_8 ⟨by decide, by decide⟩ (fun _ => ?_) (fun q => absurd q (by decide))
  refine rq_pure i_70_26 rfl ?_
  refine rq_topi (v := 0) (by decide) ?_
  refine rq_iret i_70_27 r_70 rfl ?_
  refine rq_back1 ?_
  refine rq_ifeq (tg := 21) i_68_6 ⟨by decide, by decide⟩ (fun _ => ?_) (fun q => absurd q (by decide))
  refine rq_pure i_68_21 rfl ?_
  refine rq_topi (v := (-1)) (by decide) ?_
  refine rq_iret i_68_22 r_68 rfl ?_
  refine rq_back1 ?_
  refine rq_loc i_0_649 rfl rfl ?_
  refine rq_loc i_0_650 rfl rfl ?_
  refine rq_loc i_0_651 rfl rfl ?_
  refine rq_pure i_0_653 rfl ?_
  refine rq_topi (v := 1) (by decide) ?_
  refine rq_pure i_0_654 rfl ?_
  refine rq_topi (v := 1) (by decide) ?_
  refine rq_sald1 (x := xs 1) i_0_655 hS rfl (by decide) rfl ?_
  refine rq_loc i_0_656 rfl rfl ?_
  refine rq_loc i_0_657 rfl rfl ?_
  refine rq_pure i_0_659 rfl ?_
  refine rq_topi (v := 2) (by decide) ?_
  refine rq_pure i_0_660 rfl ?_
  refine rq_topi (v := 2) (by decide) ?_
  refine rq_sald1 (x := xs 2) i_0_661 hS rfl (by decide) rfl ?_
  refine rq_loc i_0_662 rfl rfl ?_
  refine rq_loc i_0_663 rfl rfl ?_
  refine rq_pure i_0_665 rfl ?_
  refine rq_topi (v := 3) (by decide) ?_
  refine rq_pure i_0_666 rfl ?_
  refine rq_topi (v := 3) (by decide) ?_
  refine rq_sald1 (x := xs 3) i_0_667 hS rfl (by decide) rfl ?_
  refine rq_V1 (c1 := 0) (s1 := 0) (cb := 100) (sb := 1000) (F' := 2047) (Lo' := 83974) i_0_668 c_0_91 rfl (rz_isa c174 a_15_115) rfl rfl rfl ?_
  refine rq_loc i_115_0 rfl rfl ?_
  refine rq_pure i_115_1 rfl ?_
  refine rq_topi (v := 0) (by decide) ?_
  refine rq_putf1 i_115_2 p_115_356 c174 rfl rfl rfl (fun L1 u1 => ?_)
  refine rq_loc i_115_5 rfl rfl ?_
  refine rq_loc i_115_6 rfl rfl ?_
  refine rq_V1 (c1 := 0) (s1 := 0) (cb := 0) (sb := 0) (F' := 2046) (Lo' := 83950) i_115_7 c_115_652 rfl (rz_isa u1.1 a_15_109) rfl rfl rfl ?_
  refine rq_loc i_109_0 rfl rfl ?_
  refine rq_getf i_109_1 f_109_634 u1.1 rfl ?_
  refine rq_ifeq (tg := 22) i_109_4 ⟨by decide, by decide⟩ (fun _ => ?_) (fun q => absurd q (by decide))
  refine rq_pure i_109_22 rfl ?_
  refine rq_topi (v := 0) (by decide) ?_
  refine rq_iret i_109_23 r_109 rfl ?_
  refine rq_back1 ?_
  refine rq_ifeq (tg := 21) i_115_10 ⟨by decide, by decide⟩ (fun _ => ?_) (fun q => absurd q (by decide))
  refine rq_pure i_115_21 rfl ?_
  refine rq_topi (v := (-1)) (by decide) ?_
  refine rq_iret i_115_22 r_115 rfl ?_
  refine rq_back1 ?_
  refine rq_iceq (tg := 1334) i_0_671 ⟨by decide, by decide⟩ (fun _ => ?_) (fun q => absurd q (by decide))
  have g3 := (u1.2 rx_S (by decide)).trans hS
  exact p1_tail g3 rfl rfl
set_option maxRecDepth 8000 in
theorem p1c_ask {xs : Nat → Int32} {fm : Value} {L : List va_E} (hL : rz_heap L rz_T0 = true) : rq (rt_P (6, xs) fm) 0 2048 84000 100 1000 676 p1_lv [] L p1_Q := by
  have c0 : L[0]? = some (.inr (14, [.ref 1, .ref 7, .ref 114, .ref 133, .ref 145, .ref 146, .ref 150, .ref 159, .ref 167, .ref 172])) := rz_obj hL (by decide +kernel)
  have c114 : L[114]? = some (.inr (2, [.ref 7, .ref 115, .ref 116, .ref 117, .ref 118, .ref 119, .ref 120, .int 0, .ref 121, .ref 122, .ref 123, .ref 124, .ref 125, .ref 126, .ref 127, .ref 128, .ref 129, .ref 130, .ref 131, .ref 132])) := rz_obj hL (by decide +kernel)
  have c174 : L[174]? = some (.inr (15, [.int 0, .ref 175, .int 0, .ref 176, .int 0, .int 0, .ref 177, .int 0, .ref 178, .ref 179, .ref 180, .int 0, .int 0, .int 0, .int 0, .int 0, .ref 181, .ref 182, .ref 183, .ref 184, .ref 185, .ref 186, .ref 187, .ref 188, .int 0, .ref 189, .ref 190, .ref 191, .ref 192, .ref 193, .ref 194, .ref 195, .ref 196, .ref 197, .int 0, .ref 198, .ref 199, .int 0, .ref 200, .ref 201, .ref 202, .ref 203, .ref 204, .ref 205, .ref 206, .ref 207, .ref 208, .ref 209, .ref 210, .ref 211, .ref 212, .ref 213, .ref 214, .ref 215, .ref 216, .ref 217, .ref 218, .ref 219, .ref 220, .ref 221, .ref 222, .ref 223, .ref 224, .ref 225, .ref 226, .ref 227, .ref 228, .int 0, .long 0, .ref 229, .ref 230, .ref 231, .ref 232, .long 0, .int 0, .ref 233, .int 0, .int 0, .int 0, .long 0, .int 0, .int 0, .int 0, .ref 234, .ref 235, .ref 236, .ref 237, .ref 238, .ref 239, .ref 240, .int 0, .int 0, .ref 241, .ref 242, .ref 243, .ref 244, .ref 245, .int (-1), .ref 246, .ref 247, .ref 248, .int 0, .int 0, .ref 249, .int 0, .int 0, .int 0, .ref 250, .ref 251, .ref 252, .int 0, .int 0, .int 0, .int 0, .ref 253, .ref 254, .ref 255, .ref 256, .ref 257, .ref 258, .ref 259, .int 0, .ref 260, .int 0, .int 0, .int 0, .int 0, .int 0, .int 0, .int 0, .int 0, .int 0, .int 0, .int 0, .int 0, .ref 261, .ref 262, .ref 263, .ref 264, .ref 265])) := rz_obj hL (by decide +kernel)
  have c7 : L[7]? = some (.inr (9, [.int 0, .ref 8, .int 0, .ref 9, .int 0, .ref 10, .ref 11, .int 0, .ref 12, .ref 13, .int 0, .ref 14, .ref 15, .ref 16, .ref 17])) := rz_obj hL (by decide +kernel)
  have hS : L[rx_S]? = none := p1_none hL
  refine rq_loc i_0_676 rfl rfl ?_
  refine rq_loc i_0_677 rfl rfl ?_
  refine rq_loc i_0_678 rfl rfl ?_
  refine rq_pure i_0_680 rfl ?_
  refine rq_topi (v := 1) (by decide) ?_
  refine rq_pure i_0_681 rfl ?_
  refine rq_topi (v := 1) (by decide) ?_
  refine rq_sald1 (x := xs 1) i_0_682 hS rfl (by decide) rfl ?_
  refine rq_loc i_0_683 rfl rfl ?_
  refine rq_loc i_0_684 rfl rfl ?_
  refine rq_pure i_0_686 rfl ?_
  refine rq_topi (v := 2) (by decide) ?_
  refine rq_pure i_0_687 rfl ?_
  refine rq_topi (v := 2) (by decide) ?_
  refine rq_sald1 (x := xs 2) i_0_688 hS rfl (by decide) rfl ?_
  refine rq_loc i_0_689 rfl rfl ?_
  refine rq_loc i_0_690 rfl rfl ?_
  refine rq_pure i_0_692 rfl ?_
  refine rq_topi (v := 3) (by decide) ?_
  refine rq_pure i_0_693 rfl ?_
  refine rq_topi (v := 3) (by decide) ?_
  refine rq_sald1 (x := xs 3) i_0_694 hS rfl (by decide) rfl ?_
  refine rq_loc i_0_695 rfl rfl ?_
  refine rq_loc i_0_696 rfl rfl ?_
  refine rq_pure i_0_698 rfl ?_
  refine rq_topi (v := 4) (by decide) ?_
  refine rq_pure i_0_699 rfl ?_
  refine rq_topi (v := 4) (by decide) ?_
  refine rq_sald1 (x := xs 4) i_0_700 hS rfl (by decide) rfl ?_
  refine rq_V1 (c1 := 0) (s1 := 0) (cb := 100) (sb := 1000) (F' := 2047) (Lo' := 83974) i_0_701 c_0_92 rfl (rz_isa c0 a_14_69) rfl rfl rfl ?_
  refine rq_loc i_69_0 rfl rfl ?_
  refine rq_loc i_69_1 rfl rfl ?_
  refine rq_loc i_69_2 rfl rfl ?_
  refine rq_V1 (c1 := 0) (s1 := 0) (cb := 0) (sb := 0) (F' := 2046) (Lo' := 83952) i_69_3 c_69_230 rfl (rz_isa c0 a_14_70) rfl rfl rfl ?_
  refine rq_loc i_70_0 rfl rfl ?_
  refine rq_getf i_70_1 f_70_28 c0 rfl ?_
  refine rq_loc i_70_4 rfl rfl ?_
  refine rq_V1 (c1 := 0) (s1 := 0) (cb := 0) (sb := 0) (F' := 2045) (Lo' := 83929) i_70_5 c_70_146 rfl (rz_isa c114 a_2_21) rfl rfl rfl ?_
  refine rq_loc i_21_0 rfl rfl ?_
  refine rq_pure i_21_1 rfl ?_
  refine rq_topi (v := 100) (by decide) ?_
  refine rq_pure i_21_3 rfl ?_
  refine rq_loc i_21_4 rfl rfl ?_
  refine rq_loc i_21_5 rfl rfl ?_
  refine rq_pure i_21_6 rfl ?_
  refine rq_topi (v := 100) (by decide) ?_
  refine rq_pure i_21_8 rfl ?_
  refine rq_loc i_21_9 rfl rfl ?_
  refine rq_loc i_21_10 rfl rfl ?_
  refine rq_getf i_21_11 f_21_67 c114 rfl ?_
  refine rq_getf i_21_14 f_21_81 c7 rfl ?_
  refine rq_ifeq (tg := 35) i_21_17 ⟨by decide, by decide⟩ (fun _ => ?_) (fun q => absurd q (by decide))
  refine rq_pure i_21_35 rfl ?_
  refine rq_topi (v := (-1)) (by decide) ?_
  refine rq_iret i_21_36 r_21 rfl ?_
  refine rq_back1 ?_
  refine rq_iflt (tg := 26) i_70_8 ⟨by decide, by decide⟩ (fun _ => ?_) (fun q => absurd q (by decide))
  refine rq_pure i_70_26 rfl ?_
  refine rq_topi (v := 0) (by decide) ?_
  refine rq_iret i_70_27 r_70 rfl ?_
  refine rq_back1 ?_
  refine rq_ifeq (tg := 26) i_69_6 ⟨by decide, by decide⟩ (fun _ => ?_) (fun q => absurd q (by decide))
  refine rq_pure i_69_26 rfl ?_
  refine rq_topi (v := (-1)) (by decide) ?_
  refine rq_iret i_69_27 r_69 rfl ?_
  refine rq_back1 ?_
  refine rq_loc i_0_704 rfl rfl ?_
  refine rq_loc i_0_705 rfl rfl ?_
  refine rq_loc i_0_706 rfl rfl ?_
  refine rq_pure i_0_708 rfl ?_
  refine rq_topi (v := 1) (by decide) ?_
  refine rq_pure i_0_709 rfl ?_
  refine rq_topi (v := 1) (by decide) ?_
  refine rq_sald1 (x := xs 1) i_0_710 hS rfl (by decide) rfl ?_
  refine rq_loc i_0_711 rfl rfl ?_
  refine rq_loc i_0_712 rfl rfl ?_
  refine rq_pure i_0_714 rfl ?_
  refine rq_topi (v := 2) (by decide) ?_
  refine rq_pure i_0_715 rfl ?_
  refine rq_topi (v := 2) (by decide) ?_
  refine rq_sald1 (x := xs 2) i_0_716 hS rfl (by decide) rfl ?_
  refine rq_loc i_0_717 rfl rfl ?_
  refine rq_loc i_0_718 rfl rfl ?_
  refine rq_pure i_0_720 rfl ?_
  refine rq_topi (v := 3) (by decide) ?_
  refine rq_pure i_0_721 rfl ?_
  refine rq_topi (v := 3) (by decide) ?_
  refine rq_sald1 (x := xs 3) i_0_722 hS rfl (by decide) rfl ?_
  refine rq_loc i_0_723 rfl rfl ?_
  refine rq_loc i_0_724 rfl rfl ?_
  refine rq_pure i_0_726 rfl ?_
  refine rq_topi (v := 4) (by decide) ?_
  refine rq_pure i_0_727 rfl ?_
  refine rq_topi (v := 4) (by decide) ?_
  refine rq_sald1 (x := xs 4) i_0_728 hS rfl (by decide) rfl ?_
  refine rq_V1 (c1 := 0) (s1 := 0) (cb := 100) (sb := 1000) (F' := 2047) (Lo' := 83975) i_0_729 c_0_95 rfl (rz_isa c174 a_15_116) rfl rfl rfl ?_
  refine rq_loc i_116_0 rfl rfl ?_
  refine rq_pure i_116_1 rfl ?_
  refine rq_topi (v := 0) (by decide) ?_
  refine rq_putf1 i_116_2 p_116_356 c174 rfl rfl rfl (fun L1 u1 => ?_)
  refine rq_loc i_116_5 rfl rfl ?_
  refine rq_loc i_116_6 rfl rfl ?_
  refine rq_V1 (c1 := 0) (s1 := 0) (cb := 0) (sb := 0) (F' := 2046) (Lo' := 83951) i_116_7 c_116_652 rfl (rz_isa u1.1 a_15_109) rfl rfl rfl ?_
  refine rq_loc i_109_0 rfl rfl ?_
  refine rq_getf i_109_1 f_109_634 u1.1 rfl ?_
  refine rq_ifeq (tg := 22) i_109_4 ⟨by decide, by decide⟩ (fun _ => ?_) (fun q => absurd q (by decide))
  refine rq_pure i_109_22 rfl ?_
  refine rq_topi (v := 0) (by decide) ?_
  refine rq_iret i_109_23 r_109 rfl ?_
  refine rq_back1 ?_
  refine rq_ifeq (tg := 21) i_116_10 ⟨by decide, by decide⟩ (fun _ => ?_) (fun q => absurd q (by decide))
  refine rq_pure i_116_21 rfl ?_
  refine rq_topi (v := (-1)) (by decide) ?_
  refine rq_iret i_116_22 r_116 rfl ?_
  refine rq_back1 ?_
  refine rq_iceq (tg := 1334) i_0_732 ⟨by decide, by decide⟩ (fun _ => ?_) (fun q => absurd q (by decide))
  have g3 := (u1.2 rx_S (by decide)).trans hS
  exact p1_tail g3 rfl rfl
set_option maxRecDepth 8000 in
theorem p1c_markOf {xs : Nat → Int32} {fm : Value} {L : List va_E} (hL : rz_heap L rz_T0 = true) : rq (rt_P (6, xs) fm) 0 2048 84000 100 1000 737 p1_lv [] L p1_Q := by
  have c0 : L[0]? = some (.inr (14, [.ref 1, .ref 7, .ref 114, .ref 133, .ref 145, .ref 146, .ref 150, .ref 159, .ref 167, .ref 172])) := rz_obj hL (by decide +kernel)
  have c114 : L[114]? = some (.inr (2, [.ref 7, .ref 115, .ref 116, .ref 117, .ref 118, .ref 119, .ref 120, .int 0, .ref 121, .ref 122, .ref 123, .ref 124, .ref 125, .ref 126, .ref 127, .ref 128, .ref 129, .ref 130, .ref 131, .ref 132])) := rz_obj hL (by decide +kernel)
  have c174 : L[174]? = some (.inr (15, [.int 0, .ref 175, .int 0, .ref 176, .int 0, .int 0, .ref 177, .int 0, .ref 178, .ref 179, .ref 180, .int 0, .int 0, .int 0, .int 0, .int 0, .ref 181, .ref 182, .ref 183, .ref 184, .ref 185, .ref 186, .ref 187, .ref 188, .int 0, .ref 189, .ref 190, .ref 191, .ref 192, .ref 193, .ref 194, .ref 195, .ref 196, .ref 197, .int 0, .ref 198, .ref 199, .int 0, .ref 200, .ref 201, .ref 202, .ref 203, .ref 204, .ref 205, .ref 206, .ref 207, .ref 208, .ref 209, .ref 210, .ref 211, .ref 212, .ref 213, .ref 214, .ref 215, .ref 216, .ref 217, .ref 218, .ref 219, .ref 220, .ref 221, .ref 222, .ref 223, .ref 224, .ref 225, .ref 226, .ref 227, .ref 228, .int 0, .long 0, .ref 229, .ref 230, .ref 231, .ref 232, .long 0, .int 0, .ref 233, .int 0, .int 0, .int 0, .long 0, .int 0, .int 0, .int 0, .ref 234, .ref 235, .ref 236, .ref 237, .ref 238, .ref 239, .ref 240, .int 0, .int 0, .ref 241, .ref 242, .ref 243, .ref 244, .ref 245, .int (-1), .ref 246, .ref 247, .ref 248, .int 0, .int 0, .ref 249, .int 0, .int 0, .int 0, .ref 250, .ref 251, .ref 252, .int 0, .int 0, .int 0, .int 0, .ref 253, .ref 254, .ref 255, .ref 256, .ref 257, .ref 258, .ref 259, .int 0, .ref 260, .int 0, .int 0, .int 0, .int 0, .int 0, .int 0, .int 0, .int 0, .int 0, .int 0, .int 0, .int 0, .ref 261, .ref 262, .ref 263, .ref 264, .ref 265])) := rz_obj hL (by decide +kernel)
  have c7 : L[7]? = some (.inr (9, [.int 0, .ref 8, .int 0, .ref 9, .int 0, .ref 10, .ref 11, .int 0, .ref 12, .ref 13, .int 0, .ref 14, .ref 15, .ref 16, .ref 17])) := rz_obj hL (by decide +kernel)
  have hS : L[rx_S]? = none := p1_none hL
  refine rq_loc i_0_737 rfl rfl ?_
  refine rq_loc i_0_738 rfl rfl ?_
  refine rq_loc i_0_739 rfl rfl ?_
  refine rq_pure i_0_741 rfl ?_
  refine rq_topi (v := 1) (by decide) ?_
  refine rq_pure i_0_742 rfl ?_
  refine rq_topi (v := 1) (by decide) ?_
  refine rq_sald1 (x := xs 1) i_0_743 hS rfl (by decide) rfl ?_
  refine rq_loc i_0_744 rfl rfl ?_
  refine rq_loc i_0_745 rfl rfl ?_
  refine rq_pure i_0_747 rfl ?_
  refine rq_topi (v := 2) (by decide) ?_
  refine rq_pure i_0_748 rfl ?_
  refine rq_topi (v := 2) (by decide) ?_
  refine rq_sald1 (x := xs 2) i_0_749 hS rfl (by decide) rfl ?_
  refine rq_V1 (c1 := 0) (s1 := 0) (cb := 100) (sb := 1000) (F' := 2047) (Lo' := 83978) i_0_750 c_0_96 rfl (rz_isa c0 a_14_71) rfl rfl rfl ?_
  refine rq_loc i_71_0 rfl rfl ?_
  refine rq_getf i_71_1 f_71_28 c0 rfl ?_
  refine rq_loc i_71_4 rfl rfl ?_
  refine rq_V1 (c1 := 0) (s1 := 0) (cb := 0) (sb := 0) (F' := 2046) (Lo' := 83955) i_71_5 c_71_146 rfl (rz_isa c114 a_2_21) rfl rfl rfl ?_
  refine rq_loc i_21_0 rfl rfl ?_
  refine rq_pure i_21_1 rfl ?_
  refine rq_topi (v := 100) (by decide) ?_
  refine rq_pure i_21_3 rfl ?_
  refine rq_loc i_21_4 rfl rfl ?_
  refine rq_loc i_21_5 rfl rfl ?_
  refine rq_pure i_21_6 rfl ?_
  refine rq_topi (v := 100) (by decide) ?_
  refine rq_pure i_21_8 rfl ?_
  refine rq_loc i_21_9 rfl rfl ?_
  refine rq_loc i_21_10 rfl rfl ?_
  refine rq_getf i_21_11 f_21_67 c114 rfl ?_
  refine rq_getf i_21_14 f_21_81 c7 rfl ?_
  refine rq_ifeq (tg := 35) i_21_17 ⟨by decide, by decide⟩ (fun _ => ?_) (fun q => absurd q (by decide))
  refine rq_pure i_21_35 rfl ?_
  refine rq_topi (v := (-1)) (by decide) ?_
  refine rq_iret i_21_36 r_21 rfl ?_
  refine rq_back1 ?_
  refine rq_ifle (tg := 22) i_71_8 ⟨by decide, by decide⟩ (fun _ => ?_) (fun q => absurd q (by decide))
  refine rq_pure i_71_22 rfl ?_
  refine rq_topi (v := (-1)) (by decide) ?_
  refine rq_iret i_71_23 r_71 rfl ?_
  refine rq_back1 ?_
  refine rq_loc i_0_753 rfl rfl ?_
  refine rq_loc i_0_754 rfl rfl ?_
  refine rq_loc i_0_755 rfl rfl ?_
  refine rq_pure i_0_757 rfl ?_
  refine rq_topi (v := 1) (by decide) ?_
  refine rq_pure i_0_758 rfl ?_
  refine rq_topi (v := 1) (by decide) ?_
  refine rq_sald1 (x := xs 1) i_0_759 hS rfl (by decide) rfl ?_
  refine rq_loc i_0_760 rfl rfl ?_
  refine rq_loc i_0_761 rfl rfl ?_
  refine rq_pure i_0_763 rfl ?_
  refine rq_topi (v := 2) (by decide) ?_
  refine rq_pure i_0_764 rfl ?_
  refine rq_topi (v := 2) (by decide) ?_
  refine rq_sald1 (x := xs 2) i_0_765 hS rfl (by decide) rfl ?_
  refine rq_V1 (c1 := 0) (s1 := 0) (cb := 100) (sb := 1000) (F' := 2047) (Lo' := 83978) i_0_766 c_0_99 rfl (rz_isa c174 a_15_125) rfl rfl rfl ?_
  refine rq_loc i_125_0 rfl rfl ?_
  refine rq_pure i_125_1 rfl ?_
  refine rq_topi (v := 0) (by decide) ?_
  refine rq_putf1 i_125_2 p_125_356 c174 rfl rfl rfl (fun L1 u1 => ?_)
  refine rq_loc i_125_5 rfl rfl ?_
  refine rq_loc i_125_6 rfl rfl ?_
  refine rq_V1 (c1 := 0) (s1 := 0) (cb := 0) (sb := 0) (F' := 2046) (Lo' := 83957) i_125_7 c_125_829 rfl (rz_isa u1.1 a_15_112) rfl rfl rfl ?_
  refine rq_loc i_112_0 rfl rfl ?_
  refine rq_loc i_112_1 rfl rfl ?_
  refine rq_V1 (c1 := 0) (s1 := 0) (cb := 0) (sb := 0) (F' := 2045) (Lo' := 83933) i_112_2 c_112_652 rfl (rz_isa u1.1 a_15_109) rfl rfl rfl ?_
  refine rq_loc i_109_0 rfl rfl ?_
  refine rq_getf i_109_1 f_109_634 u1.1 rfl ?_
  refine rq_ifeq (tg := 22) i_109_4 ⟨by decide, by decide⟩ (fun _ => ?_) (fun q => absurd q (by decide))
  refine rq_pure i_109_22 rfl ?_
  refine rq_topi (v := 0) (by decide) ?_
  refine rq_iret i_109_23 r_109 rfl ?_
  refine rq_back1 ?_
  refine rq_ifeq (tg := 20) i_112_5 ⟨by decide, by decide⟩ (fun _ => ?_) (fun q => absurd q (by decide))
  refine rq_pure i_112_20 rfl ?_
  refine rq_topi (v := 0) (by decide) ?_
  refine rq_iret i_112_21 r_112 rfl ?_
  refine rq_back1 ?_
  refine rq_ifeq (tg := 30) i_125_10 ⟨by decide, by decide⟩ (fun _ => ?_) (fun q => absurd q (by decide))
  refine rq_pure i_125_30 rfl ?_
  refine rq_topi (v := (-1)) (by decide) ?_
  refine rq_iret i_125_31 r_125 rfl ?_
  refine rq_back1 ?_
  refine rq_iceq (tg := 1334) i_0_769 ⟨by decide, by decide⟩ (fun _ => ?_) (fun q => absurd q (by decide))
  have g3 := (u1.2 rx_S (by decide)).trans hS
  exact p1_tail g3 rfl rfl
set_option maxRecDepth 8000 in
theorem p1c_rounds {xs : Nat → Int32} {fm : Value} {L : List va_E} (hL : rz_heap L rz_T0 = true) : rq (rt_P (6, xs) fm) 0 2048 84000 100 1000 774 p1_lv [] L p1_Q := by
  have c0 : L[0]? = some (.inr (14, [.ref 1, .ref 7, .ref 114, .ref 133, .ref 145, .ref 146, .ref 150, .ref 159, .ref 167, .ref 172])) := rz_obj hL (by decide +kernel)
  have c174 : L[174]? = some (.inr (15, [.int 0, .ref 175, .int 0, .ref 176, .int 0, .int 0, .ref 177, .int 0, .ref 178, .ref 179, .ref 180, .int 0, .int 0, .int 0, .int 0, .int 0, .ref 181, .ref 182, .ref 183, .ref 184, .ref 185, .ref 186, .ref 187, .ref 188, .int 0, .ref 189, .ref 190, .ref 191, .ref 192, .ref 193, .ref 194, .ref 195, .ref 196, .ref 197, .int 0, .ref 198, .ref 199, .int 0, .ref 200, .ref 201, .ref 202, .ref 203, .ref 204, .ref 205, .ref 206, .ref 207, .ref 208, .ref 209, .ref 210, .ref 211, .ref 212, .ref 213, .ref 214, .ref 215, .ref 216, .ref 217, .ref 218, .ref 219, .ref 220, .ref 221, .ref 222, .ref 223, .ref 224, .ref 225, .ref 226, .ref 227, .ref 228, .int 0, .long 0, .ref 229, .ref 230, .ref 231, .ref 232, .long 0, .int 0, .ref 233, .int 0, .int 0, .int 0, .long 0, .int 0, .int 0, .int 0, .ref 234, .ref 235, .ref 236, .ref 237, .ref 238, .ref 239, .ref 240, .int 0, .int 0, .ref 241, .ref 242, .ref 243, .ref 244, .ref 245, .int (-1), .ref 246, .ref 247, .ref 248, .int 0, .int 0, .ref 249, .int 0, .int 0, .int 0, .ref 250, .ref 251, .ref 252, .int 0, .int 0, .int 0, .int 0, .ref 253, .ref 254, .ref 255, .ref 256, .ref 257, .ref 258, .ref 259, .int 0, .ref 260, .int 0, .int 0, .int 0, .int 0, .int 0, .int 0, .int 0, .int 0, .int 0, .int 0, .int 0, .int 0, .ref 261, .ref 262, .ref 263, .ref 264, .ref 265])) := rz_obj hL (by decide +kernel)
  have c7 : L[7]? = some (.inr (9, [.int 0, .ref 8, .int 0, .ref 9, .int 0, .ref 10, .ref 11, .int 0, .ref 12, .ref 13, .int 0, .ref 14, .ref 15, .ref 16, .ref 17])) := rz_obj hL (by decide +kernel)
  have hS : L[rx_S]? = none := p1_none hL
  refine rq_loc i_0_774 rfl rfl ?_
  refine rq_V1 (c1 := 0) (s1 := 0) (cb := 100) (sb := 1000) (F' := 2047) (Lo' := 83979) i_0_775 c_0_100 rfl (rz_isa c0 a_14_72) rfl rfl rfl ?_
  refine rq_loc i_72_0 rfl rfl ?_
  refine rq_getf i_72_1 f_72_19 c0 rfl ?_
  refine rq_getf i_72_4 f_72_126 c7 rfl ?_
  refine rq_ifne (tg := 12) i_72_7 ⟨by decide, by decide⟩ (fun q => absurd q (by decide)) (fun _ => ?_)
  refine rq_pure i_72_10 rfl ?_
  refine rq_topi (v := (-1)) (by decide) ?_
  refine rq_iret i_72_11 r_72 rfl ?_
  refine rq_back1 ?_
  refine rq_loc i_0_778 rfl rfl ?_
  refine rq_V1 (c1 := 0) (s1 := 0) (cb := 100) (sb := 1000) (F' := 2047) (Lo' := 83974) i_0_779 c_0_103 rfl (rz_isa c174 a_15_124) rfl rfl rfl ?_
  refine rq_loc i_124_0 rfl rfl ?_
  refine rq_pure i_124_1 rfl ?_
  refine rq_topi (v := 0) (by decide) ?_
  refine rq_putf1 i_124_2 p_124_356 c174 rfl rfl rfl (fun L1 u1 => ?_)
  refine rq_loc i_124_5 rfl rfl ?_
  refine rq_getf i_124_6 f_124_634 u1.1 rfl ?_
  refine rq_ifne (tg := 14) i_124_9 ⟨by decide, by decide⟩ (fun q => absurd q (by decide)) (fun _ => ?_)
  refine rq_pure i_124_12 rfl ?_
  refine rq_topi (v := (-1)) (by decide) ?_
  refine rq_iret i_124_13 r_124 rfl ?_
  refine rq_back1 ?_
  refine rq_iceq (tg := 1334) i_0_782 ⟨by decide, by decide⟩ (fun _ => ?_) (fun q => absurd q (by decide))
  have g1 := (u1.2 rx_S (by decide)).trans hS
  exact p1_tail g1 rfl rfl
set_option maxRecDepth 8000 in
theorem p1c_flow {xs : Nat → Int32} {fm : Value} {L : List va_E} (hL : rz_heap L rz_T0 = true) : rq (rt_P (6, xs) fm) 0 2048 84000 100 1000 787 p1_lv [] L p1_Q := by
  have c0 : L[0]? = some (.inr (14, [.ref 1, .ref 7, .ref 114, .ref 133, .ref 145, .ref 146, .ref 150, .ref 159, .ref 167, .ref 172])) := rz_obj hL (by decide +kernel)
  have c174 : L[174]? = some (.inr (15, [.int 0, .ref 175, .int 0, .ref 176, .int 0, .int 0, .ref 177, .int 0, .ref 178, .ref 179, .ref 180, .int 0, .int 0, .int 0, .int 0, .int 0, .ref 181, .ref 182, .ref 183, .ref 184, .ref 185, .ref 186, .ref 187, .ref 188, .int 0, .ref 189, .ref 190, .ref 191, .ref 192, .ref 193, .ref 194, .ref 195, .ref 196, .ref 197, .int 0, .ref 198, .ref 199, .int 0, .ref 200, .ref 201, .ref 202, .ref 203, .ref 204, .ref 205, .ref 206, .ref 207, .ref 208, .ref 209, .ref 210, .ref 211, .ref 212, .ref 213, .ref 214, .ref 215, .ref 216, .ref 217, .ref 218, .ref 219, .ref 220, .ref 221, .ref 222, .ref 223, .ref 224, .ref 225, .ref 226, .ref 227, .ref 228, .int 0, .long 0, .ref 229, .ref 230, .ref 231, .ref 232, .long 0, .int 0, .ref 233, .int 0, .int 0, .int 0, .long 0, .int 0, .int 0, .int 0, .ref 234, .ref 235, .ref 236, .ref 237, .ref 238, .ref 239, .ref 240, .int 0, .int 0, .ref 241, .ref 242, .ref 243, .ref 244, .ref 245, .int (-1), .ref 246, .ref 247, .ref 248, .int 0, .int 0, .ref 249, .int 0, .int 0, .int 0, .ref 250, .ref 251, .ref 252, .int 0, .int 0, .int 0, .int 0, .ref 253, .ref 254, .ref 255, .ref 256, .ref 257, .ref 258, .ref 259, .int 0, .ref 260, .int 0, .int 0, .int 0, .int 0, .int 0, .int 0, .int 0, .int 0, .int 0, .int 0, .int 0, .int 0, .ref 261, .ref 262, .ref 263, .ref 264, .ref 265])) := rz_obj hL (by decide +kernel)
  have c7 : L[7]? = some (.inr (9, [.int 0, .ref 8, .int 0, .ref 9, .int 0, .ref 10, .ref 11, .int 0, .ref 12, .ref 13, .int 0, .ref 14, .ref 15, .ref 16, .ref 17])) := rz_obj hL (by decide +kernel)
  have hS : L[rx_S]? = none := p1_none hL
  refine rq_loc i_0_787 rfl rfl ?_
  refine rq_loc i_0_788 rfl rfl ?_
  refine rq_loc i_0_789 rfl rfl ?_
  refine rq_pure i_0_791 rfl ?_
  refine rq_topi (v := 1) (by decide) ?_
  refine rq_pure i_0_792 rfl ?_
  refine rq_topi (v := 1) (by decide) ?_
  refine rq_sald1 (x := xs 1) i_0_793 hS rfl (by decide) rfl ?_
  refine rq_V1 (c1 := 0) (s1 := 0) (cb := 100) (sb := 1000) (F' := 2047) (Lo' := 83979) i_0_794 c_0_104 rfl (rz_isa c0 a_14_73) rfl rfl rfl ?_
  refine rq_loc i_73_0 rfl rfl ?_
  refine rq_getf i_73_1 f_73_19 c0 rfl ?_
  refine rq_loc i_73_4 rfl rfl ?_
  refine rq_V1 (c1 := 0) (s1 := 0) (cb := 0) (sb := 0) (F' := 2046) (Lo' := 83958) i_73_5 c_73_170 rfl (rz_isa c7 a_9_37) rfl rfl rfl ?_
  refine rq_loc i_37_0 rfl rfl ?_
  refine rq_getf i_37_1 f_37_51 c7 rfl ?_
  refine rq_ifeq (tg := 23) i_37_4 ⟨by decide, by decide⟩ (fun _ => ?_) (fun q => absurd q (by decide))
  refine rq_pure i_37_23 rfl ?_
  refine rq_topi (v := 0) (by decide) ?_
  refine rq_iret i_37_24 r_37 rfl ?_
  refine rq_back1 ?_
  refine rq_ifne (tg := 13) i_73_8 ⟨by decide, by decide⟩ (fun q => absurd q (by decide)) (fun _ => ?_)
  refine rq_pure i_73_11 rfl ?_
  refine rq_topi (v := (-1)) (by decide) ?_
  refine rq_iret i_73_12 r_73 rfl ?_
  refine rq_back1 ?_
  refine rq_loc i_0_797 rfl rfl ?_
  refine rq_loc i_0_798 rfl rfl ?_
  refine rq_loc i_0_799 rfl rfl ?_
  refine rq_pure i_0_801 rfl ?_
  refine rq_topi (v := 1) (by decide) ?_
  refine rq_pure i_0_802 rfl ?_
  refine rq_topi (v := 1) (by decide) ?_
  refine rq_sald1 (x := xs 1) i_0_803 hS rfl (by decide) rfl ?_
  refine rq_V1 (c1 := 0) (s1 := 0) (cb := 100) (sb := 1000) (F' := 2047) (Lo' := 83979) i_0_804 c_0_107 rfl (rz_isa c174 a_15_126) rfl rfl rfl ?_
  refine rq_loc i_126_0 rfl rfl ?_
  refine rq_pure i_126_1 rfl ?_
  refine rq_topi (v := 0) (by decide) ?_
  refine rq_putf1 i_126_2 p_126_356 c174 rfl rfl rfl (fun L1 u1 => ?_)
  refine rq_loc i_126_5 rfl rfl ?_
  refine rq_loc i_126_6 rfl rfl ?_
  refine rq_V1 (c1 := 0) (s1 := 0) (cb := 0) (sb := 0) (F' := 2046) (Lo' := 83958) i_126_7 c_126_724 rfl (rz_isa u1.1 a_15_119) rfl rfl rfl ?_
  refine rq_loc i_119_0 rfl rfl ?_
  refine rq_getf i_119_1 f_119_634 u1.1 rfl ?_
  refine rq_ifeq (tg := 23) i_119_4 ⟨by decide, by decide⟩ (fun _ => ?_) (fun q => absurd q (by decide))
  refine rq_pure i_119_23 rfl ?_
  refine rq_topi (v := 0) (by decide) ?_
  refine rq_iret i_119_24 r_119 rfl ?_
  refine rq_back1 ?_
  refine rq_ifne (tg := 15) i_126_10 ⟨by decide, by decide⟩ (fun q => absurd q (by decide)) (fun _ => ?_)
  refine rq_pure i_126_13 rfl ?_
  refine rq_topi (v := (-1)) (by decide) ?_
  refine rq_iret i_126_14 r_126 rfl ?_
  refine rq_back1 ?_
  refine rq_iceq (tg := 1334) i_0_807 ⟨by decide, by decide⟩ (fun _ => ?_) (fun q => absurd q (by decide))
  have g1 := (u1.2 rx_S (by decide)).trans hS
  exact p1_tail g1 rfl rfl
set_option maxRecDepth 8000 in
theorem p1c_error {xs : Nat → Int32} {fm : Value} {L : List va_E} (hL : rz_heap L rz_T0 = true) : rq (rt_P (6, xs) fm) 0 2048 84000 100 1000 812 p1_lv [] L p1_Q := by
  have c0 : L[0]? = some (.inr (14, [.ref 1, .ref 7, .ref 114, .ref 133, .ref 145, .ref 146, .ref 150, .ref 159, .ref 167, .ref 172])) := rz_obj hL (by decide +kernel)
  have c150 : L[150]? = some (.inr (5, [.ref 7, .ref 114, .ref 146, .int (-1), .ref 151, .ref 152, .int 0, .ref 153, .ref 154, .ref 155, .ref 156, .ref 157, .int 0, .int 0, .int 0, .ref 158, .int 0])) := rz_obj hL (by decide +kernel)
  have c174 : L[174]? = some (.inr (15, [.int 0, .ref 175, .int 0, .ref 176, .int 0, .int 0, .ref 177, .int 0, .ref 178, .ref 179, .ref 180, .int 0, .int 0, .int 0, .int 0, .int 0, .ref 181, .ref 182, .ref 183, .ref 184, .ref 185, .ref 186, .ref 187, .ref 188, .int 0, .ref 189, .ref 190, .ref 191, .ref 192, .ref 193, .ref 194, .ref 195, .ref 196, .ref 197, .int 0, .ref 198, .ref 199, .int 0, .ref 200, .ref 201, .ref 202, .ref 203, .ref 204, .ref 205, .ref 206, .ref 207, .ref 208, .ref 209, .ref 210, .ref 211, .ref 212, .ref 213, .ref 214, .ref 215, .ref 216, .ref 217, .ref 218, .ref 219, .ref 220, .ref 221, .ref 222, .ref 223, .ref 224, .ref 225, .ref 226, .ref 227, .ref 228, .int 0, .long 0, .ref 229, .ref 230, .ref 231, .ref 232, .long 0, .int 0, .ref 233, .int 0, .int 0, .int 0, .long 0, .int 0, .int 0, .int 0, .ref 234, .ref 235, .ref 236, .ref 237, .ref 238, .ref 239, .ref 240, .int 0, .int 0, .ref 241, .ref 242, .ref 243, .ref 244, .ref 245, .int (-1), .ref 246, .ref 247, .ref 248, .int 0, .int 0, .ref 249, .int 0, .int 0, .int 0, .ref 250, .ref 251, .ref 252, .int 0, .int 0, .int 0, .int 0, .ref 253, .ref 254, .ref 255, .ref 256, .ref 257, .ref 258, .ref 259, .int 0, .ref 260, .int 0, .int 0, .int 0, .int 0, .int 0, .int 0, .int 0, .int 0, .int 0, .int 0, .int 0, .int 0, .ref 261, .ref 262, .ref 263, .ref 264, .ref 265])) := rz_obj hL (by decide +kernel)
  have hS : L[rx_S]? = none := p1_none hL
  refine rq_loc i_0_812 rfl rfl ?_
  refine rq_loc i_0_813 rfl rfl ?_
  refine rq_loc i_0_814 rfl rfl ?_
  refine rq_pure i_0_816 rfl ?_
  refine rq_topi (v := 1) (by decide) ?_
  refine rq_pure i_0_817 rfl ?_
  refine rq_topi (v := 1) (by decide) ?_
  refine rq_sald1 (x := xs 1) i_0_818 hS rfl (by decide) rfl ?_
  refine rq_loc i_0_819 rfl rfl ?_
  refine rq_loc i_0_820 rfl rfl ?_
  refine rq_pure i_0_822 rfl ?_
  refine rq_topi (v := 2) (by decide) ?_
  refine rq_pure i_0_823 rfl ?_
  refine rq_topi (v := 2) (by decide) ?_
  refine rq_sald1 (x := xs 2) i_0_824 hS rfl (by decide) rfl ?_
  refine rq_V1 (c1 := 0) (s1 := 0) (cb := 100) (sb := 1000) (F' := 2047) (Lo' := 83978) i_0_825 c_0_108 rfl (rz_isa c0 a_14_74) rfl rfl rfl ?_
  refine rq_loc i_74_0 rfl rfl ?_
  refine rq_getf i_74_1 f_74_62 c0 rfl ?_
  refine rq_loc i_74_4 rfl rfl ?_
  refine rq_V1 (c1 := 0) (s1 := 0) (cb := 0) (sb := 0) (F' := 2046) (Lo' := 83957) i_74_5 c_74_287 rfl (rz_isa c150 a_5_30) rfl rfl rfl ?_
  refine rq_loc i_30_0 rfl rfl ?_
  refine rq_getf i_30_1 f_30_9 c150 rfl ?_
  refine rq_iflt (tg := 23) i_30_4 ⟨by decide, by decide⟩ (fun _ => ?_) (fun q => absurd q (by decide))
  refine rq_pure i_30_23 rfl ?_
  refine rq_topi (v := 0) (by decide) ?_
  refine rq_iret i_30_24 r_30 rfl ?_
  refine rq_back1 ?_
  refine rq_ifeq (tg := 23) i_74_8 ⟨by decide, by decide⟩ (fun _ => ?_) (fun q => absurd q (by decide))
  refine rq_pure i_74_23 rfl ?_
  refine rq_topi (v := (-1)) (by decide) ?_
  refine rq_iret i_74_24 r_74 rfl ?_
  refine rq_back1 ?_
  refine rq_loc i_0_828 rfl rfl ?_
  refine rq_loc i_0_829 rfl rfl ?_
  refine rq_loc i_0_830 rfl rfl ?_
  refine rq_pure i_0_832 rfl ?_
  refine rq_topi (v := 1) (by decide) ?_
  refine rq_pure i_0_833 rfl ?_
  refine rq_topi (v := 1) (by decide) ?_
  refine rq_sald1 (x := xs 1) i_0_834 hS rfl (by decide) rfl ?_
  refine rq_loc i_0_835 rfl rfl ?_
  refine rq_loc i_0_836 rfl rfl ?_
  refine rq_pure i_0_838 rfl ?_
  refine rq_topi (v := 2) (by decide) ?_
  refine rq_pure i_0_839 rfl ?_
  refine rq_topi (v := 2) (by decide) ?_
  refine rq_sald1 (x := xs 2) i_0_840 hS rfl (by decide) rfl ?_
  refine rq_V1 (c1 := 0) (s1 := 0) (cb := 100) (sb := 1000) (F' := 2047) (Lo' := 83978) i_0_841 c_0_111 rfl (rz_isa c174 a_15_127) rfl rfl rfl ?_
  refine rq_loc i_127_0 rfl rfl ?_
  refine rq_pure i_127_1 rfl ?_
  refine rq_topi (v := 0) (by decide) ?_
  refine rq_putf1 i_127_2 p_127_356 c174 rfl rfl rfl (fun L1 u1 => ?_)
  refine rq_loc i_127_5 rfl rfl ?_
  refine rq_getf i_127_6 f_127_292 u1.1 rfl ?_
  refine rq_iflt (tg := 24) i_127_9 ⟨by decide, by decide⟩ (fun _ => ?_) (fun q => absurd q (by decide))
  refine rq_pure i_127_24 rfl ?_
  refine rq_topi (v := (-1)) (by decide) ?_
  refine rq_iret i_127_25 r_127 rfl ?_
  refine rq_back1 ?_
  refine rq_iceq (tg := 1334) i_0_844 ⟨by decide, by decide⟩ (fun _ => ?_) (fun q => absurd q (by decide))
  have g1 := (u1.2 rx_S (by decide)).trans hS
  exact p1_tail g1 rfl rfl
set_option maxRecDepth 8000 in
theorem p1c_way {xs : Nat → Int32} {fm : Value} {L : List va_E} (hL : rz_heap L rz_T0 = true) : rq (rt_P (6, xs) fm) 0 2048 84000 100 1000 849 p1_lv [] L p1_Q := by
  have c0 : L[0]? = some (.inr (14, [.ref 1, .ref 7, .ref 114, .ref 133, .ref 145, .ref 146, .ref 150, .ref 159, .ref 167, .ref 172])) := rz_obj hL (by decide +kernel)
  have c150 : L[150]? = some (.inr (5, [.ref 7, .ref 114, .ref 146, .int (-1), .ref 151, .ref 152, .int 0, .ref 153, .ref 154, .ref 155, .ref 156, .ref 157, .int 0, .int 0, .int 0, .ref 158, .int 0])) := rz_obj hL (by decide +kernel)
  have c174 : L[174]? = some (.inr (15, [.int 0, .ref 175, .int 0, .ref 176, .int 0, .int 0, .ref 177, .int 0, .ref 178, .ref 179, .ref 180, .int 0, .int 0, .int 0, .int 0, .int 0, .ref 181, .ref 182, .ref 183, .ref 184, .ref 185, .ref 186, .ref 187, .ref 188, .int 0, .ref 189, .ref 190, .ref 191, .ref 192, .ref 193, .ref 194, .ref 195, .ref 196, .ref 197, .int 0, .ref 198, .ref 199, .int 0, .ref 200, .ref 201, .ref 202, .ref 203, .ref 204, .ref 205, .ref 206, .ref 207, .ref 208, .ref 209, .ref 210, .ref 211, .ref 212, .ref 213, .ref 214, .ref 215, .ref 216, .ref 217, .ref 218, .ref 219, .ref 220, .ref 221, .ref 222, .ref 223, .ref 224, .ref 225, .ref 226, .ref 227, .ref 228, .int 0, .long 0, .ref 229, .ref 230, .ref 231, .ref 232, .long 0, .int 0, .ref 233, .int 0, .int 0, .int 0, .long 0, .int 0, .int 0, .int 0, .ref 234, .ref 235, .ref 236, .ref 237, .ref 238, .ref 239, .ref 240, .int 0, .int 0, .ref 241, .ref 242, .ref 243, .ref 244, .ref 245, .int (-1), .ref 246, .ref 247, .ref 248, .int 0, .int 0, .ref 249, .int 0, .int 0, .int 0, .ref 250, .ref 251, .ref 252, .int 0, .int 0, .int 0, .int 0, .ref 253, .ref 254, .ref 255, .ref 256, .ref 257, .ref 258, .ref 259, .int 0, .ref 260, .int 0, .int 0, .int 0, .int 0, .int 0, .int 0, .int 0, .int 0, .int 0, .int 0, .int 0, .int 0, .ref 261, .ref 262, .ref 263, .ref 264, .ref 265])) := rz_obj hL (by decide +kernel)
  have hS : L[rx_S]? = none := p1_none hL
  refine rq_loc i_0_849 rfl rfl ?_
  refine rq_loc i_0_850 rfl rfl ?_
  refine rq_loc i_0_851 rfl rfl ?_
  refine rq_pure i_0_853 rfl ?_
  refine rq_topi (v := 1) (by decide) ?_
  refine rq_pure i_0_854 rfl ?_
  refine rq_topi (v := 1) (by decide) ?_
  refine rq_sald1 (x := xs 1) i_0_855 hS rfl (by decide) rfl ?_
  refine rq_V1 (c1 := 0) (s1 := 0) (cb := 100) (sb := 1000) (F' := 2047) (Lo' := 83979) i_0_856 c_0_112 rfl (rz_isa c0 a_14_75) rfl rfl rfl ?_
  refine rq_loc i_75_0 rfl rfl ?_
  refine rq_getf i_75_1 f_75_62 c0 rfl ?_
  refine rq_loc i_75_4 rfl rfl ?_
  refine rq_V1 (c1 := 0) (s1 := 0) (cb := 0) (sb := 0) (F' := 2046) (Lo' := 83958) i_75_5 c_75_287 rfl (rz_isa c150 a_5_30) rfl rfl rfl ?_
  refine rq_loc i_30_0 rfl rfl ?_
  refine rq_getf i_30_1 f_30_9 c150 rfl ?_
  refine rq_iflt (tg := 23) i_30_4 ⟨by decide, by decide⟩ (fun _ => ?_) (fun q => absurd q (by decide))
  refine rq_pure i_30_23 rfl ?_
  refine rq_topi (v := 0) (by decide) ?_
  refine rq_iret i_30_24 r_30 rfl ?_
  refine rq_back1 ?_
  refine rq_ifeq (tg := 22) i_75_8 ⟨by decide, by decide⟩ (fun _ => ?_) (fun q => absurd q (by decide))
  refine rq_pure i_75_22 rfl ?_
  refine rq_topi (v := (-1)) (by decide) ?_
  refine rq_iret i_75_23 r_75 rfl ?_
  refine rq_back1 ?_
  refine rq_loc i_0_859 rfl rfl ?_
  refine rq_loc i_0_860 rfl rfl ?_
  refine rq_loc i_0_861 rfl rfl ?_
  refine rq_pure i_0_863 rfl ?_
  refine rq_topi (v := 1) (by decide) ?_
  refine rq_pure i_0_864 rfl ?_
  refine rq_topi (v := 1) (by decide) ?_
  refine rq_sald1 (x := xs 1) i_0_865 hS rfl (by decide) rfl ?_
  refine rq_V1 (c1 := 0) (s1 := 0) (cb := 100) (sb := 1000) (F' := 2047) (Lo' := 83973) i_0_866 c_0_115 rfl (rz_isa c174 a_15_129) rfl rfl rfl ?_
  refine rq_loc i_129_0 rfl rfl ?_
  refine rq_pure i_129_1 rfl ?_
  refine rq_topi (v := 0) (by decide) ?_
  refine rq_putf1 i_129_2 p_129_356 c174 rfl rfl rfl (fun L1 u1 => ?_)
  refine rq_loc i_129_5 rfl rfl ?_
  refine rq_getf i_129_6 f_129_292 u1.1 rfl ?_
  refine rq_iflt (tg := 24) i_129_9 ⟨by decide, by decide⟩ (fun _ => ?_) (fun q => absurd q (by decide))
  refine rq_pure i_129_24 rfl ?_
  refine rq_topi (v := (-1)) (by decide) ?_
  refine rq_iret i_129_25 r_129 rfl ?_
  refine rq_back1 ?_
  refine rq_iceq (tg := 1334) i_0_869 ⟨by decide, by decide⟩ (fun _ => ?_) (fun q => absurd q (by decide))
  have g1 := (u1.2 rx_S (by decide)).trans hS
  exact p1_tail g1 rfl rfl
set_option maxRecDepth 8000 in
theorem p1c_step {xs : Nat → Int32} {fm : Value} {L : List va_E} (hL : rz_heap L rz_T0 = true) : rq (rt_P (6, xs) fm) 0 2048 84000 100 1000 874 p1_lv [] L p1_Q := by
  have c0 : L[0]? = some (.inr (14, [.ref 1, .ref 7, .ref 114, .ref 133, .ref 145, .ref 146, .ref 150, .ref 159, .ref 167, .ref 172])) := rz_obj hL (by decide +kernel)
  have c150 : L[150]? = some (.inr (5, [.ref 7, .ref 114, .ref 146, .int (-1), .ref 151, .ref 152, .int 0, .ref 153, .ref 154, .ref 155, .ref 156, .ref 157, .int 0, .int 0, .int 0, .ref 158, .int 0])) := rz_obj hL (by decide +kernel)
  have c174 : L[174]? = some (.inr (15, [.int 0, .ref 175, .int 0, .ref 176, .int 0, .int 0, .ref 177, .int 0, .ref 178, .ref 179, .ref 180, .int 0, .int 0, .int 0, .int 0, .int 0, .ref 181, .ref 182, .ref 183, .ref 184, .ref 185, .ref 186, .ref 187, .ref 188, .int 0, .ref 189, .ref 190, .ref 191, .ref 192, .ref 193, .ref 194, .ref 195, .ref 196, .ref 197, .int 0, .ref 198, .ref 199, .int 0, .ref 200, .ref 201, .ref 202, .ref 203, .ref 204, .ref 205, .ref 206, .ref 207, .ref 208, .ref 209, .ref 210, .ref 211, .ref 212, .ref 213, .ref 214, .ref 215, .ref 216, .ref 217, .ref 218, .ref 219, .ref 220, .ref 221, .ref 222, .ref 223, .ref 224, .ref 225, .ref 226, .ref 227, .ref 228, .int 0, .long 0, .ref 229, .ref 230, .ref 231, .ref 232, .long 0, .int 0, .ref 233, .int 0, .int 0, .int 0, .long 0, .int 0, .int 0, .int 0, .ref 234, .ref 235, .ref 236, .ref 237, .ref 238, .ref 239, .ref 240, .int 0, .int 0, .ref 241, .ref 242, .ref 243, .ref 244, .ref 245, .int (-1), .ref 246, .ref 247, .ref 248, .int 0, .int 0, .ref 249, .int 0, .int 0, .int 0, .ref 250, .ref 251, .ref 252, .int 0, .int 0, .int 0, .int 0, .ref 253, .ref 254, .ref 255, .ref 256, .ref 257, .ref 258, .ref 259, .int 0, .ref 260, .int 0, .int 0, .int 0, .int 0, .int 0, .int 0, .int 0, .int 0, .int 0, .int 0, .int 0, .int 0, .ref 261, .ref 262, .ref 263, .ref 264, .ref 265])) := rz_obj hL (by decide +kernel)
  have hS : L[rx_S]? = none := p1_none hL
  refine rq_loc i_0_874 rfl rfl ?_
  refine rq_loc i_0_875 rfl rfl ?_
  refine rq_loc i_0_876 rfl rfl ?_
  refine rq_pure i_0_878 rfl ?_
  refine rq_topi (v := 1) (by decide) ?_
  refine rq_pure i_0_879 rfl ?_
  refine rq_topi (v := 1) (by decide) ?_
  refine rq_sald1 (x := xs 1) i_0_880 hS rfl (by decide) rfl ?_
  refine rq_V1 (c1 := 0) (s1 := 0) (cb := 100) (sb := 1000) (F' := 2047) (Lo' := 83979) i_0_881 c_0_116 rfl (rz_isa c0 a_14_76) rfl rfl rfl ?_
  refine rq_loc i_76_0 rfl rfl ?_
  refine rq_iflt (tg := 15) i_76_1 ⟨by decide, by decide⟩ (fun h1 => ?_) (fun h1 => ?_)
  ·
    refine rq_pure i_76_15 rfl ?_
    refine rq_topi (v := (-1)) (by decide) ?_
    refine rq_goto (tg := 28) i_76_16 ⟨by decide, by decide⟩ ?_
    refine rq_iret i_76_28 r_76 rfl ?_
    refine rq_back1 ?_
    refine rq_loc i_0_884 rfl rfl ?_
    refine rq_loc i_0_885 rfl rfl ?_
    refine rq_loc i_0_886 rfl rfl ?_
    refine rq_pure i_0_888 rfl ?_
    refine rq_topi (v := 1) (by decide) ?_
    refine rq_pure i_0_889 rfl ?_
    refine rq_topi (v := 1) (by decide) ?_
    refine rq_sald1 (x := xs 1) i_0_890 hS rfl (by decide) rfl ?_
    refine rq_V1 (c1 := 0) (s1 := 0) (cb := 100) (sb := 1000) (F' := 2047) (Lo' := 83979) i_0_891 c_0_119 rfl (rz_isa c174 a_15_130) rfl rfl rfl ?_
    refine rq_loc i_130_0 rfl rfl ?_
    refine rq_pure i_130_1 rfl ?_
    refine rq_topi (v := 0) (by decide) ?_
    refine rq_putf1 i_130_2 p_130_356 c174 rfl rfl rfl (fun L1 u1 => ?_)
    refine rq_loc i_130_5 rfl rfl ?_
    refine rq_getf i_130_6 f_130_292 u1.1 rfl ?_
    refine rq_iflt (tg := 33) i_130_9 ⟨by decide, by decide⟩ (fun _ => ?_) (fun q => absurd q (by decide))
    refine rq_pure i_130_33 rfl ?_
    refine rq_topi (v := (-1)) (by decide) ?_
    refine rq_iret i_130_34 r_130 rfl ?_
    refine rq_back1 ?_
    refine rq_iceq (tg := 1334) i_0_894 ⟨by decide, by decide⟩ (fun _ => ?_) (fun q => absurd q (by decide))
    have g2 := (u1.2 rx_S (by decide)).trans hS
    exact p1_tail g2 rfl rfl
  ·
    refine rq_loc i_76_4 rfl rfl ?_
    refine rq_loc i_76_5 rfl rfl ?_
    refine rq_getf i_76_6 f_76_62 c0 rfl ?_
    refine rq_getf i_76_9 f_76_281 c150 rfl ?_
    refine rq_iclt (tg := 19) i_76_12 ⟨by decide, by decide⟩ (fun q => absurd q (by intro q; simp only [Int32.lt_iff_toInt_lt, Int32.le_iff_toInt_le, Int32.not_lt, Int32.not_le, ← Int32.toInt_inj] at q h1; have e0 : (0 : Int32).toInt = 0 := (by decide); first | omega | (simp at q h1; omega))) (fun _ => ?_)
    refine rq_pure i_76_15 rfl ?_
    refine rq_topi (v := (-1)) (by decide) ?_
    refine rq_goto (tg := 28) i_76_16 ⟨by decide, by decide⟩ ?_
    refine rq_iret i_76_28 r_76 rfl ?_
    refine rq_back1 ?_
    refine rq_loc i_0_884 rfl rfl ?_
    refine rq_loc i_0_885 rfl rfl ?_
    refine rq_loc i_0_886 rfl rfl ?_
    refine rq_pure i_0_888 rfl ?_
    refine rq_topi (v := 1) (by decide) ?_
    refine rq_pure i_0_889 rfl ?_
    refine rq_topi (v := 1) (by decide) ?_
    refine rq_sald1 (x := xs 1) i_0_890 hS rfl (by decide) rfl ?_
    refine rq_V1 (c1 := 0) (s1 := 0) (cb := 100) (sb := 1000) (F' := 2047) (Lo' := 83979) i_0_891 c_0_119 rfl (rz_isa c174 a_15_130) rfl rfl rfl ?_
    refine rq_loc i_130_0 rfl rfl ?_
    refine rq_pure i_130_1 rfl ?_
    refine rq_topi (v := 0) (by decide) ?_
    refine rq_putf1 i_130_2 p_130_356 c174 rfl rfl rfl (fun L1 u1 => ?_)
    refine rq_loc i_130_5 rfl rfl ?_
    refine rq_getf i_130_6 f_130_292 u1.1 rfl ?_
    refine rq_iflt (tg := 33) i_130_9 ⟨by decide, by decide⟩ (fun _ => ?_) (fun q => absurd q (by decide))
    refine rq_pure i_130_33 rfl ?_
    refine rq_topi (v := (-1)) (by decide) ?_
    refine rq_iret i_130_34 r_130 rfl ?_
    refine rq_back1 ?_
    refine rq_iceq (tg := 1334) i_0_894 ⟨by decide, by decide⟩ (fun _ => ?_) (fun q => absurd q (by decide))
    have g3 := (u1.2 rx_S (by decide)).trans hS
    exact p1_tail g3 rfl rfl
set_option maxRecDepth 8000 in
theorem p1c_state {xs : Nat → Int32} {fm : Value} {L : List va_E} (hL : rz_heap L rz_T0 = true) : rq (rt_P (6, xs) fm) 0 2048 84000 100 1000 899 p1_lv [] L p1_Q := by
  have c0 : L[0]? = some (.inr (14, [.ref 1, .ref 7, .ref 114, .ref 133, .ref 145, .ref 146, .ref 150, .ref 159, .ref 167, .ref 172])) := rz_obj hL (by decide +kernel)
  have c150 : L[150]? = some (.inr (5, [.ref 7, .ref 114, .ref 146, .int (-1), .ref 151, .ref 152, .int 0, .ref 153, .ref 154, .ref 155, .ref 156, .ref 157, .int 0, .int 0, .int 0, .ref 158, .int 0])) := rz_obj hL (by decide +kernel)
  have c174 : L[174]? = some (.inr (15, [.int 0, .ref 175, .int 0, .ref 176, .int 0, .int 0, .ref 177, .int 0, .ref 178, .ref 179, .ref 180, .int 0, .int 0, .int 0, .int 0, .int 0, .ref 181, .ref 182, .ref 183, .ref 184, .ref 185, .ref 186, .ref 187, .ref 188, .int 0, .ref 189, .ref 190, .ref 191, .ref 192, .ref 193, .ref 194, .ref 195, .ref 196, .ref 197, .int 0, .ref 198, .ref 199, .int 0, .ref 200, .ref 201, .ref 202, .ref 203, .ref 204, .ref 205, .ref 206, .ref 207, .ref 208, .ref 209, .ref 210, .ref 211, .ref 212, .ref 213, .ref 214, .ref 215, .ref 216, .ref 217, .ref 218, .ref 219, .ref 220, .ref 221, .ref 222, .ref 223, .ref 224, .ref 225, .ref 226, .ref 227, .ref 228, .int 0, .long 0, .ref 229, .ref 230, .ref 231, .ref 232, .long 0, .int 0, .ref 233, .int 0, .int 0, .int 0, .long 0, .int 0, .int 0, .int 0, .ref 234, .ref 235, .ref 236, .ref 237, .ref 238, .ref 239, .ref 240, .int 0, .int 0, .ref 241, .ref 242, .ref 243, .ref 244, .ref 245, .int (-1), .ref 246, .ref 247, .ref 248, .int 0, .int 0, .ref 249, .int 0, .int 0, .int 0, .ref 250, .ref 251, .ref 252, .int 0, .int 0, .int 0, .int 0, .ref 253, .ref 254, .ref 255, .ref 256, .ref 257, .ref 258, .ref 259, .int 0, .ref 260, .int 0, .int 0, .int 0, .int 0, .int 0, .int 0, .int 0, .int 0, .int 0, .int 0, .int 0, .int 0, .ref 261, .ref 262, .ref 263, .ref 264, .ref 265])) := rz_obj hL (by decide +kernel)
  have hS : L[rx_S]? = none := p1_none hL
  refine rq_loc i_0_899 rfl rfl ?_
  refine rq_loc i_0_900 rfl rfl ?_
  refine rq_loc i_0_901 rfl rfl ?_
  refine rq_pure i_0_903 rfl ?_
  refine rq_topi (v := 1) (by decide) ?_
  refine rq_pure i_0_904 rfl ?_
  refine rq_topi (v := 1) (by decide) ?_
  refine rq_sald1 (x := xs 1) i_0_905 hS rfl (by decide) rfl ?_
  refine rq_loc i_0_906 rfl rfl ?_
  refine rq_loc i_0_907 rfl rfl ?_
  refine rq_pure i_0_909 rfl ?_
  refine rq_topi (v := 2) (by decide) ?_
  refine rq_pure i_0_910 rfl ?_
  refine rq_topi (v := 2) (by decide) ?_
  refine rq_sald1 (x := xs 2) i_0_911 hS rfl (by decide) rfl ?_
  refine rq_loc i_0_912 rfl rfl ?_
  refine rq_loc i_0_913 rfl rfl ?_
  refine rq_pure i_0_915 rfl ?_
  refine rq_topi (v := 3) (by decide) ?_
  refine rq_pure i_0_916 rfl ?_
  refine rq_topi (v := 3) (by decide) ?_
  refine rq_sald1 (x := xs 3) i_0_917 hS rfl (by decide) rfl ?_
  refine rq_V1 (c1 := 0) (s1 := 0) (cb := 100) (sb := 1000) (F' := 2047) (Lo' := 83977) i_0_918 c_0_120 rfl (rz_isa c0 a_14_77) rfl rfl rfl ?_
  refine rq_loc i_77_0 rfl rfl ?_
  refine rq_getf i_77_1 f_77_62 c0 rfl ?_
  refine rq_getf i_77_4 f_77_299 c150 rfl ?_
  refine rq_iflt (tg := 22) i_77_7 ⟨by decide, by decide⟩ (fun _ => ?_) (fun q => absurd q (by decide))
  refine rq_pure i_77_22 rfl ?_
  refine rq_topi (v := (-1)) (by decide) ?_
  refine rq_iret i_77_23 r_77 rfl ?_
  refine rq_back1 ?_
  refine rq_loc i_0_921 rfl rfl ?_
  refine rq_loc i_0_922 rfl rfl ?_
  refine rq_loc i_0_923 rfl rfl ?_
  refine rq_pure i_0_925 rfl ?_
  refine rq_topi (v := 1) (by decide) ?_
  refine rq_pure i_0_926 rfl ?_
  refine rq_topi (v := 1) (by decide) ?_
  refine rq_sald1 (x := xs 1) i_0_927 hS rfl (by decide) rfl ?_
  refine rq_loc i_0_928 rfl rfl ?_
  refine rq_loc i_0_929 rfl rfl ?_
  refine rq_pure i_0_931 rfl ?_
  refine rq_topi (v := 2) (by decide) ?_
  refine rq_pure i_0_932 rfl ?_
  refine rq_topi (v := 2) (by decide) ?_
  refine rq_sald1 (x := xs 2) i_0_933 hS rfl (by decide) rfl ?_
  refine rq_loc i_0_934 rfl rfl ?_
  refine rq_loc i_0_935 rfl rfl ?_
  refine rq_pure i_0_937 rfl ?_
  refine rq_topi (v := 3) (by decide) ?_
  refine rq_pure i_0_938 rfl ?_
  refine rq_topi (v := 3) (by decide) ?_
  refine rq_sald1 (x := xs 3) i_0_939 hS rfl (by decide) rfl ?_
  refine rq_V1 (c1 := 0) (s1 := 0) (cb := 100) (sb := 1000) (F' := 2047) (Lo' := 83975) i_0_940 c_0_123 rfl (rz_isa c174 a_15_128) rfl rfl rfl ?_
  refine rq_loc i_128_0 rfl rfl ?_
  refine rq_pure i_128_1 rfl ?_
  refine rq_topi (v := 0) (by decide) ?_
  refine rq_putf1 i_128_2 p_128_356 c174 rfl rfl rfl (fun L1 u1 => ?_)
  refine rq_loc i_128_5 rfl rfl ?_
  refine rq_getf i_128_6 f_128_292 u1.1 rfl ?_
  refine rq_iflt (tg := 24) i_128_9 ⟨by decide, by decide⟩ (fun _ => ?_) (fun q => absurd q (by decide))
  refine rq_pure i_128_24 rfl ?_
  refine rq_topi (v := (-1)) (by decide) ?_
  refine rq_iret i_128_25 r_128 rfl ?_
  refine rq_back1 ?_
  refine rq_iceq (tg := 1334) i_0_943 ⟨by decide, by decide⟩ (fun _ => ?_) (fun q => absurd q (by decide))
  have g1 := (u1.2 rx_S (by decide)).trans hS
  exact p1_tail g1 rfl rfl
set_option maxRecDepth 8000 in
theorem p1c_find {xs : Nat → Int32} {fm : Value} {L : List va_E} (hL : rz_heap L rz_T0 = true) : rq (rt_P (6, xs) fm) 0 2048 84000 100 1000 948 p1_lv [] L p1_Q := by
  have c0 : L[0]? = some (.inr (14, [.ref 1, .ref 7, .ref 114, .ref 133, .ref 145, .ref 146, .ref 150, .ref 159, .ref 167, .ref 172])) := rz_obj hL (by decide +kernel)
  have c174 : L[174]? = some (.inr (15, [.int 0, .ref 175, .int 0, .ref 176, .int 0, .int 0, .ref 177, .int 0, .ref 178, .ref 179, .ref 180, .int 0, .int 0, .int 0, .int 0, .int 0, .ref 181, .ref 182, .ref 183, .ref 184, .ref 185, .ref 186, .ref 187, .ref 188, .int 0, .ref 189, .ref 190, .ref 191, .ref 192, .ref 193, .ref 194, .ref 195, .ref 196, .ref 197, .int 0, .ref 198, .ref 199, .int 0, .ref 200, .ref 201, .ref 202, .ref 203, .ref 204, .ref 205, .ref 206, .ref 207, .ref 208, .ref 209, .ref 210, .ref 211, .ref 212, .ref 213, .ref 214, .ref 215, .ref 216, .ref 217, .ref 218, .ref 219, .ref 220, .ref 221, .ref 222, .ref 223, .ref 224, .ref 225, .ref 226, .ref 227, .ref 228, .int 0, .long 0, .ref 229, .ref 230, .ref 231, .ref 232, .long 0, .int 0, .ref 233, .int 0, .int 0, .int 0, .long 0, .int 0, .int 0, .int 0, .ref 234, .ref 235, .ref 236, .ref 237, .ref 238, .ref 239, .ref 240, .int 0, .int 0, .ref 241, .ref 242, .ref 243, .ref 244, .ref 245, .int (-1), .ref 246, .ref 247, .ref 248, .int 0, .int 0, .ref 249, .int 0, .int 0, .int 0, .ref 250, .ref 251, .ref 252, .int 0, .int 0, .int 0, .int 0, .ref 253, .ref 254, .ref 255, .ref 256, .ref 257, .ref 258, .ref 259, .int 0, .ref 260, .int 0, .int 0, .int 0, .int 0, .int 0, .int 0, .int 0, .int 0, .int 0, .int 0, .int 0, .int 0, .ref 261, .ref 262, .ref 263, .ref 264, .ref 265])) := rz_obj hL (by decide +kernel)
  have c7 : L[7]? = some (.inr (9, [.int 0, .ref 8, .int 0, .ref 9, .int 0, .ref 10, .ref 11, .int 0, .ref 12, .ref 13, .int 0, .ref 14, .ref 15, .ref 16, .ref 17])) := rz_obj hL (by decide +kernel)
  have hS : L[rx_S]? = none := p1_none hL
  refine rq_loc i_0_948 rfl rfl ?_
  refine rq_loc i_0_949 rfl rfl ?_
  refine rq_loc i_0_950 rfl rfl ?_
  refine rq_pure i_0_952 rfl ?_
  refine rq_topi (v := 1) (by decide) ?_
  refine rq_pure i_0_953 rfl ?_
  refine rq_topi (v := 1) (by decide) ?_
  refine rq_sald1 (x := xs 1) i_0_954 hS rfl (by decide) rfl ?_
  refine rq_V1 (c1 := 0) (s1 := 0) (cb := 100) (sb := 1000) (F' := 2047) (Lo' := 83978) i_0_955 c_0_124 rfl (rz_isa c0 a_14_78) rfl rfl rfl ?_
  refine rq_loc i_78_0 rfl rfl ?_
  refine rq_getf i_78_1 f_78_19 c0 rfl ?_
  refine rq_loc i_78_4 rfl rfl ?_
  refine rq_V1 (c1 := 0) (s1 := 0) (cb := 0) (sb := 0) (F' := 2046) (Lo' := 83957) i_78_5 c_78_170 rfl (rz_isa c7 a_9_37) rfl rfl rfl ?_
  refine rq_loc i_37_0 rfl rfl ?_
  refine rq_getf i_37_1 f_37_51 c7 rfl ?_
  refine rq_ifeq (tg := 23) i_37_4 ⟨by decide, by decide⟩ (fun _ => ?_) (fun q => absurd q (by decide))
  refine rq_pure i_37_23 rfl ?_
  refine rq_topi (v := 0) (by decide) ?_
  refine rq_iret i_37_24 r_37 rfl ?_
  refine rq_back1 ?_
  refine rq_ifne (tg := 13) i_78_8 ⟨by decide, by decide⟩ (fun q => absurd q (by decide)) (fun _ => ?_)
  refine rq_pure i_78_11 rfl ?_
  refine rq_topi (v := (-1)) (by decide) ?_
  refine rq_iret i_78_12 r_78 rfl ?_
  refine rq_back1 ?_
  refine rq_loc i_0_958 rfl rfl ?_
  refine rq_loc i_0_959 rfl rfl ?_
  refine rq_loc i_0_960 rfl rfl ?_
  refine rq_pure i_0_962 rfl ?_
  refine rq_topi (v := 1) (by decide) ?_
  refine rq_pure i_0_963 rfl ?_
  refine rq_topi (v := 1) (by decide) ?_
  refine rq_sald1 (x := xs 1) i_0_964 hS rfl (by decide) rfl ?_
  refine rq_V1 (c1 := 0) (s1 := 0) (cb := 100) (sb := 1000) (F' := 2047) (Lo' := 83972) i_0_965 c_0_127 rfl (rz_isa c174 a_15_131) rfl rfl rfl ?_
  refine rq_loc i_131_0 rfl rfl ?_
  refine rq_pure i_131_1 rfl ?_
  refine rq_topi (v := 0) (by decide) ?_
  refine rq_putf1 i_131_2 p_131_356 c174 rfl rfl rfl (fun L1 u1 => ?_)
  refine rq_loc i_131_5 rfl rfl ?_
  refine rq_loc i_131_6 rfl rfl ?_
  refine rq_V1 (c1 := 0) (s1 := 0) (cb := 0) (sb := 0) (F' := 2046) (Lo' := 83951) i_131_7 c_131_724 rfl (rz_isa u1.1 a_15_119) rfl rfl rfl ?_
  refine rq_loc i_119_0 rfl rfl ?_
  refine rq_getf i_119_1 f_119_634 u1.1 rfl ?_
  refine rq_ifeq (tg := 23) i_119_4 ⟨by decide, by decide⟩ (fun _ => ?_) (fun q => absurd q (by decide))
  refine rq_pure i_119_23 rfl ?_
  refine rq_topi (v := 0) (by decide) ?_
  refine rq_iret i_119_24 r_119 rfl ?_
  refine rq_back1 ?_
  refine rq_ifne (tg := 15) i_131_10 ⟨by decide, by decide⟩ (fun q => absurd q (by decide)) (fun _ => ?_)
  refine rq_pure i_131_13 rfl ?_
  refine rq_topi (v := (-1)) (by decide) ?_
  refine rq_iret i_131_14 r_131 rfl ?_
  refine rq_back1 ?_
  refine rq_iceq (tg := 1334) i_0_968 ⟨by decide, by decide⟩ (fun _ => ?_) (fun q => absurd q (by decide))
  have g1 := (u1.2 rx_S (by decide)).trans hS
  exact p1_tail g1 rfl rfl
set_option maxRecDepth 8000 in
theorem p1c_plain {xs : Nat → Int32} {fm : Value} {L : List va_E} (hL : rz_heap L rz_T0 = true) : rq (rt_P (6, xs) fm) 0 2048 84000 100 1000 973 p1_lv [] L p1_Q := by
  have c0 : L[0]? = some (.inr (14, [.ref 1, .ref 7, .ref 114, .ref 133, .ref 145, .ref 146, .ref 150, .ref 159, .ref 167, .ref 172])) := rz_obj hL (by decide +kernel)
  have c174 : L[174]? = some (.inr (15, [.int 0, .ref 175, .int 0, .ref 176, .int 0, .int 0, .ref 177, .int 0, .ref 178, .ref 179, .ref 180, .int 0, .int 0, .int 0, .int 0, .int 0, .ref 181, .ref 182, .ref 183, .ref 184, .ref 185, .ref 186, .ref 187, .ref 188, .int 0, .ref 189, .ref 190, .ref 191, .ref 192, .ref 193, .ref 194, .ref 195, .ref 196, .ref 197, .int 0, .ref 198, .ref 199, .int 0, .ref 200, .ref 201, .ref 202, .ref 203, .ref 204, .ref 205, .ref 206, .ref 207, .ref 208, .ref 209, .ref 210, .ref 211, .ref 212, .ref 213, .ref 214, .ref 215, .ref 216, .ref 217, .ref 218, .ref 219, .ref 220, .ref 221, .ref 222, .ref 223, .ref 224, .ref 225, .ref 226, .ref 227, .ref 228, .int 0, .long 0, .ref 229, .ref 230, .ref 231, .ref 232, .long 0, .int 0, .ref 233, .int 0, .int 0, .int 0, .long 0, .int 0, .int 0, .int 0, .ref 234, .ref 235, .ref 236, .ref 237, .ref 238, .ref 239, .ref 240, .int 0, .int 0, .ref 241, .ref 242, .ref 243, .ref 244, .ref 245, .int (-1), .ref 246, .ref 247, .ref 248, .int 0, .int 0, .ref 249, .int 0, .int 0, .int 0, .ref 250, .ref 251, .ref 252, .int 0, .int 0, .int 0, .int 0, .ref 253, .ref 254, .ref 255, .ref 256, .ref 257, .ref 258, .ref 259, .int 0, .ref 260, .int 0, .int 0, .int 0, .int 0, .int 0, .int 0, .int 0, .int 0, .int 0, .int 0, .int 0, .int 0, .ref 261, .ref 262, .ref 263, .ref 264, .ref 265])) := rz_obj hL (by decide +kernel)
  have c7 : L[7]? = some (.inr (9, [.int 0, .ref 8, .int 0, .ref 9, .int 0, .ref 10, .ref 11, .int 0, .ref 12, .ref 13, .int 0, .ref 14, .ref 15, .ref 16, .ref 17])) := rz_obj hL (by decide +kernel)
  have hS : L[rx_S]? = none := p1_none hL
  refine rq_loc i_0_973 rfl rfl ?_
  refine rq_loc i_0_974 rfl rfl ?_
  refine rq_loc i_0_975 rfl rfl ?_
  refine rq_pure i_0_977 rfl ?_
  refine rq_topi (v := 1) (by decide) ?_
  refine rq_pure i_0_978 rfl ?_
  refine rq_topi (v := 1) (by decide) ?_
  refine rq_sald1 (x := xs 1) i_0_979 hS rfl (by decide) rfl ?_
  refine rq_V1 (c1 := 0) (s1 := 0) (cb := 100) (sb := 1000) (F' := 2047) (Lo' := 83979) i_0_980 c_0_128 rfl (rz_isa c0 a_14_79) rfl rfl rfl ?_
  refine rq_loc i_79_0 rfl rfl ?_
  refine rq_getf i_79_1 f_79_19 c0 rfl ?_
  refine rq_loc i_79_4 rfl rfl ?_
  refine rq_V1 (c1 := 0) (s1 := 0) (cb := 0) (sb := 0) (F' := 2046) (Lo' := 83958) i_79_5 c_79_170 rfl (rz_isa c7 a_9_37) rfl rfl rfl ?_
  refine rq_loc i_37_0 rfl rfl ?_
  refine rq_getf i_37_1 f_37_51 c7 rfl ?_
  refine rq_ifeq (tg := 23) i_37_4 ⟨by decide, by decide⟩ (fun _ => ?_) (fun q => absurd q (by decide))
  refine rq_pure i_37_23 rfl ?_
  refine rq_topi (v := 0) (by decide) ?_
  refine rq_iret i_37_24 r_37 rfl ?_
  refine rq_back1 ?_
  refine rq_ifne (tg := 13) i_79_8 ⟨by decide, by decide⟩ (fun q => absurd q (by decide)) (fun _ => ?_)
  refine rq_pure i_79_11 rfl ?_
  refine rq_topi (v := 0) (by decide) ?_
  refine rq_iret i_79_12 r_79 rfl ?_
  refine rq_back1 ?_
  refine rq_loc i_0_983 rfl rfl ?_
  refine rq_loc i_0_984 rfl rfl ?_
  refine rq_loc i_0_985 rfl rfl ?_
  refine rq_pure i_0_987 rfl ?_
  refine rq_topi (v := 1) (by decide) ?_
  refine rq_pure i_0_988 rfl ?_
  refine rq_topi (v := 1) (by decide) ?_
  refine rq_sald1 (x := xs 1) i_0_989 hS rfl (by decide) rfl ?_
  refine rq_V1 (c1 := 0) (s1 := 0) (cb := 100) (sb := 1000) (F' := 2047) (Lo' := 83978) i_0_990 c_0_132 rfl (rz_isa c174 a_15_132) rfl rfl rfl ?_
  refine rq_loc i_132_0 rfl rfl ?_
  refine rq_pure i_132_1 rfl ?_
  refine rq_topi (v := 0) (by decide) ?_
  refine rq_putf1 i_132_2 p_132_356 c174 rfl rfl rfl (fun L1 u1 => ?_)
  refine rq_loc i_132_5 rfl rfl ?_
  refine rq_loc i_132_6 rfl rfl ?_
  refine rq_V1 (c1 := 0) (s1 := 0) (cb := 0) (sb := 0) (F' := 2046) (Lo' := 83957) i_132_7 c_132_724 rfl (rz_isa u1.1 a_15_119) rfl rfl rfl ?_
  refine rq_loc i_119_0 rfl rfl ?_
  refine rq_getf i_119_1 f_119_634 u1.1 rfl ?_
  refine rq_ifeq (tg := 23) i_119_4 ⟨by decide, by decide⟩ (fun _ => ?_) (fun q => absurd q (by decide))
  refine rq_pure i_119_23 rfl ?_
  refine rq_topi (v := 0) (by decide) ?_
  refine rq_iret i_119_24 r_119 rfl ?_
  refine rq_back1 ?_
  refine rq_ifne (tg := 15) i_132_10 ⟨by decide, by decide⟩ (fun q => absurd q (by decide)) (fun _ => ?_)
  refine rq_pure i_132_13 rfl ?_
  refine rq_topi (v := 0) (by decide) ?_
  refine rq_iret i_132_14 r_132 rfl ?_
  refine rq_back1 ?_
  refine rq_iceq (tg := 1334) i_0_993 ⟨by decide, by decide⟩ (fun _ => ?_) (fun q => absurd q (by decide))
  have g1 := (u1.2 rx_S (by decide)).trans hS
  exact p1_tail g1 rfl rfl
set_option maxRecDepth 8000 in
theorem p1c_weave {xs : Nat → Int32} {fm : Value} {L : List va_E} (hL : rz_heap L rz_T0 = true) : rq (rt_P (6, xs) fm) 0 2048 84000 100 1000 998 p1_lv [] L p1_Q := by
  have c0 : L[0]? = some (.inr (14, [.ref 1, .ref 7, .ref 114, .ref 133, .ref 145, .ref 146, .ref 150, .ref 159, .ref 167, .ref 172])) := rz_obj hL (by decide +kernel)
  have c174 : L[174]? = some (.inr (15, [.int 0, .ref 175, .int 0, .ref 176, .int 0, .int 0, .ref 177, .int 0, .ref 178, .ref 179, .ref 180, .int 0, .int 0, .int 0, .int 0, .int 0, .ref 181, .ref 182, .ref 183, .ref 184, .ref 185, .ref 186, .ref 187, .ref 188, .int 0, .ref 189, .ref 190, .ref 191, .ref 192, .ref 193, .ref 194, .ref 195, .ref 196, .ref 197, .int 0, .ref 198, .ref 199, .int 0, .ref 200, .ref 201, .ref 202, .ref 203, .ref 204, .ref 205, .ref 206, .ref 207, .ref 208, .ref 209, .ref 210, .ref 211, .ref 212, .ref 213, .ref 214, .ref 215, .ref 216, .ref 217, .ref 218, .ref 219, .ref 220, .ref 221, .ref 222, .ref 223, .ref 224, .ref 225, .ref 226, .ref 227, .ref 228, .int 0, .long 0, .ref 229, .ref 230, .ref 231, .ref 232, .long 0, .int 0, .ref 233, .int 0, .int 0, .int 0, .long 0, .int 0, .int 0, .int 0, .ref 234, .ref 235, .ref 236, .ref 237, .ref 238, .ref 239, .ref 240, .int 0, .int 0, .ref 241, .ref 242, .ref 243, .ref 244, .ref 245, .int (-1), .ref 246, .ref 247, .ref 248, .int 0, .int 0, .ref 249, .int 0, .int 0, .int 0, .ref 250, .ref 251, .ref 252, .int 0, .int 0, .int 0, .int 0, .ref 253, .ref 254, .ref 255, .ref 256, .ref 257, .ref 258, .ref 259, .int 0, .ref 260, .int 0, .int 0, .int 0, .int 0, .int 0, .int 0, .int 0, .int 0, .int 0, .int 0, .int 0, .int 0, .ref 261, .ref 262, .ref 263, .ref 264, .ref 265])) := rz_obj hL (by decide +kernel)
  have c7 : L[7]? = some (.inr (9, [.int 0, .ref 8, .int 0, .ref 9, .int 0, .ref 10, .ref 11, .int 0, .ref 12, .ref 13, .int 0, .ref 14, .ref 15, .ref 16, .ref 17])) := rz_obj hL (by decide +kernel)
  have hS : L[rx_S]? = none := p1_none hL
  refine rq_loc i_0_998 rfl rfl ?_
  refine rq_V1 (c1 := 0) (s1 := 0) (cb := 100) (sb := 1000) (F' := 2047) (Lo' := 83977) i_0_999 c_0_133 rfl (rz_isa c0 a_14_80) rfl rfl rfl ?_
  refine rq_loc i_80_0 rfl rfl ?_
  refine rq_getf i_80_1 f_80_19 c0 rfl ?_
  refine rq_getf i_80_4 f_80_126 c7 rfl ?_
  refine rq_ifne (tg := 12) i_80_7 ⟨by decide, by decide⟩ (fun q => absurd q (by decide)) (fun _ => ?_)
  refine rq_pure i_80_10 rfl ?_
  refine rq_topi (v := (-1)) (by decide) ?_
  refine rq_iret i_80_11 r_80 rfl ?_
  refine rq_back1 ?_
  refine rq_loc i_0_1002 rfl rfl ?_
  refine rq_V1 (c1 := 0) (s1 := 0) (cb := 100) (sb := 1000) (F' := 2047) (Lo' := 83977) i_0_1003 c_0_136 rfl (rz_isa c174 a_15_134) rfl rfl rfl ?_
  refine rq_loc i_134_0 rfl rfl ?_
  refine rq_pure i_134_1 rfl ?_
  refine rq_topi (v := 0) (by decide) ?_
  refine rq_putf1 i_134_2 p_134_356 c174 rfl rfl rfl (fun L1 u1 => ?_)
  refine rq_loc i_134_5 rfl rfl ?_
  refine rq_getf i_134_6 f_134_634 u1.1 rfl ?_
  refine rq_ifne (tg := 14) i_134_9 ⟨by decide, by decide⟩ (fun q => absurd q (by decide)) (fun _ => ?_)
  refine rq_pure i_134_12 rfl ?_
  refine rq_topi (v := (-1)) (by decide) ?_
  refine rq_iret i_134_13 r_134 rfl ?_
  refine rq_back1 ?_
  refine rq_iceq (tg := 1334) i_0_1006 ⟨by decide, by decide⟩ (fun _ => ?_) (fun q => absurd q (by decide))
  have g1 := (u1.2 rx_S (by decide)).trans hS
  exact p1_tail g1 rfl rfl
set_option maxRecDepth 8000 in
theorem p1c_code {xs : Nat → Int32} {fm : Value} {L : List va_E} (hL : rz_heap L rz_T0 = true) : rq (rt_P (6, xs) fm) 0 2048 84000 100 1000 1011 p1_lv [] L p1_Q := by
  have c0 : L[0]? = some (.inr (14, [.ref 1, .ref 7, .ref 114, .ref 133, .ref 145, .ref 146, .ref 150, .ref 159, .ref 167, .ref 172])) := rz_obj hL (by decide +kernel)
  have c114 : L[114]? = some (.inr (2, [.ref 7, .ref 115, .ref 116, .ref 117, .ref 118, .ref 119, .ref 120, .int 0, .ref 121, .ref 122, .ref 123, .ref 124, .ref 125, .ref 126, .ref 127, .ref 128, .ref 129, .ref 130, .ref 131, .ref 132])) := rz_obj hL (by decide +kernel)
  have c174 : L[174]? = some (.inr (15, [.int 0, .ref 175, .int 0, .ref 176, .int 0, .int 0, .ref 177, .int 0, .ref 178, .ref 179, .ref 180, .int 0, .int 0, .int 0, .int 0, .int 0, .ref 181, .ref 182, .ref 183, .ref 184, .ref 185, .ref 186, .ref 187, .ref 188, .int 0, .ref 189, .ref 190, .ref 191, .ref 192, .ref 193, .ref 194, .ref 195, .ref 196, .ref 197, .int 0, .ref 198, .ref 199, .int 0, .ref 200, .ref 201, .ref 202, .ref 203, .ref 204, .ref 205, .ref 206, .ref 207, .ref 208, .ref 209, .ref 210, .ref 211, .ref 212, .ref 213, .ref 214, .ref 215, .ref 216, .ref 217, .ref 218, .ref 219, .ref 220, .ref 221, .ref 222, .ref 223, .ref 224, .ref 225, .ref 226, .ref 227, .ref 228, .int 0, .long 0, .ref 229, .ref 230, .ref 231, .ref 232, .long 0, .int 0, .ref 233, .int 0, .int 0, .int 0, .long 0, .int 0, .int 0, .int 0, .ref 234, .ref 235, .ref 236, .ref 237, .ref 238, .ref 239, .ref 240, .int 0, .int 0, .ref 241, .ref 242, .ref 243, .ref 244, .ref 245, .int (-1), .ref 246, .ref 247, .ref 248, .int 0, .int 0, .ref 249, .int 0, .int 0, .int 0, .ref 250, .ref 251, .ref 252, .int 0, .int 0, .int 0, .int 0, .ref 253, .ref 254, .ref 255, .ref 256, .ref 257, .ref 258, .ref 259, .int 0, .ref 260, .int 0, .int 0, .int 0, .int 0, .int 0, .int 0, .int 0, .int 0, .int 0, .int 0, .int 0, .int 0, .ref 261, .ref 262, .ref 263, .ref 264, .ref 265])) := rz_obj hL (by decide +kernel)
  have c7 : L[7]? = some (.inr (9, [.int 0, .ref 8, .int 0, .ref 9, .int 0, .ref 10, .ref 11, .int 0, .ref 12, .ref 13, .int 0, .ref 14, .ref 15, .ref 16, .ref 17])) := rz_obj hL (by decide +kernel)
  have hS : L[rx_S]? = none := p1_none hL
  refine rq_loc i_0_1011 rfl rfl ?_
  refine rq_loc i_0_1012 rfl rfl ?_
  refine rq_loc i_0_1013 rfl rfl ?_
  refine rq_pure i_0_1015 rfl ?_
  refine rq_topi (v := 1) (by decide) ?_
  refine rq_pure i_0_1016 rfl ?_
  refine rq_topi (v := 1) (by decide) ?_
  refine rq_sald1 (x := xs 1) i_0_1017 hS rfl (by decide) rfl ?_
  refine rq_loc i_0_1018 rfl rfl ?_
  refine rq_loc i_0_1019 rfl rfl ?_
  refine rq_pure i_0_1021 rfl ?_
  refine rq_topi (v := 2) (by decide) ?_
  refine rq_pure i_0_1022 rfl ?_
  refine rq_topi (v := 2) (by decide) ?_
  refine rq_sald1 (x := xs 2) i_0_1023 hS rfl (by decide) rfl ?_
  refine rq_ifeq (tg := 1031) i_0_1024 ⟨by decide, by decide⟩ (fun h1 => ?_) (fun h1 => ?_)
  ·
    refine rq_pure i_0_1031 rfl ?_
    refine rq_topi (v := 0) (by decide) ?_
    refine rq_V1 (c1 := 0) (s1 := 0) (cb := 100) (sb := 1000) (F' := 2047) (Lo' := 83978) i_0_1032 c_0_137 rfl (rz_isa c0 a_14_81) rfl rfl rfl ?_
    refine rq_loc i_81_0 rfl rfl ?_
    refine rq_getf i_81_1 f_81_28 c0 rfl ?_
    refine rq_loc i_81_4 rfl rfl ?_
    refine rq_V1 (c1 := 0) (s1 := 0) (cb := 0) (sb := 0) (F' := 2046) (Lo' := 83955) i_81_5 c_81_146 rfl (rz_isa c114 a_2_21) rfl rfl rfl ?_
    refine rq_loc i_21_0 rfl rfl ?_
    refine rq_pure i_21_1 rfl ?_
    refine rq_topi (v := 100) (by decide) ?_
    refine rq_pure i_21_3 rfl ?_
    refine rq_loc i_21_4 rfl rfl ?_
    refine rq_loc i_21_5 rfl rfl ?_
    refine rq_pure i_21_6 rfl ?_
    refine rq_topi (v := 100) (by decide) ?_
    refine rq_pure i_21_8 rfl ?_
    refine rq_loc i_21_9 rfl rfl ?_
    refine rq_loc i_21_10 rfl rfl ?_
    refine rq_getf i_21_11 f_21_67 c114 rfl ?_
    refine rq_getf i_21_14 f_21_81 c7 rfl ?_
    refine rq_ifeq (tg := 35) i_21_17 ⟨by decide, by decide⟩ (fun _ => ?_) (fun q => absurd q (by decide))
    refine rq_pure i_21_35 rfl ?_
    refine rq_topi (v := (-1)) (by decide) ?_
    refine rq_iret i_21_36 r_21 rfl ?_
    refine rq_back1 ?_
    refine rq_pure i_81_8 rfl ?_
    refine rq_topi (v := 2) (by decide) ?_
    refine rq_icne (tg := 31) i_81_9 ⟨by decide, by decide⟩ (fun _ => ?_) (fun q => absurd q (by decide))
    refine rq_pure i_81_31 rfl ?_
    refine rq_topi (v := (-1)) (by decide) ?_
    refine rq_iret i_81_32 r_81 rfl ?_
    refine rq_back1 ?_
    refine rq_loc i_0_1035 rfl rfl ?_
    refine rq_loc i_0_1036 rfl rfl ?_
    refine rq_loc i_0_1037 rfl rfl ?_
    refine rq_pure i_0_1039 rfl ?_
    refine rq_topi (v := 1) (by decide) ?_
    refine rq_pure i_0_1040 rfl ?_
    refine rq_topi (v := 1) (by decide) ?_
    refine rq_sald1 (x := xs 1) i_0_1041 hS rfl (by decide) rfl ?_
    refine rq_loc i_0_1042 rfl rfl ?_
    refine rq_loc i_0_1043 rfl rfl ?_
    refine rq_pure i_0_1045 rfl ?_
    refine rq_topi (v := 2) (by decide) ?_
    refine rq_pure i_0_1046 rfl ?_
    refine rq_topi (v := 2) (by decide) ?_
    refine rq_sald1 (x := xs 2) i_0_1047 hS rfl (by decide) rfl ?_
    refine rq_ifeq (tg := 1055) i_0_1048 ⟨by decide, by decide⟩ (fun _ => ?_) (fun q => absurd q (by intro q; simp only [Int32.lt_iff_toInt_lt, Int32.le_iff_toInt_le, Int32.not_lt, Int32.not_le, ← Int32.toInt_inj] at q h1; have e0 : (0 : Int32).toInt = 0 := (by decide); first | omega | (simp at q h1; omega)))
    refine rq_pure i_0_1055 rfl ?_
    refine rq_topi (v := 0) (by decide) ?_
    refine rq_V1 (c1 := 0) (s1 := 0) (cb := 100) (sb := 1000) (F' := 2047) (Lo' := 83973) i_0_1056 c_0_141 rfl (rz_isa c174 a_15_135) rfl rfl rfl ?_
    refine rq_loc i_135_0 rfl rfl ?_
    refine rq_pure i_135_1 rfl ?_
    refine rq_topi (v := 0) (by decide) ?_
    refine rq_putf1 i_135_2 p_135_356 c174 rfl rfl rfl (fun L1 u1 => ?_)
    refine rq_loc i_135_5 rfl rfl ?_
    refine rq_loc i_135_6 rfl rfl ?_
    refine rq_V1 (c1 := 0) (s1 := 0) (cb := 0) (sb := 0) (F' := 2046) (Lo' := 83952) i_135_7 c_135_721 rfl (rz_isa u1.1 a_15_111) rfl rfl rfl ?_
    refine rq_loc i_111_0 rfl rfl ?_
    refine rq_loc i_111_1 rfl rfl ?_
    refine rq_V1 (c1 := 0) (s1 := 0) (cb := 0) (sb := 0) (F' := 2045) (Lo' := 83928) i_111_2 c_111_652 rfl (rz_isa u1.1 a_15_109) rfl rfl rfl ?_
    refine rq_loc i_109_0 rfl rfl ?_
    refine rq_getf i_109_1 f_109_634 u1.1 rfl ?_
    refine rq_ifeq (tg := 22) i_109_4 ⟨by decide, by decide⟩ (fun _ => ?_) (fun q => absurd q (by decide))
    refine rq_pure i_109_22 rfl ?_
    refine rq_topi (v := 0) (by decide) ?_
    refine rq_iret i_109_23 r_109 rfl ?_
    refine rq_back1 ?_
    refine rq_ifeq (tg := 20) i_111_5 ⟨by decide, by decide⟩ (fun _ => ?_) (fun q => absurd q (by decide))
    refine rq_pure i_111_20 rfl ?_
    refine rq_topi (v := 0) (by decide) ?_
    refine rq_iret i_111_21 r_111 rfl ?_
    refine rq_back1 ?_
    refine rq_ifne (tg := 15) i_135_10 ⟨by decide, by decide⟩ (fun q => absurd q (by decide)) (fun _ => ?_)
    refine rq_pure i_135_13 rfl ?_
    refine rq_topi (v := (-1)) (by decide) ?_
    refine rq_iret i_135_14 r_135 rfl ?_
    refine rq_back1 ?_
    refine rq_iceq (tg := 1334) i_0_1059 ⟨by decide, by decide⟩ (fun _ => ?_) (fun q => absurd q (by decide))
    have g4 := (u1.2 rx_S (by decide)).trans hS
    exact p1_tail g4 rfl rfl
  ·
    refine rq_pure i_0_1027 rfl ?_
    refine rq_topi (v := 1) (by decide) ?_
    refine rq_goto (tg := 1032) i_0_1028 ⟨by decide, by decide⟩ ?_
    refine rq_V1 (c1 := 0) (s1 := 0) (cb := 100) (sb := 1000) (F' := 2047) (Lo' := 83978) i_0_1032 c_0_137 rfl (rz_isa c0 a_14_81) rfl rfl rfl ?_
    refine rq_loc i_81_0 rfl rfl ?_
    refine rq_getf i_81_1 f_81_28 c0 rfl ?_
    refine rq_loc i_81_4 rfl rfl ?_
    refine rq_V1 (c1 := 0) (s1 := 0) (cb := 0) (sb := 0) (F' := 2046) (Lo' := 83955) i_81_5 c_81_146 rfl (rz_isa c114 a_2_21) rfl rfl rfl ?_
    refine rq_loc i_21_0 rfl rfl ?_
    refine rq_pure i_21_1 rfl ?_
    refine rq_topi (v := 100) (by decide) ?_
    refine rq_pure i_21_3 rfl ?_
    refine rq_loc i_21_4 rfl rfl ?_
    refine rq_loc i_21_5 rfl rfl ?_
    refine rq_pure i_21_6 rfl ?_
    refine rq_topi (v := 100) (by decide) ?_
    refine rq_pure i_21_8 rfl ?_
    refine rq_loc i_21_9 rfl rfl ?_
    refine rq_loc i_21_10 rfl rfl ?_
    refine rq_getf i_21_11 f_21_67 c114 rfl ?_
    refine rq_getf i_21_14 f_21_81 c7 rfl ?_
    refine rq_ifeq (tg := 35) i_21_17 ⟨by decide, by decide⟩ (fun _ => ?_) (fun q => absurd q (by decide))
    refine rq_pure i_21_35 rfl ?_
    refine rq_topi (v := (-1)) (by decide) ?_
    refine rq_iret i_21_36 r_21 rfl ?_
    refine rq_back1 ?_
    refine rq_pure i_81_8 rfl ?_
    refine rq_topi (v := 2) (by decide) ?_
    refine rq_icne (tg := 31) i_81_9 ⟨by decide, by decide⟩ (fun _ => ?_) (fun q => absurd q (by decide))
    refine rq_pure i_81_31 rfl ?_
    refine rq_topi (v := (-1)) (by decide) ?_
    refine rq_iret i_81_32 r_81 rfl ?_
    refine rq_back1 ?_
    refine rq_loc i_0_1035 rfl rfl ?_
    refine rq_loc i_0_1036 rfl rfl ?_
    refine rq_loc i_0_1037 rfl rfl ?_
    refine rq_pure i_0_1039 rfl ?_
    refine rq_topi (v := 1) (by decide) ?_
    refine rq_pure i_0_1040 rfl ?_
    refine rq_topi (v := 1) (by decide) ?_
    refine rq_sald1 (x := xs 1) i_0_1041 hS rfl (by decide) rfl ?_
    refine rq_loc i_0_1042 rfl rfl ?_
    refine rq_loc i_0_1043 rfl rfl ?_
    refine rq_pure i_0_1045 rfl ?_
    refine rq_topi (v := 2) (by decide) ?_
    refine rq_pure i_0_1046 rfl ?_
    refine rq_topi (v := 2) (by decide) ?_
    refine rq_sald1 (x := xs 2) i_0_1047 hS rfl (by decide) rfl ?_
    refine rq_ifeq (tg := 1055) i_0_1048 ⟨by decide, by decide⟩ (fun q => absurd q (by intro q; simp only [Int32.lt_iff_toInt_lt, Int32.le_iff_toInt_le, Int32.not_lt, Int32.not_le, ← Int32.toInt_inj] at q h1; have e0 : (0 : Int32).toInt = 0 := (by decide); first | omega | (simp at q h1; omega))) (fun _ => ?_)
    refine rq_pure i_0_1051 rfl ?_
    refine rq_topi (v := 1) (by decide) ?_
    refine rq_goto (tg := 1056) i_0_1052 ⟨by decide, by decide⟩ ?_
    refine rq_V1 (c1 := 0) (s1 := 0) (cb := 100) (sb := 1000) (F' := 2047) (Lo' := 83973) i_0_1056 c_0_141 rfl (rz_isa c174 a_15_135) rfl rfl rfl ?_
    refine rq_loc i_135_0 rfl rfl ?_
    refine rq_pure i_135_1 rfl ?_
    refine rq_topi (v := 0) (by decide) ?_
    refine rq_putf1 i_135_2 p_135_356 c174 rfl rfl rfl (fun L1 u1 => ?_)
    refine rq_loc i_135_5 rfl rfl ?_
    refine rq_loc i_135_6 rfl rfl ?_
    refine rq_V1 (c1 := 0) (s1 := 0) (cb := 0) (sb := 0) (F' := 2046) (Lo' := 83952) i_135_7 c_135_721 rfl (rz_isa u1.1 a_15_111) rfl rfl rfl ?_
    refine rq_loc i_111_0 rfl rfl ?_
    refine rq_loc i_111_1 rfl rfl ?_
    refine rq_V1 (c1 := 0) (s1 := 0) (cb := 0) (sb := 0) (F' := 2045) (Lo' := 83928) i_111_2 c_111_652 rfl (rz_isa u1.1 a_15_109) rfl rfl rfl ?_
    refine rq_loc i_109_0 rfl rfl ?_
    refine rq_getf i_109_1 f_109_634 u1.1 rfl ?_
    refine rq_ifeq (tg := 22) i_109_4 ⟨by decide, by decide⟩ (fun _ => ?_) (fun q => absurd q (by decide))
    refine rq_pure i_109_22 rfl ?_
    refine rq_topi (v := 0) (by decide) ?_
    refine rq_iret i_109_23 r_109 rfl ?_
    refine rq_back1 ?_
    refine rq_ifeq (tg := 20) i_111_5 ⟨by decide, by decide⟩ (fun _ => ?_) (fun q => absurd q (by decide))
    refine rq_pure i_111_20 rfl ?_
    refine rq_topi (v := 0) (by decide) ?_
    refine rq_iret i_111_21 r_111 rfl ?_
    refine rq_back1 ?_
    refine rq_ifne (tg := 15) i_135_10 ⟨by decide, by decide⟩ (fun q => absurd q (by decide)) (fun _ => ?_)
    refine rq_pure i_135_13 rfl ?_
    refine rq_topi (v := (-1)) (by decide) ?_
    refine rq_iret i_135_14 r_135 rfl ?_
    refine rq_back1 ?_
    refine rq_iceq (tg := 1334) i_0_1059 ⟨by decide, by decide⟩ (fun _ => ?_) (fun q => absurd q (by decide))
    have g7 := (u1.2 rx_S (by decide)).trans hS
    exact p1_tail g7 rfl rfl
set_option maxRecDepth 8000 in
theorem p1c_argument {xs : Nat → Int32} {fm : Value} {L : List va_E} (hL : rz_heap L rz_T0 = true) : rq (rt_P (6, xs) fm) 0 2048 84000 100 1000 1064 p1_lv [] L p1_Q := by
  have c0 : L[0]? = some (.inr (14, [.ref 1, .ref 7, .ref 114, .ref 133, .ref 145, .ref 146, .ref 150, .ref 159, .ref 167, .ref 172])) := rz_obj hL (by decide +kernel)
  have c159 : L[159]? = some (.inr (11, [.ref 7, .ref 114, .ref 146, .ref 160, .ref 161, .int 0, .ref 162, .ref 163, .ref 164, .ref 165, .int 0, .ref 166, .int 0, .long 0, .long 0])) := rz_obj hL (by decide +kernel)
  obtain ⟨f160, c160⟩ := rz_arrI (a := 160) (t := 0) (n := 4) hL (by decide +kernel) (by decide)
  have c174 : L[174]? = some (.inr (15, [.int 0, .ref 175, .int 0, .ref 176, .int 0, .int 0, .ref 177, .int 0, .ref 178, .ref 179, .ref 180, .int 0, .int 0, .int 0, .int 0, .int 0, .ref 181, .ref 182, .ref 183, .ref 184, .ref 185, .ref 186, .ref 187, .ref 188, .int 0, .ref 189, .ref 190, .ref 191, .ref 192, .ref 193, .ref 194, .ref 195, .ref 196, .ref 197, .int 0, .ref 198, .ref 199, .int 0, .ref 200, .ref 201, .ref 202, .ref 203, .ref 204, .ref 205, .ref 206, .ref 207, .ref 208, .ref 209, .ref 210, .ref 211, .ref 212, .ref 213, .ref 214, .ref 215, .ref 216, .ref 217, .ref 218, .ref 219, .ref 220, .ref 221, .ref 222, .ref 223, .ref 224, .ref 225, .ref 226, .ref 227, .ref 228, .int 0, .long 0, .ref 229, .ref 230, .ref 231, .ref 232, .long 0, .int 0, .ref 233, .int 0, .int 0, .int 0, .long 0, .int 0, .int 0, .int 0, .ref 234, .ref 235, .ref 236, .ref 237, .ref 238, .ref 239, .ref 240, .int 0, .int 0, .ref 241, .ref 242, .ref 243, .ref 244, .ref 245, .int (-1), .ref 246, .ref 247, .ref 248, .int 0, .int 0, .ref 249, .int 0, .int 0, .int 0, .ref 250, .ref 251, .ref 252, .int 0, .int 0, .int 0, .int 0, .ref 253, .ref 254, .ref 255, .ref 256, .ref 257, .ref 258, .ref 259, .int 0, .ref 260, .int 0, .int 0, .int 0, .int 0, .int 0, .int 0, .int 0, .int 0, .int 0, .int 0, .int 0, .int 0, .ref 261, .ref 262, .ref 263, .ref 264, .ref 265])) := rz_obj hL (by decide +kernel)
  obtain ⟨f251, c251⟩ := rz_arrI (a := 251) (t := 0) (n := 4) hL (by decide +kernel) (by decide)
  have hS : L[rx_S]? = none := p1_none hL
  refine rq_loc i_0_1064 rfl rfl ?_
  refine rq_loc i_0_1065 rfl rfl ?_
  refine rq_loc i_0_1066 rfl rfl ?_
  refine rq_pure i_0_1068 rfl ?_
  refine rq_topi (v := 1) (by decide) ?_
  refine rq_pure i_0_1069 rfl ?_
  refine rq_topi (v := 1) (by decide) ?_
  refine rq_sald1 (x := xs 1) i_0_1070 hS rfl (by decide) rfl ?_
  refine rq_loc i_0_1071 rfl rfl ?_
  refine rq_loc i_0_1072 rfl rfl ?_
  refine rq_pure i_0_1074 rfl ?_
  refine rq_topi (v := 2) (by decide) ?_
  refine rq_pure i_0_1075 rfl ?_
  refine rq_topi (v := 2) (by decide) ?_
  refine rq_sald1 (x := xs 2) i_0_1076 hS rfl (by decide) rfl ?_
  refine rq_V1 (c1 := 0) (s1 := 0) (cb := 100) (sb := 1000) (F' := 2047) (Lo' := 83978) i_0_1077 c_0_142 rfl (rz_isa c0 a_14_82) rfl rfl rfl ?_
  refine rq_loc i_82_0 rfl rfl ?_
  refine rq_iflt (tg := 9) i_82_1 ⟨by decide, by decide⟩ (fun h1 => ?_) (fun h1 => ?_)
  ·
    refine rq_pure i_82_9 rfl ?_
    refine rq_topi (v := 0) (by decide) ?_
    refine rq_iret i_82_10 r_82 rfl ?_
    refine rq_back1 ?_
    refine rq_loc i_0_1080 rfl rfl ?_
    refine rq_loc i_0_1081 rfl rfl ?_
    refine rq_loc i_0_1082 rfl rfl ?_
    refine rq_pure i_0_1084 rfl ?_
    refine rq_topi (v := 1) (by decide) ?_
    refine rq_pure i_0_1085 rfl ?_
    refine rq_topi (v := 1) (by decide) ?_
    refine rq_sald1 (x := xs 1) i_0_1086 hS rfl (by decide) rfl ?_
    refine rq_loc i_0_1087 rfl rfl ?_
    refine rq_loc i_0_1088 rfl rfl ?_
    refine rq_pure i_0_1090 rfl ?_
    refine rq_topi (v := 2) (by decide) ?_
    refine rq_pure i_0_1091 rfl ?_
    refine rq_topi (v := 2) (by decide) ?_
    refine rq_sald1 (x := xs 2) i_0_1092 hS rfl (by decide) rfl ?_
    refine rq_V1 (c1 := 0) (s1 := 0) (cb := 100) (sb := 1000) (F' := 2047) (Lo' := 83978) i_0_1093 c_0_146 rfl (rz_isa c174 a_15_136) rfl rfl rfl ?_
    refine rq_loc i_136_0 rfl rfl ?_
    refine rq_pure i_136_1 rfl ?_
    refine rq_topi (v := 0) (by decide) ?_
    refine rq_putf1 i_136_2 p_136_356 c174 rfl rfl rfl (fun L1 u1 => ?_)
    refine rq_loc i_136_5 rfl rfl ?_
    refine rq_iflt (tg := 14) i_136_6 ⟨by decide, by decide⟩ (fun _ => ?_) (fun q => absurd q (by intro q; simp only [Int32.lt_iff_toInt_lt, Int32.le_iff_toInt_le, Int32.not_lt, Int32.not_le, ← Int32.toInt_inj] at q h1; have e0 : (0 : Int32).toInt = 0 := (by decide); first | omega | (simp at q h1; omega)))
    refine rq_pure i_136_14 rfl ?_
    refine rq_topi (v := 0) (by decide) ?_
    refine rq_iret i_136_15 r_136 rfl ?_
    refine rq_back1 ?_
    refine rq_iceq (tg := 1334) i_0_1096 ⟨by decide, by decide⟩ (fun _ => ?_) (fun q => absurd q (by decide))
    have g2 := (u1.2 rx_S (by decide)).trans hS
    exact p1_tail g2 rfl rfl
  ·
    refine rq_loc i_82_4 rfl rfl ?_
    refine rq_pure i_82_5 rfl ?_
    refine rq_topi (v := 4) (by decide) ?_
    refine rq_iclt (tg := 11) i_82_6 ⟨by decide, by decide⟩ (fun h3 => ?_) (fun h3 => ?_)
    ·
      refine rq_loc i_82_11 rfl rfl ?_
      refine rq_getf i_82_12 f_82_69 c0 rfl ?_
      refine rq_getf i_82_15 f_82_332 c159 rfl ?_
      refine rq_loc i_82_18 rfl rfl ?_
      refine rq_loc i_82_19 rfl rfl ?_
      refine rq_iast1 i_82_20 c160 (rz_in (m := 4) h1 h3 (by decide)) (fun L1 u1 => ?_)
      refine rq_pure i_82_21 rfl ?_
      refine rq_topi (v := 1) (by decide) ?_
      refine rq_iret i_82_22 r_82 rfl ?_
      refine rq_back1 ?_
      refine rq_loc i_0_1080 rfl rfl ?_
      refine rq_loc i_0_1081 rfl rfl ?_
      refine rq_loc i_0_1082 rfl rfl ?_
      refine rq_pure i_0_1084 rfl ?_
      refine rq_topi (v := 1) (by decide) ?_
      refine rq_pure i_0_1085 rfl ?_
      refine rq_topi (v := 1) (by decide) ?_
      have g4 := (u1.2 rx_S (by decide)).trans hS
      refine rq_sald1 (x := xs 1) i_0_1086 g4 rfl (by decide) rfl ?_
      refine rq_loc i_0_1087 rfl rfl ?_
      refine rq_loc i_0_1088 rfl rfl ?_
      refine rq_pure i_0_1090 rfl ?_
      refine rq_topi (v := 2) (by decide) ?_
      refine rq_pure i_0_1091 rfl ?_
      refine rq_topi (v := 2) (by decide) ?_
      refine rq_sald1 (x := xs 2) i_0_1092 g4 rfl (by decide) rfl ?_
      have g5 := (u1.2 174 (by decide)).trans c174
      refine rq_V1 (c1 := 0) (s1 := 0) (cb := 100) (sb := 1000) (F' := 2047) (Lo' := 83978) i_0_1093 c_0_146 rfl (rz_isa g5 a_15_136) rfl rfl rfl ?_
      refine rq_loc i_136_0 rfl rfl ?_
      refine rq_pure i_136_1 rfl ?_
      refine rq_topi (v := 0) (by decide) ?_
      refine rq_putf1 i_136_2 p_136_356 g5 rfl rfl rfl (fun L2 u2 => ?_)
      refine rq_loc i_136_5 rfl rfl ?_
      refine rq_iflt (tg := 14) i_136_6 ⟨by decide, by decide⟩ (fun q => absurd q (by intro q; simp only [Int32.lt_iff_toInt_lt, Int32.le_iff_toInt_le, Int32.not_lt, Int32.not_le, ← Int32.toInt_inj] at q h1 h3; have e0 : (0 : Int32).toInt = 0 := (by decide); first | omega | (simp at q h1 h3; omega))) (fun _ => ?_)
      refine rq_loc i_136_9 rfl rfl ?_
      refine rq_pure i_136_10 rfl ?_
      refine rq_topi (v := 3) (by decide) ?_
      refine rq_icle (tg := 16) i_136_11 ⟨by decide, by decide⟩ (fun _ => ?_) (fun q => absurd q (by intro q; simp only [Int32.lt_iff_toInt_lt, Int32.le_iff_toInt_le, Int32.not_lt, Int32.not_le, ← Int32.toInt_inj] at q h1 h3; have e0 : (0 : Int32).toInt = 0 := (by decide); first | omega | (simp at q h1 h3; omega)))
      refine rq_loc i_136_16 rfl rfl ?_
      refine rq_getf i_136_17 f_136_311 u2.1 rfl ?_
      refine rq_loc i_136_20 rfl rfl ?_
      refine rq_loc i_136_21 rfl rfl ?_
      have g6 := (u1.2 251 (by decide)).trans c251
      have g7 := (u2.2 251 (by decide)).trans g6
      refine rq_iast1 i_136_22 g7 (rz_in (m := 4) h1 h3 (by decide)) (fun L3 u3 => ?_)
      refine rq_pure i_136_23 rfl ?_
      refine rq_topi (v := 1) (by decide) ?_
      refine rq_iret i_136_24 r_136 rfl ?_
      refine rq_back1 ?_
      refine rq_iceq (tg := 1334) i_0_1096 ⟨by decide, by decide⟩ (fun _ => ?_) (fun q => absurd q (by decide))
      have g8 := (u2.2 rx_S (by decide)).trans g4
      have g9 := (u3.2 rx_S (by decide)).trans g8
      exact p1_tail g9 rfl rfl
    ·
      refine rq_pure i_82_9 rfl ?_
      refine rq_topi (v := 0) (by decide) ?_
      refine rq_iret i_82_10 r_82 rfl ?_
      refine rq_back1 ?_
      refine rq_loc i_0_1080 rfl rfl ?_
      refine rq_loc i_0_1081 rfl rfl ?_
      refine rq_loc i_0_1082 rfl rfl ?_
      refine rq_pure i_0_1084 rfl ?_
      refine rq_topi (v := 1) (by decide) ?_
      refine rq_pure i_0_1085 rfl ?_
      refine rq_topi (v := 1) (by decide) ?_
      refine rq_sald1 (x := xs 1) i_0_1086 hS rfl (by decide) rfl ?_
      refine rq_loc i_0_1087 rfl rfl ?_
      refine rq_loc i_0_1088 rfl rfl ?_
      refine rq_pure i_0_1090 rfl ?_
      refine rq_topi (v := 2) (by decide) ?_
      refine rq_pure i_0_1091 rfl ?_
      refine rq_topi (v := 2) (by decide) ?_
      refine rq_sald1 (x := xs 2) i_0_1092 hS rfl (by decide) rfl ?_
      refine rq_V1 (c1 := 0) (s1 := 0) (cb := 100) (sb := 1000) (F' := 2047) (Lo' := 83978) i_0_1093 c_0_146 rfl (rz_isa c174 a_15_136) rfl rfl rfl ?_
      refine rq_loc i_136_0 rfl rfl ?_
      refine rq_pure i_136_1 rfl ?_
      refine rq_topi (v := 0) (by decide) ?_
      refine rq_putf1 i_136_2 p_136_356 c174 rfl rfl rfl (fun L1 u1 => ?_)
      refine rq_loc i_136_5 rfl rfl ?_
      refine rq_iflt (tg := 14) i_136_6 ⟨by decide, by decide⟩ (fun q => absurd q (by intro q; simp only [Int32.lt_iff_toInt_lt, Int32.le_iff_toInt_le, Int32.not_lt, Int32.not_le, ← Int32.toInt_inj] at q h1 h3; have e0 : (0 : Int32).toInt = 0 := (by decide); first | omega | (simp at q h1 h3; omega))) (fun _ => ?_)
      refine rq_loc i_136_9 rfl rfl ?_
      refine rq_pure i_136_10 rfl ?_
      refine rq_topi (v := 3) (by decide) ?_
      refine rq_icle (tg := 16) i_136_11 ⟨by decide, by decide⟩ (fun q => absurd q (by intro q; simp only [Int32.lt_iff_toInt_lt, Int32.le_iff_toInt_le, Int32.not_lt, Int32.not_le, ← Int32.toInt_inj] at q h1 h3; have e0 : (0 : Int32).toInt = 0 := (by decide); first | omega | (simp at q h1 h3; omega))) (fun _ => ?_)
      refine rq_pure i_136_14 rfl ?_
      refine rq_topi (v := 0) (by decide) ?_
      refine rq_iret i_136_15 r_136 rfl ?_
      refine rq_back1 ?_
      refine rq_iceq (tg := 1334) i_0_1096 ⟨by decide, by decide⟩ (fun _ => ?_) (fun q => absurd q (by decide))
      have g10 := (u1.2 rx_S (by decide)).trans hS
      exact p1_tail g10 rfl rfl
set_option maxRecDepth 8000 in
theorem p1c_input {xs : Nat → Int32} {fm : Value} {L : List va_E} (hL : rz_heap L rz_T0 = true) : rq (rt_P (6, xs) fm) 0 2048 84000 100 1000 1101 p1_lv [] L p1_Q := by
  have c0 : L[0]? = some (.inr (14, [.ref 1, .ref 7, .ref 114, .ref 133, .ref 145, .ref 146, .ref 150, .ref 159, .ref 167, .ref 172])) := rz_obj hL (by decide +kernel)
  have c159 : L[159]? = some (.inr (11, [.ref 7, .ref 114, .ref 146, .ref 160, .ref 161, .int 0, .ref 162, .ref 163, .ref 164, .ref 165, .int 0, .ref 166, .int 0, .long 0, .long 0])) := rz_obj hL (by decide +kernel)
  obtain ⟨f161, c161⟩ := rz_arrI (a := 161) (t := 0) (n := 64) hL (by decide +kernel) (by decide)
  have c174 : L[174]? = some (.inr (15, [.int 0, .ref 175, .int 0, .ref 176, .int 0, .int 0, .ref 177, .int 0, .ref 178, .ref 179, .ref 180, .int 0, .int 0, .int 0, .int 0, .int 0, .ref 181, .ref 182, .ref 183, .ref 184, .ref 185, .ref 186, .ref 187, .ref 188, .int 0, .ref 189, .ref 190, .ref 191, .ref 192, .ref 193, .ref 194, .ref 195, .ref 196, .ref 197, .int 0, .ref 198, .ref 199, .int 0, .ref 200, .ref 201, .ref 202, .ref 203, .ref 204, .ref 205, .ref 206, .ref 207, .ref 208, .ref 209, .ref 210, .ref 211, .ref 212, .ref 213, .ref 214, .ref 215, .ref 216, .ref 217, .ref 218, .ref 219, .ref 220, .ref 221, .ref 222, .ref 223, .ref 224, .ref 225, .ref 226, .ref 227, .ref 228, .int 0, .long 0, .ref 229, .ref 230, .ref 231, .ref 232, .long 0, .int 0, .ref 233, .int 0, .int 0, .int 0, .long 0, .int 0, .int 0, .int 0, .ref 234, .ref 235, .ref 236, .ref 237, .ref 238, .ref 239, .ref 240, .int 0, .int 0, .ref 241, .ref 242, .ref 243, .ref 244, .ref 245, .int (-1), .ref 246, .ref 247, .ref 248, .int 0, .int 0, .ref 249, .int 0, .int 0, .int 0, .ref 250, .ref 251, .ref 252, .int 0, .int 0, .int 0, .int 0, .ref 253, .ref 254, .ref 255, .ref 256, .ref 257, .ref 258, .ref 259, .int 0, .ref 260, .int 0, .int 0, .int 0, .int 0, .int 0, .int 0, .int 0, .int 0, .int 0, .int 0, .int 0, .int 0, .ref 261, .ref 262, .ref 263, .ref 264, .ref 265])) := rz_obj hL (by decide +kernel)
  obtain ⟨f252, c252⟩ := rz_arrI (a := 252) (t := 0) (n := 64) hL (by decide +kernel) (by decide)
  have hS : L[rx_S]? = none := p1_none hL
  refine rq_loc i_0_1101 rfl rfl ?_
  refine rq_loc i_0_1102 rfl rfl ?_
  refine rq_loc i_0_1103 rfl rfl ?_
  refine rq_pure i_0_1105 rfl ?_
  refine rq_topi (v := 1) (by decide) ?_
  refine rq_pure i_0_1106 rfl ?_
  refine rq_topi (v := 1) (by decide) ?_
  refine rq_sald1 (x := xs 1) i_0_1107 hS rfl (by decide) rfl ?_
  refine rq_V1 (c1 := 0) (s1 := 0) (cb := 100) (sb := 1000) (F' := 2047) (Lo' := 83979) i_0_1108 c_0_147 rfl (rz_isa c0 a_14_83) rfl rfl rfl ?_
  refine rq_loc i_83_0 rfl rfl ?_
  refine rq_getf i_83_1 f_83_69 c0 rfl ?_
  refine rq_loc i_83_4 rfl rfl ?_
  refine rq_V1 (c1 := 0) (s1 := 0) (cb := 0) (sb := 0) (F' := 2046) (Lo' := 83958) i_83_5 c_83_335 rfl (rz_isa c159 a_11_47) rfl rfl rfl ?_
  refine rq_loc i_47_0 rfl rfl ?_
  refine rq_getf i_47_1 f_47_46 c159 rfl ?_
  refine rq_pure i_47_4 rfl ?_
  refine rq_topi (v := 64) (by decide) ?_
  refine rq_iclt (tg := 11) i_47_6 ⟨by decide, by decide⟩ (fun _ => ?_) (fun q => absurd q (by decide))
  refine rq_loc i_47_11 rfl rfl ?_
  refine rq_getf i_47_12 f_47_15 c159 rfl ?_
  refine rq_loc i_47_15 rfl rfl ?_
  refine rq_pure i_47_16 rfl ?_
  refine rq_getf i_47_17 f_47_46 c159 rfl ?_
  refine rq_pure i_47_20 rfl ?_
  refine rq_pure i_47_21 rfl ?_
  refine rq_topi (v := 1) (by decide) ?_
  refine rq_pure i_47_22 rfl ?_
  refine rq_topi (v := 1) (by decide) ?_
  refine rq_putf1 i_47_23 p_47_46 c159 rfl rfl rfl (fun L1 u1 => ?_)
  refine rq_loc i_47_26 rfl rfl ?_
  have g1 := (u1.2 161 (by decide)).trans c161
  refine rq_iast1 i_47_27 g1 (by decide) (fun L2 u2 => ?_)
  refine rq_loc i_47_28 rfl rfl ?_
  have g2 := (u2.2 159 (by decide)).trans u1.1
  refine rq_getf i_47_29 f_47_46 g2 rfl ?_
  refine rq_iret i_47_32 r_47 rfl ?_
  refine rq_back1 ?_
  refine rq_iret i_83_8 r_83 rfl ?_
  refine rq_back1 ?_
  refine rq_loc i_0_1111 rfl rfl ?_
  refine rq_loc i_0_1112 rfl rfl ?_
  refine rq_loc i_0_1113 rfl rfl ?_
  refine rq_pure i_0_1115 rfl ?_
  refine rq_topi (v := 1) (by decide) ?_
  refine rq_pure i_0_1116 rfl ?_
  refine rq_topi (v := 1) (by decide) ?_
  have g3 := (u1.2 rx_S (by decide)).trans hS
  have g4 := (u2.2 rx_S (by decide)).trans g3
  refine rq_sald1 (x := xs 1) i_0_1117 g4 rfl (by decide) rfl ?_
  have g5 := (u1.2 174 (by decide)).trans c174
  have g6 := (u2.2 174 (by decide)).trans g5
  refine rq_V1 (c1 := 0) (s1 := 0) (cb := 100) (sb := 1000) (F' := 2047) (Lo' := 83979) i_0_1118 c_0_150 rfl (rz_isa g6 a_15_137) rfl rfl rfl ?_
  refine rq_loc i_137_0 rfl rfl ?_
  refine rq_pure i_137_1 rfl ?_
  refine rq_topi (v := 0) (by decide) ?_
  refine rq_putf1 i_137_2 p_137_356 g6 rfl rfl rfl (fun L3 u3 => ?_)
  refine rq_loc i_137_5 rfl rfl ?_
  refine rq_getf i_137_6 f_137_910 u3.1 rfl ?_
  refine rq_pure i_137_9 rfl ?_
  refine rq_topi (v := 64) (by decide) ?_
  refine rq_icne (tg := 16) i_137_11 ⟨by decide, by decide⟩ (fun _ => ?_) (fun q => absurd q (by decide))
  refine rq_loc i_137_16 rfl rfl ?_
  refine rq_getf i_137_17 f_137_314 u3.1 rfl ?_
  refine rq_loc i_137_20 rfl rfl ?_
  refine rq_getf i_137_21 f_137_910 u3.1 rfl ?_
  refine rq_loc i_137_24 rfl rfl ?_
  have g7 := (u1.2 252 (by decide)).trans c252
  have g8 := (u2.2 252 (by decide)).trans g7
  have g9 := (u3.2 252 (by decide)).trans g8
  refine rq_iast1 i_137_25 g9 (by decide) (fun L4 u4 => ?_)
  refine rq_loc i_137_26 rfl rfl ?_
  refine rq_pure i_137_27 rfl ?_
  have g10 := (u4.2 174 (by decide)).trans u3.1
  refine rq_getf i_137_28 f_137_910 g10 rfl ?_
  refine rq_pure i_137_31 rfl ?_
  refine rq_topi (v := 1) (by decide) ?_
  refine rq_pure i_137_32 rfl ?_
  refine rq_topi (v := 1) (by decide) ?_
  refine rq_putf1 i_137_33 p_137_910 g10 rfl rfl rfl (fun L5 u5 => ?_)
  refine rq_loc i_137_36 rfl rfl ?_
  refine rq_getf i_137_37 f_137_910 u5.1 rfl ?_
  refine rq_iret i_137_40 r_137 rfl ?_
  refine rq_back1 ?_
  refine rq_iceq (tg := 1334) i_0_1121 ⟨by decide, by decide⟩ (fun _ => ?_) (fun q => absurd q (by decide))
  have g11 := (u3.2 rx_S (by decide)).trans g4
  have g12 := (u4.2 rx_S (by decide)).trans g11
  have g13 := (u5.2 rx_S (by decide)).trans g12
  exact p1_tail g13 rfl rfl
set_option maxRecDepth 8000 in
theorem p1c_begin {xs : Nat → Int32} {fm : Value} {L : List va_E} (hL : rz_heap L rz_T0 = true) : rq (rt_P (6, xs) fm) 0 2048 84000 100 1000 1126 p1_lv [] L p1_Q := by
  have c0 : L[0]? = some (.inr (14, [.ref 1, .ref 7, .ref 114, .ref 133, .ref 145, .ref 146, .ref 150, .ref 159, .ref 167, .ref 172])) := rz_obj hL (by decide +kernel)
  have c174 : L[174]? = some (.inr (15, [.int 0, .ref 175, .int 0, .ref 176, .int 0, .int 0, .ref 177, .int 0, .ref 178, .ref 179, .ref 180, .int 0, .int 0, .int 0, .int 0, .int 0, .ref 181, .ref 182, .ref 183, .ref 184, .ref 185, .ref 186, .ref 187, .ref 188, .int 0, .ref 189, .ref 190, .ref 191, .ref 192, .ref 193, .ref 194, .ref 195, .ref 196, .ref 197, .int 0, .ref 198, .ref 199, .int 0, .ref 200, .ref 201, .ref 202, .ref 203, .ref 204, .ref 205, .ref 206, .ref 207, .ref 208, .ref 209, .ref 210, .ref 211, .ref 212, .ref 213, .ref 214, .ref 215, .ref 216, .ref 217, .ref 218, .ref 219, .ref 220, .ref 221, .ref 222, .ref 223, .ref 224, .ref 225, .ref 226, .ref 227, .ref 228, .int 0, .long 0, .ref 229, .ref 230, .ref 231, .ref 232, .long 0, .int 0, .ref 233, .int 0, .int 0, .int 0, .long 0, .int 0, .int 0, .int 0, .ref 234, .ref 235, .ref 236, .ref 237, .ref 238, .ref 239, .ref 240, .int 0, .int 0, .ref 241, .ref 242, .ref 243, .ref 244, .ref 245, .int (-1), .ref 246, .ref 247, .ref 248, .int 0, .int 0, .ref 249, .int 0, .int 0, .int 0, .ref 250, .ref 251, .ref 252, .int 0, .int 0, .int 0, .int 0, .ref 253, .ref 254, .ref 255, .ref 256, .ref 257, .ref 258, .ref 259, .int 0, .ref 260, .int 0, .int 0, .int 0, .int 0, .int 0, .int 0, .int 0, .int 0, .int 0, .int 0, .int 0, .int 0, .ref 261, .ref 262, .ref 263, .ref 264, .ref 265])) := rz_obj hL (by decide +kernel)
  have c7 : L[7]? = some (.inr (9, [.int 0, .ref 8, .int 0, .ref 9, .int 0, .ref 10, .ref 11, .int 0, .ref 12, .ref 13, .int 0, .ref 14, .ref 15, .ref 16, .ref 17])) := rz_obj hL (by decide +kernel)
  have hS : L[rx_S]? = none := p1_none hL
  refine rq_loc i_0_1126 rfl rfl ?_
  refine rq_loc i_0_1127 rfl rfl ?_
  refine rq_loc i_0_1128 rfl rfl ?_
  refine rq_pure i_0_1130 rfl ?_
  refine rq_topi (v := 1) (by decide) ?_
  refine rq_pure i_0_1131 rfl ?_
  refine rq_topi (v := 1) (by decide) ?_
  refine rq_sald1 (x := xs 1) i_0_1132 hS rfl (by decide) rfl ?_
  refine rq_loc i_0_1133 rfl rfl ?_
  refine rq_loc i_0_1134 rfl rfl ?_
  refine rq_pure i_0_1136 rfl ?_
  refine rq_topi (v := 2) (by decide) ?_
  refine rq_pure i_0_1137 rfl ?_
  refine rq_topi (v := 2) (by decide) ?_
  refine rq_sald1 (x := xs 2) i_0_1138 hS rfl (by decide) rfl ?_
  refine rq_ifeq (tg := 1146) i_0_1139 ⟨by decide, by decide⟩ (fun h1 => ?_) (fun h1 => ?_)
  ·
    refine rq_pure i_0_1146 rfl ?_
    refine rq_topi (v := 0) (by decide) ?_
    refine rq_S1 (c1 := 1) (s1 := 6) (cb := 99) (sb := 994) (F' := 2047) (Lo' := 83977) i_0_1147 c_0_151 (by decide) rfl rfl rfl rfl ?_
    refine rq_loc i_17_0 rfl rfl ?_
    refine rq_loc i_17_1 rfl rfl ?_
    refine rq_loc i_17_2 rfl rfl ?_
    refine rq_V1 (c1 := 1) (s1 := 6) (cb := 0) (sb := 0) (F' := 2046) (Lo' := 83955) i_17_3 c_17_15 rfl (rz_isa c0 a_14_84) rfl rfl rfl ?_
    refine rq_loc i_84_0 rfl rfl ?_
    refine rq_getf i_84_1 f_84_19 c0 rfl ?_
    refine rq_getf i_84_4 f_84_126 c7 rfl ?_
    refine rq_ifne (tg := 21) i_84_7 ⟨by decide, by decide⟩ (fun q => absurd q (by decide)) (fun _ => ?_)
    refine rq_throw x_84_10 (by decide) (by decide) (by decide) (by decide) ?_
    refine rq_catch1 (pc2 := 10) h_17_3_31 rfl ?_
    refine rq_pure i_17_10 rfl ?_
    refine rq_topi (v := 1) (by decide) ?_
    refine rq_iret i_17_11 r_17 rfl ?_
    refine rq_back1 ?_
    refine rq_loc i_0_1150 rfl rfl ?_
    refine rq_loc i_0_1152 rfl rfl ?_
    refine rq_loc i_0_1153 rfl rfl ?_
    refine rq_loc i_0_1154 rfl rfl ?_
    refine rq_pure i_0_1156 rfl ?_
    refine rq_topi (v := 1) (by decide) ?_
    refine rq_pure i_0_1157 rfl ?_
    refine rq_topi (v := 1) (by decide) ?_
    refine rq_sald1 (x := xs 1) i_0_1158 hS rfl (by decide) rfl ?_
    refine rq_loc i_0_1159 rfl rfl ?_
    refine rq_loc i_0_1160 rfl rfl ?_
    refine rq_pure i_0_1162 rfl ?_
    refine rq_topi (v := 2) (by decide) ?_
    refine rq_pure i_0_1163 rfl ?_
    refine rq_topi (v := 2) (by decide) ?_
    refine rq_sald1 (x := xs 2) i_0_1164 hS rfl (by decide) rfl ?_
    refine rq_ifeq (tg := 1172) i_0_1165 ⟨by decide, by decide⟩ (fun _ => ?_) (fun q => absurd q (by intro q; simp only [Int32.lt_iff_toInt_lt, Int32.le_iff_toInt_le, Int32.not_lt, Int32.not_le, ← Int32.toInt_inj] at q h1; have e0 : (0 : Int32).toInt = 0 := (by decide); first | omega | (simp at q h1; omega)))
    refine rq_pure i_0_1172 rfl ?_
    refine rq_topi (v := 0) (by decide) ?_
    refine rq_V1 (c1 := 0) (s1 := 0) (cb := 99) (sb := 994) (F' := 2047) (Lo' := 83976) i_0_1173 c_0_154 rfl (rz_isa c174 a_15_139) rfl rfl rfl ?_
    refine rq_loc i_139_0 rfl rfl ?_
    refine rq_loc i_139_1 rfl rfl ?_
    refine rq_getf i_139_2 f_139_634 c174 rfl ?_
    refine rq_ifne (tg := 12) i_139_5 ⟨by decide, by decide⟩ (fun q => absurd q (by decide)) (fun _ => ?_)
    refine rq_pure i_139_8 rfl ?_
    refine rq_topi (v := 1) (by decide) ?_
    refine rq_goto (tg := 25) i_139_9 ⟨by decide, by decide⟩ ?_
    refine rq_putf1 i_139_25 p_139_356 c174 rfl rfl rfl (fun L1 u1 => ?_)
    refine rq_loc i_139_28 rfl rfl ?_
    refine rq_getf i_139_29 f_139_356 u1.1 rfl ?_
    refine rq_ifle (tg := 36) i_139_32 ⟨by decide, by decide⟩ (fun q => absurd q (by decide)) (fun _ => ?_)
    refine rq_vret i_139_35 r_139 ?_
    refine rq_back0 ?_
    refine rq_loc i_0_1176 rfl rfl ?_
    refine rq_V1 (c1 := 0) (s1 := 0) (cb := 99) (sb := 994) (F' := 2047) (Lo' := 83980) i_0_1177 c_0_50 rfl (rz_isa u1.1 a_15_92) rfl rfl rfl ?_
    refine rq_loc i_92_0 rfl rfl ?_
    refine rq_getf i_92_1 f_92_356 u1.1 rfl ?_
    refine rq_iret i_92_4 r_92 rfl ?_
    refine rq_back1 ?_
    refine rq_loc i_0_1180 rfl rfl ?_
    refine rq_iceq (tg := 1187) i_0_1182 ⟨by decide, by decide⟩ (fun _ => ?_) (fun q => absurd q (by decide))
    refine rq_goto (tg := 1334) i_0_1187 ⟨by decide, by decide⟩ ?_
    have g2 := (u1.2 rx_S (by decide)).trans hS
    exact p1_tail g2 rfl rfl
  ·
    refine rq_pure i_0_1142 rfl ?_
    refine rq_topi (v := 1) (by decide) ?_
    refine rq_goto (tg := 1147) i_0_1143 ⟨by decide, by decide⟩ ?_
    refine rq_S1 (c1 := 1) (s1 := 6) (cb := 99) (sb := 994) (F' := 2047) (Lo' := 83977) i_0_1147 c_0_151 (by decide) rfl rfl rfl rfl ?_
    refine rq_loc i_17_0 rfl rfl ?_
    refine rq_loc i_17_1 rfl rfl ?_
    refine rq_loc i_17_2 rfl rfl ?_
    refine rq_V1 (c1 := 1) (s1 := 6) (cb := 0) (sb := 0) (F' := 2046) (Lo' := 83955) i_17_3 c_17_15 rfl (rz_isa c0 a_14_84) rfl rfl rfl ?_
    refine rq_loc i_84_0 rfl rfl ?_
    refine rq_getf i_84_1 f_84_19 c0 rfl ?_
    refine rq_getf i_84_4 f_84_126 c7 rfl ?_
    refine rq_ifne (tg := 21) i_84_7 ⟨by decide, by decide⟩ (fun q => absurd q (by decide)) (fun _ => ?_)
    refine rq_throw x_84_10 (by decide) (by decide) (by decide) (by decide) ?_
    refine rq_catch1 (pc2 := 10) h_17_3_31 rfl ?_
    refine rq_pure i_17_10 rfl ?_
    refine rq_topi (v := 1) (by decide) ?_
    refine rq_iret i_17_11 r_17 rfl ?_
    refine rq_back1 ?_
    refine rq_loc i_0_1150 rfl rfl ?_
    refine rq_loc i_0_1152 rfl rfl ?_
    refine rq_loc i_0_1153 rfl rfl ?_
    refine rq_loc i_0_1154 rfl rfl ?_
    refine rq_pure i_0_1156 rfl ?_
    refine rq_topi (v := 1) (by decide) ?_
    refine rq_pure i_0_1157 rfl ?_
    refine rq_topi (v := 1) (by decide) ?_
    refine rq_sald1 (x := xs 1) i_0_1158 hS rfl (by decide) rfl ?_
    refine rq_loc i_0_1159 rfl rfl ?_
    refine rq_loc i_0_1160 rfl rfl ?_
    refine rq_pure i_0_1162 rfl ?_
    refine rq_topi (v := 2) (by decide) ?_
    refine rq_pure i_0_1163 rfl ?_
    refine rq_topi (v := 2) (by decide) ?_
    refine rq_sald1 (x := xs 2) i_0_1164 hS rfl (by decide) rfl ?_
    refine rq_ifeq (tg := 1172) i_0_1165 ⟨by decide, by decide⟩ (fun q => absurd q (by intro q; simp only [Int32.lt_iff_toInt_lt, Int32.le_iff_toInt_le, Int32.not_lt, Int32.not_le, ← Int32.toInt_inj] at q h1; have e0 : (0 : Int32).toInt = 0 := (by decide); first | omega | (simp at q h1; omega))) (fun _ => ?_)
    refine rq_pure i_0_1168 rfl ?_
    refine rq_topi (v := 1) (by decide) ?_
    refine rq_goto (tg := 1173) i_0_1169 ⟨by decide, by decide⟩ ?_
    refine rq_V1 (c1 := 0) (s1 := 0) (cb := 99) (sb := 994) (F' := 2047) (Lo' := 83976) i_0_1173 c_0_154 rfl (rz_isa c174 a_15_139) rfl rfl rfl ?_
    refine rq_loc i_139_0 rfl rfl ?_
    refine rq_loc i_139_1 rfl rfl ?_
    refine rq_getf i_139_2 f_139_634 c174 rfl ?_
    refine rq_ifne (tg := 12) i_139_5 ⟨by decide, by decide⟩ (fun q => absurd q (by decide)) (fun _ => ?_)
    refine rq_pure i_139_8 rfl ?_
    refine rq_topi (v := 1) (by decide) ?_
    refine rq_goto (tg := 25) i_139_9 ⟨by decide, by decide⟩ ?_
    refine rq_putf1 i_139_25 p_139_356 c174 rfl rfl rfl (fun L1 u1 => ?_)
    refine rq_loc i_139_28 rfl rfl ?_
    refine rq_getf i_139_29 f_139_356 u1.1 rfl ?_
    refine rq_ifle (tg := 36) i_139_32 ⟨by decide, by decide⟩ (fun q => absurd q (by decide)) (fun _ => ?_)
    refine rq_vret i_139_35 r_139 ?_
    refine rq_back0 ?_
    refine rq_loc i_0_1176 rfl rfl ?_
    refine rq_V1 (c1 := 0) (s1 := 0) (cb := 99) (sb := 994) (F' := 2047) (Lo' := 83980) i_0_1177 c_0_50 rfl (rz_isa u1.1 a_15_92) rfl rfl rfl ?_
    refine rq_loc i_92_0 rfl rfl ?_
    refine rq_getf i_92_1 f_92_356 u1.1 rfl ?_
    refine rq_iret i_92_4 r_92 rfl ?_
    refine rq_back1 ?_
    refine rq_loc i_0_1180 rfl rfl ?_
    refine rq_iceq (tg := 1187) i_0_1182 ⟨by decide, by decide⟩ (fun _ => ?_) (fun q => absurd q (by decide))
    refine rq_goto (tg := 1334) i_0_1187 ⟨by decide, by decide⟩ ?_
    have g3 := (u1.2 rx_S (by decide)).trans hS
    exact p1_tail g3 rfl rfl
set_option maxRecDepth 8000 in
theorem p1c_go {xs : Nat → Int32} {fm : Value} {L : List va_E} (hL : rz_heap L rz_T0 = true) (hZ162 : rz_val L 162 12 [0, 0, 0, 0, 0, 0, 0, (-1), (-1), (-1), 0, 0] = true) : rq (rt_P (6, xs) fm) 0 2048 84000 100 1000 1190 p1_lv [] L p1_Q := by
  have c0 : L[0]? = some (.inr (14, [.ref 1, .ref 7, .ref 114, .ref 133, .ref 145, .ref 146, .ref 150, .ref 159, .ref 167, .ref 172])) := rz_obj hL (by decide +kernel)
  have c159 : L[159]? = some (.inr (11, [.ref 7, .ref 114, .ref 146, .ref 160, .ref 161, .int 0, .ref 162, .ref 163, .ref 164, .ref 165, .int 0, .ref 166, .int 0, .long 0, .long 0])) := rz_obj hL (by decide +kernel)
  obtain ⟨f162, c162, v162⟩ := rz_vals hZ162
  have c174 : L[174]? = some (.inr (15, [.int 0, .ref 175, .int 0, .ref 176, .int 0, .int 0, .ref 177, .int 0, .ref 178, .ref 179, .ref 180, .int 0, .int 0, .int 0, .int 0, .int 0, .ref 181, .ref 182, .ref 183, .ref 184, .ref 185, .ref 186, .ref 187, .ref 188, .int 0, .ref 189, .ref 190, .ref 191, .ref 192, .ref 193, .ref 194, .ref 195, .ref 196, .ref 197, .int 0, .ref 198, .ref 199, .int 0, .ref 200, .ref 201, .ref 202, .ref 203, .ref 204, .ref 205, .ref 206, .ref 207, .ref 208, .ref 209, .ref 210, .ref 211, .ref 212, .ref 213, .ref 214, .ref 215, .ref 216, .ref 217, .ref 218, .ref 219, .ref 220, .ref 221, .ref 222, .ref 223, .ref 224, .ref 225, .ref 226, .ref 227, .ref 228, .int 0, .long 0, .ref 229, .ref 230, .ref 231, .ref 232, .long 0, .int 0, .ref 233, .int 0, .int 0, .int 0, .long 0, .int 0, .int 0, .int 0, .ref 234, .ref 235, .ref 236, .ref 237, .ref 238, .ref 239, .ref 240, .int 0, .int 0, .ref 241, .ref 242, .ref 243, .ref 244, .ref 245, .int (-1), .ref 246, .ref 247, .ref 248, .int 0, .int 0, .ref 249, .int 0, .int 0, .int 0, .ref 250, .ref 251, .ref 252, .int 0, .int 0, .int 0, .int 0, .ref 253, .ref 254, .ref 255, .ref 256, .ref 257, .ref 258, .ref 259, .int 0, .ref 260, .int 0, .int 0, .int 0, .int 0, .int 0, .int 0, .int 0, .int 0, .int 0, .int 0, .int 0, .int 0, .ref 261, .ref 262, .ref 263, .ref 264, .ref 265])) := rz_obj hL (by decide +kernel)
  have hS : L[rx_S]? = none := p1_none hL
  refine rq_loc i_0_1190 rfl rfl ?_
  refine rq_loc i_0_1191 rfl rfl ?_
  refine rq_loc i_0_1192 rfl rfl ?_
  refine rq_pure i_0_1194 rfl ?_
  refine rq_topi (v := 1) (by decide) ?_
  refine rq_pure i_0_1195 rfl ?_
  refine rq_topi (v := 1) (by decide) ?_
  refine rq_sald1 (x := xs 1) i_0_1196 hS rfl (by decide) rfl ?_
  refine rq_loc i_0_1197 rfl rfl ?_
  refine rq_S1 (c1 := 1) (s1 := 6) (cb := 99) (sb := 994) (F' := 2047) (Lo' := 83977) i_0_1198 c_0_155 (by decide) rfl rfl rfl rfl ?_
  refine rq_loc i_18_0 rfl rfl ?_
  refine rq_pure i_18_1 rfl ?_
  refine rq_topi (v := 0) (by decide) ?_
  refine rq_loc i_18_2 rfl rfl ?_
  refine rq_loc i_18_3 rfl rfl ?_
  refine rq_V1 (c1 := 1) (s1 := 6) (cb := 0) (sb := 0) (F' := 2046) (Lo' := 83956) i_18_4 c_18_23 rfl (rz_isa c0 a_14_85) rfl rfl rfl ?_
  refine rq_loc i_85_0 rfl rfl ?_
  refine rq_pure i_85_1 rfl ?_
  refine rq_topi (v := 1) (by decide) ?_
  refine rq_iclt (tg := 12) i_85_2 ⟨by decide, by decide⟩ (fun h1 => ?_) (fun h1 => ?_)
  ·
    refine rq_throw x_85_12 (by decide) (by decide) (by decide) (by decide) ?_
    refine rq_catch1 (pc2 := 13) h_18_4_34 rfl ?_
    refine rq_pure i_18_13 rfl ?_
    refine rq_topi (v := 1) (by decide) ?_
    refine rq_iret i_18_14 r_18 rfl ?_
    refine rq_back1 ?_
    refine rq_loc i_0_1201 rfl rfl ?_
    refine rq_loc i_0_1203 rfl rfl ?_
    refine rq_loc i_0_1204 rfl rfl ?_
    refine rq_loc i_0_1205 rfl rfl ?_
    refine rq_pure i_0_1207 rfl ?_
    refine rq_topi (v := 1) (by decide) ?_
    refine rq_pure i_0_1208 rfl ?_
    refine rq_topi (v := 1) (by decide) ?_
    refine rq_sald1 (x := xs 1) i_0_1209 hS rfl (by decide) rfl ?_
    refine rq_V1 (c1 := 0) (s1 := 0) (cb := 99) (sb := 994) (F' := 2047) (Lo' := 83976) i_0_1210 c_0_158 rfl (rz_isa c174 a_15_140) rfl rfl rfl ?_
    refine rq_loc i_140_0 rfl rfl ?_
    refine rq_loc i_140_1 rfl rfl ?_
    refine rq_pure i_140_2 rfl ?_
    refine rq_topi (v := 1) (by decide) ?_
    refine rq_iclt (tg := 13) i_140_3 ⟨by decide, by decide⟩ (fun _ => ?_) (fun q => absurd q (by intro q; simp only [Int32.lt_iff_toInt_lt, Int32.le_iff_toInt_le, Int32.not_lt, Int32.not_le, ← Int32.toInt_inj] at q h1; have e0 : (0 : Int32).toInt = 0 := (by decide); first | omega | (simp at q h1; omega)))
    refine rq_pure i_140_13 rfl ?_
    refine rq_topi (v := 1) (by decide) ?_
    refine rq_goto (tg := 30) i_140_14 ⟨by decide, by decide⟩ ?_
    refine rq_putf1 i_140_30 p_140_356 c174 rfl rfl rfl (fun L1 u1 => ?_)
    refine rq_loc i_140_33 rfl rfl ?_
    refine rq_getf i_140_34 f_140_356 u1.1 rfl ?_
    refine rq_ifle (tg := 42) i_140_37 ⟨by decide, by decide⟩ (fun q => absurd q (by decide)) (fun _ => ?_)
    refine rq_pure i_140_40 rfl ?_
    refine rq_topi (v := 0) (by decide) ?_
    refine rq_iret i_140_41 r_140 rfl ?_
    refine rq_back1 ?_
    refine rq_loc i_0_1213 rfl rfl ?_
    refine rq_loc i_0_1215 rfl rfl ?_
    refine rq_V1 (c1 := 0) (s1 := 0) (cb := 99) (sb := 994) (F' := 2047) (Lo' := 83980) i_0_1216 c_0_50 rfl (rz_isa u1.1 a_15_92) rfl rfl rfl ?_
    refine rq_loc i_92_0 rfl rfl ?_
    refine rq_getf i_92_1 f_92_356 u1.1 rfl ?_
    refine rq_iret i_92_4 r_92 rfl ?_
    refine rq_back1 ?_
    refine rq_loc i_0_1219 rfl rfl ?_
    refine rq_iceq (tg := 1226) i_0_1221 ⟨by decide, by decide⟩ (fun _ => ?_) (fun q => absurd q (by decide))
    refine rq_loc i_0_1226 rfl rfl ?_
    refine rq_ifne (tg := 1243) i_0_1228 ⟨by decide, by decide⟩ (fun _ => ?_) (fun q => absurd q (by decide))
    refine rq_goto (tg := 1334) i_0_1243 ⟨by decide, by decide⟩ ?_
    have g2 := (u1.2 rx_S (by decide)).trans hS
    exact p1_tail g2 rfl rfl
  ·
    refine rq_loc i_85_5 rfl rfl ?_
    refine rq_pure i_85_6 rfl ?_
    refine rq_topi (v := 10000) (by decide) ?_
    refine rq_icle (tg := 23) i_85_9 ⟨by decide, by decide⟩ (fun h3 => ?_) (fun h3 => ?_)
    ·
      refine rq_loc i_85_23 rfl rfl ?_
      refine rq_getf i_85_24 f_85_69 c0 rfl ?_
      refine rq_V1 (c1 := 0) (s1 := 0) (cb := 1) (sb := 6) (F' := 2045) (Lo' := 83936) i_85_27 c_85_359 rfl (rz_isa c159 a_11_49) rfl rfl rfl ?_
      refine rq_loc i_49_0 rfl rfl ?_
      refine rq_getf i_49_1 f_49_18 c159 rfl ?_
      refine rq_pure i_49_4 rfl ?_
      refine rq_topi (v := 0) (by decide) ?_
      refine rq_iald i_49_5 c162 (by decide) ?_
      refine rq_topi (v := 0) ((v162 _ (by decide)).trans (by decide)) ?_
      refine rq_pure i_49_6 rfl ?_
      refine rq_topi (v := 1) (by decide) ?_
      refine rq_icne (tg := 14) i_49_7 ⟨by decide, by decide⟩ (fun _ => ?_) (fun q => absurd q (by decide))
      refine rq_pure i_49_14 rfl ?_
      refine rq_topi (v := 0) (by decide) ?_
      refine rq_iret i_49_15 r_49 rfl ?_
      refine rq_back1 ?_
      refine rq_ifne (tg := 44) i_85_30 ⟨by decide, by decide⟩ (fun q => absurd q (by decide)) (fun _ => ?_)
      refine rq_throw x_85_33 (by decide) (by decide) (by decide) (by decide) ?_
      refine rq_catch1 (pc2 := 16) h_18_4_31 rfl ?_
      refine rq_pure i_18_16 rfl ?_
      refine rq_topi (v := 2) (by decide) ?_
      refine rq_iret i_18_17 r_18 rfl ?_
      refine rq_back1 ?_
      refine rq_loc i_0_1201 rfl rfl ?_
      refine rq_loc i_0_1203 rfl rfl ?_
      refine rq_loc i_0_1204 rfl rfl ?_
      refine rq_loc i_0_1205 rfl rfl ?_
      refine rq_pure i_0_1207 rfl ?_
      refine rq_topi (v := 1) (by decide) ?_
      refine rq_pure i_0_1208 rfl ?_
      refine rq_topi (v := 1) (by decide) ?_
      refine rq_sald1 (x := xs 1) i_0_1209 hS rfl (by decide) rfl ?_
      refine rq_V1 (c1 := 0) (s1 := 0) (cb := 99) (sb := 994) (F' := 2047) (Lo' := 83976) i_0_1210 c_0_158 rfl (rz_isa c174 a_15_140) rfl rfl rfl ?_
      refine rq_loc i_140_0 rfl rfl ?_
      refine rq_loc i_140_1 rfl rfl ?_
      refine rq_pure i_140_2 rfl ?_
      refine rq_topi (v := 1) (by decide) ?_
      refine rq_iclt (tg := 13) i_140_3 ⟨by decide, by decide⟩ (fun q => absurd q (by intro q; simp only [Int32.lt_iff_toInt_lt, Int32.le_iff_toInt_le, Int32.not_lt, Int32.not_le, ← Int32.toInt_inj] at q h1 h3; have e0 : (0 : Int32).toInt = 0 := (by decide); first | omega | (simp at q h1 h3; omega))) (fun _ => ?_)
      refine rq_loc i_140_6 rfl rfl ?_
      refine rq_pure i_140_7 rfl ?_
      refine rq_topi (v := 10000) (by decide) ?_
      refine rq_icle (tg := 17) i_140_10 ⟨by decide, by decide⟩ (fun _ => ?_) (fun q => absurd q (by intro q; simp only [Int32.lt_iff_toInt_lt, Int32.le_iff_toInt_le, Int32.not_lt, Int32.not_le, ← Int32.toInt_inj] at q h1 h3; have e0 : (0 : Int32).toInt = 0 := (by decide); first | omega | (simp at q h1 h3; omega)))
      refine rq_loc i_140_17 rfl rfl ?_
      refine rq_getf i_140_18 f_140_897 c174 rfl ?_
      refine rq_pure i_140_21 rfl ?_
      refine rq_topi (v := 1) (by decide) ?_
      refine rq_iceq (tg := 29) i_140_22 ⟨by decide, by decide⟩ (fun q => absurd q (by decide)) (fun _ => ?_)
      refine rq_pure i_140_25 rfl ?_
      refine rq_topi (v := 2) (by decide) ?_
      refine rq_goto (tg := 30) i_140_26 ⟨by decide, by decide⟩ ?_
      refine rq_putf1 i_140_30 p_140_356 c174 rfl rfl rfl (fun L1 u1 => ?_)
      refine rq_loc i_140_33 rfl rfl ?_
      refine rq_getf i_140_34 f_140_356 u1.1 rfl ?_
      refine rq_ifle (tg := 42) i_140_37 ⟨by decide, by decide⟩ (fun q => absurd q (by decide)) (fun _ => ?_)
      refine rq_pure i_140_40 rfl ?_
      refine rq_topi (v := 0) (by decide) ?_
      refine rq_iret i_140_41 r_140 rfl ?_
      refine rq_back1 ?_
      refine rq_loc i_0_1213 rfl rfl ?_
      refine rq_loc i_0_1215 rfl rfl ?_
      refine rq_V1 (c1 := 0) (s1 := 0) (cb := 99) (sb := 994) (F' := 2047) (Lo' := 83980) i_0_1216 c_0_50 rfl (rz_isa u1.1 a_15_92) rfl rfl rfl ?_
      refine rq_loc i_92_0 rfl rfl ?_
      refine rq_getf i_92_1 f_92_356 u1.1 rfl ?_
      refine rq_iret i_92_4 r_92 rfl ?_
      refine rq_back1 ?_
      refine rq_loc i_0_1219 rfl rfl ?_
      refine rq_iceq (tg := 1226) i_0_1221 ⟨by decide, by decide⟩ (fun _ => ?_) (fun q => absurd q (by decide))
      refine rq_loc i_0_1226 rfl rfl ?_
      refine rq_ifne (tg := 1243) i_0_1228 ⟨by decide, by decide⟩ (fun _ => ?_) (fun q => absurd q (by decide))
      refine rq_goto (tg := 1334) i_0_1243 ⟨by decide, by decide⟩ ?_
      have g4 := (u1.2 rx_S (by decide)).trans hS
      exact p1_tail g4 rfl rfl
    ·
      refine rq_throw x_85_12 (by decide) (by decide) (by decide) (by decide) ?_
      refine rq_catch1 (pc2 := 13) h_18_4_34 rfl ?_
      refine rq_pure i_18_13 rfl ?_
      refine rq_topi (v := 1) (by decide) ?_
      refine rq_iret i_18_14 r_18 rfl ?_
      refine rq_back1 ?_
      refine rq_loc i_0_1201 rfl rfl ?_
      refine rq_loc i_0_1203 rfl rfl ?_
      refine rq_loc i_0_1204 rfl rfl ?_
      refine rq_loc i_0_1205 rfl rfl ?_
      refine rq_pure i_0_1207 rfl ?_
      refine rq_topi (v := 1) (by decide) ?_
      refine rq_pure i_0_1208 rfl ?_
      refine rq_topi (v := 1) (by decide) ?_
      refine rq_sald1 (x := xs 1) i_0_1209 hS rfl (by decide) rfl ?_
      refine rq_V1 (c1 := 0) (s1 := 0) (cb := 99) (sb := 994) (F' := 2047) (Lo' := 83976) i_0_1210 c_0_158 rfl (rz_isa c174 a_15_140) rfl rfl rfl ?_
      refine rq_loc i_140_0 rfl rfl ?_
      refine rq_loc i_140_1 rfl rfl ?_
      refine rq_pure i_140_2 rfl ?_
      refine rq_topi (v := 1) (by decide) ?_
      refine rq_iclt (tg := 13) i_140_3 ⟨by decide, by decide⟩ (fun q => absurd q (by intro q; simp only [Int32.lt_iff_toInt_lt, Int32.le_iff_toInt_le, Int32.not_lt, Int32.not_le, ← Int32.toInt_inj] at q h1 h3; have e0 : (0 : Int32).toInt = 0 := (by decide); first | omega | (simp at q h1 h3; omega))) (fun _ => ?_)
      refine rq_loc i_140_6 rfl rfl ?_
      refine rq_pure i_140_7 rfl ?_
      refine rq_topi (v := 10000) (by decide) ?_
      refine rq_icle (tg := 17) i_140_10 ⟨by decide, by decide⟩ (fun q => absurd q (by intro q; simp only [Int32.lt_iff_toInt_lt, Int32.le_iff_toInt_le, Int32.not_lt, Int32.not_le, ← Int32.toInt_inj] at q h1 h3; have e0 : (0 : Int32).toInt = 0 := (by decide); first | omega | (simp at q h1 h3; omega))) (fun _ => ?_)
      refine rq_pure i_140_13 rfl ?_
      refine rq_topi (v := 1) (by decide) ?_
      refine rq_goto (tg := 30) i_140_14 ⟨by decide, by decide⟩ ?_
      refine rq_putf1 i_140_30 p_140_356 c174 rfl rfl rfl (fun L1 u1 => ?_)
      refine rq_loc i_140_33 rfl rfl ?_
      refine rq_getf i_140_34 f_140_356 u1.1 rfl ?_
      refine rq_ifle (tg := 42) i_140_37 ⟨by decide, by decide⟩ (fun q => absurd q (by decide)) (fun _ => ?_)
      refine rq_pure i_140_40 rfl ?_
      refine rq_topi (v := 0) (by decide) ?_
      refine rq_iret i_140_41 r_140 rfl ?_
      refine rq_back1 ?_
      refine rq_loc i_0_1213 rfl rfl ?_
      refine rq_loc i_0_1215 rfl rfl ?_
      refine rq_V1 (c1 := 0) (s1 := 0) (cb := 99) (sb := 994) (F' := 2047) (Lo' := 83980) i_0_1216 c_0_50 rfl (rz_isa u1.1 a_15_92) rfl rfl rfl ?_
      refine rq_loc i_92_0 rfl rfl ?_
      refine rq_getf i_92_1 f_92_356 u1.1 rfl ?_
      refine rq_iret i_92_4 r_92 rfl ?_
      refine rq_back1 ?_
      refine rq_loc i_0_1219 rfl rfl ?_
      refine rq_iceq (tg := 1226) i_0_1221 ⟨by decide, by decide⟩ (fun _ => ?_) (fun q => absurd q (by decide))
      refine rq_loc i_0_1226 rfl rfl ?_
      refine rq_ifne (tg := 1243) i_0_1228 ⟨by decide, by decide⟩ (fun _ => ?_) (fun q => absurd q (by decide))
      refine rq_goto (tg := 1334) i_0_1243 ⟨by decide, by decide⟩ ?_
      have g5 := (u1.2 rx_S (by decide)).trans hS
      exact p1_tail g5 rfl rfl
set_option maxRecDepth 8000 in
theorem p1c_truth {xs : Nat → Int32} {fm : Value} {L : List va_E} (hL : rz_heap L rz_T0 = true) : rq (rt_P (6, xs) fm) 0 2048 84000 100 1000 1271 p1_lv [] L p1_Q := by
  have c0 : L[0]? = some (.inr (14, [.ref 1, .ref 7, .ref 114, .ref 133, .ref 145, .ref 146, .ref 150, .ref 159, .ref 167, .ref 172])) := rz_obj hL (by decide +kernel)
  have c174 : L[174]? = some (.inr (15, [.int 0, .ref 175, .int 0, .ref 176, .int 0, .int 0, .ref 177, .int 0, .ref 178, .ref 179, .ref 180, .int 0, .int 0, .int 0, .int 0, .int 0, .ref 181, .ref 182, .ref 183, .ref 184, .ref 185, .ref 186, .ref 187, .ref 188, .int 0, .ref 189, .ref 190, .ref 191, .ref 192, .ref 193, .ref 194, .ref 195, .ref 196, .ref 197, .int 0, .ref 198, .ref 199, .int 0, .ref 200, .ref 201, .ref 202, .ref 203, .ref 204, .ref 205, .ref 206, .ref 207, .ref 208, .ref 209, .ref 210, .ref 211, .ref 212, .ref 213, .ref 214, .ref 215, .ref 216, .ref 217, .ref 218, .ref 219, .ref 220, .ref 221, .ref 222, .ref 223, .ref 224, .ref 225, .ref 226, .ref 227, .ref 228, .int 0, .long 0, .ref 229, .ref 230, .ref 231, .ref 232, .long 0, .int 0, .ref 233, .int 0, .int 0, .int 0, .long 0, .int 0, .int 0, .int 0, .ref 234, .ref 235, .ref 236, .ref 237, .ref 238, .ref 239, .ref 240, .int 0, .int 0, .ref 241, .ref 242, .ref 243, .ref 244, .ref 245, .int (-1), .ref 246, .ref 247, .ref 248, .int 0, .int 0, .ref 249, .int 0, .int 0, .int 0, .ref 250, .ref 251, .ref 252, .int 0, .int 0, .int 0, .int 0, .ref 253, .ref 254, .ref 255, .ref 256, .ref 257, .ref 258, .ref 259, .int 0, .ref 260, .int 0, .int 0, .int 0, .int 0, .int 0, .int 0, .int 0, .int 0, .int 0, .int 0, .int 0, .int 0, .ref 261, .ref 262, .ref 263, .ref 264, .ref 265])) := rz_obj hL (by decide +kernel)
  have c7 : L[7]? = some (.inr (9, [.int 0, .ref 8, .int 0, .ref 9, .int 0, .ref 10, .ref 11, .int 0, .ref 12, .ref 13, .int 0, .ref 14, .ref 15, .ref 16, .ref 17])) := rz_obj hL (by decide +kernel)
  have hS : L[rx_S]? = none := p1_none hL
  refine rq_loc i_0_1271 rfl rfl ?_
  refine rq_loc i_0_1272 rfl rfl ?_
  refine rq_loc i_0_1273 rfl rfl ?_
  refine rq_pure i_0_1275 rfl ?_
  refine rq_topi (v := 1) (by decide) ?_
  refine rq_pure i_0_1276 rfl ?_
  refine rq_topi (v := 1) (by decide) ?_
  refine rq_sald1 (x := xs 1) i_0_1277 hS rfl (by decide) rfl ?_
  refine rq_V1 (c1 := 0) (s1 := 0) (cb := 100) (sb := 1000) (F' := 2047) (Lo' := 83979) i_0_1278 c_0_163 rfl (rz_isa c0 a_14_87) rfl rfl rfl ?_
  refine rq_loc i_87_0 rfl rfl ?_
  refine rq_getf i_87_1 f_87_19 c0 rfl ?_
  refine rq_loc i_87_4 rfl rfl ?_
  refine rq_V1 (c1 := 0) (s1 := 0) (cb := 0) (sb := 0) (F' := 2046) (Lo' := 83958) i_87_5 c_87_170 rfl (rz_isa c7 a_9_37) rfl rfl rfl ?_
  refine rq_loc i_37_0 rfl rfl ?_
  refine rq_getf i_37_1 f_37_51 c7 rfl ?_
  refine rq_ifeq (tg := 23) i_37_4 ⟨by decide, by decide⟩ (fun _ => ?_) (fun q => absurd q (by decide))
  refine rq_pure i_37_23 rfl ?_
  refine rq_topi (v := 0) (by decide) ?_
  refine rq_iret i_37_24 r_37 rfl ?_
  refine rq_back1 ?_
  refine rq_ifeq (tg := 22) i_87_8 ⟨by decide, by decide⟩ (fun _ => ?_) (fun q => absurd q (by decide))
  refine rq_pure i_87_22 rfl ?_
  refine rq_topi (v := (-1)) (by decide) ?_
  refine rq_iret i_87_23 r_87 rfl ?_
  refine rq_back1 ?_
  refine rq_loc i_0_1281 rfl rfl ?_
  refine rq_loc i_0_1282 rfl rfl ?_
  refine rq_loc i_0_1283 rfl rfl ?_
  refine rq_pure i_0_1285 rfl ?_
  refine rq_topi (v := 1) (by decide) ?_
  refine rq_pure i_0_1286 rfl ?_
  refine rq_topi (v := 1) (by decide) ?_
  refine rq_sald1 (x := xs 1) i_0_1287 hS rfl (by decide) rfl ?_
  refine rq_V1 (c1 := 0) (s1 := 0) (cb := 100) (sb := 1000) (F' := 2047) (Lo' := 83979) i_0_1288 c_0_166 rfl (rz_isa c174 a_15_142) rfl rfl rfl ?_
  refine rq_loc i_142_0 rfl rfl ?_
  refine rq_pure i_142_1 rfl ?_
  refine rq_topi (v := 0) (by decide) ?_
  refine rq_putf1 i_142_2 p_142_356 c174 rfl rfl rfl (fun L1 u1 => ?_)
  refine rq_loc i_142_5 rfl rfl ?_
  refine rq_loc i_142_6 rfl rfl ?_
  refine rq_V1 (c1 := 0) (s1 := 0) (cb := 0) (sb := 0) (F' := 2046) (Lo' := 83958) i_142_7 c_142_724 rfl (rz_isa u1.1 a_15_119) rfl rfl rfl ?_
  refine rq_loc i_119_0 rfl rfl ?_
  refine rq_getf i_119_1 f_119_634 u1.1 rfl ?_
  refine rq_ifeq (tg := 23) i_119_4 ⟨by decide, by decide⟩ (fun _ => ?_) (fun q => absurd q (by decide))
  refine rq_pure i_119_23 rfl ?_
  refine rq_topi (v := 0) (by decide) ?_
  refine rq_iret i_119_24 r_119 rfl ?_
  refine rq_back1 ?_
  refine rq_ifeq (tg := 30) i_142_10 ⟨by decide, by decide⟩ (fun _ => ?_) (fun q => absurd q (by decide))
  refine rq_pure i_142_30 rfl ?_
  refine rq_topi (v := (-1)) (by decide) ?_
  refine rq_iret i_142_31 r_142 rfl ?_
  refine rq_back1 ?_
  refine rq_iceq (tg := 1334) i_0_1291 ⟨by decide, by decide⟩ (fun _ => ?_) (fun q => absurd q (by decide))
  have g1 := (u1.2 rx_S (by decide)).trans hS
  exact p1_tail g1 rfl rfl
set_option maxRecDepth 8000 in
theorem p1c_wire {xs : Nat → Int32} {fm : Value} {L : List va_E} (hL : rz_heap L rz_T0 = true) : rq (rt_P (6, xs) fm) 0 2048 84000 100 1000 1296 p1_lv [] L p1_Q := by
  have c0 : L[0]? = some (.inr (14, [.ref 1, .ref 7, .ref 114, .ref 133, .ref 145, .ref 146, .ref 150, .ref 159, .ref 167, .ref 172])) := rz_obj hL (by decide +kernel)
  have c174 : L[174]? = some (.inr (15, [.int 0, .ref 175, .int 0, .ref 176, .int 0, .int 0, .ref 177, .int 0, .ref 178, .ref 179, .ref 180, .int 0, .int 0, .int 0, .int 0, .int 0, .ref 181, .ref 182, .ref 183, .ref 184, .ref 185, .ref 186, .ref 187, .ref 188, .int 0, .ref 189, .ref 190, .ref 191, .ref 192, .ref 193, .ref 194, .ref 195, .ref 196, .ref 197, .int 0, .ref 198, .ref 199, .int 0, .ref 200, .ref 201, .ref 202, .ref 203, .ref 204, .ref 205, .ref 206, .ref 207, .ref 208, .ref 209, .ref 210, .ref 211, .ref 212, .ref 213, .ref 214, .ref 215, .ref 216, .ref 217, .ref 218, .ref 219, .ref 220, .ref 221, .ref 222, .ref 223, .ref 224, .ref 225, .ref 226, .ref 227, .ref 228, .int 0, .long 0, .ref 229, .ref 230, .ref 231, .ref 232, .long 0, .int 0, .ref 233, .int 0, .int 0, .int 0, .long 0, .int 0, .int 0, .int 0, .ref 234, .ref 235, .ref 236, .ref 237, .ref 238, .ref 239, .ref 240, .int 0, .int 0, .ref 241, .ref 242, .ref 243, .ref 244, .ref 245, .int (-1), .ref 246, .ref 247, .ref 248, .int 0, .int 0, .ref 249, .int 0, .int 0, .int 0, .ref 250, .ref 251, .ref 252, .int 0, .int 0, .int 0, .int 0, .ref 253, .ref 254, .ref 255, .ref 256, .ref 257, .ref 258, .ref 259, .int 0, .ref 260, .int 0, .int 0, .int 0, .int 0, .int 0, .int 0, .int 0, .int 0, .int 0, .int 0, .int 0, .int 0, .ref 261, .ref 262, .ref 263, .ref 264, .ref 265])) := rz_obj hL (by decide +kernel)
  have c7 : L[7]? = some (.inr (9, [.int 0, .ref 8, .int 0, .ref 9, .int 0, .ref 10, .ref 11, .int 0, .ref 12, .ref 13, .int 0, .ref 14, .ref 15, .ref 16, .ref 17])) := rz_obj hL (by decide +kernel)
  have hS : L[rx_S]? = none := p1_none hL
  refine rq_loc i_0_1296 rfl rfl ?_
  refine rq_V1 (c1 := 0) (s1 := 0) (cb := 100) (sb := 1000) (F' := 2047) (Lo' := 83980) i_0_1297 c_0_167 rfl (rz_isa c0 a_14_88) rfl rfl rfl ?_
  refine rq_loc i_88_0 rfl rfl ?_
  refine rq_getf i_88_1 f_88_19 c0 rfl ?_
  refine rq_getf i_88_4 f_88_126 c7 rfl ?_
  refine rq_ifeq (tg := 20) i_88_7 ⟨by decide, by decide⟩ (fun _ => ?_) (fun q => absurd q (by decide))
  refine rq_pure i_88_20 rfl ?_
  refine rq_topi (v := (-1)) (by decide) ?_
  refine rq_iret i_88_21 r_88 rfl ?_
  refine rq_back1 ?_
  refine rq_loc i_0_1300 rfl rfl ?_
  refine rq_V1 (c1 := 0) (s1 := 0) (cb := 100) (sb := 1000) (F' := 2047) (Lo' := 83978) i_0_1301 c_0_170 rfl (rz_isa c174 a_15_143) rfl rfl rfl ?_
  refine rq_loc i_143_0 rfl rfl ?_
  refine rq_pure i_143_1 rfl ?_
  refine rq_topi (v := 0) (by decide) ?_
  refine rq_putf1 i_143_2 p_143_356 c174 rfl rfl rfl (fun L1 u1 => ?_)
  refine rq_loc i_143_5 rfl rfl ?_
  refine rq_getf i_143_6 f_143_634 u1.1 rfl ?_
  refine rq_ifne (tg := 14) i_143_9 ⟨by decide, by decide⟩ (fun q => absurd q (by decide)) (fun _ => ?_)
  refine rq_pure i_143_12 rfl ?_
  refine rq_topi (v := (-1)) (by decide) ?_
  refine rq_iret i_143_13 r_143 rfl ?_
  refine rq_back1 ?_
  refine rq_iceq (tg := 1334) i_0_1304 ⟨by decide, by decide⟩ (fun _ => ?_) (fun q => absurd q (by decide))
  have g1 := (u1.2 rx_S (by decide)).trans hS
  exact p1_tail g1 rfl rfl
set_option maxRecDepth 8000 in
theorem p1c_wired {xs : Nat → Int32} {fm : Value} {L : List va_E} (hL : rz_heap L rz_T0 = true) : rq (rt_P (6, xs) fm) 0 2048 84000 100 1000 1309 p1_lv [] L p1_Q := by
  have c0 : L[0]? = some (.inr (14, [.ref 1, .ref 7, .ref 114, .ref 133, .ref 145, .ref 146, .ref 150, .ref 159, .ref 167, .ref 172])) := rz_obj hL (by decide +kernel)
  have c167 : L[167]? = some (.inr (13, [.ref 7, .ref 133, .ref 146, .ref 168, .ref 169, .ref 170, .ref 171, .int 0, .int (-1), .int (-1)])) := rz_obj hL (by decide +kernel)
  have c174 : L[174]? = some (.inr (15, [.int 0, .ref 175, .int 0, .ref 176, .int 0, .int 0, .ref 177, .int 0, .ref 178, .ref 179, .ref 180, .int 0, .int 0, .int 0, .int 0, .int 0, .ref 181, .ref 182, .ref 183, .ref 184, .ref 185, .ref 186, .ref 187, .ref 188, .int 0, .ref 189, .ref 190, .ref 191, .ref 192, .ref 193, .ref 194, .ref 195, .ref 196, .ref 197, .int 0, .ref 198, .ref 199, .int 0, .ref 200, .ref 201, .ref 202, .ref 203, .ref 204, .ref 205, .ref 206, .ref 207, .ref 208, .ref 209, .ref 210, .ref 211, .ref 212, .ref 213, .ref 214, .ref 215, .ref 216, .ref 217, .ref 218, .ref 219, .ref 220, .ref 221, .ref 222, .ref 223, .ref 224, .ref 225, .ref 226, .ref 227, .ref 228, .int 0, .long 0, .ref 229, .ref 230, .ref 231, .ref 232, .long 0, .int 0, .ref 233, .int 0, .int 0, .int 0, .long 0, .int 0, .int 0, .int 0, .ref 234, .ref 235, .ref 236, .ref 237, .ref 238, .ref 239, .ref 240, .int 0, .int 0, .ref 241, .ref 242, .ref 243, .ref 244, .ref 245, .int (-1), .ref 246, .ref 247, .ref 248, .int 0, .int 0, .ref 249, .int 0, .int 0, .int 0, .ref 250, .ref 251, .ref 252, .int 0, .int 0, .int 0, .int 0, .ref 253, .ref 254, .ref 255, .ref 256, .ref 257, .ref 258, .ref 259, .int 0, .ref 260, .int 0, .int 0, .int 0, .int 0, .int 0, .int 0, .int 0, .int 0, .int 0, .int 0, .int 0, .int 0, .ref 261, .ref 262, .ref 263, .ref 264, .ref 265])) := rz_obj hL (by decide +kernel)
  have hS : L[rx_S]? = none := p1_none hL
  refine rq_loc i_0_1309 rfl rfl ?_
  refine rq_loc i_0_1310 rfl rfl ?_
  refine rq_loc i_0_1311 rfl rfl ?_
  refine rq_pure i_0_1313 rfl ?_
  refine rq_topi (v := 1) (by decide) ?_
  refine rq_pure i_0_1314 rfl ?_
  refine rq_topi (v := 1) (by decide) ?_
  refine rq_sald1 (x := xs 1) i_0_1315 hS rfl (by decide) rfl ?_
  refine rq_V1 (c1 := 0) (s1 := 0) (cb := 100) (sb := 1000) (F' := 2047) (Lo' := 83979) i_0_1316 c_0_171 rfl (rz_isa c0 a_14_89) rfl rfl rfl ?_
  refine rq_loc i_89_0 rfl rfl ?_
  refine rq_getf i_89_1 f_89_78 c0 rfl ?_
  refine rq_loc i_89_4 rfl rfl ?_
  refine rq_V1 (c1 := 0) (s1 := 0) (cb := 0) (sb := 0) (F' := 2046) (Lo' := 83958) i_89_5 c_89_377 rfl (rz_isa c167 a_13_54) rfl rfl rfl ?_
  refine rq_loc i_54_0 rfl rfl ?_
  refine rq_ifne (tg := 9) i_54_1 ⟨by decide, by decide⟩ (fun h1 => ?_) (fun h1 => ?_)
  ·
    refine rq_loc i_54_9 rfl rfl ?_
    refine rq_pure i_54_10 rfl ?_
    refine rq_topi (v := 1) (by decide) ?_
    refine rq_icne (tg := 19) i_54_11 ⟨by decide, by decide⟩ (fun h2 => ?_) (fun h2 => ?_)
    ·
      refine rq_loc i_54_19 rfl rfl ?_
      refine rq_pure i_54_20 rfl ?_
      refine rq_topi (v := 2) (by decide) ?_
      refine rq_iclt (tg := 45) i_54_21 ⟨by decide, by decide⟩ (fun h3 => ?_) (fun h3 => ?_)
      ·
        refine rq_pure i_54_45 rfl ?_
        refine rq_topi (v := (-1)) (by decide) ?_
        refine rq_iret i_54_46 r_54 rfl ?_
        refine rq_back1 ?_
        refine rq_iret i_89_8 r_89 rfl ?_
        refine rq_back1 ?_
        refine rq_loc i_0_1319 rfl rfl ?_
        refine rq_loc i_0_1320 rfl rfl ?_
        refine rq_loc i_0_1321 rfl rfl ?_
        refine rq_pure i_0_1323 rfl ?_
        refine rq_topi (v := 1) (by decide) ?_
        refine rq_pure i_0_1324 rfl ?_
        refine rq_topi (v := 1) (by decide) ?_
        refine rq_sald1 (x := xs 1) i_0_1325 hS rfl (by decide) rfl ?_
        refine rq_V1 (c1 := 0) (s1 := 0) (cb := 100) (sb := 1000) (F' := 2047) (Lo' := 83979) i_0_1326 c_0_174 rfl (rz_isa c174 a_15_144) rfl rfl rfl ?_
        refine rq_loc i_144_0 rfl rfl ?_
        refine rq_pure i_144_1 rfl ?_
        refine rq_topi (v := 0) (by decide) ?_
        refine rq_putf1 i_144_2 p_144_356 c174 rfl rfl rfl (fun L1 u1 => ?_)
        refine rq_loc i_144_5 rfl rfl ?_
        refine rq_getf i_144_6 f_144_634 u1.1 rfl ?_
        refine rq_ifeq (tg := 19) i_144_9 ⟨by decide, by decide⟩ (fun _ => ?_) (fun q => absurd q (by decide))
        refine rq_pure i_144_19 rfl ?_
        refine rq_topi (v := (-1)) (by decide) ?_
        refine rq_iret i_144_20 r_144 rfl ?_
        refine rq_back1 ?_
        refine rq_iceq (tg := 1334) i_0_1329 ⟨by decide, by decide⟩ (fun _ => ?_) (fun q => absurd q (by decide))
        have g4 := (u1.2 rx_S (by decide)).trans hS
        exact p1_tail g4 rfl rfl
      ·
        refine rq_loc i_54_24 rfl rfl ?_
        refine rq_pure i_54_25 rfl ?_
        refine rq_topi (v := 2) (by decide) ?_
        refine rq_pure i_54_26 rfl ?_
        refine rq_loc i_54_27 rfl rfl ?_
        refine rq_getf i_54_28 f_54_45 c167 rfl ?_
        refine rq_icge (tg := 45) i_54_31 ⟨by decide, by decide⟩ (fun _ => ?_) (fun q => absurd (rz_sub h3 (by decide)) q)
        refine rq_pure i_54_45 rfl ?_
        refine rq_topi (v := (-1)) (by decide) ?_
        refine rq_iret i_54_46 r_54 rfl ?_
        refine rq_back1 ?_
        refine rq_iret i_89_8 r_89 rfl ?_
        refine rq_back1 ?_
        refine rq_loc i_0_1319 rfl rfl ?_
        refine rq_loc i_0_1320 rfl rfl ?_
        refine rq_loc i_0_1321 rfl rfl ?_
        refine rq_pure i_0_1323 rfl ?_
        refine rq_topi (v := 1) (by decide) ?_
        refine rq_pure i_0_1324 rfl ?_
        refine rq_topi (v := 1) (by decide) ?_
        refine rq_sald1 (x := xs 1) i_0_1325 hS rfl (by decide) rfl ?_
        refine rq_V1 (c1 := 0) (s1 := 0) (cb := 100) (sb := 1000) (F' := 2047) (Lo' := 83979) i_0_1326 c_0_174 rfl (rz_isa c174 a_15_144) rfl rfl rfl ?_
        refine rq_loc i_144_0 rfl rfl ?_
        refine rq_pure i_144_1 rfl ?_
        refine rq_topi (v := 0) (by decide) ?_
        refine rq_putf1 i_144_2 p_144_356 c174 rfl rfl rfl (fun L1 u1 => ?_)
        refine rq_loc i_144_5 rfl rfl ?_
        refine rq_getf i_144_6 f_144_634 u1.1 rfl ?_
        refine rq_ifeq (tg := 19) i_144_9 ⟨by decide, by decide⟩ (fun _ => ?_) (fun q => absurd q (by decide))
        refine rq_pure i_144_19 rfl ?_
        refine rq_topi (v := (-1)) (by decide) ?_
        refine rq_iret i_144_20 r_144 rfl ?_
        refine rq_back1 ?_
        refine rq_iceq (tg := 1334) i_0_1329 ⟨by decide, by decide⟩ (fun _ => ?_) (fun q => absurd q (by decide))
        have g5 := (u1.2 rx_S (by decide)).trans hS
        exact p1_tail g5 rfl rfl
    ·
      refine rq_loc i_54_14 rfl rfl ?_
      refine rq_getf i_54_15 f_54_30 c167 rfl ?_
      refine rq_iret i_54_18 r_54 rfl ?_
      refine rq_back1 ?_
      refine rq_iret i_89_8 r_89 rfl ?_
      refine rq_back1 ?_
      refine rq_loc i_0_1319 rfl rfl ?_
      refine rq_loc i_0_1320 rfl rfl ?_
      refine rq_loc i_0_1321 rfl rfl ?_
      refine rq_pure i_0_1323 rfl ?_
      refine rq_topi (v := 1) (by decide) ?_
      refine rq_pure i_0_1324 rfl ?_
      refine rq_topi (v := 1) (by decide) ?_
      refine rq_sald1 (x := xs 1) i_0_1325 hS rfl (by decide) rfl ?_
      refine rq_V1 (c1 := 0) (s1 := 0) (cb := 100) (sb := 1000) (F' := 2047) (Lo' := 83979) i_0_1326 c_0_174 rfl (rz_isa c174 a_15_144) rfl rfl rfl ?_
      refine rq_loc i_144_0 rfl rfl ?_
      refine rq_pure i_144_1 rfl ?_
      refine rq_topi (v := 0) (by decide) ?_
      refine rq_putf1 i_144_2 p_144_356 c174 rfl rfl rfl (fun L1 u1 => ?_)
      refine rq_loc i_144_5 rfl rfl ?_
      refine rq_getf i_144_6 f_144_634 u1.1 rfl ?_
      refine rq_ifeq (tg := 19) i_144_9 ⟨by decide, by decide⟩ (fun _ => ?_) (fun q => absurd q (by decide))
      refine rq_pure i_144_19 rfl ?_
      refine rq_topi (v := (-1)) (by decide) ?_
      refine rq_iret i_144_20 r_144 rfl ?_
      refine rq_back1 ?_
      refine rq_iceq (tg := 1334) i_0_1329 ⟨by decide, by decide⟩ (fun _ => ?_) (fun q => absurd q (by decide))
      have g6 := (u1.2 rx_S (by decide)).trans hS
      exact p1_tail g6 rfl rfl
  ·
    refine rq_loc i_54_4 rfl rfl ?_
    refine rq_getf i_54_5 f_54_26 c167 rfl ?_
    refine rq_iret i_54_8 r_54 rfl ?_
    refine rq_back1 ?_
    refine rq_iret i_89_8 r_89 rfl ?_
    refine rq_back1 ?_
    refine rq_loc i_0_1319 rfl rfl ?_
    refine rq_loc i_0_1320 rfl rfl ?_
    refine rq_loc i_0_1321 rfl rfl ?_
    refine rq_pure i_0_1323 rfl ?_
    refine rq_topi (v := 1) (by decide) ?_
    refine rq_pure i_0_1324 rfl ?_
    refine rq_topi (v := 1) (by decide) ?_
    refine rq_sald1 (x := xs 1) i_0_1325 hS rfl (by decide) rfl ?_
    refine rq_V1 (c1 := 0) (s1 := 0) (cb := 100) (sb := 1000) (F' := 2047) (Lo' := 83979) i_0_1326 c_0_174 rfl (rz_isa c174 a_15_144) rfl rfl rfl ?_
    refine rq_loc i_144_0 rfl rfl ?_
    refine rq_pure i_144_1 rfl ?_
    refine rq_topi (v := 0) (by decide) ?_
    refine rq_putf1 i_144_2 p_144_356 c174 rfl rfl rfl (fun L1 u1 => ?_)
    refine rq_loc i_144_5 rfl rfl ?_
    refine rq_getf i_144_6 f_144_634 u1.1 rfl ?_
    refine rq_ifeq (tg := 19) i_144_9 ⟨by decide, by decide⟩ (fun _ => ?_) (fun q => absurd q (by decide))
    refine rq_pure i_144_19 rfl ?_
    refine rq_topi (v := (-1)) (by decide) ?_
    refine rq_iret i_144_20 r_144 rfl ?_
    refine rq_back1 ?_
    refine rq_iceq (tg := 1334) i_0_1329 ⟨by decide, by decide⟩ (fun _ => ?_) (fun q => absurd q (by decide))
    have g7 := (u1.2 rx_S (by decide)).trans hS
    exact p1_tail g7 rfl rfl
