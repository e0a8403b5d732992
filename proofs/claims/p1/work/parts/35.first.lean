/-! THE FIRST CALL OF ALL: by wip/whole/glue.py -/
set_option maxRecDepth 8000 in
theorem p1_first {fm : Value} (hall : rz_all fm = true) {n : Nat} (hn : n ≤ 6) (xs : Nat → Int32) : rq (rt_P (n, xs) fm) 0 2048 84000 600002 7302232 0 [(0, .ref rx_S)] [] [] p1_Q := by
  unfold rz_all at hall
  obtain ⟨L1, c1, n1, r1, hall⟩ := rz_void_ok hall
  simp only [Bool.and_eq_true] at hall
  obtain ⟨b1, l1, hall⟩ := hall
  obtain ⟨L2, c2, n2, r2, hall⟩ := rz_void_ok hall
  simp only [Bool.and_eq_true] at hall
  obtain ⟨b2, l2, hL, hZ⟩ := hall
  have l1 := Nat.eq_of_beq_eq_true l1
  have l2 := Nat.eq_of_beq_eq_true l2
  have hS : (L2 ++ [rz_o0])[rx_S]? = none := p1_none hL
  refine rq_mono (cb := 1 + (200 + (1 + (100 + (1 + 100))))) (sb := 10 + (140000 + (140 + (700000 + (1 + 1000))))) ?_ (by decide) (by decide) (fun _ _ q => q)
  refine rq_new (a := 0) i_0_0 n_0_8 rfl (by decide) ?_
  refine rq_pure i_0_3 rfl ?_
  refine rq_I1 (c1 := 200) (s1 := 140000) (F' := 2047) (Lo' := 83980) i_0_4 c_0_27 rfl rfl rfl rfl ?_
  refine rq_of_run (rn_run rt_Pn_le _ _ _ _ _ _ _ _ _ r1) (rz_bound_ok b1) ?_
  refine rq_back0 ?_
  refine rq_loc i_0_7 rfl rfl ?_
  refine rq_new (a := 174) i_0_8 n_0_28 l1 (by decide) ?_
  refine rq_pure i_0_11 rfl ?_
  refine rq_I1 (c1 := 100) (s1 := 700000) (F' := 2047) (Lo' := 83980) i_0_12 c_0_30 rfl rfl rfl rfl ?_
  refine rq_of_run (rn_run rt_Pn_le _ _ _ _ _ _ _ _ _ r2) (rz_bound_ok b2) ?_
  refine rq_back0 ?_
  refine rq_loc i_0_15 rfl rfl ?_
  refine rq_pure i_0_16 rfl ?_
  refine rq_topi (v := 1) (by decide) ?_
  refine rq_newl (a := 266) (k := 1) i_0_17 (by decide) (by decide) (by decide) l2 (by decide) ?_
  refine rq_loc i_0_19 rfl rfl ?_
  refine rq_pure i_0_20 rfl ?_
  refine rq_topi (v := 0) (by decide) ?_
  refine rq_loc (lv' := p1_lv) i_0_21 rfl rfl ?_
  have h7 : n = 0 ∨ n = 1 ∨ n = 2 ∨ n = 3 ∨ n = 4 ∨ n = 5 ∨ n = 6 := by omega
  rcases h7 with rfl | rfl | rfl | rfl | rfl | rfl | rfl
  · exact p1_end hS rfl rfl (by decide)
  · exact p1_end hS rfl rfl (by decide)
  · exact p1_end hS rfl rfl (by decide)
  · exact p1_end hS rfl rfl (by decide)
  · exact p1_end hS rfl rfl (by decide)
  · exact p1_end hS rfl rfl (by decide)
  refine rq_loc (lv' := p1_lv) i_0_23 rfl rfl ?_
  refine rq_loc (lv' := p1_lv) i_0_25 rfl rfl ?_
  refine rq_slen i_0_26 hS rfl ?_
  refine rq_pure i_0_27 rfl ?_
  refine rq_topi (v := 6) (by decide) ?_
  refine rq_pure i_0_29 rfl ?_
  refine rq_topi (v := 0) (by decide) ?_
  refine rq_icgt (tg := 1340) i_0_30 ⟨by decide, by decide⟩ (fun q => absurd q (by decide)) (fun _ => ?_)
  refine rq_loc (lv' := p1_lv) i_0_33 rfl rfl ?_
  refine rq_loc (lv' := p1_lv) i_0_34 rfl rfl ?_
  refine rq_sald1 (x := xs 0) i_0_36 hS rfl (by decide) rfl ?_
  refine rq_pure i_0_37 rfl ?_
  refine rq_topi (v := 63) (by decide) ?_
  refine rq_pure i_0_39 rfl ?_
  by_cases h0 : xs 0 &&& 63 = 0
  · refine rq_tsk (tg := 188) (off := 148) (v := 0) i_0_40 h0 (by decide) (by decide) ⟨by decide, by decide⟩ ?_
    exact p1c_feed hL
  by_cases h1 : xs 0 &&& 63 = 1
  · refine rq_tsk (tg := 261) (off := 221) (v := 1) i_0_40 h1 (by decide) (by decide) ⟨by decide, by decide⟩ ?_
    exact p1c_end hL
  by_cases h2 : xs 0 &&& 63 = 2
  · refine rq_tsk (tg := 286) (off := 246) (v := 2) i_0_40 h2 (by decide) (by decide) ⟨by decide, by decide⟩ ?_
    exact p1c_out hL
  by_cases h3 : xs 0 &&& 63 = 3
  · refine rq_tsk (tg := 311) (off := 271) (v := 3) i_0_40 h3 (by decide) (by decide) ⟨by decide, by decide⟩ ?_
    exact p1c_compile hL
  by_cases h4 : xs 0 &&& 63 = 4
  · refine rq_tsk (tg := 355) (off := 315) (v := 4) i_0_40 h4 (by decide) (by decide) ⟨by decide, by decide⟩ ?_
    exact p1c_fault hL
  by_cases h5 : xs 0 &&& 63 = 5
  · refine rq_tsk (tg := 380) (off := 340) (v := 5) i_0_40 h5 (by decide) (by decide) ⟨by decide, by decide⟩ ?_
    exact p1c_tell hL
  by_cases h6 : xs 0 &&& 63 = 6
  · refine rq_tsk (tg := 393) (off := 353) (v := 6) i_0_40 h6 (by decide) (by decide) ⟨by decide, by decide⟩ ?_
    exact p1c_size hL
  by_cases h7 : xs 0 &&& 63 = 7
  · refine rq_tsk (tg := 430) (off := 390) (v := 7) i_0_40 h7 (by decide) (by decide) ⟨by decide, by decide⟩ ?_
    exact p1c_order hL
  by_cases h8 : xs 0 &&& 63 = 8
  · refine rq_tsk (tg := 491) (off := 451) (v := 8) i_0_40 h8 (by decide) (by decide) ⟨by decide, by decide⟩ ?_
    exact p1c_mark hL
  by_cases h9 : xs 0 &&& 63 = 9
  · refine rq_tsk (tg := 540) (off := 500) (v := 9) i_0_40 h9 (by decide) (by decide) ⟨by decide, by decide⟩ ?_
    exact p1c_give hL
  by_cases h10 : xs 0 &&& 63 = 10
  · refine rq_tsk (tg := 565) (off := 525) (v := 10) i_0_40 h10 (by decide) (by decide) ⟨by decide, by decide⟩ ?_
    exact p1c_file hL
  by_cases h11 : xs 0 &&& 63 = 11
  · refine rq_tsk (tg := 590) (off := 550) (v := 11) i_0_40 h11 (by decide) (by decide) ⟨by decide, by decide⟩ ?_
    exact p1c_effective hL
  by_cases h12 : xs 0 &&& 63 = 12
  · refine rq_tsk (tg := 627) (off := 587) (v := 12) i_0_40 h12 (by decide) (by decide) ⟨by decide, by decide⟩ ?_
    exact p1c_whence hL
  by_cases h13 : xs 0 &&& 63 = 13
  · refine rq_tsk (tg := 676) (off := 636) (v := 13) i_0_40 h13 (by decide) (by decide) ⟨by decide, by decide⟩ ?_
    exact p1c_ask hL
  by_cases h14 : xs 0 &&& 63 = 14
  · refine rq_tsk (tg := 737) (off := 697) (v := 14) i_0_40 h14 (by decide) (by decide) ⟨by decide, by decide⟩ ?_
    exact p1c_markOf hL
  by_cases h15 : xs 0 &&& 63 = 15
  · refine rq_tsk (tg := 774) (off := 734) (v := 15) i_0_40 h15 (by decide) (by decide) ⟨by decide, by decide⟩ ?_
    exact p1c_rounds hL
  by_cases h16 : xs 0 &&& 63 = 16
  · refine rq_tsk (tg := 787) (off := 747) (v := 16) i_0_40 h16 (by decide) (by decide) ⟨by decide, by decide⟩ ?_
    exact p1c_flow hL
  by_cases h17 : xs 0 &&& 63 = 17
  · refine rq_tsk (tg := 812) (off := 772) (v := 17) i_0_40 h17 (by decide) (by decide) ⟨by decide, by decide⟩ ?_
    exact p1c_error hL
  by_cases h18 : xs 0 &&& 63 = 18
  · refine rq_tsk (tg := 849) (off := 809) (v := 18) i_0_40 h18 (by decide) (by decide) ⟨by decide, by decide⟩ ?_
    exact p1c_way hL
  by_cases h19 : xs 0 &&& 63 = 19
  · refine rq_tsk (tg := 874) (off := 834) (v := 19) i_0_40 h19 (by decide) (by decide) ⟨by decide, by decide⟩ ?_
    exact p1c_step hL
  by_cases h20 : xs 0 &&& 63 = 20
  · refine rq_tsk (tg := 899) (off := 859) (v := 20) i_0_40 h20 (by decide) (by decide) ⟨by decide, by decide⟩ ?_
    exact p1c_state hL
  by_cases h21 : xs 0 &&& 63 = 21
  · refine rq_tsk (tg := 948) (off := 908) (v := 21) i_0_40 h21 (by decide) (by decide) ⟨by decide, by decide⟩ ?_
    exact p1c_find hL
  by_cases h22 : xs 0 &&& 63 = 22
  · refine rq_tsk (tg := 973) (off := 933) (v := 22) i_0_40 h22 (by decide) (by decide) ⟨by decide, by decide⟩ ?_
    exact p1c_plain hL
  by_cases h23 : xs 0 &&& 63 = 23
  · refine rq_tsk (tg := 998) (off := 958) (v := 23) i_0_40 h23 (by decide) (by decide) ⟨by decide, by decide⟩ ?_
    exact p1c_weave hL
  by_cases h24 : xs 0 &&& 63 = 24
  · refine rq_tsk (tg := 1011) (off := 971) (v := 24) i_0_40 h24 (by decide) (by decide) ⟨by decide, by decide⟩ ?_
    exact p1c_code hL
  by_cases h25 : xs 0 &&& 63 = 25
  · refine rq_tsk (tg := 1064) (off := 1024) (v := 25) i_0_40 h25 (by decide) (by decide) ⟨by decide, by decide⟩ ?_
    exact p1c_argument hL
  by_cases h26 : xs 0 &&& 63 = 26
  · refine rq_tsk (tg := 1101) (off := 1061) (v := 26) i_0_40 h26 (by decide) (by decide) ⟨by decide, by decide⟩ ?_
    exact p1c_input hL
  by_cases h27 : xs 0 &&& 63 = 27
  · refine rq_tsk (tg := 1126) (off := 1086) (v := 27) i_0_40 h27 (by decide) (by decide) ⟨by decide, by decide⟩ ?_
    exact p1c_begin hL
  by_cases h28 : xs 0 &&& 63 = 28
  · refine rq_tsk (tg := 1190) (off := 1150) (v := 28) i_0_40 h28 (by decide) (by decide) ⟨by decide, by decide⟩ ?_
    exact p1c_go hL hZ
  by_cases h29 : xs 0 &&& 63 = 29
  · refine rq_tsk (tg := 1246) (off := 1206) (v := 29) i_0_40 h29 (by decide) (by decide) ⟨by decide, by decide⟩ ?_
    exact p1c_run hL hZ
  by_cases h30 : xs 0 &&& 63 = 30
  · refine rq_tsk (tg := 1271) (off := 1231) (v := 30) i_0_40 h30 (by decide) (by decide) ⟨by decide, by decide⟩ ?_
    exact p1c_truth hL
  by_cases h31 : xs 0 &&& 63 = 31
  · refine rq_tsk (tg := 1296) (off := 1256) (v := 31) i_0_40 h31 (by decide) (by decide) ⟨by decide, by decide⟩ ?_
    exact p1c_wire hL
  by_cases h32 : xs 0 &&& 63 = 32
  · refine rq_tsk (tg := 1309) (off := 1269) (v := 32) i_0_40 h32 (by decide) (by decide) ⟨by decide, by decide⟩ ?_
    exact p1c_wired hL
  refine rq_tsd (tg := 1334) i_0_40 (rz_sw fun k k1 k2 => by
    have kk : k = 0 ∨ k = 1 ∨ k = 2 ∨ k = 3 ∨ k = 4 ∨ k = 5 ∨ k = 6 ∨ k = 7 ∨ k = 8 ∨ k = 9 ∨ k = 10 ∨ k = 11 ∨ k = 12 ∨ k = 13 ∨ k = 14 ∨ k = 15 ∨ k = 16 ∨ k = 17 ∨ k = 18 ∨ k = 19 ∨ k = 20 ∨ k = 21 ∨ k = 22 ∨ k = 23 ∨ k = 24 ∨ k = 25 ∨ k = 26 ∨ k = 27 ∨ k = 28 ∨ k = 29 ∨ k = 30 ∨ k = 31 ∨ k = 32 := by omega
    rcases kk with rfl | rfl | rfl | rfl | rfl | rfl | rfl | rfl | rfl | rfl | rfl | rfl | rfl | rfl | rfl | rfl | rfl | rfl | rfl | rfl | rfl | rfl | rfl | rfl | rfl | rfl | rfl | rfl | rfl | rfl | rfl | rfl | rfl
    · exact h0
    · exact h1
    · exact h2
    · exact h3
    · exact h4
    · exact h5
    · exact h6
    · exact h7
    · exact h8
    · exact h9
    · exact h10
    · exact h11
    · exact h12
    · exact h13
    · exact h14
    · exact h15
    · exact h16
    · exact h17
    · exact h18
    · exact h19
    · exact h20
    · exact h21
    · exact h22
    · exact h23
    · exact h24
    · exact h25
    · exact h26
    · exact h27
    · exact h28
    · exact h29
    · exact h30
    · exact h31
    · exact h32
    ) ⟨by decide, by decide⟩ ?_
  exact p1_tail hS rfl rfl
theorem p1_runs : rz_Runs := by
  intro fm L xs hfm hL
  have hall : rz_all fm = true := by
    rcases hfm with rfl | rfl
    · exact rz_allN
    · exact rz_allF
  obtain ⟨o, L2, c, n, ⟨f, hf⟩, h2, h3, rfl⟩ := p1_first hall hL xs
  exact ⟨f, L2, c, n, hf, h2, h3⟩
theorem i_vc : Claimed_1_1 ∧ Claimed_1_2 := rz_claim p1_runs
