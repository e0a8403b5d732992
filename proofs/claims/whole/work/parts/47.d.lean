/-! THE CODE AS PURE PROGRAMS, 6: by wip/whole/dc.py -/
section D47
variable {sc : Nat × (Nat → Int32)} {fm : Value}
theorem tf_172_4 : fo true 172 12 4 (.ref 114) := ⟨_, rfl, rfl, by decide, by decide⟩
theorem wc_329_104 : rx_ct (rt_P sc fm) 329 104 = some (0, 330, 1) := (by decide +kernel : rt_ct 329 104 = some (0, 330, 1))
theorem wc_329_204 : rx_ct (rt_P sc fm) 329 204 = some (0, 156, 1) := (by decide +kernel : rt_ct 329 204 = some (0, 156, 1))
theorem wc_329_51 : rx_ct (rt_P sc fm) 329 51 = some (0, 320, 1) := (by decide +kernel : rt_ct 329 51 = some (0, 320, 1))
theorem wc_329_54 : rx_ct (rt_P sc fm) 329 54 = some (0, 322, 1) := (by decide +kernel : rt_ct 329 54 = some (0, 322, 1))
theorem wc_329_88 : rx_ct (rt_P sc fm) 329 88 = some (0, 321, 1) := (by decide +kernel : rt_ct 329 88 = some (0, 321, 1))
theorem wf_329_195 : rx_ft (rt_P sc fm) 329 195 = some (2, 1) := (by decide +kernel : rt_ft 329 195 = some (2, 1))
theorem wf_329_198 : rx_ft (rt_P sc fm) 329 198 = some (2, 2) := (by decide +kernel : rt_ft 329 198 = some (2, 2))
theorem wf_329_201 : rx_ft (rt_P sc fm) 329 201 = some (2, 4) := (by decide +kernel : rt_ft 329 201 = some (2, 4))
theorem wf_329_23 : rx_ft (rt_P sc fm) 329 23 = some (12, 4) := (by decide +kernel : rt_ft 329 23 = some (12, 4))
theorem wi_329_0 : ri (rt_P sc fm) 329 0 (.aload_n 0) (1) := ri_of (by decide +kernel) rfl
theorem wi_329_1 : ri (rt_P sc fm) 329 1 (.sipush 204) (4) := ri_of (by decide +kernel) rfl
theorem wi_329_102 : ri (rt_P sc fm) 329 102 (.iload_n 1) (103) := ri_of (by decide +kernel) rfl
theorem wi_329_103 : ri (rt_P sc fm) 329 103 (.invokevirtual 204) (106) := ri_of (by decide +kernel) rfl
theorem wi_329_106 : ri (rt_P sc fm) 329 106 (.invokevirtual 104) (109) := ri_of (by decide +kernel) rfl
theorem wi_329_109 : ri (rt_P sc fm) 329 109 (.aload_n 0) (110) := ri_of (by decide +kernel) rfl
theorem wi_329_110 : ri (rt_P sc fm) 329 110 (.bipush 123) (112) := ri_of (by decide +kernel) rfl
theorem wi_329_112 : ri (rt_P sc fm) 329 112 (.invokevirtual 54) (115) := ri_of (by decide +kernel) rfl
theorem wi_329_115 : ri (rt_P sc fm) 329 115 (.return_) (116) := ri_of (by decide +kernel) rfl
theorem wi_329_12 : ri (rt_P sc fm) 329 12 (.getfield 195) (15) := ri_of (by decide +kernel) rfl
theorem wi_329_15 : ri (rt_P sc fm) 329 15 (.iload_n 1) (16) := ri_of (by decide +kernel) rfl
theorem wi_329_16 : ri (rt_P sc fm) 329 16 (.laload) (17) := ri_of (by decide +kernel) rfl
theorem wi_329_17 : ri (rt_P sc fm) 329 17 (.invokevirtual 51) (20) := ri_of (by decide +kernel) rfl
theorem wi_329_20 : ri (rt_P sc fm) 329 20 (.aload_n 0) (21) := ri_of (by decide +kernel) rfl
theorem wi_329_21 : ri (rt_P sc fm) 329 21 (.bipush 40) (23) := ri_of (by decide +kernel) rfl
theorem wi_329_23 : ri (rt_P sc fm) 329 23 (.invokevirtual 54) (26) := ri_of (by decide +kernel) rfl
theorem wi_329_26 : ri (rt_P sc fm) 329 26 (.iconst 0) (27) := ri_of (by decide +kernel) rfl
theorem wi_329_27 : ri (rt_P sc fm) 329 27 (.istore_n 2) (28) := ri_of (by decide +kernel) rfl
theorem wi_329_28 : ri (rt_P sc fm) 329 28 (.iload_n 2) (29) := ri_of (by decide +kernel) rfl
theorem wi_329_29 : ri (rt_P sc fm) 329 29 (.aload_n 0) (30) := ri_of (by decide +kernel) rfl
theorem wi_329_30 : ri (rt_P sc fm) 329 30 (.getfield 23) (33) := ri_of (by decide +kernel) rfl
theorem wi_329_33 : ri (rt_P sc fm) 329 33 (.getfield 198) (36) := ri_of (by decide +kernel) rfl
theorem wi_329_36 : ri (rt_P sc fm) 329 36 (.iload_n 1) (37) := ri_of (by decide +kernel) rfl
theorem wi_329_37 : ri (rt_P sc fm) 329 37 (.iaload) (38) := ri_of (by decide +kernel) rfl
theorem wi_329_38 : ri (rt_P sc fm) 329 38 (.if_icmp .ge 53) (41) := ri_of (by decide +kernel) rfl
theorem wi_329_4 : ri (rt_P sc fm) 329 4 (.invokevirtual 88) (7) := ri_of (by decide +kernel) rfl
theorem wi_329_41 : ri (rt_P sc fm) 329 41 (.iload_n 2) (42) := ri_of (by decide +kernel) rfl
theorem wi_329_42 : ri (rt_P sc fm) 329 42 (.ifCond .le 9) (45) := ri_of (by decide +kernel) rfl
theorem wi_329_45 : ri (rt_P sc fm) 329 45 (.aload_n 0) (46) := ri_of (by decide +kernel) rfl
theorem wi_329_46 : ri (rt_P sc fm) 329 46 (.bipush 44) (48) := ri_of (by decide +kernel) rfl
theorem wi_329_48 : ri (rt_P sc fm) 329 48 (.invokevirtual 54) (51) := ri_of (by decide +kernel) rfl
theorem wi_329_51 : ri (rt_P sc fm) 329 51 (.aload_n 0) (52) := ri_of (by decide +kernel) rfl
theorem wi_329_52 : ri (rt_P sc fm) 329 52 (.aload_n 0) (53) := ri_of (by decide +kernel) rfl
theorem wi_329_53 : ri (rt_P sc fm) 329 53 (.getfield 23) (56) := ri_of (by decide +kernel) rfl
theorem wi_329_56 : ri (rt_P sc fm) 329 56 (.getfield 201) (59) := ri_of (by decide +kernel) rfl
theorem wi_329_59 : ri (rt_P sc fm) 329 59 (.iload_n 1) (60) := ri_of (by decide +kernel) rfl
theorem wi_329_60 : ri (rt_P sc fm) 329 60 (.bipush 8) (62) := ri_of (by decide +kernel) rfl
theorem wi_329_62 : ri (rt_P sc fm) 329 62 (.imul) (63) := ri_of (by decide +kernel) rfl
theorem wi_329_63 : ri (rt_P sc fm) 329 63 (.iload_n 2) (64) := ri_of (by decide +kernel) rfl
theorem wi_329_64 : ri (rt_P sc fm) 329 64 (.iadd) (65) := ri_of (by decide +kernel) rfl
theorem wi_329_65 : ri (rt_P sc fm) 329 65 (.laload) (66) := ri_of (by decide +kernel) rfl
theorem wi_329_66 : ri (rt_P sc fm) 329 66 (.invokevirtual 51) (69) := ri_of (by decide +kernel) rfl
theorem wi_329_69 : ri (rt_P sc fm) 329 69 (.aload_n 0) (70) := ri_of (by decide +kernel) rfl
theorem wi_329_7 : ri (rt_P sc fm) 329 7 (.aload_n 0) (8) := ri_of (by decide +kernel) rfl
theorem wi_329_70 : ri (rt_P sc fm) 329 70 (.aload_n 0) (71) := ri_of (by decide +kernel) rfl
theorem wi_329_71 : ri (rt_P sc fm) 329 71 (.getfield 23) (74) := ri_of (by decide +kernel) rfl
theorem wi_329_74 : ri (rt_P sc fm) 329 74 (.iload_n 1) (75) := ri_of (by decide +kernel) rfl
theorem wi_329_75 : ri (rt_P sc fm) 329 75 (.invokevirtual 204) (78) := ri_of (by decide +kernel) rfl
theorem wi_329_78 : ri (rt_P sc fm) 329 78 (.iconst 1) (79) := ri_of (by decide +kernel) rfl
theorem wi_329_79 : ri (rt_P sc fm) 329 79 (.iadd) (80) := ri_of (by decide +kernel) rfl
theorem wi_329_8 : ri (rt_P sc fm) 329 8 (.aload_n 0) (9) := ri_of (by decide +kernel) rfl
theorem wi_329_80 : ri (rt_P sc fm) 329 80 (.iload_n 2) (81) := ri_of (by decide +kernel) rfl
theorem wi_329_81 : ri (rt_P sc fm) 329 81 (.iadd) (82) := ri_of (by decide +kernel) rfl
theorem wi_329_82 : ri (rt_P sc fm) 329 82 (.invokevirtual 104) (85) := ri_of (by decide +kernel) rfl
theorem wi_329_85 : ri (rt_P sc fm) 329 85 (.iinc 2 1) (88) := ri_of (by decide +kernel) rfl
theorem wi_329_88 : ri (rt_P sc fm) 329 88 (.goto (-60)) (91) := ri_of (by decide +kernel) rfl
theorem wi_329_9 : ri (rt_P sc fm) 329 9 (.getfield 23) (12) := ri_of (by decide +kernel) rfl
theorem wi_329_91 : ri (rt_P sc fm) 329 91 (.aload_n 0) (92) := ri_of (by decide +kernel) rfl
theorem wi_329_92 : ri (rt_P sc fm) 329 92 (.bipush 41) (94) := ri_of (by decide +kernel) rfl
theorem wi_329_94 : ri (rt_P sc fm) 329 94 (.invokevirtual 54) (97) := ri_of (by decide +kernel) rfl
theorem wi_329_97 : ri (rt_P sc fm) 329 97 (.aload_n 0) (98) := ri_of (by decide +kernel) rfl
theorem wi_329_98 : ri (rt_P sc fm) 329 98 (.aload_n 0) (99) := ri_of (by decide +kernel) rfl
theorem wi_329_99 : ri (rt_P sc fm) 329 99 (.getfield 23) (102) := ri_of (by decide +kernel) rfl
theorem wr_329 : rx_rt (rt_P sc fm) 329 = none := (by decide +kernel : rt_rt 329 = none)
/-- MarkHouse$Teller.writeMethodHead(I)V -/
def d_329 (n : Nat) (a1 : Int32) (c : cS) : Option (cS) :=
  Option.bind (d_321 n 204 c) (fun r1 =>
  if ib a1 96 then
  Option.bind (d_320 n (r1.2 115 (ix a1)) r1) (fun r3 =>
  Option.bind (d_322 n 40 r3) (fun r4 =>
  Option.bind (whl (R := (cS)) (fun s6 : Int32 × cS =>
    if ib a1 96 then
    if (s6.2.1 116 (ix a1)) ≤ s6.1 then
      some (.inr s6.2)
    else
      jn (fun p8 : cS =>
        if ib ((a1 * 8) + s6.1) 768 then
        Option.bind (d_320 n (p8.2 118 (ix ((a1 * 8) + s6.1))) p8) (fun r10 =>
        Option.bind (d_156 n a1) (fun v11 =>
        Option.bind (d_330 n ((v11 + 1) + s6.1) r10) (fun r12 =>
        lt (s6.1 + 1 : Int32) (fun v14 =>
        some (.inl (v14, r12))))))
        else none)
      (fun j51 =>
      if s6.1 ≤ 0 then
        j51 s6.2
      else
        Option.bind (d_322 n 44 s6.2) (fun r16 =>
        j51 r16))
    else none) n (0, r4))
  (fun x17 : cS =>
    Option.bind (d_322 n 41 x17) (fun r18 =>
    Option.bind (d_156 n a1) (fun v19 =>
    Option.bind (d_330 n v19 r18) (fun r20 =>
    Option.bind (d_322 n 123 r20) (fun r21 =>
    some r21)))))))
  else none)
theorem sp_329 {F Lo n : Nat} {a1 : Int32} {c y : cS} {w : cW} {K : cS → Prop} {Q : ((Option Value) ⊕ String) → List va_E → Prop} (hw : rOK fm w) (hF : 8 ≤ F) (hLo : 178 ≤ Lo)  (h : wp (d_329 n a1 c) K) (hQ : ∀ r, K r → Q (.inl none) (hq true r y w)) : rs (rt_P sc fm) 329 F Lo 0 [(0, .ref 172), (1, .int a1)] [] (hq true c y w) Q := by
  unfold d_329 at h
  obtain ⟨lv, elv⟩ : ∃ lv : rx_L, lv = [(0, .ref 172), (1, .int a1)] := ⟨_, rfl⟩
  rw [← elv]
  have l0 : rx_ld lv 0 = some (.ref 172) := by rw [elv]; rfl
  have l1 : rx_ld lv 1 = some (.int a1) := by rw [elv]; rfl
  refine rs_aldn wi_329_0 l0 ?_
  refine rs_pure wi_329_1 rfl ?_
  refine rs_topi (v := 204) (by decide) ?_
  refine rs_V wi_329_4 wc_329_88 rfl (dq_isa tf_172_0 wa_12_321) (Nat.le_trans (by decide) hF) (ml_le wm_321 (Nat.le_trans (by decide) hLo)) rfl (sp_321 hw (Nat.le_trans (by decide : 3 ≤ 8 - 1) (Nat.sub_le_sub_right hF 1)) (ml_sub wm_321 (Nat.le_trans (by decide : 67 ≤ 178 - 21) (Nat.sub_le_sub_right hLo 21))) (wp_bind h) (fun r1 h => rs_back0 ?_))
  refine rs_aldn wi_329_7 l0 ?_
  refine rs_aldn wi_329_8 l0 ?_
  refine dq_gr wi_329_9 wf_329_23 tf_172_4 ?_
  refine dq_gr wi_329_12 wf_329_195 tf_114_1 ?_
  refine rs_ildn wi_329_15 l1 ?_
  obtain ⟨g2, h⟩ := wp_gd h
  refine dq_lald wi_329_16 t_115 g2 ?_
  refine rs_V wi_329_17 wc_329_51 rfl (dq_isa tf_172_0 wa_12_320) (Nat.le_trans (by decide) hF) (ml_le wm_320 (Nat.le_trans (by decide) hLo)) rfl (sp_320 hw (Nat.le_trans (by decide : 2 ≤ 8 - 1) (Nat.sub_le_sub_right hF 1)) (ml_sub wm_320 (Nat.le_trans (by decide : 45 ≤ 178 - 22) (Nat.sub_le_sub_right hLo 22))) (wp_bind h) (fun r3 h => rs_back0 ?_))
  refine rs_aldn wi_329_20 l0 ?_
  refine rs_pure wi_329_21 rfl ?_
  refine rs_topi (v := 40) (by decide) ?_
  refine rs_V wi_329_23 wc_329_54 rfl (dq_isa tf_172_0 wa_12_322) (Nat.le_trans (by decide) hF) (ml_le wm_322 (Nat.le_trans (by decide) hLo)) rfl (sp_322 hw (Nat.le_trans (by decide : 1 ≤ 8 - 1) (Nat.sub_le_sub_right hF 1)) (ml_sub wm_322 (Nat.le_trans (by decide : 21 ≤ 178 - 21) (Nat.sub_le_sub_right hLo 21))) (wp_bind h) (fun r4 h => rs_back0 ?_))
  refine rs_pure wi_329_26 rfl ?_
  refine rs_topi (v := 0) (by decide) ?_
  refine dl_istn wi_329_27 rfl (fun lv l2 t5 => ?_)
  have l0 := t5 _ _ (by decide) (Or.inl rfl) l0
  have l1 := t5 _ _ (by decide) (Or.inl rfl) l1
  refine whl_ex (A := fun s6 : Int32 × cS => ∀ lv, rx_ld lv 0 = some (.ref 172) → rx_ld lv 1 = some (.int a1) → rx_ld lv 2 = some (.int s6.1) → rs (rt_P sc fm) 329 F Lo 28 lv [] (hq true s6.2 y w) Q) (B := (fun x17 : cS => ∀ lv, rx_ld lv 0 = some (.ref 172) → rx_ld lv 1 = some (.int a1) → rs (rt_P sc fm) 329 F Lo 91 lv [] (hq true x17 y w) Q)) ?_ ?_ _ _ (wp_bind h) _ l0 l1 l2
  · intro s6 h lv l0 l1 l2
    refine rs_ildn wi_329_28 l2 ?_
    refine rs_aldn wi_329_29 l0 ?_
    refine dq_gr wi_329_30 wf_329_23 tf_172_4 ?_
    refine dq_gr wi_329_33 wf_329_198 tf_114_2 ?_
    refine rs_ildn wi_329_36 l1 ?_
    obtain ⟨g7, h⟩ := wp_gd h
    refine dq_iald wi_329_37 t_116 g7 ?_
    refine rs_icge (tg := 91) wi_329_38 ⟨by decide, by decide⟩ (fun q => ?_) (fun q => ?_)
    ·
      have h := wp_pos h q
      exact h _ l0 l1
    ·
      have h := wp_neg h q
      refine rs_ildn wi_329_41 l2 ?_
      refine wp_jn (B := fun p8 : cS => ∀ lv, rx_ld lv 0 = some (.ref 172) → rx_ld lv 1 = some (.int a1) → rx_ld lv 2 = some (.int s6.1) → rs (rt_P sc fm) 329 F Lo 51 lv [] (hq true p8 y w) Q) h (fun p8 h lv l0 l1 l2 => ?_) (fun j51 hj51 h => ?_)
      ·
        refine rs_aldn wi_329_51 l0 ?_
        refine rs_aldn wi_329_52 l0 ?_
        refine dq_gr wi_329_53 wf_329_23 tf_172_4 ?_
        refine dq_gr wi_329_56 wf_329_201 tf_114_4 ?_
        refine rs_ildn wi_329_59 l1 ?_
        refine rs_pure wi_329_60 rfl ?_
        refine rs_topi (v := 8) (by decide) ?_
        refine rs_pure wi_329_62 rfl ?_
        refine rs_ildn wi_329_63 l2 ?_
        refine rs_pure wi_329_64 rfl ?_
        obtain ⟨g9, h⟩ := wp_gd h
        refine dq_lald wi_329_65 t_118 g9 ?_
        refine rs_V wi_329_66 wc_329_51 rfl (dq_isa tf_172_0 wa_12_320) (Nat.le_trans (by decide) hF) (ml_le wm_320 (Nat.le_trans (by decide) hLo)) rfl (sp_320 hw (Nat.le_trans (by decide : 2 ≤ 8 - 1) (Nat.sub_le_sub_right hF 1)) (ml_sub wm_320 (Nat.le_trans (by decide : 45 ≤ 178 - 22) (Nat.sub_le_sub_right hLo 22))) (wp_bind h) (fun r10 h => rs_back0 ?_))
        refine rs_aldn wi_329_69 l0 ?_
        refine rs_aldn wi_329_70 l0 ?_
        refine dq_gr wi_329_71 wf_329_23 tf_172_4 ?_
        refine rs_ildn wi_329_74 l1 ?_
        refine rs_V wi_329_75 wc_329_204 rfl (dq_isa tf_114_0 wa_2_156) (Nat.le_trans (by decide) hF) (ml_le wm_156 (Nat.le_trans (by decide) hLo)) rfl (sp_156 (Nat.le_trans (by decide : 0 ≤ 8 - 1) (Nat.sub_le_sub_right hF 1)) (ml_sub wm_156 (Nat.le_trans (by decide : 0 ≤ 178 - 21) (Nat.sub_le_sub_right hLo 21))) (wp_bind h) (fun v11 h => rs_back1 ?_))
        refine rs_pure wi_329_78 rfl ?_
        refine rs_topi (v := 1) (by decide) ?_
        refine rs_pure wi_329_79 rfl ?_
        refine rs_ildn wi_329_80 l2 ?_
        refine rs_pure wi_329_81 rfl ?_
        refine rs_V wi_329_82 wc_329_104 rfl (dq_isa tf_172_0 wa_12_330) (Nat.le_trans (by decide) hF) (ml_le wm_330 (Nat.le_trans (by decide) hLo)) rfl (sp_330 hw (Nat.le_trans (by decide : 7 ≤ 8 - 1) (Nat.sub_le_sub_right hF 1)) (ml_sub wm_330 (Nat.le_trans (by decide : 155 ≤ 178 - 23) (Nat.sub_le_sub_right hLo 23))) (wp_bind h) (fun r12 h => rs_back0 ?_))
        obtain ⟨v14, e15, h⟩ := wp_lt h
        refine dl_inc wi_329_85 l2 rfl e15 (fun lv l2 t13 => ?_)
        have l0 := t13 _ _ (by decide) (Or.inl rfl) l0
        have l1 := t13 _ _ (by decide) (Or.inl rfl) l1
        refine rs_goto (tg := 28) wi_329_88 ⟨by decide, by decide⟩ ?_
        exact h _ l0 l1 l2
      refine rs_ifle (tg := 51) wi_329_42 ⟨by decide, by decide⟩ (fun q => ?_) (fun q => ?_)
      ·
        have h := wp_pos h q
        exact hj51 _ h _ l0 l1 l2
      ·
        have h := wp_neg h q
        refine rs_aldn wi_329_45 l0 ?_
        refine rs_pure wi_329_46 rfl ?_
        refine rs_topi (v := 44) (by decide) ?_
        refine rs_V wi_329_48 wc_329_54 rfl (dq_isa tf_172_0 wa_12_322) (Nat.le_trans (by decide) hF) (ml_le wm_322 (Nat.le_trans (by decide) hLo)) rfl (sp_322 hw (Nat.le_trans (by decide : 1 ≤ 8 - 1) (Nat.sub_le_sub_right hF 1)) (ml_sub wm_322 (Nat.le_trans (by decide : 21 ≤ 178 - 21) (Nat.sub_le_sub_right hLo 21))) (wp_bind h) (fun r16 h => rs_back0 ?_))
        exact hj51 _ h _ l0 l1 l2
  ·
    intro x17 h lv l0 l1
    refine rs_aldn wi_329_91 l0 ?_
    refine rs_pure wi_329_92 rfl ?_
    refine rs_topi (v := 41) (by decide) ?_
    refine rs_V wi_329_94 wc_329_54 rfl (dq_isa tf_172_0 wa_12_322) (Nat.le_trans (by decide) hF) (ml_le wm_322 (Nat.le_trans (by decide) hLo)) rfl (sp_322 hw (Nat.le_trans (by decide : 1 ≤ 8 - 1) (Nat.sub_le_sub_right hF 1)) (ml_sub wm_322 (Nat.le_trans (by decide : 21 ≤ 178 - 21) (Nat.sub_le_sub_right hLo 21))) (wp_bind h) (fun r18 h => rs_back0 ?_))
    refine rs_aldn wi_329_97 l0 ?_
    refine rs_aldn wi_329_98 l0 ?_
    refine dq_gr wi_329_99 wf_329_23 tf_172_4 ?_
    refine rs_ildn wi_329_102 l1 ?_
    refine rs_V wi_329_103 wc_329_204 rfl (dq_isa tf_114_0 wa_2_156) (Nat.le_trans (by decide) hF) (ml_le wm_156 (Nat.le_trans (by decide) hLo)) rfl (sp_156 (Nat.le_trans (by decide : 0 ≤ 8 - 1) (Nat.sub_le_sub_right hF 1)) (ml_sub wm_156 (Nat.le_trans (by decide : 0 ≤ 178 - 21) (Nat.sub_le_sub_right hLo 21))) (wp_bind h) (fun v19 h => rs_back1 ?_))
    refine rs_V wi_329_106 wc_329_104 rfl (dq_isa tf_172_0 wa_12_330) (Nat.le_trans (by decide) hF) (ml_le wm_330 (Nat.le_trans (by decide) hLo)) rfl (sp_330 hw (Nat.le_trans (by decide : 7 ≤ 8 - 1) (Nat.sub_le_sub_right hF 1)) (ml_sub wm_330 (Nat.le_trans (by decide : 155 ≤ 178 - 23) (Nat.sub_le_sub_right hLo 23))) (wp_bind h) (fun r20 h => rs_back0 ?_))
    refine rs_aldn wi_329_109 l0 ?_
    refine rs_pure wi_329_110 rfl ?_
    refine rs_topi (v := 123) (by decide) ?_
    refine rs_V wi_329_112 wc_329_54 rfl (dq_isa tf_172_0 wa_12_322) (Nat.le_trans (by decide) hF) (ml_le wm_322 (Nat.le_trans (by decide) hLo)) rfl (sp_322 hw (Nat.le_trans (by decide : 1 ≤ 8 - 1) (Nat.sub_le_sub_right hF 1)) (ml_sub wm_322 (Nat.le_trans (by decide : 21 ≤ 178 - 21) (Nat.sub_le_sub_right hLo 21))) (wp_bind h) (fun r21 h => rs_back0 ?_))
    exact rs_vret wi_329_115 wr_329 (hQ r21 h)
theorem wc_334_51 : rx_ct (rt_P sc fm) 334 51 = some (0, 320, 1) := (by decide +kernel : rt_ct 334 51 = some (0, 320, 1))
theorem wc_334_54 : rx_ct (rt_P sc fm) 334 54 = some (0, 322, 1) := (by decide +kernel : rt_ct 334 54 = some (0, 322, 1))
theorem wf_334_131 : rx_ft (rt_P sc fm) 334 131 = some (8, 0) := (by decide +kernel : rt_ft 334 131 = some (8, 0))
theorem wf_334_137 : rx_ft (rt_P sc fm) 334 137 = some (8, 4) := (by decide +kernel : rt_ft 334 137 = some (8, 4))
theorem wf_334_19 : rx_ft (rt_P sc fm) 334 19 = some (12, 3) := (by decide +kernel : rt_ft 334 19 = some (12, 3))
theorem wf_334_66 : rx_ft (rt_P sc fm) 334 66 = some (9, 1) := (by decide +kernel : rt_ft 334 66 = some (9, 1))
theorem wi_334_0 : ri (rt_P sc fm) 334 0 (.aload_n 0) (1) := ri_of (by decide +kernel) rfl
theorem wi_334_1 : ri (rt_P sc fm) 334 1 (.aload_n 0) (2) := ri_of (by decide +kernel) rfl
theorem wi_334_10 : ri (rt_P sc fm) 334 10 (.getfield 131) (13) := ri_of (by decide +kernel) rfl
theorem wi_334_13 : ri (rt_P sc fm) 334 13 (.invokevirtual 51) (16) := ri_of (by decide +kernel) rfl
theorem wi_334_16 : ri (rt_P sc fm) 334 16 (.aload_n 0) (17) := ri_of (by decide +kernel) rfl
theorem wi_334_17 : ri (rt_P sc fm) 334 17 (.bipush 46) (19) := ri_of (by decide +kernel) rfl
theorem wi_334_19 : ri (rt_P sc fm) 334 19 (.invokevirtual 54) (22) := ri_of (by decide +kernel) rfl
theorem wi_334_2 : ri (rt_P sc fm) 334 2 (.getfield 19) (5) := ri_of (by decide +kernel) rfl
theorem wi_334_22 : ri (rt_P sc fm) 334 22 (.aload_n 0) (23) := ri_of (by decide +kernel) rfl
theorem wi_334_23 : ri (rt_P sc fm) 334 23 (.aload_n 0) (24) := ri_of (by decide +kernel) rfl
theorem wi_334_24 : ri (rt_P sc fm) 334 24 (.getfield 19) (27) := ri_of (by decide +kernel) rfl
theorem wi_334_27 : ri (rt_P sc fm) 334 27 (.getfield 66) (30) := ri_of (by decide +kernel) rfl
theorem wi_334_30 : ri (rt_P sc fm) 334 30 (.iload_n 1) (31) := ri_of (by decide +kernel) rfl
theorem wi_334_31 : ri (rt_P sc fm) 334 31 (.aaload) (32) := ri_of (by decide +kernel) rfl
theorem wi_334_32 : ri (rt_P sc fm) 334 32 (.getfield 137) (35) := ri_of (by decide +kernel) rfl
theorem wi_334_35 : ri (rt_P sc fm) 334 35 (.iload_n 2) (36) := ri_of (by decide +kernel) rfl
theorem wi_334_36 : ri (rt_P sc fm) 334 36 (.laload) (37) := ri_of (by decide +kernel) rfl
theorem wi_334_37 : ri (rt_P sc fm) 334 37 (.invokevirtual 51) (40) := ri_of (by decide +kernel) rfl
theorem wi_334_40 : ri (rt_P sc fm) 334 40 (.return_) (41) := ri_of (by decide +kernel) rfl
theorem wi_334_5 : ri (rt_P sc fm) 334 5 (.getfield 66) (8) := ri_of (by decide +kernel) rfl
theorem wi_334_8 : ri (rt_P sc fm) 334 8 (.iload_n 1) (9) := ri_of (by decide +kernel) rfl
theorem wi_334_9 : ri (rt_P sc fm) 334 9 (.aaload) (10) := ri_of (by decide +kernel) rfl
theorem wr_334 : rx_rt (rt_P sc fm) 334 = none := (by decide +kernel : rt_rt 334 = none)
/-- MarkHouse$Teller.writeOrderElement(II)V -/
def d_334 (n : Nat) (a1 : Int32) (a2 : Int32) (c : cS) : Option (cS) :=
  if ib a1 4 then
  Option.bind (d_320 n (c.2 (oA (ix a1)) 0) c) (fun r2 =>
  Option.bind (d_322 n 46 r2) (fun r3 =>
  if ib a1 4 then
  if ib a2 12 then
  Option.bind (d_320 n (r3.2 (oA (ix a1) + 1) (ix a2)) r3) (fun r6 =>
  some r6)
  else none
  else none))
  else none
theorem sp_334 {F Lo n : Nat} {a1 : Int32} {a2 : Int32} {c y : cS} {w : cW} {K : cS → Prop} {Q : ((Option Value) ⊕ String) → List va_E → Prop} (hw : rOK fm w) (hF : 3 ≤ F) (hLo : 67 ≤ Lo)  (h : wp (d_334 n a1 a2 c) K) (hQ : ∀ r, K r → Q (.inl none) (hq true r y w)) : rs (rt_P sc fm) 334 F Lo 0 [(0, .ref 172), (1, .int a1), (2, .int a2)] [] (hq true c y w) Q := by
  unfold d_334 at h
  obtain ⟨lv, elv⟩ : ∃ lv : rx_L, lv = [(0, .ref 172), (1, .int a1), (2, .int a2)] := ⟨_, rfl⟩
  rw [← elv]
  have l0 : rx_ld lv 0 = some (.ref 172) := by rw [elv]; rfl
  have l1 : rx_ld lv 1 = some (.int a1) := by rw [elv]; rfl
  have l2 : rx_ld lv 2 = some (.int a2) := by rw [elv]; rfl
  refine rs_aldn wi_334_0 l0 ?_
  refine rs_aldn wi_334_1 l0 ?_
  refine dq_gr wi_334_2 wf_334_19 tf_172_3 ?_
  refine dq_gr wi_334_5 wf_334_66 tf_7_1 ?_
  refine rs_ildn wi_334_8 l1 ?_
  obtain ⟨g1, h⟩ := wp_gd h
  refine dq_aald wi_334_9 (by decide) t_8 g1 (hw.1 _ (ib_lt g1)) ?_
  refine dq_gl wi_334_10 wf_334_131 (fO_0 (ib_lt g1)) ?_
  refine rs_V wi_334_13 wc_334_51 rfl (dq_isa tf_172_0 wa_12_320) (Nat.le_trans (by decide) hF) (ml_le wm_320 (Nat.le_trans (by decide) hLo)) rfl (sp_320 hw (Nat.le_trans (by decide : 2 ≤ 3 - 1) (Nat.sub_le_sub_right hF 1)) (ml_sub wm_320 (Nat.le_trans (by decide : 45 ≤ 67 - 22) (Nat.sub_le_sub_right hLo 22))) (wp_bind h) (fun r2 h => rs_back0 ?_))
  refine rs_aldn wi_334_16 l0 ?_
  refine rs_pure wi_334_17 rfl ?_
  refine rs_topi (v := 46) (by decide) ?_
  refine rs_V wi_334_19 wc_334_54 rfl (dq_isa tf_172_0 wa_12_322) (Nat.le_trans (by decide) hF) (ml_le wm_322 (Nat.le_trans (by decide) hLo)) rfl (sp_322 hw (Nat.le_trans (by decide : 1 ≤ 3 - 1) (Nat.sub_le_sub_right hF 1)) (ml_sub wm_322 (Nat.le_trans (by decide : 21 ≤ 67 - 21) (Nat.sub_le_sub_right hLo 21))) (wp_bind h) (fun r3 h => rs_back0 ?_))
  refine rs_aldn wi_334_22 l0 ?_
  refine rs_aldn wi_334_23 l0 ?_
  refine dq_gr wi_334_24 wf_334_19 tf_172_3 ?_
  refine dq_gr wi_334_27 wf_334_66 tf_7_1 ?_
  refine rs_ildn wi_334_30 l1 ?_
  obtain ⟨g4, h⟩ := wp_gd h
  refine dq_aald wi_334_31 (by decide) t_8 g4 (hw.1 _ (ib_lt g4)) ?_
  refine dq_gr wi_334_32 wf_334_137 (fO_4 (ib_lt g4)) ?_
  refine rs_ildn wi_334_35 l2 ?_
  obtain ⟨g5, h⟩ := wp_gd h
  refine dq_lald wi_334_36 (tO_1 (ib_lt g4)) g5 ?_
  refine rs_V wi_334_37 wc_334_51 rfl (dq_isa tf_172_0 wa_12_320) (Nat.le_trans (by decide) hF) (ml_le wm_320 (Nat.le_trans (by decide) hLo)) rfl (sp_320 hw (Nat.le_trans (by decide : 2 ≤ 3 - 1) (Nat.sub_le_sub_right hF 1)) (ml_sub wm_320 (Nat.le_trans (by decide : 45 ≤ 67 - 22) (Nat.sub_le_sub_right hLo 22))) (wp_bind h) (fun r6 h => rs_back0 ?_))
  exact rs_vret wi_334_40 wr_334 (hQ r6 h)
theorem wa_12_334 : rz_cn 12 (rx_yn (rt_P sc fm) 334).cls = true := (by decide +kernel : rz_cn 12 (rt_yn 334).cls = true)
theorem wc_333_104 : rx_ct (rt_P sc fm) 333 104 = some (0, 330, 1) := (by decide +kernel : rt_ct 333 104 = some (0, 330, 1))
theorem wc_333_158 : rx_ct (rt_P sc fm) 333 158 = some (0, 323, 2) := (by decide +kernel : rt_ct 333 158 = some (0, 323, 2))
theorem wc_333_264 : rx_ct (rt_P sc fm) 333 264 = some (0, 334, 2) := (by decide +kernel : rt_ct 333 264 = some (0, 334, 2))
theorem wc_333_51 : rx_ct (rt_P sc fm) 333 51 = some (0, 320, 1) := (by decide +kernel : rt_ct 333 51 = some (0, 320, 1))
theorem wc_333_54 : rx_ct (rt_P sc fm) 333 54 = some (0, 322, 1) := (by decide +kernel : rt_ct 333 54 = some (0, 322, 1))
theorem wc_333_88 : rx_ct (rt_P sc fm) 333 88 = some (0, 321, 1) := (by decide +kernel : rt_ct 333 88 = some (0, 321, 1))
theorem wf_333_201 : rx_ft (rt_P sc fm) 333 201 = some (2, 4) := (by decide +kernel : rt_ft 333 201 = some (2, 4))
theorem wf_333_23 : rx_ft (rt_P sc fm) 333 23 = some (12, 4) := (by decide +kernel : rt_ft 333 23 = some (12, 4))
theorem wf_333_248 : rx_ft (rt_P sc fm) 333 248 = some (2, 14) := (by decide +kernel : rt_ft 333 248 = some (2, 14))
theorem wf_333_251 : rx_ft (rt_P sc fm) 333 251 = some (2, 8) := (by decide +kernel : rt_ft 333 251 = some (2, 8))
theorem wf_333_254 : rx_ft (rt_P sc fm) 333 254 = some (2, 9) := (by decide +kernel : rt_ft 333 254 = some (2, 9))
theorem wf_333_257 : rx_ft (rt_P sc fm) 333 257 = some (2, 15) := (by decide +kernel : rt_ft 333 257 = some (2, 15))
theorem wf_333_260 : rx_ft (rt_P sc fm) 333 260 = some (2, 16) := (by decide +kernel : rt_ft 333 260 = some (2, 16))
theorem wf_333_263 : rx_ft (rt_P sc fm) 333 263 = some (2, 10) := (by decide +kernel : rt_ft 333 263 = some (2, 10))
theorem wf_333_268 : rx_ft (rt_P sc fm) 333 268 = some (2, 11) := (by decide +kernel : rt_ft 333 268 = some (2, 11))
theorem wi_333_0 : ri (rt_P sc fm) 333 0 (.iload_n 3) (1) := ri_of (by decide +kernel) rfl
theorem wi_333_1 : ri (rt_P sc fm) 333 1 (.ifCond .ge 36) (4) := ri_of (by decide +kernel) rfl
theorem wi_333_11 : ri (rt_P sc fm) 333 11 (.iload_n 2) (12) := ri_of (by decide +kernel) rfl
theorem wi_333_12 : ri (rt_P sc fm) 333 12 (.laload) (13) := ri_of (by decide +kernel) rfl
theorem wi_333_13 : ri (rt_P sc fm) 333 13 (.lconst 0) (14) := ri_of (by decide +kernel) rfl
theorem wi_333_14 : ri (rt_P sc fm) 333 14 (.lcmp) (15) := ri_of (by decide +kernel) rfl
theorem wi_333_140 : ri (rt_P sc fm) 333 140 (.aload_n 0) (141) := ri_of (by decide +kernel) rfl
theorem wi_333_141 : ri (rt_P sc fm) 333 141 (.iconst 1) (142) := ri_of (by decide +kernel) rfl
theorem wi_333_142 : ri (rt_P sc fm) 333 142 (.aload_n 0) (143) := ri_of (by decide +kernel) rfl
theorem wi_333_143 : ri (rt_P sc fm) 333 143 (.getfield 23) (146) := ri_of (by decide +kernel) rfl
theorem wi_333_146 : ri (rt_P sc fm) 333 146 (.getfield 254) (149) := ri_of (by decide +kernel) rfl
theorem wi_333_149 : ri (rt_P sc fm) 333 149 (.iload_n 2) (150) := ri_of (by decide +kernel) rfl
theorem wi_333_15 : ri (rt_P sc fm) 333 15 (.ifCond .eq 22) (18) := ri_of (by decide +kernel) rfl
theorem wi_333_150 : ri (rt_P sc fm) 333 150 (.iaload) (151) := ri_of (by decide +kernel) rfl
theorem wi_333_151 : ri (rt_P sc fm) 333 151 (.i2l) (152) := ri_of (by decide +kernel) rfl
theorem wi_333_152 : ri (rt_P sc fm) 333 152 (.invokevirtual 158) (155) := ri_of (by decide +kernel) rfl
theorem wi_333_155 : ri (rt_P sc fm) 333 155 (.aload_n 0) (156) := ri_of (by decide +kernel) rfl
theorem wi_333_156 : ri (rt_P sc fm) 333 156 (.sipush 1218) (159) := ri_of (by decide +kernel) rfl
theorem wi_333_159 : ri (rt_P sc fm) 333 159 (.iload_n 2) (160) := ri_of (by decide +kernel) rfl
theorem wi_333_160 : ri (rt_P sc fm) 333 160 (.iadd) (161) := ri_of (by decide +kernel) rfl
theorem wi_333_161 : ri (rt_P sc fm) 333 161 (.invokevirtual 104) (164) := ri_of (by decide +kernel) rfl
theorem wi_333_164 : ri (rt_P sc fm) 333 164 (.goto 104) (167) := ri_of (by decide +kernel) rfl
theorem wi_333_167 : ri (rt_P sc fm) 333 167 (.aload_n 0) (168) := ri_of (by decide +kernel) rfl
theorem wi_333_168 : ri (rt_P sc fm) 333 168 (.sipush 1218) (171) := ri_of (by decide +kernel) rfl
theorem wi_333_171 : ri (rt_P sc fm) 333 171 (.iload_n 2) (172) := ri_of (by decide +kernel) rfl
theorem wi_333_172 : ri (rt_P sc fm) 333 172 (.iadd) (173) := ri_of (by decide +kernel) rfl
theorem wi_333_173 : ri (rt_P sc fm) 333 173 (.invokevirtual 104) (176) := ri_of (by decide +kernel) rfl
theorem wi_333_176 : ri (rt_P sc fm) 333 176 (.goto 92) (179) := ri_of (by decide +kernel) rfl
theorem wi_333_179 : ri (rt_P sc fm) 333 179 (.aload_n 0) (180) := ri_of (by decide +kernel) rfl
theorem wi_333_18 : ri (rt_P sc fm) 333 18 (.aload_n 0) (19) := ri_of (by decide +kernel) rfl
theorem wi_333_180 : ri (rt_P sc fm) 333 180 (.aload_n 0) (181) := ri_of (by decide +kernel) rfl
theorem wi_333_181 : ri (rt_P sc fm) 333 181 (.getfield 23) (184) := ri_of (by decide +kernel) rfl
theorem wi_333_184 : ri (rt_P sc fm) 333 184 (.getfield 201) (187) := ri_of (by decide +kernel) rfl
theorem wi_333_187 : ri (rt_P sc fm) 333 187 (.iload_n 1) (188) := ri_of (by decide +kernel) rfl
theorem wi_333_188 : ri (rt_P sc fm) 333 188 (.bipush 8) (190) := ri_of (by decide +kernel) rfl
theorem wi_333_19 : ri (rt_P sc fm) 333 19 (.aload_n 0) (20) := ri_of (by decide +kernel) rfl
theorem wi_333_190 : ri (rt_P sc fm) 333 190 (.imul) (191) := ri_of (by decide +kernel) rfl
theorem wi_333_191 : ri (rt_P sc fm) 333 191 (.aload_n 0) (192) := ri_of (by decide +kernel) rfl
theorem wi_333_192 : ri (rt_P sc fm) 333 192 (.getfield 23) (195) := ri_of (by decide +kernel) rfl
theorem wi_333_195 : ri (rt_P sc fm) 333 195 (.getfield 254) (198) := ri_of (by decide +kernel) rfl
theorem wi_333_198 : ri (rt_P sc fm) 333 198 (.iload_n 2) (199) := ri_of (by decide +kernel) rfl
theorem wi_333_199 : ri (rt_P sc fm) 333 199 (.iaload) (200) := ri_of (by decide +kernel) rfl
theorem wi_333_20 : ri (rt_P sc fm) 333 20 (.getfield 23) (23) := ri_of (by decide +kernel) rfl
theorem wi_333_200 : ri (rt_P sc fm) 333 200 (.iadd) (201) := ri_of (by decide +kernel) rfl
theorem wi_333_201 : ri (rt_P sc fm) 333 201 (.laload) (202) := ri_of (by decide +kernel) rfl
theorem wi_333_202 : ri (rt_P sc fm) 333 202 (.invokevirtual 51) (205) := ri_of (by decide +kernel) rfl
theorem wi_333_205 : ri (rt_P sc fm) 333 205 (.goto 63) (208) := ri_of (by decide +kernel) rfl
theorem wi_333_208 : ri (rt_P sc fm) 333 208 (.aload_n 0) (209) := ri_of (by decide +kernel) rfl
theorem wi_333_209 : ri (rt_P sc fm) 333 209 (.aload_n 0) (210) := ri_of (by decide +kernel) rfl
theorem wi_333_210 : ri (rt_P sc fm) 333 210 (.getfield 23) (213) := ri_of (by decide +kernel) rfl
theorem wi_333_213 : ri (rt_P sc fm) 333 213 (.getfield 257) (216) := ri_of (by decide +kernel) rfl
theorem wi_333_216 : ri (rt_P sc fm) 333 216 (.iload_n 2) (217) := ri_of (by decide +kernel) rfl
theorem wi_333_217 : ri (rt_P sc fm) 333 217 (.laload) (218) := ri_of (by decide +kernel) rfl
theorem wi_333_218 : ri (rt_P sc fm) 333 218 (.invokevirtual 51) (221) := ri_of (by decide +kernel) rfl
theorem wi_333_221 : ri (rt_P sc fm) 333 221 (.aload_n 0) (222) := ri_of (by decide +kernel) rfl
theorem wi_333_222 : ri (rt_P sc fm) 333 222 (.bipush 46) (224) := ri_of (by decide +kernel) rfl
theorem wi_333_224 : ri (rt_P sc fm) 333 224 (.invokevirtual 54) (227) := ri_of (by decide +kernel) rfl
theorem wi_333_227 : ri (rt_P sc fm) 333 227 (.aload_n 0) (228) := ri_of (by decide +kernel) rfl
theorem wi_333_228 : ri (rt_P sc fm) 333 228 (.aload_n 0) (229) := ri_of (by decide +kernel) rfl
theorem wi_333_229 : ri (rt_P sc fm) 333 229 (.getfield 23) (232) := ri_of (by decide +kernel) rfl
theorem wi_333_23 : ri (rt_P sc fm) 333 23 (.getfield 248) (26) := ri_of (by decide +kernel) rfl
theorem wi_333_232 : ri (rt_P sc fm) 333 232 (.getfield 260) (235) := ri_of (by decide +kernel) rfl
theorem wi_333_235 : ri (rt_P sc fm) 333 235 (.iload_n 2) (236) := ri_of (by decide +kernel) rfl
theorem wi_333_236 : ri (rt_P sc fm) 333 236 (.laload) (237) := ri_of (by decide +kernel) rfl
theorem wi_333_237 : ri (rt_P sc fm) 333 237 (.invokevirtual 51) (240) := ri_of (by decide +kernel) rfl
theorem wi_333_240 : ri (rt_P sc fm) 333 240 (.goto 28) (243) := ri_of (by decide +kernel) rfl
theorem wi_333_243 : ri (rt_P sc fm) 333 243 (.aload_n 0) (244) := ri_of (by decide +kernel) rfl
theorem wi_333_244 : ri (rt_P sc fm) 333 244 (.aload_n 0) (245) := ri_of (by decide +kernel) rfl
theorem wi_333_245 : ri (rt_P sc fm) 333 245 (.getfield 23) (248) := ri_of (by decide +kernel) rfl
theorem wi_333_248 : ri (rt_P sc fm) 333 248 (.getfield 263) (251) := ri_of (by decide +kernel) rfl
theorem wi_333_251 : ri (rt_P sc fm) 333 251 (.iload_n 2) (252) := ri_of (by decide +kernel) rfl
theorem wi_333_252 : ri (rt_P sc fm) 333 252 (.iaload) (253) := ri_of (by decide +kernel) rfl
theorem wi_333_253 : ri (rt_P sc fm) 333 253 (.aload_n 0) (254) := ri_of (by decide +kernel) rfl
theorem wi_333_254 : ri (rt_P sc fm) 333 254 (.getfield 23) (257) := ri_of (by decide +kernel) rfl
theorem wi_333_257 : ri (rt_P sc fm) 333 257 (.getfield 254) (260) := ri_of (by decide +kernel) rfl
theorem wi_333_26 : ri (rt_P sc fm) 333 26 (.iload_n 2) (27) := ri_of (by decide +kernel) rfl
theorem wi_333_260 : ri (rt_P sc fm) 333 260 (.iload_n 2) (261) := ri_of (by decide +kernel) rfl
theorem wi_333_261 : ri (rt_P sc fm) 333 261 (.iaload) (262) := ri_of (by decide +kernel) rfl
theorem wi_333_262 : ri (rt_P sc fm) 333 262 (.invokevirtual 264) (265) := ri_of (by decide +kernel) rfl
theorem wi_333_265 : ri (rt_P sc fm) 333 265 (.goto 3) (268) := ri_of (by decide +kernel) rfl
theorem wi_333_268 : ri (rt_P sc fm) 333 268 (.aload_n 0) (269) := ri_of (by decide +kernel) rfl
theorem wi_333_269 : ri (rt_P sc fm) 333 269 (.getfield 23) (272) := ri_of (by decide +kernel) rfl
theorem wi_333_27 : ri (rt_P sc fm) 333 27 (.laload) (28) := ri_of (by decide +kernel) rfl
theorem wi_333_272 : ri (rt_P sc fm) 333 272 (.getfield 268) (275) := ri_of (by decide +kernel) rfl
theorem wi_333_275 : ri (rt_P sc fm) 333 275 (.iload_n 2) (276) := ri_of (by decide +kernel) rfl
theorem wi_333_276 : ri (rt_P sc fm) 333 276 (.iaload) (277) := ri_of (by decide +kernel) rfl
theorem wi_333_277 : ri (rt_P sc fm) 333 277 (.ifCond .lt 23) (280) := ri_of (by decide +kernel) rfl
theorem wi_333_28 : ri (rt_P sc fm) 333 28 (.invokevirtual 51) (31) := ri_of (by decide +kernel) rfl
theorem wi_333_280 : ri (rt_P sc fm) 333 280 (.iload_n 3) (281) := ri_of (by decide +kernel) rfl
theorem wi_333_281 : ri (rt_P sc fm) 333 281 (.ifCond .ge 19) (284) := ri_of (by decide +kernel) rfl
theorem wi_333_284 : ri (rt_P sc fm) 333 284 (.aload_n 0) (285) := ri_of (by decide +kernel) rfl
theorem wi_333_285 : ri (rt_P sc fm) 333 285 (.aload_n 0) (286) := ri_of (by decide +kernel) rfl
theorem wi_333_286 : ri (rt_P sc fm) 333 286 (.getfield 23) (289) := ri_of (by decide +kernel) rfl
theorem wi_333_289 : ri (rt_P sc fm) 333 289 (.getfield 257) (292) := ri_of (by decide +kernel) rfl
theorem wi_333_292 : ri (rt_P sc fm) 333 292 (.iload_n 2) (293) := ri_of (by decide +kernel) rfl
theorem wi_333_293 : ri (rt_P sc fm) 333 293 (.laload) (294) := ri_of (by decide +kernel) rfl
theorem wi_333_294 : ri (rt_P sc fm) 333 294 (.invokevirtual 51) (297) := ri_of (by decide +kernel) rfl
theorem wi_333_297 : ri (rt_P sc fm) 333 297 (.goto 22) (300) := ri_of (by decide +kernel) rfl
theorem wi_333_300 : ri (rt_P sc fm) 333 300 (.aload_n 0) (301) := ri_of (by decide +kernel) rfl
theorem wi_333_301 : ri (rt_P sc fm) 333 301 (.getfield 23) (304) := ri_of (by decide +kernel) rfl
theorem wi_333_304 : ri (rt_P sc fm) 333 304 (.getfield 268) (307) := ri_of (by decide +kernel) rfl
theorem wi_333_307 : ri (rt_P sc fm) 333 307 (.iload_n 2) (308) := ri_of (by decide +kernel) rfl
theorem wi_333_308 : ri (rt_P sc fm) 333 308 (.iaload) (309) := ri_of (by decide +kernel) rfl
theorem wi_333_309 : ri (rt_P sc fm) 333 309 (.ifCond .lt 10) (312) := ri_of (by decide +kernel) rfl
theorem wi_333_31 : ri (rt_P sc fm) 333 31 (.aload_n 0) (32) := ri_of (by decide +kernel) rfl
theorem wi_333_312 : ri (rt_P sc fm) 333 312 (.aload_n 0) (313) := ri_of (by decide +kernel) rfl
theorem wi_333_313 : ri (rt_P sc fm) 333 313 (.iconst 1) (314) := ri_of (by decide +kernel) rfl
theorem wi_333_314 : ri (rt_P sc fm) 333 314 (.iload_n 3) (315) := ri_of (by decide +kernel) rfl
theorem wi_333_315 : ri (rt_P sc fm) 333 315 (.i2l) (316) := ri_of (by decide +kernel) rfl
theorem wi_333_316 : ri (rt_P sc fm) 333 316 (.invokevirtual 158) (319) := ri_of (by decide +kernel) rfl
theorem wi_333_319 : ri (rt_P sc fm) 333 319 (.aload_n 0) (320) := ri_of (by decide +kernel) rfl
theorem wi_333_32 : ri (rt_P sc fm) 333 32 (.bipush 58) (34) := ri_of (by decide +kernel) rfl
theorem wi_333_320 : ri (rt_P sc fm) 333 320 (.bipush 59) (322) := ri_of (by decide +kernel) rfl
theorem wi_333_322 : ri (rt_P sc fm) 333 322 (.invokevirtual 54) (325) := ri_of (by decide +kernel) rfl
theorem wi_333_325 : ri (rt_P sc fm) 333 325 (.return_) (326) := ri_of (by decide +kernel) rfl
theorem wi_333_34 : ri (rt_P sc fm) 333 34 (.invokevirtual 54) (37) := ri_of (by decide +kernel) rfl
theorem wi_333_37 : ri (rt_P sc fm) 333 37 (.aload_n 0) (38) := ri_of (by decide +kernel) rfl
theorem wi_333_38 : ri (rt_P sc fm) 333 38 (.aload_n 0) (39) := ri_of (by decide +kernel) rfl
theorem wi_333_39 : ri (rt_P sc fm) 333 39 (.getfield 23) (42) := ri_of (by decide +kernel) rfl
theorem wi_333_4 : ri (rt_P sc fm) 333 4 (.aload_n 0) (5) := ri_of (by decide +kernel) rfl
theorem wi_333_42 : ri (rt_P sc fm) 333 42 (.getfield 251) (45) := ri_of (by decide +kernel) rfl
theorem wi_333_45 : ri (rt_P sc fm) 333 45 (.iload_n 2) (46) := ri_of (by decide +kernel) rfl
theorem wi_333_46 : ri (rt_P sc fm) 333 46 (.iaload) (47) := ri_of (by decide +kernel) rfl
theorem wi_333_47 : ri (rt_P sc fm) 333 47 (.invokevirtual 88) (50) := ri_of (by decide +kernel) rfl
theorem wi_333_5 : ri (rt_P sc fm) 333 5 (.getfield 23) (8) := ri_of (by decide +kernel) rfl
theorem wi_333_50 : ri (rt_P sc fm) 333 50 (.aload_n 0) (51) := ri_of (by decide +kernel) rfl
theorem wi_333_51 : ri (rt_P sc fm) 333 51 (.getfield 23) (54) := ri_of (by decide +kernel) rfl
theorem wi_333_54 : ri (rt_P sc fm) 333 54 (.getfield 251) (57) := ri_of (by decide +kernel) rfl
theorem wi_333_57 : ri (rt_P sc fm) 333 57 (.iload_n 2) (58) := ri_of (by decide +kernel) rfl
theorem wi_333_58 : ri (rt_P sc fm) 333 58 (.iaload) (59) := ri_of (by decide +kernel) rfl
theorem wi_333_59 : ri (rt_P sc fm) 333 59 (.tableswitch 209 214 230 #[81, 108, 120, 120, 149, 149, 149, 209, 209, 209, 209, 209, 209, 209, 209, 184, 184]) (59 + rx_len (.tableswitch 209 214 230 #[81, 108, 120, 120, 149, 149, 149, 209, 209, 209, 209, 209, 209, 209, 209, 184, 184])) := ri_of (by decide +kernel) rfl
theorem wi_333_8 : ri (rt_P sc fm) 333 8 (.getfield 248) (11) := ri_of (by decide +kernel) rfl
theorem wm_334 : rx_ml (rt_P sc fm) 334 = 3 := (by decide +kernel : rt_ml 334 = 3)
theorem wr_333 : rx_rt (rt_P sc fm) 333 = none := (by decide +kernel : rt_rt 333 = none)
/-- MarkHouse$Teller.writeAct(III)V -/
def d_333 (n : Nat) (a1 : Int32) (a2 : Int32) (a3 : Int32) (c : cS) : Option (cS) :=
  jn (fun p1 : cS =>
    if ib a2 1024 then
    Option.bind (d_321 n (p1.1 121 (ix a2)) p1) (fun r3 =>
    if ib a2 1024 then
    jn (fun p5 : cS =>
      if ib a2 1024 then
      jn (fun p7 : cS =>
        Option.bind (d_322 n 59 p7) (fun r8 =>
        some r8))
      (fun j319 =>
      jn (fun p9 : Unit =>
        if ib a2 1024 then
        if (p5.1 124 (ix a2)) < 0 then
          j319 p5
        else
          Option.bind (d_323 n 1 ((a3 : Int32).toInt64) p5) (fun r11 =>
          j319 r11)
        else none)
      (fun j300 =>
      if (p5.1 124 (ix a2)) < 0 then
        j300 ()
      else
        if 0 ≤ a3 then
          j300 ()
        else
          if ib a2 1024 then
          Option.bind (d_320 n (p5.2 128 (ix a2)) p5) (fun r13 =>
          j319 r13)
          else none))
      else none)
    (fun j268 =>
    jn (fun p14 : Unit =>
      if ib a2 1024 then
      if ib ((a1 * 8) + (r3.1 122 (ix a2))) 768 then
      Option.bind (d_320 n (r3.2 118 (ix ((a1 * 8) + (r3.1 122 (ix a2))))) r3) (fun r17 =>
      j268 r17)
      else none
      else none)
    (fun j179 =>
    jn (fun p18 : Unit =>
      if ib a2 1024 then
      Option.bind (d_320 n (r3.2 128 (ix a2)) r3) (fun r20 =>
      Option.bind (d_322 n 46 r20) (fun r21 =>
      if ib a2 1024 then
      Option.bind (d_320 n (r21.2 129 (ix a2)) r21) (fun r23 =>
      j268 r23)
      else none))
      else none)
    (fun j208 =>
    jn (fun p24 : Unit =>
      if ib a2 1024 then
      if ib a2 1024 then
      Option.bind (d_334 n (r3.1 123 (ix a2)) (r3.1 122 (ix a2)) r3) (fun r27 =>
      j268 r27)
      else none
      else none)
    (fun j243 =>
    if (r3.1 121 (ix a2)) = 214 then
      if ib a2 1024 then
      Option.bind (d_323 n 1 (((r3.1 122 (ix a2)) : Int32).toInt64) r3) (fun r30 =>
      Option.bind (d_330 n (1218 + a2) r30) (fun r31 =>
      j268 r31))
      else none
    else
    if (r3.1 121 (ix a2)) = 215 then
      Option.bind (d_330 n (1218 + a2) r3) (fun r33 =>
      j268 r33)
    else
    if (r3.1 121 (ix a2)) = 216 then
      j179 ()
    else
    if (r3.1 121 (ix a2)) = 217 then
      j179 ()
    else
    if (r3.1 121 (ix a2)) = 218 then
      j208 ()
    else
    if (r3.1 121 (ix a2)) = 219 then
      j208 ()
    else
    if (r3.1 121 (ix a2)) = 220 then
      j208 ()
    else
    if (r3.1 121 (ix a2)) = 221 then
      j268 r3
    else
    if (r3.1 121 (ix a2)) = 222 then
      j268 r3
    else
    if (r3.1 121 (ix a2)) = 223 then
      j268 r3
    else
    if (r3.1 121 (ix a2)) = 224 then
      j268 r3
    else
    if (r3.1 121 (ix a2)) = 225 then
      j268 r3
    else
    if (r3.1 121 (ix a2)) = 226 then
      j268 r3
    else
    if (r3.1 121 (ix a2)) = 227 then
      j268 r3
    else
    if (r3.1 121 (ix a2)) = 228 then
      j268 r3
    else
    if (r3.1 121 (ix a2)) = 229 then
      j243 ()
    else
    if (r3.1 121 (ix a2)) = 230 then
      j243 ()
    else
    j268 r3))))
    else none)
    else none)
  (fun j37 =>
  if 0 ≤ a3 then
    j37 c
  else
    if ib a2 1024 then
    if (lg_cmp (c.2 127 (ix a2)) 0) = 0 then
      j37 c
    else
      if ib a2 1024 then
      Option.bind (d_320 n (c.2 127 (ix a2)) c) (fun r51 =>
      Option.bind (d_322 n 58 r51) (fun r52 =>
      j37 r52))
      else none
    else none)
theorem sp_333 {F Lo n : Nat} {a1 : Int32} {a2 : Int32} {a3 : Int32} {c y : cS} {w : cW} {K : cS → Prop} {Q : ((Option Value) ⊕ String) → List va_E → Prop} (hw : rOK fm w) (hF : 8 ≤ F) (hLo : 178 ≤ Lo)  (h : wp (d_333 n a1 a2 a3 c) K) (hQ : ∀ r, K r → Q (.inl none) (hq true r y w)) : rs (rt_P sc fm) 333 F Lo 0 [(0, .ref 172), (1, .int a1), (2, .int a2), (3, .int a3)] [] (hq true c y w) Q := by
  unfold d_333 at h
  obtain ⟨lv, elv⟩ : ∃ lv : rx_L, lv = [(0, .ref 172), (1, .int a1), (2, .int a2), (3, .int a3)] := ⟨_, rfl⟩
  rw [← elv]
  have l0 : rx_ld lv 0 = some (.ref 172) := by rw [elv]; rfl
  have l1 : rx_ld lv 1 = some (.int a1) := by rw [elv]; rfl
  have l2 : rx_ld lv 2 = some (.int a2) := by rw [elv]; rfl
  have l3 : rx_ld lv 3 = some (.int a3) := by rw [elv]; rfl
  refine rs_ildn wi_333_0 l3 ?_
  refine wp_jn (B := fun p1 : cS => ∀ lv, rx_ld lv 0 = some (.ref 172) → rx_ld lv 1 = some (.int a1) → rx_ld lv 2 = some (.int a2) → rx_ld lv 3 = some (.int a3) → rs (rt_P sc fm) 333 F Lo 37 lv [] (hq true p1 y w) Q) h (fun p1 h lv l0 l1 l2 l3 => ?_) (fun j37 hj37 h => ?_)
  ·
    refine rs_aldn wi_333_37 l0 ?_
    refine rs_aldn wi_333_38 l0 ?_
    refine dq_gr wi_333_39 wf_333_23 tf_172_4 ?_
    refine dq_gr wi_333_42 wf_333_251 tf_114_8 ?_
    refine rs_ildn wi_333_45 l2 ?_
    obtain ⟨g2, h⟩ := wp_gd h
    refine dq_iald wi_333_46 t_121 g2 ?_
    refine rs_V wi_333_47 wc_333_88 rfl (dq_isa tf_172_0 wa_12_321) (Nat.le_trans (by decide) hF) (ml_le wm_321 (Nat.le_trans (by decide) hLo)) rfl (sp_321 hw (Nat.le_trans (by decide : 3 ≤ 8 - 1) (Nat.sub_le_sub_right hF 1)) (ml_sub wm_321 (Nat.le_trans (by decide : 67 ≤ 178 - 21) (Nat.sub_le_sub_right hLo 21))) (wp_bind h) (fun r3 h => rs_back0 ?_))
    refine rs_aldn wi_333_50 l0 ?_
    refine dq_gr wi_333_51 wf_333_23 tf_172_4 ?_
    refine dq_gr wi_333_54 wf_333_251 tf_114_8 ?_
    refine rs_ildn wi_333_57 l2 ?_
    obtain ⟨g4, h⟩ := wp_gd h
    refine dq_iald wi_333_58 t_121 g4 ?_
    refine wp_jn (B := fun p5 : cS => ∀ lv, rx_ld lv 0 = some (.ref 172) → rx_ld lv 2 = some (.int a2) → rx_ld lv 3 = some (.int a3) → rs (rt_P sc fm) 333 F Lo 268 lv [] (hq true p5 y w) Q) h (fun p5 h lv l0 l2 l3 => ?_) (fun j268 hj268 h => ?_)
    ·
      refine rs_aldn wi_333_268 l0 ?_
      refine dq_gr wi_333_269 wf_333_23 tf_172_4 ?_
      refine dq_gr wi_333_272 wf_333_268 tf_114_11 ?_
      refine rs_ildn wi_333_275 l2 ?_
      obtain ⟨g6, h⟩ := wp_gd h
      refine dq_iald wi_333_276 t_124 g6 ?_
      refine wp_jn (B := fun p7 : cS => ∀ lv, rx_ld lv 0 = some (.ref 172) → rs (rt_P sc fm) 333 F Lo 319 lv [] (hq true p7 y w) Q) h (fun p7 h lv l0 => ?_) (fun j319 hj319 h => ?_)
      ·
        refine rs_aldn wi_333_319 l0 ?_
        refine rs_pure wi_333_320 rfl ?_
        refine rs_topi (v := 59) (by decide) ?_
        refine rs_V wi_333_322 wc_333_54 rfl (dq_isa tf_172_0 wa_12_322) (Nat.le_trans (by decide) hF) (ml_le wm_322 (Nat.le_trans (by decide) hLo)) rfl (sp_322 hw (Nat.le_trans (by decide : 1 ≤ 8 - 1) (Nat.sub_le_sub_right hF 1)) (ml_sub wm_322 (Nat.le_trans (by decide : 21 ≤ 178 - 21) (Nat.sub_le_sub_right hLo 21))) (wp_bind h) (fun r8 h => rs_back0 ?_))
        exact rs_vret wi_333_325 wr_333 (hQ r8 h)
      refine wp_jn (B := fun p9 : Unit => ∀ lv, rx_ld lv 0 = some (.ref 172) → rx_ld lv 2 = some (.int a2) → rx_ld lv 3 = some (.int a3) → rs (rt_P sc fm) 333 F Lo 300 lv [] (hq true p5 y w) Q) h (fun p9 h lv l0 l2 l3 => ?_) (fun j300 hj300 h => ?_)
      ·
        refine rs_aldn wi_333_300 l0 ?_
        refine dq_gr wi_333_301 wf_333_23 tf_172_4 ?_
        refine dq_gr wi_333_304 wf_333_268 tf_114_11 ?_
        refine rs_ildn wi_333_307 l2 ?_
        obtain ⟨g10, h⟩ := wp_gd h
        refine dq_iald wi_333_308 t_124 g10 ?_
        refine rs_iflt (tg := 319) wi_333_309 ⟨by decide, by decide⟩ (fun q => ?_) (fun q => ?_)
        ·
          have h := wp_pos h q
          exact hj319 _ h _ l0
        ·
          have h := wp_neg h q
          refine rs_aldn wi_333_312 l0 ?_
          refine rs_pure wi_333_313 rfl ?_
          refine rs_topi (v := 1) (by decide) ?_
          refine rs_ildn wi_333_314 l3 ?_
          refine rs_pure wi_333_315 rfl ?_
          refine rs_V wi_333_316 wc_333_158 rfl (dq_isa tf_172_0 wa_12_323) (Nat.le_trans (by decide) hF) (ml_le wm_323 (Nat.le_trans (by decide) hLo)) rfl (sp_323 hw (Nat.le_trans (by decide : 2 ≤ 8 - 1) (Nat.sub_le_sub_right hF 1)) (ml_sub wm_323 (Nat.le_trans (by decide : 47 ≤ 178 - 23) (Nat.sub_le_sub_right hLo 23))) (wp_bind h) (fun r11 h => rs_back0 ?_))
          exact hj319 _ h _ l0
      refine rs_iflt (tg := 300) wi_333_277 ⟨by decide, by decide⟩ (fun q => ?_) (fun q => ?_)
      ·
        have h := wp_pos h q
        exact hj300 _ h _ l0 l2 l3
      ·
        have h := wp_neg h q
        refine rs_ildn wi_333_280 l3 ?_
        refine rs_ifge (tg := 300) wi_333_281 ⟨by decide, by decide⟩ (fun q => ?_) (fun q => ?_)
        ·
          have h := wp_pos h q
          exact hj300 _ h _ l0 l2 l3
        ·
          have h := wp_neg h q
          refine rs_aldn wi_333_284 l0 ?_
          refine rs_aldn wi_333_285 l0 ?_
          refine dq_gr wi_333_286 wf_333_23 tf_172_4 ?_
          refine dq_gr wi_333_289 wf_333_257 tf_114_15 ?_
          refine rs_ildn wi_333_292 l2 ?_
          obtain ⟨g12, h⟩ := wp_gd h
          refine dq_lald wi_333_293 t_128 g12 ?_
          refine rs_V wi_333_294 wc_333_51 rfl (dq_isa tf_172_0 wa_12_320) (Nat.le_trans (by decide) hF) (ml_le wm_320 (Nat.le_trans (by decide) hLo)) rfl (sp_320 hw (Nat.le_trans (by decide : 2 ≤ 8 - 1) (Nat.sub_le_sub_right hF 1)) (ml_sub wm_320 (Nat.le_trans (by decide : 45 ≤ 178 - 22) (Nat.sub_le_sub_right hLo 22))) (wp_bind h) (fun r13 h => rs_back0 ?_))
          refine rs_goto (tg := 319) wi_333_297 ⟨by decide, by decide⟩ ?_
          exact hj319 _ h _ l0
    refine wp_jn (B := fun p14 : Unit => ∀ lv, rx_ld lv 0 = some (.ref 172) → rx_ld lv 1 = some (.int a1) → rx_ld lv 2 = some (.int a2) → rx_ld lv 3 = some (.int a3) → rs (rt_P sc fm) 333 F Lo 179 lv [] (hq true r3 y w) Q) h (fun p14 h lv l0 l1 l2 l3 => ?_) (fun j179 hj179 h => ?_)
    ·
      refine rs_aldn wi_333_179 l0 ?_
      refine rs_aldn wi_333_180 l0 ?_
      refine dq_gr wi_333_181 wf_333_23 tf_172_4 ?_
      refine dq_gr wi_333_184 wf_333_201 tf_114_4 ?_
      refine rs_ildn wi_333_187 l1 ?_
      refine rs_pure wi_333_188 rfl ?_
      refine rs_topi (v := 8) (by decide) ?_
      refine rs_pure wi_333_190 rfl ?_
      refine rs_aldn wi_333_191 l0 ?_
      refine dq_gr wi_333_192 wf_333_23 tf_172_4 ?_
      refine dq_gr wi_333_195 wf_333_254 tf_114_9 ?_
      refine rs_ildn wi_333_198 l2 ?_
      obtain ⟨g15, h⟩ := wp_gd h
      refine dq_iald wi_333_199 t_122 g15 ?_
      refine rs_pure wi_333_200 rfl ?_
      obtain ⟨g16, h⟩ := wp_gd h
      refine dq_lald wi_333_201 t_118 g16 ?_
      refine rs_V wi_333_202 wc_333_51 rfl (dq_isa tf_172_0 wa_12_320) (Nat.le_trans (by decide) hF) (ml_le wm_320 (Nat.le_trans (by decide) hLo)) rfl (sp_320 hw (Nat.le_trans (by decide : 2 ≤ 8 - 1) (Nat.sub_le_sub_right hF 1)) (ml_sub wm_320 (Nat.le_trans (by decide : 45 ≤ 178 - 22) (Nat.sub_le_sub_right hLo 22))) (wp_bind h) (fun r17 h => rs_back0 ?_))
      refine rs_goto (tg := 268) wi_333_205 ⟨by decide, by decide⟩ ?_
      exact hj268 _ h _ l0 l2 l3
    refine wp_jn (B := fun p18 : Unit => ∀ lv, rx_ld lv 0 = some (.ref 172) → rx_ld lv 2 = some (.int a2) → rx_ld lv 3 = some (.int a3) → rs (rt_P sc fm) 333 F Lo 208 lv [] (hq true r3 y w) Q) h (fun p18 h lv l0 l2 l3 => ?_) (fun j208 hj208 h => ?_)
    ·
      refine rs_aldn wi_333_208 l0 ?_
      refine rs_aldn wi_333_209 l0 ?_
      refine dq_gr wi_333_210 wf_333_23 tf_172_4 ?_
      refine dq_gr wi_333_213 wf_333_257 tf_114_15 ?_
      refine rs_ildn wi_333_216 l2 ?_
      obtain ⟨g19, h⟩ := wp_gd h
      refine dq_lald wi_333_217 t_128 g19 ?_
      refine rs_V wi_333_218 wc_333_51 rfl (dq_isa tf_172_0 wa_12_320) (Nat.le_trans (by decide) hF) (ml_le wm_320 (Nat.le_trans (by decide) hLo)) rfl (sp_320 hw (Nat.le_trans (by decide : 2 ≤ 8 - 1) (Nat.sub_le_sub_right hF 1)) (ml_sub wm_320 (Nat.le_trans (by decide : 45 ≤ 178 - 22) (Nat.sub_le_sub_right hLo 22))) (wp_bind h) (fun r20 h => rs_back0 ?_))
      refine rs_aldn wi_333_221 l0 ?_
      refine rs_pure wi_333_222 rfl ?_
      refine rs_topi (v := 46) (by decide) ?_
      refine rs_V wi_333_224 wc_333_54 rfl (dq_isa tf_172_0 wa_12_322) (Nat.le_trans (by decide) hF) (ml_le wm_322 (Nat.le_trans (by decide) hLo)) rfl (sp_322 hw (Nat.le_trans (by decide : 1 ≤ 8 - 1) (Nat.sub_le_sub_right hF 1)) (ml_sub wm_322 (Nat.le_trans (by decide : 21 ≤ 178 - 21) (Nat.sub_le_sub_right hLo 21))) (wp_bind h) (fun r21 h => rs_back0 ?_))
      refine rs_aldn wi_333_227 l0 ?_
      refine rs_aldn wi_333_228 l0 ?_
      refine dq_gr wi_333_229 wf_333_23 tf_172_4 ?_
      refine dq_gr wi_333_232 wf_333_260 tf_114_16 ?_
      refine rs_ildn wi_333_235 l2 ?_
      obtain ⟨g22, h⟩ := wp_gd h
      refine dq_lald wi_333_236 t_129 g22 ?_
      refine rs_V wi_333_237 wc_333_51 rfl (dq_isa tf_172_0 wa_12_320) (Nat.le_trans (by decide) hF) (ml_le wm_320 (Nat.le_trans (by decide) hLo)) rfl (sp_320 hw (Nat.le_trans (by decide : 2 ≤ 8 - 1) (Nat.sub_le_sub_right hF 1)) (ml_sub wm_320 (Nat.le_trans (by decide : 45 ≤ 178 - 22) (Nat.sub_le_sub_right hLo 22))) (wp_bind h) (fun r23 h => rs_back0 ?_))
      refine rs_goto (tg := 268) wi_333_240 ⟨by decide, by decide⟩ ?_
      exact hj268 _ h _ l0 l2 l3
    refine wp_jn (B := fun p24 : Unit => ∀ lv, rx_ld lv 0 = some (.ref 172) → rx_ld lv 2 = some (.int a2) → rx_ld lv 3 = some (.int a3) → rs (rt_P sc fm) 333 F Lo 243 lv [] (hq true r3 y w) Q) h (fun p24 h lv l0 l2 l3 => ?_) (fun j243 hj243 h => ?_)
    ·
      refine rs_aldn wi_333_243 l0 ?_
      refine rs_aldn wi_333_244 l0 ?_
      refine dq_gr wi_333_245 wf_333_23 tf_172_4 ?_
      refine dq_gr wi_333_248 wf_333_263 tf_114_10 ?_
      refine rs_ildn wi_333_251 l2 ?_
      obtain ⟨g25, h⟩ := wp_gd h
      refine dq_iald wi_333_252 t_123 g25 ?_
      refine rs_aldn wi_333_253 l0 ?_
      refine dq_gr wi_333_254 wf_333_23 tf_172_4 ?_
      refine dq_gr wi_333_257 wf_333_254 tf_114_9 ?_
      refine rs_ildn wi_333_260 l2 ?_
      obtain ⟨g26, h⟩ := wp_gd h
      refine dq_iald wi_333_261 t_122 g26 ?_
      refine rs_V wi_333_262 wc_333_264 rfl (dq_isa tf_172_0 wa_12_334) (Nat.le_trans (by decide) hF) (ml_le wm_334 (Nat.le_trans (by decide) hLo)) rfl (sp_334 hw (Nat.le_trans (by decide : 3 ≤ 8 - 1) (Nat.sub_le_sub_right hF 1)) (ml_sub wm_334 (Nat.le_trans (by decide : 67 ≤ 178 - 22) (Nat.sub_le_sub_right hLo 22))) (wp_bind h) (fun r27 h => rs_back0 ?_))
      refine rs_goto (tg := 268) wi_333_265 ⟨by decide, by decide⟩ ?_
      exact hj268 _ h _ l0 l2 l3
    by_cases q28 : (r3.1 121 (ix a2)) = 214
    ·
      have h := wp_pos h q28
      refine rs_tsk (tg := 140) (off := 81) (v := 214) wi_333_59 q28 (by decide) (by decide) ⟨by decide, by decide⟩ ?_
      refine rs_aldn wi_333_140 l0 ?_
      refine rs_pure wi_333_141 rfl ?_
      refine rs_topi (v := 1) (by decide) ?_
      refine rs_aldn wi_333_142 l0 ?_
      refine dq_gr wi_333_143 wf_333_23 tf_172_4 ?_
      refine dq_gr wi_333_146 wf_333_254 tf_114_9 ?_
      refine rs_ildn wi_333_149 l2 ?_
      obtain ⟨g29, h⟩ := wp_gd h
      refine dq_iald wi_333_150 t_122 g29 ?_
      refine rs_pure wi_333_151 rfl ?_
      refine rs_V wi_333_152 wc_333_158 rfl (dq_isa tf_172_0 wa_12_323) (Nat.le_trans (by decide) hF) (ml_le wm_323 (Nat.le_trans (by decide) hLo)) rfl (sp_323 hw (Nat.le_trans (by decide : 2 ≤ 8 - 1) (Nat.sub_le_sub_right hF 1)) (ml_sub wm_323 (Nat.le_trans (by decide : 47 ≤ 178 - 23) (Nat.sub_le_sub_right hLo 23))) (wp_bind h) (fun r30 h => rs_back0 ?_))
      refine rs_aldn wi_333_155 l0 ?_
      refine rs_pure wi_333_156 rfl ?_
      refine rs_topi (v := 1218) (by decide) ?_
      refine rs_ildn wi_333_159 l2 ?_
      refine rs_pure wi_333_160 rfl ?_
      refine rs_V wi_333_161 wc_333_104 rfl (dq_isa tf_172_0 wa_12_330) (Nat.le_trans (by decide) hF) (ml_le wm_330 (Nat.le_trans (by decide) hLo)) rfl (sp_330 hw (Nat.le_trans (by decide : 7 ≤ 8 - 1) (Nat.sub_le_sub_right hF 1)) (ml_sub wm_330 (Nat.le_trans (by decide : 155 ≤ 178 - 23) (Nat.sub_le_sub_right hLo 23))) (wp_bind h) (fun r31 h => rs_back0 ?_))
      refine rs_goto (tg := 268) wi_333_164 ⟨by decide, by decide⟩ ?_
      exact hj268 _ h _ l0 l2 l3
    have h := wp_neg h q28
    by_cases q32 : (r3.1 121 (ix a2)) = 215
    ·
      have h := wp_pos h q32
      refine rs_tsk (tg := 167) (off := 108) (v := 215) wi_333_59 q32 (by decide) (by decide) ⟨by decide, by decide⟩ ?_
      refine rs_aldn wi_333_167 l0 ?_
      refine rs_pure wi_333_168 rfl ?_
      refine rs_topi (v := 1218) (by decide) ?_
      refine rs_ildn wi_333_171 l2 ?_
      refine rs_pure wi_333_172 rfl ?_
      refine rs_V wi_333_173 wc_333_104 rfl (dq_isa tf_172_0 wa_12_330) (Nat.le_trans (by decide) hF) (ml_le wm_330 (Nat.le_trans (by decide) hLo)) rfl (sp_330 hw (Nat.le_trans (by decide : 7 ≤ 8 - 1) (Nat.sub_le_sub_right hF 1)) (ml_sub wm_330 (Nat.le_trans (by decide : 155 ≤ 178 - 23) (Nat.sub_le_sub_right hLo 23))) (wp_bind h) (fun r33 h => rs_back0 ?_))
      refine rs_goto (tg := 268) wi_333_176 ⟨by decide, by decide⟩ ?_
      exact hj268 _ h _ l0 l2 l3
    have h := wp_neg h q32
    by_cases q34 : (r3.1 121 (ix a2)) = 216
    ·
      have h := wp_pos h q34
      refine rs_tsk (tg := 179) (off := 120) (v := 216) wi_333_59 q34 (by decide) (by decide) ⟨by decide, by decide⟩ ?_
      exact hj179 _ h _ l0 l1 l2 l3
    have h := wp_neg h q34
    by_cases q35 : (r3.1 121 (ix a2)) = 217
    ·
      have h := wp_pos h q35
      refine rs_tsk (tg := 179) (off := 120) (v := 217) wi_333_59 q35 (by decide) (by decide) ⟨by decide, by decide⟩ ?_
      exact hj179 _ h _ l0 l1 l2 l3
    have h := wp_neg h q35
    by_cases q36 : (r3.1 121 (ix a2)) = 218
    ·
      have h := wp_pos h q36
      refine rs_tsk (tg := 208) (off := 149) (v := 218) wi_333_59 q36 (by decide) (by decide) ⟨by decide, by decide⟩ ?_
      exact hj208 _ h _ l0 l2 l3
    have h := wp_neg h q36
    by_cases q37 : (r3.1 121 (ix a2)) = 219
    ·
      have h := wp_pos h q37
      refine rs_tsk (tg := 208) (off := 149) (v := 219) wi_333_59 q37 (by decide) (by decide) ⟨by decide, by decide⟩ ?_
      exact hj208 _ h _ l0 l2 l3
    have h := wp_neg h q37
    by_cases q38 : (r3.1 121 (ix a2)) = 220
    ·
      have h := wp_pos h q38
      refine rs_tsk (tg := 208) (off := 149) (v := 220) wi_333_59 q38 (by decide) (by decide) ⟨by decide, by decide⟩ ?_
      exact hj208 _ h _ l0 l2 l3
    have h := wp_neg h q38
    by_cases q39 : (r3.1 121 (ix a2)) = 221
    ·
      have h := wp_pos h q39
      refine rs_tsk (tg := 268) (off := 209) (v := 221) wi_333_59 q39 (by decide) (by decide) ⟨by decide, by decide⟩ ?_
      exact hj268 _ h _ l0 l2 l3
    have h := wp_neg h q39
    by_cases q40 : (r3.1 121 (ix a2)) = 222
    ·
      have h := wp_pos h q40
      refine rs_tsk (tg := 268) (off := 209) (v := 222) wi_333_59 q40 (by decide) (by decide) ⟨by decide, by decide⟩ ?_
      exact hj268 _ h _ l0 l2 l3
    have h := wp_neg h q40
    by_cases q41 : (r3.1 121 (ix a2)) = 223
    ·
      have h := wp_pos h q41
      refine rs_tsk (tg := 268) (off := 209) (v := 223) wi_333_59 q41 (by decide) (by decide) ⟨by decide, by decide⟩ ?_
      exact hj268 _ h _ l0 l2 l3
    have h := wp_neg h q41
    by_cases q42 : (r3.1 121 (ix a2)) = 224
    ·
      have h := wp_pos h q42
      refine rs_tsk (tg := 268) (off := 209) (v := 224) wi_333_59 q42 (by decide) (by decide) ⟨by decide, by decide⟩ ?_
      exact hj268 _ h _ l0 l2 l3
    have h := wp_neg h q42
    by_cases q43 : (r3.1 121 (ix a2)) = 225
    ·
      have h := wp_pos h q43
      refine rs_tsk (tg := 268) (off := 209) (v := 225) wi_333_59 q43 (by decide) (by decide) ⟨by decide, by decide⟩ ?_
      exact hj268 _ h _ l0 l2 l3
    have h := wp_neg h q43
    by_cases q44 : (r3.1 121 (ix a2)) = 226
    ·
      have h := wp_pos h q44
      refine rs_tsk (tg := 268) (off := 209) (v := 226) wi_333_59 q44 (by decide) (by decide) ⟨by decide, by decide⟩ ?_
      exact hj268 _ h _ l0 l2 l3
    have h := wp_neg h q44
    by_cases q45 : (r3.1 121 (ix a2)) = 227
    ·
      have h := wp_pos h q45
      refine rs_tsk (tg := 268) (off := 209) (v := 227) wi_333_59 q45 (by decide) (by decide) ⟨by decide, by decide⟩ ?_
      exact hj268 _ h _ l0 l2 l3
    have h := wp_neg h q45
    by_cases q46 : (r3.1 121 (ix a2)) = 228
    ·
      have h := wp_pos h q46
      refine rs_tsk (tg := 268) (off := 209) (v := 228) wi_333_59 q46 (by decide) (by decide) ⟨by decide, by decide⟩ ?_
      exact hj268 _ h _ l0 l2 l3
    have h := wp_neg h q46
    by_cases q47 : (r3.1 121 (ix a2)) = 229
    ·
      have h := wp_pos h q47
      refine rs_tsk (tg := 243) (off := 184) (v := 229) wi_333_59 q47 (by decide) (by decide) ⟨by decide, by decide⟩ ?_
      exact hj243 _ h _ l0 l2 l3
    have h := wp_neg h q47
    by_cases q48 : (r3.1 121 (ix a2)) = 230
    ·
      have h := wp_pos h q48
      refine rs_tsk (tg := 243) (off := 184) (v := 230) wi_333_59 q48 (by decide) (by decide) ⟨by decide, by decide⟩ ?_
      exact hj243 _ h _ l0 l2 l3
    have h := wp_neg h q48
    refine rs_tsd (tg := 268) wi_333_59 (rz_sw fun k k1 k2 => by
      have kk : k = 214 ∨ k = 215 ∨ k = 216 ∨ k = 217 ∨ k = 218 ∨ k = 219 ∨ k = 220 ∨ k = 221 ∨ k = 222 ∨ k = 223 ∨ k = 224 ∨ k = 225 ∨ k = 226 ∨ k = 227 ∨ k = 228 ∨ k = 229 ∨ k = 230 := by omega
      rcases kk with rfl | rfl | rfl | rfl | rfl | rfl | rfl | rfl | rfl | rfl | rfl | rfl | rfl | rfl | rfl | rfl | rfl
      · exact q28
      · exact q32
      · exact q34
      · exact q35
      · exact q36
      · exact q37
      · exact q38
      · exact q39
      · exact q40
      · exact q41
      · exact q42
      · exact q43
      · exact q44
      · exact q45
      · exact q46
      · exact q47
      · exact q48
      ) ⟨by decide, by decide⟩ ?_
    exact hj268 _ h _ l0 l2 l3
  refine rs_ifge (tg := 37) wi_333_1 ⟨by decide, by decide⟩ (fun q => ?_) (fun q => ?_)
  ·
    have h := wp_pos h q
    exact hj37 _ h _ l0 l1 l2 l3
  ·
    have h := wp_neg h q
    refine rs_aldn wi_333_4 l0 ?_
    refine dq_gr wi_333_5 wf_333_23 tf_172_4 ?_
    refine dq_gr wi_333_8 wf_333_248 tf_114_14 ?_
    refine rs_ildn wi_333_11 l2 ?_
    obtain ⟨g49, h⟩ := wp_gd h
    refine dq_lald wi_333_12 t_127 g49 ?_
    refine rs_pure wi_333_13 rfl ?_
    refine rs_topl (v := 0) (by decide) ?_
    refine rs_pure wi_333_14 rfl ?_
    refine rs_ifeq (tg := 37) wi_333_15 ⟨by decide, by decide⟩ (fun q => ?_) (fun q => ?_)
    ·
      have h := wp_pos h q
      exact hj37 _ h _ l0 l1 l2 l3
    ·
      have h := wp_neg h q
      refine rs_aldn wi_333_18 l0 ?_
      refine rs_aldn wi_333_19 l0 ?_
      refine dq_gr wi_333_20 wf_333_23 tf_172_4 ?_
      refine dq_gr wi_333_23 wf_333_248 tf_114_14 ?_
      refine rs_ildn wi_333_26 l2 ?_
      obtain ⟨g50, h⟩ := wp_gd h
      refine dq_lald wi_333_27 t_127 g50 ?_
      refine rs_V wi_333_28 wc_333_51 rfl (dq_isa tf_172_0 wa_12_320) (Nat.le_trans (by decide) hF) (ml_le wm_320 (Nat.le_trans (by decide) hLo)) rfl (sp_320 hw (Nat.le_trans (by decide : 2 ≤ 8 - 1) (Nat.sub_le_sub_right hF 1)) (ml_sub wm_320 (Nat.le_trans (by decide : 45 ≤ 178 - 22) (Nat.sub_le_sub_right hLo 22))) (wp_bind h) (fun r51 h => rs_back0 ?_))
      refine rs_aldn wi_333_31 l0 ?_
      refine rs_pure wi_333_32 rfl ?_
      refine rs_topi (v := 58) (by decide) ?_
      refine rs_V wi_333_34 wc_333_54 rfl (dq_isa tf_172_0 wa_12_322) (Nat.le_trans (by decide) hF) (ml_le wm_322 (Nat.le_trans (by decide) hLo)) rfl (sp_322 hw (Nat.le_trans (by decide : 1 ≤ 8 - 1) (Nat.sub_le_sub_right hF 1)) (ml_sub wm_322 (Nat.le_trans (by decide : 21 ≤ 178 - 21) (Nat.sub_le_sub_right hLo 21))) (wp_bind h) (fun r52 h => rs_back0 ?_))
      exact hj37 _ h _ l0 l1 l2 l3
theorem wa_12_325 : rz_cn 12 (rx_yn (rt_P sc fm) 325).cls = true := (by decide +kernel : rz_cn 12 (rt_yn 325).cls = true)
theorem wa_12_326 : rz_cn 12 (rx_yn (rt_P sc fm) 326).cls = true := (by decide +kernel : rz_cn 12 (rt_yn 326).cls = true)
theorem wa_12_328 : rz_cn 12 (rx_yn (rt_P sc fm) 328).cls = true := (by decide +kernel : rz_cn 12 (rt_yn 328).cls = true)
theorem wa_12_329 : rz_cn 12 (rx_yn (rt_P sc fm) 329).cls = true := (by decide +kernel : rz_cn 12 (rt_yn 329).cls = true)
theorem wa_12_333 : rz_cn 12 (rx_yn (rt_P sc fm) 333).cls = true := (by decide +kernel : rz_cn 12 (rt_yn 333).cls = true)
theorem wc_324_104 : rx_ct (rt_P sc fm) 324 104 = some (0, 330, 1) := (by decide +kernel : rt_ct 324 104 = some (0, 330, 1))
theorem wc_324_110 : rx_ct (rt_P sc fm) 324 110 = some (0, 328, 1) := (by decide +kernel : rt_ct 324 110 = some (0, 328, 1))
theorem wc_324_116 : rx_ct (rt_P sc fm) 324 116 = some (0, 329, 1) := (by decide +kernel : rt_ct 324 116 = some (0, 329, 1))
theorem wc_324_127 : rx_ct (rt_P sc fm) 324 127 = some (0, 333, 3) := (by decide +kernel : rt_ct 324 127 = some (0, 333, 3))
theorem wc_324_51 : rx_ct (rt_P sc fm) 324 51 = some (0, 320, 1) := (by decide +kernel : rt_ct 324 51 = some (0, 320, 1))
theorem wc_324_54 : rx_ct (rt_P sc fm) 324 54 = some (0, 322, 1) := (by decide +kernel : rt_ct 324 54 = some (0, 322, 1))
theorem wc_324_70 : rx_ct (rt_P sc fm) 324 70 = some (0, 325, 1) := (by decide +kernel : rt_ct 324 70 = some (0, 325, 1))
theorem wc_324_81 : rx_ct (rt_P sc fm) 324 81 = some (0, 326, 2) := (by decide +kernel : rt_ct 324 81 = some (0, 326, 2))
theorem wc_324_88 : rx_ct (rt_P sc fm) 324 88 = some (0, 321, 1) := (by decide +kernel : rt_ct 324 88 = some (0, 321, 1))
theorem wf_324_107 : rx_ft (rt_P sc fm) 324 107 = some (9, 10) := (by decide +kernel : rt_ft 324 107 = some (9, 10))
theorem wf_324_113 : rx_ft (rt_P sc fm) 324 113 = some (9, 14) := (by decide +kernel : rt_ft 324 113 = some (9, 14))
theorem wf_324_119 : rx_ft (rt_P sc fm) 324 119 = some (2, 6) := (by decide +kernel : rt_ft 324 119 = some (2, 6))
theorem wf_324_124 : rx_ft (rt_P sc fm) 324 124 = some (2, 5) := (by decide +kernel : rt_ft 324 124 = some (2, 5))
theorem wf_324_19 : rx_ft (rt_P sc fm) 324 19 = some (12, 3) := (by decide +kernel : rt_ft 324 19 = some (12, 3))
theorem wf_324_23 : rx_ft (rt_P sc fm) 324 23 = some (12, 4) := (by decide +kernel : rt_ft 324 23 = some (12, 4))
theorem wf_324_35 : rx_ft (rt_P sc fm) 324 35 = some (12, 1) := (by decide +kernel : rt_ft 324 35 = some (12, 1))
theorem wf_324_61 : rx_ft (rt_P sc fm) 324 61 = some (9, 2) := (by decide +kernel : rt_ft 324 61 = some (9, 2))
theorem wf_324_66 : rx_ft (rt_P sc fm) 324 66 = some (9, 1) := (by decide +kernel : rt_ft 324 66 = some (9, 1))
theorem wf_324_74 : rx_ft (rt_P sc fm) 324 74 = some (9, 4) := (by decide +kernel : rt_ft 324 74 = some (9, 4))
theorem wf_324_77 : rx_ft (rt_P sc fm) 324 77 = some (9, 3) := (by decide +kernel : rt_ft 324 77 = some (9, 3))
theorem wf_324_85 : rx_ft (rt_P sc fm) 324 85 = some (9, 7) := (by decide +kernel : rt_ft 324 85 = some (9, 7))
theorem wf_324_91 : rx_ft (rt_P sc fm) 324 91 = some (9, 5) := (by decide +kernel : rt_ft 324 91 = some (9, 5))
theorem wf_324_94 : rx_ft (rt_P sc fm) 324 94 = some (9, 6) := (by decide +kernel : rt_ft 324 94 = some (9, 6))
theorem wf_324_98 : rx_ft (rt_P sc fm) 324 98 = some (6, 0) := (by decide +kernel : rt_ft 324 98 = some (6, 0))
theorem wi_324_0 : ri (rt_P sc fm) 324 0 (.aload_n 0) (1) := ri_of (by decide +kernel) rfl
theorem wi_324_1 : ri (rt_P sc fm) 324 1 (.iconst 0) (2) := ri_of (by decide +kernel) rfl
theorem wi_324_100 : ri (rt_P sc fm) 324 100 (.invokevirtual 51) (103) := ri_of (by decide +kernel) rfl
theorem wi_324_103 : ri (rt_P sc fm) 324 103 (.aload_n 0) (104) := ri_of (by decide +kernel) rfl
theorem wi_324_104 : ri (rt_P sc fm) 324 104 (.bipush 58) (106) := ri_of (by decide +kernel) rfl
theorem wi_324_106 : ri (rt_P sc fm) 324 106 (.invokevirtual 54) (109) := ri_of (by decide +kernel) rfl
theorem wi_324_109 : ri (rt_P sc fm) 324 109 (.aload_n 0) (110) := ri_of (by decide +kernel) rfl
theorem wi_324_110 : ri (rt_P sc fm) 324 110 (.aload_n 0) (111) := ri_of (by decide +kernel) rfl
theorem wi_324_111 : ri (rt_P sc fm) 324 111 (.getfield 19) (114) := ri_of (by decide +kernel) rfl
theorem wi_324_114 : ri (rt_P sc fm) 324 114 (.getfield 77) (117) := ri_of (by decide +kernel) rfl
theorem wi_324_117 : ri (rt_P sc fm) 324 117 (.aload_n 0) (118) := ri_of (by decide +kernel) rfl
theorem wi_324_118 : ri (rt_P sc fm) 324 118 (.getfield 19) (121) := ri_of (by decide +kernel) rfl
theorem wi_324_12 : ri (rt_P sc fm) 324 12 (.getfield 61) (15) := ri_of (by decide +kernel) rfl
theorem wi_324_121 : ri (rt_P sc fm) 324 121 (.getfield 94) (124) := ri_of (by decide +kernel) rfl
theorem wi_324_124 : ri (rt_P sc fm) 324 124 (.iload_n 1) (125) := ri_of (by decide +kernel) rfl
theorem wi_324_125 : ri (rt_P sc fm) 324 125 (.iaload) (126) := ri_of (by decide +kernel) rfl
theorem wi_324_126 : ri (rt_P sc fm) 324 126 (.aaload) (127) := ri_of (by decide +kernel) rfl
theorem wi_324_127 : ri (rt_P sc fm) 324 127 (.getfield 98) (130) := ri_of (by decide +kernel) rfl
theorem wi_324_130 : ri (rt_P sc fm) 324 130 (.invokevirtual 51) (133) := ri_of (by decide +kernel) rfl
theorem wi_324_133 : ri (rt_P sc fm) 324 133 (.aload_n 0) (134) := ri_of (by decide +kernel) rfl
theorem wi_324_134 : ri (rt_P sc fm) 324 134 (.sipush 207) (137) := ri_of (by decide +kernel) rfl
theorem wi_324_137 : ri (rt_P sc fm) 324 137 (.invokevirtual 88) (140) := ri_of (by decide +kernel) rfl
theorem wi_324_140 : ri (rt_P sc fm) 324 140 (.aload_n 0) (141) := ri_of (by decide +kernel) rfl
theorem wi_324_141 : ri (rt_P sc fm) 324 141 (.sipush 1212) (144) := ri_of (by decide +kernel) rfl
theorem wi_324_144 : ri (rt_P sc fm) 324 144 (.iload_n 1) (145) := ri_of (by decide +kernel) rfl
theorem wi_324_145 : ri (rt_P sc fm) 324 145 (.iadd) (146) := ri_of (by decide +kernel) rfl
theorem wi_324_146 : ri (rt_P sc fm) 324 146 (.invokevirtual 104) (149) := ri_of (by decide +kernel) rfl
theorem wi_324_149 : ri (rt_P sc fm) 324 149 (.aload_n 0) (150) := ri_of (by decide +kernel) rfl
theorem wi_324_15 : ri (rt_P sc fm) 324 15 (.if_icmp .ge 22) (18) := ri_of (by decide +kernel) rfl
theorem wi_324_150 : ri (rt_P sc fm) 324 150 (.bipush 59) (152) := ri_of (by decide +kernel) rfl
theorem wi_324_152 : ri (rt_P sc fm) 324 152 (.invokevirtual 54) (155) := ri_of (by decide +kernel) rfl
theorem wi_324_155 : ri (rt_P sc fm) 324 155 (.iinc 1 1) (158) := ri_of (by decide +kernel) rfl
theorem wi_324_158 : ri (rt_P sc fm) 324 158 (.goto (-86)) (161) := ri_of (by decide +kernel) rfl
theorem wi_324_161 : ri (rt_P sc fm) 324 161 (.iconst 0) (162) := ri_of (by decide +kernel) rfl
theorem wi_324_162 : ri (rt_P sc fm) 324 162 (.istore_n 1) (163) := ri_of (by decide +kernel) rfl
theorem wi_324_163 : ri (rt_P sc fm) 324 163 (.iload_n 1) (164) := ri_of (by decide +kernel) rfl
theorem wi_324_164 : ri (rt_P sc fm) 324 164 (.aload_n 0) (165) := ri_of (by decide +kernel) rfl
theorem wi_324_165 : ri (rt_P sc fm) 324 165 (.getfield 19) (168) := ri_of (by decide +kernel) rfl
theorem wi_324_168 : ri (rt_P sc fm) 324 168 (.getfield 107) (171) := ri_of (by decide +kernel) rfl
theorem wi_324_171 : ri (rt_P sc fm) 324 171 (.if_icmp .ge 100) (174) := ri_of (by decide +kernel) rfl
theorem wi_324_174 : ri (rt_P sc fm) 324 174 (.aload_n 0) (175) := ri_of (by decide +kernel) rfl
theorem wi_324_175 : ri (rt_P sc fm) 324 175 (.iload_n 1) (176) := ri_of (by decide +kernel) rfl
theorem wi_324_176 : ri (rt_P sc fm) 324 176 (.invokevirtual 110) (179) := ri_of (by decide +kernel) rfl
theorem wi_324_179 : ri (rt_P sc fm) 324 179 (.iconst 0) (180) := ri_of (by decide +kernel) rfl
theorem wi_324_18 : ri (rt_P sc fm) 324 18 (.aload_n 0) (19) := ri_of (by decide +kernel) rfl
theorem wi_324_180 : ri (rt_P sc fm) 324 180 (.istore_n 2) (181) := ri_of (by decide +kernel) rfl
theorem wi_324_181 : ri (rt_P sc fm) 324 181 (.iload_n 2) (182) := ri_of (by decide +kernel) rfl
theorem wi_324_182 : ri (rt_P sc fm) 324 182 (.aload_n 0) (183) := ri_of (by decide +kernel) rfl
theorem wi_324_183 : ri (rt_P sc fm) 324 183 (.getfield 19) (186) := ri_of (by decide +kernel) rfl
theorem wi_324_186 : ri (rt_P sc fm) 324 186 (.getfield 113) (189) := ri_of (by decide +kernel) rfl
theorem wi_324_189 : ri (rt_P sc fm) 324 189 (.iload_n 1) (190) := ri_of (by decide +kernel) rfl
theorem wi_324_19 : ri (rt_P sc fm) 324 19 (.aload_n 0) (20) := ri_of (by decide +kernel) rfl
theorem wi_324_190 : ri (rt_P sc fm) 324 190 (.iaload) (191) := ri_of (by decide +kernel) rfl
theorem wi_324_191 : ri (rt_P sc fm) 324 191 (.if_icmp .ge 68) (194) := ri_of (by decide +kernel) rfl
theorem wi_324_194 : ri (rt_P sc fm) 324 194 (.iload_n 1) (195) := ri_of (by decide +kernel) rfl
theorem wi_324_195 : ri (rt_P sc fm) 324 195 (.bipush 8) (197) := ri_of (by decide +kernel) rfl
theorem wi_324_197 : ri (rt_P sc fm) 324 197 (.imul) (198) := ri_of (by decide +kernel) rfl
theorem wi_324_198 : ri (rt_P sc fm) 324 198 (.iload_n 2) (199) := ri_of (by decide +kernel) rfl
theorem wi_324_199 : ri (rt_P sc fm) 324 199 (.iadd) (200) := ri_of (by decide +kernel) rfl
theorem wi_324_2 : ri (rt_P sc fm) 324 2 (.putfield 35) (5) := ri_of (by decide +kernel) rfl
theorem wi_324_20 : ri (rt_P sc fm) 324 20 (.getfield 19) (23) := ri_of (by decide +kernel) rfl
theorem wi_324_200 : ri (rt_P sc fm) 324 200 (.istore_n 3) (201) := ri_of (by decide +kernel) rfl
theorem wi_324_201 : ri (rt_P sc fm) 324 201 (.aload_n 0) (202) := ri_of (by decide +kernel) rfl
theorem wi_324_202 : ri (rt_P sc fm) 324 202 (.iload_n 3) (203) := ri_of (by decide +kernel) rfl
theorem wi_324_203 : ri (rt_P sc fm) 324 203 (.invokevirtual 116) (206) := ri_of (by decide +kernel) rfl
theorem wi_324_206 : ri (rt_P sc fm) 324 206 (.iconst 0) (207) := ri_of (by decide +kernel) rfl
theorem wi_324_207 : ri (rt_P sc fm) 324 207 (.istore 4) (209) := ri_of (by decide +kernel) rfl
theorem wi_324_209 : ri (rt_P sc fm) 324 209 (.iload 4) (211) := ri_of (by decide +kernel) rfl
theorem wi_324_211 : ri (rt_P sc fm) 324 211 (.aload_n 0) (212) := ri_of (by decide +kernel) rfl
theorem wi_324_212 : ri (rt_P sc fm) 324 212 (.getfield 23) (215) := ri_of (by decide +kernel) rfl
theorem wi_324_215 : ri (rt_P sc fm) 324 215 (.getfield 119) (218) := ri_of (by decide +kernel) rfl
theorem wi_324_218 : ri (rt_P sc fm) 324 218 (.iload_n 3) (219) := ri_of (by decide +kernel) rfl
theorem wi_324_219 : ri (rt_P sc fm) 324 219 (.iaload) (220) := ri_of (by decide +kernel) rfl
theorem wi_324_220 : ri (rt_P sc fm) 324 220 (.if_icmp .ge 27) (223) := ri_of (by decide +kernel) rfl
theorem wi_324_223 : ri (rt_P sc fm) 324 223 (.aload_n 0) (224) := ri_of (by decide +kernel) rfl
theorem wi_324_224 : ri (rt_P sc fm) 324 224 (.iload_n 3) (225) := ri_of (by decide +kernel) rfl
theorem wi_324_225 : ri (rt_P sc fm) 324 225 (.aload_n 0) (226) := ri_of (by decide +kernel) rfl
theorem wi_324_226 : ri (rt_P sc fm) 324 226 (.getfield 23) (229) := ri_of (by decide +kernel) rfl
theorem wi_324_229 : ri (rt_P sc fm) 324 229 (.getfield 124) (232) := ri_of (by decide +kernel) rfl
theorem wi_324_23 : ri (rt_P sc fm) 324 23 (.getfield 66) (26) := ri_of (by decide +kernel) rfl
theorem wi_324_232 : ri (rt_P sc fm) 324 232 (.iload_n 3) (233) := ri_of (by decide +kernel) rfl
theorem wi_324_233 : ri (rt_P sc fm) 324 233 (.iaload) (234) := ri_of (by decide +kernel) rfl
theorem wi_324_234 : ri (rt_P sc fm) 324 234 (.iload 4) (236) := ri_of (by decide +kernel) rfl
theorem wi_324_236 : ri (rt_P sc fm) 324 236 (.iadd) (237) := ri_of (by decide +kernel) rfl
theorem wi_324_237 : ri (rt_P sc fm) 324 237 (.iconst (-1)) (238) := ri_of (by decide +kernel) rfl
theorem wi_324_238 : ri (rt_P sc fm) 324 238 (.invokevirtual 127) (241) := ri_of (by decide +kernel) rfl
theorem wi_324_241 : ri (rt_P sc fm) 324 241 (.iinc 4 1) (244) := ri_of (by decide +kernel) rfl
theorem wi_324_244 : ri (rt_P sc fm) 324 244 (.goto (-35)) (247) := ri_of (by decide +kernel) rfl
theorem wi_324_247 : ri (rt_P sc fm) 324 247 (.aload_n 0) (248) := ri_of (by decide +kernel) rfl
theorem wi_324_248 : ri (rt_P sc fm) 324 248 (.bipush 125) (250) := ri_of (by decide +kernel) rfl
theorem wi_324_250 : ri (rt_P sc fm) 324 250 (.invokevirtual 54) (253) := ri_of (by decide +kernel) rfl
theorem wi_324_253 : ri (rt_P sc fm) 324 253 (.iinc 2 1) (256) := ri_of (by decide +kernel) rfl
theorem wi_324_256 : ri (rt_P sc fm) 324 256 (.goto (-75)) (259) := ri_of (by decide +kernel) rfl
theorem wi_324_259 : ri (rt_P sc fm) 324 259 (.aload_n 0) (260) := ri_of (by decide +kernel) rfl
theorem wi_324_26 : ri (rt_P sc fm) 324 26 (.iload_n 1) (27) := ri_of (by decide +kernel) rfl
theorem wi_324_260 : ri (rt_P sc fm) 324 260 (.bipush 125) (262) := ri_of (by decide +kernel) rfl
theorem wi_324_262 : ri (rt_P sc fm) 324 262 (.invokevirtual 54) (265) := ri_of (by decide +kernel) rfl
theorem wi_324_265 : ri (rt_P sc fm) 324 265 (.iinc 1 1) (268) := ri_of (by decide +kernel) rfl
theorem wi_324_268 : ri (rt_P sc fm) 324 268 (.goto (-105)) (271) := ri_of (by decide +kernel) rfl
theorem wi_324_27 : ri (rt_P sc fm) 324 27 (.aaload) (28) := ri_of (by decide +kernel) rfl
theorem wi_324_271 : ri (rt_P sc fm) 324 271 (.aload_n 0) (272) := ri_of (by decide +kernel) rfl
theorem wi_324_272 : ri (rt_P sc fm) 324 272 (.getfield 35) (275) := ri_of (by decide +kernel) rfl
theorem wi_324_275 : ri (rt_P sc fm) 324 275 (.ireturn) (276) := ri_of (by decide +kernel) rfl
theorem wi_324_28 : ri (rt_P sc fm) 324 28 (.invokevirtual 70) (31) := ri_of (by decide +kernel) rfl
theorem wi_324_31 : ri (rt_P sc fm) 324 31 (.iinc 1 1) (34) := ri_of (by decide +kernel) rfl
theorem wi_324_34 : ri (rt_P sc fm) 324 34 (.goto (-27)) (37) := ri_of (by decide +kernel) rfl
theorem wi_324_37 : ri (rt_P sc fm) 324 37 (.iconst 0) (38) := ri_of (by decide +kernel) rfl
theorem wi_324_38 : ri (rt_P sc fm) 324 38 (.istore_n 1) (39) := ri_of (by decide +kernel) rfl
theorem wi_324_39 : ri (rt_P sc fm) 324 39 (.iload_n 1) (40) := ri_of (by decide +kernel) rfl
theorem wi_324_40 : ri (rt_P sc fm) 324 40 (.aload_n 0) (41) := ri_of (by decide +kernel) rfl
theorem wi_324_41 : ri (rt_P sc fm) 324 41 (.getfield 19) (44) := ri_of (by decide +kernel) rfl
theorem wi_324_44 : ri (rt_P sc fm) 324 44 (.getfield 74) (47) := ri_of (by decide +kernel) rfl
theorem wi_324_47 : ri (rt_P sc fm) 324 47 (.if_icmp .ge 23) (50) := ri_of (by decide +kernel) rfl
theorem wi_324_5 : ri (rt_P sc fm) 324 5 (.iconst 0) (6) := ri_of (by decide +kernel) rfl
theorem wi_324_50 : ri (rt_P sc fm) 324 50 (.aload_n 0) (51) := ri_of (by decide +kernel) rfl
theorem wi_324_51 : ri (rt_P sc fm) 324 51 (.iload_n 1) (52) := ri_of (by decide +kernel) rfl
theorem wi_324_52 : ri (rt_P sc fm) 324 52 (.aload_n 0) (53) := ri_of (by decide +kernel) rfl
theorem wi_324_53 : ri (rt_P sc fm) 324 53 (.getfield 19) (56) := ri_of (by decide +kernel) rfl
theorem wi_324_56 : ri (rt_P sc fm) 324 56 (.getfield 77) (59) := ri_of (by decide +kernel) rfl
theorem wi_324_59 : ri (rt_P sc fm) 324 59 (.iload_n 1) (60) := ri_of (by decide +kernel) rfl
theorem wi_324_6 : ri (rt_P sc fm) 324 6 (.istore_n 1) (7) := ri_of (by decide +kernel) rfl
theorem wi_324_60 : ri (rt_P sc fm) 324 60 (.aaload) (61) := ri_of (by decide +kernel) rfl
theorem wi_324_61 : ri (rt_P sc fm) 324 61 (.invokevirtual 81) (64) := ri_of (by decide +kernel) rfl
theorem wi_324_64 : ri (rt_P sc fm) 324 64 (.iinc 1 1) (67) := ri_of (by decide +kernel) rfl
theorem wi_324_67 : ri (rt_P sc fm) 324 67 (.goto (-28)) (70) := ri_of (by decide +kernel) rfl
theorem wi_324_7 : ri (rt_P sc fm) 324 7 (.iload_n 1) (8) := ri_of (by decide +kernel) rfl
theorem wi_324_70 : ri (rt_P sc fm) 324 70 (.iconst 0) (71) := ri_of (by decide +kernel) rfl
theorem wi_324_71 : ri (rt_P sc fm) 324 71 (.istore_n 1) (72) := ri_of (by decide +kernel) rfl
theorem wi_324_72 : ri (rt_P sc fm) 324 72 (.iload_n 1) (73) := ri_of (by decide +kernel) rfl
theorem wi_324_73 : ri (rt_P sc fm) 324 73 (.aload_n 0) (74) := ri_of (by decide +kernel) rfl
theorem wi_324_74 : ri (rt_P sc fm) 324 74 (.getfield 19) (77) := ri_of (by decide +kernel) rfl
theorem wi_324_77 : ri (rt_P sc fm) 324 77 (.getfield 85) (80) := ri_of (by decide +kernel) rfl
theorem wi_324_8 : ri (rt_P sc fm) 324 8 (.aload_n 0) (9) := ri_of (by decide +kernel) rfl
theorem wi_324_80 : ri (rt_P sc fm) 324 80 (.if_icmp .ge 81) (83) := ri_of (by decide +kernel) rfl
theorem wi_324_83 : ri (rt_P sc fm) 324 83 (.aload_n 0) (84) := ri_of (by decide +kernel) rfl
theorem wi_324_84 : ri (rt_P sc fm) 324 84 (.sipush 206) (87) := ri_of (by decide +kernel) rfl
theorem wi_324_87 : ri (rt_P sc fm) 324 87 (.invokevirtual 88) (90) := ri_of (by decide +kernel) rfl
theorem wi_324_9 : ri (rt_P sc fm) 324 9 (.getfield 19) (12) := ri_of (by decide +kernel) rfl
theorem wi_324_90 : ri (rt_P sc fm) 324 90 (.aload_n 0) (91) := ri_of (by decide +kernel) rfl
theorem wi_324_91 : ri (rt_P sc fm) 324 91 (.aload_n 0) (92) := ri_of (by decide +kernel) rfl
theorem wi_324_92 : ri (rt_P sc fm) 324 92 (.getfield 19) (95) := ri_of (by decide +kernel) rfl
theorem wi_324_95 : ri (rt_P sc fm) 324 95 (.getfield 91) (98) := ri_of (by decide +kernel) rfl
theorem wi_324_98 : ri (rt_P sc fm) 324 98 (.iload_n 1) (99) := ri_of (by decide +kernel) rfl
theorem wi_324_99 : ri (rt_P sc fm) 324 99 (.laload) (100) := ri_of (by decide +kernel) rfl
theorem wm_325 : rx_ml (rt_P sc fm) 325 = 4 := (by decide +kernel : rt_ml 325 = 4)
theorem wm_326 : rx_ml (rt_P sc fm) 326 = 4 := (by decide +kernel : rt_ml 326 = 4)
theorem wm_328 : rx_ml (rt_P sc fm) 328 = 4 := (by decide +kernel : rt_ml 328 = 4)
theorem wm_329 : rx_ml (rt_P sc fm) 329 = 3 := (by decide +kernel : rt_ml 329 = 3)
theorem wm_333 : rx_ml (rt_P sc fm) 333 = 4 := (by decide +kernel : rt_ml 333 = 4)
theorem wp_324_35 : rx_pt (rt_P sc fm) 324 35 = some (12, 1, .int) := (by decide +kernel : rt_pt 324 35 = some (12, 1, .int))
theorem wr_324 : rx_rt (rt_P sc fm) 324 = (some FieldType.int) := (by decide +kernel : rt_rt 324 = (some FieldType.int))
/-- MarkHouse$Teller.writeProgram()I -/
def d_324 (n : Nat)  (c : cS) : Option (Int32 × cS) :=
  lt (pI c 172 1 0) (fun c1 =>
  Option.bind (whl (R := (cS)) (fun s4 : Int32 × cS =>
    if (s4.2.1 7 2) ≤ s4.1 then
      some (.inr s4.2)
    else
      if ib s4.1 4 then
      Option.bind (d_325 n (ix s4.1) s4.2) (fun r6 =>
      lt (s4.1 + 1 : Int32) (fun v8 =>
      some (.inl (v8, r6))))
      else none) n (0, c1))
  (fun x10 : cS =>
    Option.bind (whl (R := (cS)) (fun s12 : Int32 × cS =>
      if (s12.2.1 7 4) ≤ s12.1 then
        some (.inr s12.2)
      else
        if ib s12.1 12 then
        Option.bind (d_326 n s12.1 (ix s12.1) s12.2) (fun r14 =>
        lt (s12.1 + 1 : Int32) (fun v16 =>
        some (.inl (v16, r14))))
        else none) n (0, x10))
    (fun x18 : cS =>
      Option.bind (whl (R := (cS)) (fun s20 : Int32 × cS =>
        if (s20.2.1 7 7) ≤ s20.1 then
          some (.inr s20.2)
        else
          Option.bind (d_321 n 206 s20.2) (fun r21 =>
          if ib s20.1 6 then
          Option.bind (d_320 n (r21.2 10 (ix s20.1)) r21) (fun r23 =>
          Option.bind (d_322 n 58 r23) (fun r24 =>
          if ib s20.1 6 then
          if ib (r24.1 11 (ix s20.1)) 12 then
          Option.bind (d_320 n (r24.2 (kA (ix (r24.1 11 (ix s20.1)))) 0) r24) (fun r27 =>
          Option.bind (d_321 n 207 r27) (fun r28 =>
          Option.bind (d_330 n (1212 + s20.1) r28) (fun r29 =>
          Option.bind (d_322 n 59 r29) (fun r30 =>
          lt (s20.1 + 1 : Int32) (fun v32 =>
          some (.inl (v32, r30)))))))
          else none
          else none))
          else none)) n (0, x18))
      (fun x34 : cS =>
        Option.bind (whl (R := (cS)) (fun s36 : Int32 × cS =>
          if (s36.2.1 7 10) ≤ s36.1 then
            some (.inr s36.2)
          else
            Option.bind (d_328 n s36.1 s36.2) (fun r37 =>
            Option.bind (whl (R := (cS)) (fun s39 : Int32 × cS =>
              if ib s36.1 12 then
              if (s39.2.1 17 (ix s36.1)) ≤ s39.1 then
                some (.inr s39.2)
              else
                lt (((s36.1 * 8) + s39.1) : Int32) (fun v42 =>
                Option.bind (d_329 n v42 s39.2) (fun r44 =>
                Option.bind (whl (R := (cS)) (fun s46 : Int32 × cS =>
                  if ib v42 96 then
                  if (s46.2.1 120 (ix v42)) ≤ s46.1 then
                    some (.inr s46.2)
                  else
                    if ib v42 96 then
                    Option.bind (d_333 n v42 ((s46.2.1 119 (ix v42)) + s46.1) (-1) s46.2) (fun r49 =>
                    lt (s46.1 + 1 : Int32) (fun v51 =>
                    some (.inl (v51, r49))))
                    else none
                  else none) n (0, r44))
                (fun x53 : cS =>
                  Option.bind (d_322 n 125 x53) (fun r54 =>
                  lt (s39.1 + 1 : Int32) (fun v56 =>
                  some (.inl (v56, r54)))))))
              else none) n (0, r37))
            (fun x58 : cS =>
              Option.bind (d_322 n 125 x58) (fun r59 =>
              lt (s36.1 + 1 : Int32) (fun v61 =>
              some (.inl (v61, r59))))))) n (0, x34))
        (fun x63 : cS =>
          some ((x63.1 172 1), x63))))))
theorem sp_324 {F Lo n : Nat}  {c y : cS} {w : cW} {K : Int32 × cS → Prop} {Q : ((Option Value) ⊕ String) → List va_E → Prop} (hw : rOK fm w) (hF : 9 ≤ F) (hLo : 201 ≤ Lo)  (h : wp (d_324 n  c) K) (hQ : ∀ r, K r → Q (.inl (some (.int r.1))) (hq true r.2 y w)) : rs (rt_P sc fm) 324 F Lo 0 [(0, .ref 172)] [] (hq true c y w) Q := by
  unfold d_324 at h
  obtain ⟨lv, elv⟩ : ∃ lv : rx_L, lv = [(0, .ref 172)] := ⟨_, rfl⟩
  rw [← elv]
  have l0 : rx_ld lv 0 = some (.ref 172) := by rw [elv]; rfl
  refine rs_aldn wi_324_0 l0 ?_
  refine rs_pure wi_324_1 rfl ?_
  refine rs_topi (v := 0) (by decide) ?_
  obtain ⟨c1, e2, h⟩ := wp_lt h
  refine dq_pi wi_324_2 wp_324_35 tf_172_1 rfl rfl e2 ?_
  refine rs_pure wi_324_5 rfl ?_
  refine rs_topi (v := 0) (by decide) ?_
  refine dl_istn wi_324_6 rfl (fun lv l1 t3 => ?_)
  have l0 := t3 _ _ (by decide) (Or.inl rfl) l0
  refine whl_ex (A := fun s4 : Int32 × cS => ∀ lv, rx_ld lv 0 = some (.ref 172) → rx_ld lv 1 = some (.int s4.1) → rs (rt_P sc fm) 324 F Lo 7 lv [] (hq true s4.2 y w) Q) (B := (fun x10 : cS => ∀ lv, rx_ld lv 0 = some (.ref 172) → rs (rt_P sc fm) 324 F Lo 37 lv [] (hq true x10 y w) Q)) ?_ ?_ _ _ (wp_bind h) _ l0 l1
  · intro s4 h lv l0 l1
    refine rs_ildn wi_324_7 l1 ?_
    refine rs_aldn wi_324_8 l0 ?_
    refine dq_gr wi_324_9 wf_324_19 tf_172_3 ?_
    refine dq_gi wi_324_12 wf_324_61 tf_7_2 ?_
    refine rs_icge (tg := 37) wi_324_15 ⟨by decide, by decide⟩ (fun q => ?_) (fun q => ?_)
    ·
      have h := wp_pos h q
      exact h _ l0
    ·
      have h := wp_neg h q
      refine rs_aldn wi_324_18 l0 ?_
      refine rs_aldn wi_324_19 l0 ?_
      refine dq_gr wi_324_20 wf_324_19 tf_172_3 ?_
      refine dq_gr wi_324_23 wf_324_66 tf_7_1 ?_
      refine rs_ildn wi_324_26 l1 ?_
      obtain ⟨g5, h⟩ := wp_gd h
      refine dq_aald wi_324_27 (by decide) t_8 g5 (hw.1 _ (ib_lt g5)) ?_
      refine rs_V wi_324_28 wc_324_70 rfl (dq_isa tf_172_0 wa_12_325) (Nat.le_trans (by decide) hF) (ml_le wm_325 (Nat.le_trans (by decide) hLo)) rfl (sp_325 hw (Nat.le_trans (by decide : 4 ≤ 9 - 1) (Nat.sub_le_sub_right hF 1)) (ml_sub wm_325 (Nat.le_trans (by decide : 88 ≤ 201 - 23) (Nat.sub_le_sub_right hLo 23))) (ib_lt g5) (wp_bind h) (fun r6 h => rs_back0 ?_))
      obtain ⟨v8, e9, h⟩ := wp_lt h
      refine dl_inc wi_324_31 l1 rfl e9 (fun lv l1 t7 => ?_)
      have l0 := t7 _ _ (by decide) (Or.inl rfl) l0
      refine rs_goto (tg := 7) wi_324_34 ⟨by decide, by decide⟩ ?_
      exact h _ l0 l1
  ·
    intro x10 h lv l0
    refine rs_pure wi_324_37 rfl ?_
    refine rs_topi (v := 0) (by decide) ?_
    refine dl_istn wi_324_38 rfl (fun lv l1 t11 => ?_)
    have l0 := t11 _ _ (by decide) (Or.inl rfl) l0
    refine whl_ex (A := fun s12 : Int32 × cS => ∀ lv, rx_ld lv 0 = some (.ref 172) → rx_ld lv 1 = some (.int s12.1) → rs (rt_P sc fm) 324 F Lo 39 lv [] (hq true s12.2 y w) Q) (B := (fun x18 : cS => ∀ lv, rx_ld lv 0 = some (.ref 172) → rs (rt_P sc fm) 324 F Lo 70 lv [] (hq true x18 y w) Q)) ?_ ?_ _ _ (wp_bind h) _ l0 l1
    · intro s12 h lv l0 l1
      refine rs_ildn wi_324_39 l1 ?_
      refine rs_aldn wi_324_40 l0 ?_
      refine dq_gr wi_324_41 wf_324_19 tf_172_3 ?_
      refine dq_gi wi_324_44 wf_324_74 tf_7_4 ?_
      refine rs_icge (tg := 70) wi_324_47 ⟨by decide, by decide⟩ (fun q => ?_) (fun q => ?_)
      ·
        have h := wp_pos h q
        exact h _ l0
      ·
        have h := wp_neg h q
        refine rs_aldn wi_324_50 l0 ?_
        refine rs_ildn wi_324_51 l1 ?_
        refine rs_aldn wi_324_52 l0 ?_
        refine dq_gr wi_324_53 wf_324_19 tf_172_3 ?_
        refine dq_gr wi_324_56 wf_324_77 tf_7_3 ?_
        refine rs_ildn wi_324_59 l1 ?_
        obtain ⟨g13, h⟩ := wp_gd h
        refine dq_aald wi_324_60 (by decide) t_9 g13 (hw.2.1 _ (ib_lt g13)) ?_
        refine rs_V wi_324_61 wc_324_81 rfl (dq_isa tf_172_0 wa_12_326) (Nat.le_trans (by decide) hF) (ml_le wm_326 (Nat.le_trans (by decide) hLo)) rfl (sp_326 hw (Nat.le_trans (by decide : 8 ≤ 9 - 1) (Nat.sub_le_sub_right hF 1)) (ml_sub wm_326 (Nat.le_trans (by decide : 178 ≤ 201 - 23) (Nat.sub_le_sub_right hLo 23))) (ib_lt g13) (wp_bind h) (fun r14 h => rs_back0 ?_))
        obtain ⟨v16, e17, h⟩ := wp_lt h
        refine dl_inc wi_324_64 l1 rfl e17 (fun lv l1 t15 => ?_)
        have l0 := t15 _ _ (by decide) (Or.inl rfl) l0
        refine rs_goto (tg := 39) wi_324_67 ⟨by decide, by decide⟩ ?_
        exact h _ l0 l1
    ·
      intro x18 h lv l0
      refine rs_pure wi_324_70 rfl ?_
      refine rs_topi (v := 0) (by decide) ?_
      refine dl_istn wi_324_71 rfl (fun lv l1 t19 => ?_)
      have l0 := t19 _ _ (by decide) (Or.inl rfl) l0
      refine whl_ex (A := fun s20 : Int32 × cS => ∀ lv, rx_ld lv 0 = some (.ref 172) → rx_ld lv 1 = some (.int s20.1) → rs (rt_P sc fm) 324 F Lo 72 lv [] (hq true s20.2 y w) Q) (B := (fun x34 : cS => ∀ lv, rx_ld lv 0 = some (.ref 172) → rs (rt_P sc fm) 324 F Lo 161 lv [] (hq true x34 y w) Q)) ?_ ?_ _ _ (wp_bind h) _ l0 l1
      · intro s20 h lv l0 l1
        refine rs_ildn wi_324_72 l1 ?_
        refine rs_aldn wi_324_73 l0 ?_
        refine dq_gr wi_324_74 wf_324_19 tf_172_3 ?_
        refine dq_gi wi_324_77 wf_324_85 tf_7_7 ?_
        refine rs_icge (tg := 161) wi_324_80 ⟨by decide, by decide⟩ (fun q => ?_) (fun q => ?_)
        ·
          have h := wp_pos h q
          exact h _ l0
        ·
          have h := wp_neg h q
          refine rs_aldn wi_324_83 l0 ?_
          refine rs_pure wi_324_84 rfl ?_
          refine rs_topi (v := 206) (by decide) ?_
          refine rs_V wi_324_87 wc_324_88 rfl (dq_isa tf_172_0 wa_12_321) (Nat.le_trans (by decide) hF) (ml_le wm_321 (Nat.le_trans (by decide) hLo)) rfl (sp_321 hw (Nat.le_trans (by decide : 3 ≤ 9 - 1) (Nat.sub_le_sub_right hF 1)) (ml_sub wm_321 (Nat.le_trans (by decide : 67 ≤ 201 - 21) (Nat.sub_le_sub_right hLo 21))) (wp_bind h) (fun r21 h => rs_back0 ?_))
          refine rs_aldn wi_324_90 l0 ?_
          refine rs_aldn wi_324_91 l0 ?_
          refine dq_gr wi_324_92 wf_324_19 tf_172_3 ?_
          refine dq_gr wi_324_95 wf_324_91 tf_7_5 ?_
          refine rs_ildn wi_324_98 l1 ?_
          obtain ⟨g22, h⟩ := wp_gd h
          refine dq_lald wi_324_99 t_10 g22 ?_
          refine rs_V wi_324_100 wc_324_51 rfl (dq_isa tf_172_0 wa_12_320) (Nat.le_trans (by decide) hF) (ml_le wm_320 (Nat.le_trans (by decide) hLo)) rfl (sp_320 hw (Nat.le_trans (by decide : 2 ≤ 9 - 1) (Nat.sub_le_sub_right hF 1)) (ml_sub wm_320 (Nat.le_trans (by decide : 45 ≤ 201 - 22) (Nat.sub_le_sub_right hLo 22))) (wp_bind h) (fun r23 h => rs_back0 ?_))
          refine rs_aldn wi_324_103 l0 ?_
          refine rs_pure wi_324_104 rfl ?_
          refine rs_topi (v := 58) (by decide) ?_
          refine rs_V wi_324_106 wc_324_54 rfl (dq_isa tf_172_0 wa_12_322) (Nat.le_trans (by decide) hF) (ml_le wm_322 (Nat.le_trans (by decide) hLo)) rfl (sp_322 hw (Nat.le_trans (by decide : 1 ≤ 9 - 1) (Nat.sub_le_sub_right hF 1)) (ml_sub wm_322 (Nat.le_trans (by decide : 21 ≤ 201 - 21) (Nat.sub_le_sub_right hLo 21))) (wp_bind h) (fun r24 h => rs_back0 ?_))
          refine rs_aldn wi_324_109 l0 ?_
          refine rs_aldn wi_324_110 l0 ?_
          refine dq_gr wi_324_111 wf_324_19 tf_172_3 ?_
          refine dq_gr wi_324_114 wf_324_77 tf_7_3 ?_
          refine rs_aldn wi_324_117 l0 ?_
          refine dq_gr wi_324_118 wf_324_19 tf_172_3 ?_
          refine dq_gr wi_324_121 wf_324_94 tf_7_6 ?_
          refine rs_ildn wi_324_124 l1 ?_
          obtain ⟨g25, h⟩ := wp_gd h
          refine dq_iald wi_324_125 t_11 g25 ?_
          obtain ⟨g26, h⟩ := wp_gd h
          refine dq_aald wi_324_126 (by decide) t_9 g26 (hw.2.1 _ (ib_lt g26)) ?_
          refine dq_gl wi_324_127 wf_324_98 (fK_0 (ib_lt g26)) ?_
          refine rs_V wi_324_130 wc_324_51 rfl (dq_isa tf_172_0 wa_12_320) (Nat.le_trans (by decide) hF) (ml_le wm_320 (Nat.le_trans (by decide) hLo)) rfl (sp_320 hw (Nat.le_trans (by decide : 2 ≤ 9 - 1) (Nat.sub_le_sub_right hF 1)) (ml_sub wm_320 (Nat.le_trans (by decide : 45 ≤ 201 - 22) (Nat.sub_le_sub_right hLo 22))) (wp_bind h) (fun r27 h => rs_back0 ?_))
          refine rs_aldn wi_324_133 l0 ?_
          refine rs_pure wi_324_134 rfl ?_
          refine rs_topi (v := 207) (by decide) ?_
          refine rs_V wi_324_137 wc_324_88 rfl (dq_isa tf_172_0 wa_12_321) (Nat.le_trans (by decide) hF) (ml_le wm_321 (Nat.le_trans (by decide) hLo)) rfl (sp_321 hw (Nat.le_trans (by decide : 3 ≤ 9 - 1) (Nat.sub_le_sub_right hF 1)) (ml_sub wm_321 (Nat.le_trans (by decide : 67 ≤ 201 - 21) (Nat.sub_le_sub_right hLo 21))) (wp_bind h) (fun r28 h => rs_back0 ?_))
          refine rs_aldn wi_324_140 l0 ?_
          refine rs_pure wi_324_141 rfl ?_
          refine rs_topi (v := 1212) (by decide) ?_
          refine rs_ildn wi_324_144 l1 ?_
          refine rs_pure wi_324_145 rfl ?_
          refine rs_V wi_324_146 wc_324_104 rfl (dq_isa tf_172_0 wa_12_330) (Nat.le_trans (by decide) hF) (ml_le wm_330 (Nat.le_trans (by decide) hLo)) rfl (sp_330 hw (Nat.le_trans (by decide : 7 ≤ 9 - 1) (Nat.sub_le_sub_right hF 1)) (ml_sub wm_330 (Nat.le_trans (by decide : 155 ≤ 201 - 23) (Nat.sub_le_sub_right hLo 23))) (wp_bind h) (fun r29 h => rs_back0 ?_))
          refine rs_aldn wi_324_149 l0 ?_
          refine rs_pure wi_324_150 rfl ?_
          refine rs_topi (v := 59) (by decide) ?_
          refine rs_V wi_324_152 wc_324_54 rfl (dq_isa tf_172_0 wa_12_322) (Nat.le_trans (by decide) hF) (ml_le wm_322 (Nat.le_trans (by decide) hLo)) rfl (sp_322 hw (Nat.le_trans (by decide : 1 ≤ 9 - 1) (Nat.sub_le_sub_right hF 1)) (ml_sub wm_322 (Nat.le_trans (by decide : 21 ≤ 201 - 21) (Nat.sub_le_sub_right hLo 21))) (wp_bind h) (fun r30 h => rs_back0 ?_))
          obtain ⟨v32, e33, h⟩ := wp_lt h
          refine dl_inc wi_324_155 l1 rfl e33 (fun lv l1 t31 => ?_)
          have l0 := t31 _ _ (by decide) (Or.inl rfl) l0
          refine rs_goto (tg := 72) wi_324_158 ⟨by decide, by decide⟩ ?_
          exact h _ l0 l1
      ·
        intro x34 h lv l0
        refine rs_pure wi_324_161 rfl ?_
        refine rs_topi (v := 0) (by decide) ?_
        refine dl_istn wi_324_162 rfl (fun lv l1 t35 => ?_)
        have l0 := t35 _ _ (by decide) (Or.inl rfl) l0
        refine whl_ex (A := fun s36 : Int32 × cS => ∀ lv, rx_ld lv 0 = some (.ref 172) → rx_ld lv 1 = some (.int s36.1) → rs (rt_P sc fm) 324 F Lo 163 lv [] (hq true s36.2 y w) Q) (B := (fun x63 : cS => ∀ lv, rx_ld lv 0 = some (.ref 172) → rs (rt_P sc fm) 324 F Lo 271 lv [] (hq true x63 y w) Q)) ?_ ?_ _ _ (wp_bind h) _ l0 l1
        · intro s36 h lv l0 l1
          refine rs_ildn wi_324_163 l1 ?_
          refine rs_aldn wi_324_164 l0 ?_
          refine dq_gr wi_324_165 wf_324_19 tf_172_3 ?_
          refine dq_gi wi_324_168 wf_324_107 tf_7_10 ?_
          refine rs_icge (tg := 271) wi_324_171 ⟨by decide, by decide⟩ (fun q => ?_) (fun q => ?_)
          ·
            have h := wp_pos h q
            exact h _ l0
          ·
            have h := wp_neg h q
            refine rs_aldn wi_324_174 l0 ?_
            refine rs_ildn wi_324_175 l1 ?_
            refine rs_V wi_324_176 wc_324_110 rfl (dq_isa tf_172_0 wa_12_328) (Nat.le_trans (by decide) hF) (ml_le wm_328 (Nat.le_trans (by decide) hLo)) rfl (sp_328 hw (Nat.le_trans (by decide : 8 ≤ 9 - 1) (Nat.sub_le_sub_right hF 1)) (ml_sub wm_328 (Nat.le_trans (by decide : 178 ≤ 201 - 23) (Nat.sub_le_sub_right hLo 23))) (wp_bind h) (fun r37 h => rs_back0 ?_))
            refine rs_pure wi_324_179 rfl ?_
            refine rs_topi (v := 0) (by decide) ?_
            refine dl_istn wi_324_180 rfl (fun lv l2 t38 => ?_)
            have l0 := t38 _ _ (by decide) (Or.inl rfl) l0
            have l1 := t38 _ _ (by decide) (Or.inl rfl) l1
            refine whl_ex (A := fun s39 : Int32 × cS => ∀ lv, rx_ld lv 0 = some (.ref 172) → rx_ld lv 1 = some (.int s36.1) → rx_ld lv 2 = some (.int s39.1) → rs (rt_P sc fm) 324 F Lo 181 lv [] (hq true s39.2 y w) Q) (B := (fun x58 : cS => ∀ lv, rx_ld lv 0 = some (.ref 172) → rx_ld lv 1 = some (.int s36.1) → rs (rt_P sc fm) 324 F Lo 259 lv [] (hq true x58 y w) Q)) ?_ ?_ _ _ (wp_bind h) _ l0 l1 l2
            · intro s39 h lv l0 l1 l2
              refine rs_ildn wi_324_181 l2 ?_
              refine rs_aldn wi_324_182 l0 ?_
              refine dq_gr wi_324_183 wf_324_19 tf_172_3 ?_
              refine dq_gr wi_324_186 wf_324_113 tf_7_14 ?_
              refine rs_ildn wi_324_189 l1 ?_
              obtain ⟨g40, h⟩ := wp_gd h
              refine dq_iald wi_324_190 t_17 g40 ?_
              refine rs_icge (tg := 259) wi_324_191 ⟨by decide, by decide⟩ (fun q => ?_) (fun q => ?_)
              ·
                have h := wp_pos h q
                exact h _ l0 l1
              ·
                have h := wp_neg h q
                refine rs_ildn wi_324_194 l1 ?_
                refine rs_pure wi_324_195 rfl ?_
                refine rs_topi (v := 8) (by decide) ?_
                refine rs_pure wi_324_197 rfl ?_
                refine rs_ildn wi_324_198 l2 ?_
                refine rs_pure wi_324_199 rfl ?_
                obtain ⟨v42, e43, h⟩ := wp_lt h
                refine rs_topi e43 ?_
                refine dl_istn wi_324_200 rfl (fun lv l3 t41 => ?_)
                have l0 := t41 _ _ (by decide) (Or.inl rfl) l0
                have l1 := t41 _ _ (by decide) (Or.inl rfl) l1
                have l2 := t41 _ _ (by decide) (Or.inl rfl) l2
                refine rs_aldn wi_324_201 l0 ?_
                refine rs_ildn wi_324_202 l3 ?_
                refine rs_V wi_324_203 wc_324_116 rfl (dq_isa tf_172_0 wa_12_329) (Nat.le_trans (by decide) hF) (ml_le wm_329 (Nat.le_trans (by decide) hLo)) rfl (sp_329 hw (Nat.le_trans (by decide : 8 ≤ 9 - 1) (Nat.sub_le_sub_right hF 1)) (ml_sub wm_329 (Nat.le_trans (by decide : 178 ≤ 201 - 22) (Nat.sub_le_sub_right hLo 22))) (wp_bind h) (fun r44 h => rs_back0 ?_))
                refine rs_pure wi_324_206 rfl ?_
                refine rs_topi (v := 0) (by decide) ?_
                refine dl_ist wi_324_207 rfl (fun lv l4 t45 => ?_)
                have l0 := t45 _ _ (by decide) (Or.inl rfl) l0
                have l1 := t45 _ _ (by decide) (Or.inl rfl) l1
                have l2 := t45 _ _ (by decide) (Or.inl rfl) l2
                have l3 := t45 _ _ (by decide) (Or.inl rfl) l3
                refine whl_ex (A := fun s46 : Int32 × cS => ∀ lv, rx_ld lv 0 = some (.ref 172) → rx_ld lv 1 = some (.int s36.1) → rx_ld lv 2 = some (.int s39.1) → rx_ld lv 3 = some (.int v42) → rx_ld lv 4 = some (.int s46.1) → rs (rt_P sc fm) 324 F Lo 209 lv [] (hq true s46.2 y w) Q) (B := (fun x53 : cS => ∀ lv, rx_ld lv 0 = some (.ref 172) → rx_ld lv 1 = some (.int s36.1) → rx_ld lv 2 = some (.int s39.1) → rs (rt_P sc fm) 324 F Lo 247 lv [] (hq true x53 y w) Q)) ?_ ?_ _ _ (wp_bind h) _ l0 l1 l2 l3 l4
                · intro s46 h lv l0 l1 l2 l3 l4
                  refine rs_ild wi_324_209 l4 ?_
                  refine rs_aldn wi_324_211 l0 ?_
                  refine dq_gr wi_324_212 wf_324_23 tf_172_4 ?_
                  refine dq_gr wi_324_215 wf_324_119 tf_114_6 ?_
                  refine rs_ildn wi_324_218 l3 ?_
                  obtain ⟨g47, h⟩ := wp_gd h
                  refine dq_iald wi_324_219 t_120 g47 ?_
                  refine rs_icge (tg := 247) wi_324_220 ⟨by decide, by decide⟩ (fun q => ?_) (fun q => ?_)
                  ·
                    have h := wp_pos h q
                    exact h _ l0 l1 l2
                  ·
                    have h := wp_neg h q
                    refine rs_aldn wi_324_223 l0 ?_
                    refine rs_ildn wi_324_224 l3 ?_
                    refine rs_aldn wi_324_225 l0 ?_
                    refine dq_gr wi_324_226 wf_324_23 tf_172_4 ?_
                    refine dq_gr wi_324_229 wf_324_124 tf_114_5 ?_
                    refine rs_ildn wi_324_232 l3 ?_
                    obtain ⟨g48, h⟩ := wp_gd h
                    refine dq_iald wi_324_233 t_119 g48 ?_
                    refine rs_ild wi_324_234 l4 ?_
                    refine rs_pure wi_324_236 rfl ?_
                    refine rs_pure wi_324_237 rfl ?_
                    refine rs_topi (v := (-1)) (by decide) ?_
                    refine rs_V wi_324_238 wc_324_127 rfl (dq_isa tf_172_0 wa_12_333) (Nat.le_trans (by decide) hF) (ml_le wm_333 (Nat.le_trans (by decide) hLo)) rfl (sp_333 hw (Nat.le_trans (by decide : 8 ≤ 9 - 1) (Nat.sub_le_sub_right hF 1)) (ml_sub wm_333 (Nat.le_trans (by decide : 178 ≤ 201 - 23) (Nat.sub_le_sub_right hLo 23))) (wp_bind h) (fun r49 h => rs_back0 ?_))
                    obtain ⟨v51, e52, h⟩ := wp_lt h
                    refine dl_inc wi_324_241 l4 rfl e52 (fun lv l4 t50 => ?_)
                    have l0 := t50 _ _ (by decide) (Or.inl rfl) l0
                    have l1 := t50 _ _ (by decide) (Or.inl rfl) l1
                    have l2 := t50 _ _ (by decide) (Or.inl rfl) l2
                    have l3 := t50 _ _ (by decide) (Or.inl rfl) l3
                    refine rs_goto (tg := 209) wi_324_244 ⟨by decide, by decide⟩ ?_
                    exact h _ l0 l1 l2 l3 l4
                ·
                  intro x53 h lv l0 l1 l2
                  refine rs_aldn wi_324_247 l0 ?_
                  refine rs_pure wi_324_248 rfl ?_
                  refine rs_topi (v := 125) (by decide) ?_
                  refine rs_V wi_324_250 wc_324_54 rfl (dq_isa tf_172_0 wa_12_322) (Nat.le_trans (by decide) hF) (ml_le wm_322 (Nat.le_trans (by decide) hLo)) rfl (sp_322 hw (Nat.le_trans (by decide : 1 ≤ 9 - 1) (Nat.sub_le_sub_right hF 1)) (ml_sub wm_322 (Nat.le_trans (by decide : 21 ≤ 201 - 21) (Nat.sub_le_sub_right hLo 21))) (wp_bind h) (fun r54 h => rs_back0 ?_))
                  obtain ⟨v56, e57, h⟩ := wp_lt h
                  refine dl_inc wi_324_253 l2 rfl e57 (fun lv l2 t55 => ?_)
                  have l0 := t55 _ _ (by decide) (Or.inl rfl) l0
                  have l1 := t55 _ _ (by decide) (Or.inl rfl) l1
                  refine rs_goto (tg := 181) wi_324_256 ⟨by decide, by decide⟩ ?_
                  exact h _ l0 l1 l2
            ·
              intro x58 h lv l0 l1
              refine rs_aldn wi_324_259 l0 ?_
              refine rs_pure wi_324_260 rfl ?_
              refine rs_topi (v := 125) (by decide) ?_
              refine rs_V wi_324_262 wc_324_54 rfl (dq_isa tf_172_0 wa_12_322) (Nat.le_trans (by decide) hF) (ml_le wm_322 (Nat.le_trans (by decide) hLo)) rfl (sp_322 hw (Nat.le_trans (by decide : 1 ≤ 9 - 1) (Nat.sub_le_sub_right hF 1)) (ml_sub wm_322 (Nat.le_trans (by decide : 21 ≤ 201 - 21) (Nat.sub_le_sub_right hLo 21))) (wp_bind h) (fun r59 h => rs_back0 ?_))
              obtain ⟨v61, e62, h⟩ := wp_lt h
              refine dl_inc wi_324_265 l1 rfl e62 (fun lv l1 t60 => ?_)
              have l0 := t60 _ _ (by decide) (Or.inl rfl) l0
              refine rs_goto (tg := 163) wi_324_268 ⟨by decide, by decide⟩ ?_
              exact h _ l0 l1
        ·
          intro x63 h lv l0
          refine rs_aldn wi_324_271 l0 ?_
          refine dq_gi wi_324_272 wf_324_35 tf_172_1 ?_
          exact rs_iret wi_324_275 wr_324 rfl (hQ ((x63.1 172 1), x63) h)
theorem wa_12_324 : rz_cn 12 (rx_yn (rt_P sc fm) 324).cls = true := (by decide +kernel : rz_cn 12 (rt_yn 324).cls = true)
theorem wc_61_142 : rx_ct (rt_P sc fm) 61 142 = some (0, 324, 0) := (by decide +kernel : rt_ct 61 142 = some (0, 324, 0))
theorem wf_61_126 : rx_ft (rt_P sc fm) 61 126 = some (9, 0) := (by decide +kernel : rt_ft 61 126 = some (9, 0))
theorem wf_61_19 : rx_ft (rt_P sc fm) 61 19 = some (14, 1) := (by decide +kernel : rt_ft 61 19 = some (14, 1))
theorem wf_61_91 : rx_ft (rt_P sc fm) 61 91 = some (14, 9) := (by decide +kernel : rt_ft 61 91 = some (14, 9))
theorem wi_61_0 : ri (rt_P sc fm) 61 0 (.aload_n 0) (1) := ri_of (by decide +kernel) rfl
theorem wi_61_1 : ri (rt_P sc fm) 61 1 (.getfield 19) (4) := ri_of (by decide +kernel) rfl
theorem wi_61_10 : ri (rt_P sc fm) 61 10 (.aload_n 0) (11) := ri_of (by decide +kernel) rfl
theorem wi_61_11 : ri (rt_P sc fm) 61 11 (.getfield 91) (14) := ri_of (by decide +kernel) rfl
theorem wi_61_14 : ri (rt_P sc fm) 61 14 (.invokevirtual 142) (17) := ri_of (by decide +kernel) rfl
theorem wi_61_17 : ri (rt_P sc fm) 61 17 (.goto 4) (20) := ri_of (by decide +kernel) rfl
theorem wi_61_20 : ri (rt_P sc fm) 61 20 (.iconst (-1)) (21) := ri_of (by decide +kernel) rfl
theorem wi_61_21 : ri (rt_P sc fm) 61 21 (.ireturn) (22) := ri_of (by decide +kernel) rfl
theorem wi_61_4 : ri (rt_P sc fm) 61 4 (.getfield 126) (7) := ri_of (by decide +kernel) rfl
theorem wi_61_7 : ri (rt_P sc fm) 61 7 (.ifCond .eq 13) (10) := ri_of (by decide +kernel) rfl
theorem wm_324 : rx_ml (rt_P sc fm) 324 = 5 := (by decide +kernel : rt_ml 324 = 5)
theorem wr_61 : rx_rt (rt_P sc fm) 61 = (some FieldType.int) := (by decide +kernel : rt_rt 61 = (some FieldType.int))
/-- MarkHouse.tell()I -/
def d_61 (n : Nat)  (c : cS) : Option (Int32 × cS) :=
  jn (fun p1 : Int32 × cS =>
    some (p1.1, p1.2))
  (fun j21 =>
  if (c.1 7 0) = 0 then
    j21 ((-1), c)
  else
    Option.bind (d_324 n c) (fun r2 =>
    j21 (r2.1, r2.2)))
theorem sp_61 {F Lo n : Nat}  {c y : cS} {w : cW} {K : Int32 × cS → Prop} {Q : ((Option Value) ⊕ String) → List va_E → Prop} (hw : rOK fm w) (hF : 10 ≤ F) (hLo : 225 ≤ Lo)  (h : wp (d_61 n  c) K) (hQ : ∀ r, K r → Q (.inl (some (.int r.1))) (hq true r.2 y w)) : rs (rt_P sc fm) 61 F Lo 0 [(0, .ref 0)] [] (hq true c y w) Q := by
  unfold d_61 at h
  obtain ⟨lv, elv⟩ : ∃ lv : rx_L, lv = [(0, .ref 0)] := ⟨_, rfl⟩
  rw [← elv]
  have l0 : rx_ld lv 0 = some (.ref 0) := by rw [elv]; rfl
  refine rs_aldn wi_61_0 l0 ?_
  refine dq_gr wi_61_1 wf_61_19 tf_0_1 ?_
  refine dq_gi wi_61_4 wf_61_126 tf_7_0 ?_
  refine wp_jn (B := fun p1 : Int32 × cS => ∀ lv, rs (rt_P sc fm) 61 F Lo 21 lv [.int p1.1] (hq true p1.2 y w) Q) h (fun p1 h lv => ?_) (fun j21 hj21 h => ?_)
  ·
    exact rs_iret wi_61_21 wr_61 rfl (hQ (p1.1, p1.2) h)
  refine rs_ifeq (tg := 20) wi_61_7 ⟨by decide, by decide⟩ (fun q => ?_) (fun q => ?_)
  ·
    have h := wp_pos h q
    refine rs_pure wi_61_20 rfl ?_
    refine rs_topi (v := (-1)) (by decide) ?_
    exact hj21 _ h _
  ·
    have h := wp_neg h q
    refine rs_aldn wi_61_10 l0 ?_
    refine dq_gr wi_61_11 wf_61_91 tf_0_9 ?_
    refine rs_V wi_61_14 wc_61_142 rfl (dq_isa tf_172_0 wa_12_324) (Nat.le_trans (by decide) hF) (ml_le wm_324 (Nat.le_trans (by decide) hLo)) rfl (sp_324 hw (Nat.le_trans (by decide : 9 ≤ 10 - 1) (Nat.sub_le_sub_right hF 1)) (ml_sub wm_324 (Nat.le_trans (by decide : 201 ≤ 225 - 24) (Nat.sub_le_sub_right hLo 24))) (wp_bind h) (fun r2 h => rs_back1 ?_))
    refine rs_goto (tg := 21) wi_61_17 ⟨by decide, by decide⟩ ?_
    exact hj21 _ h _
theorem wc_252_68 : rx_ct (rt_P sc fm) 252 68 = some (0, 37, 1) := (by decide +kernel : rt_ct 252 68 = some (0, 37, 1))
theorem wf_252_100 : rx_ft (rt_P sc fm) 252 100 = some (8, 1) := (by decide +kernel : rt_ft 252 100 = some (8, 1))
theorem wf_252_103 : rx_ft (rt_P sc fm) 252 103 = some (6, 1) := (by decide +kernel : rt_ft 252 103 = some (6, 1))
theorem wf_252_11 : rx_ft (rt_P sc fm) 252 11 = some (9, 1) := (by decide +kernel : rt_ft 252 11 = some (9, 1))
theorem wf_252_19 : rx_ft (rt_P sc fm) 252 19 = some (9, 3) := (by decide +kernel : rt_ft 252 19 = some (9, 3))
theorem wf_252_37 : rx_ft (rt_P sc fm) 252 37 = some (9, 11) := (by decide +kernel : rt_ft 252 37 = some (9, 11))
theorem wf_252_46 : rx_ft (rt_P sc fm) 252 46 = some (9, 14) := (by decide +kernel : rt_ft 252 46 = some (9, 14))
theorem wf_252_55 : rx_ft (rt_P sc fm) 252 55 = some (9, 2) := (by decide +kernel : rt_ft 252 55 = some (9, 2))
theorem wf_252_59 : rx_ft (rt_P sc fm) 252 59 = some (9, 4) := (by decide +kernel : rt_ft 252 59 = some (9, 4))
theorem wf_252_62 : rx_ft (rt_P sc fm) 252 62 = some (9, 7) := (by decide +kernel : rt_ft 252 62 = some (9, 7))
theorem wf_252_65 : rx_ft (rt_P sc fm) 252 65 = some (9, 10) := (by decide +kernel : rt_ft 252 65 = some (9, 10))
theorem wi_252_0 : ri (rt_P sc fm) 252 0 (.iload_n 1) (1) := ri_of (by decide +kernel) rfl
theorem wi_252_1 : ri (rt_P sc fm) 252 1 (.tableswitch 161 0 7 #[47, 52, 57, 62, 67, 89, 115, 138]) (1 + rx_len (.tableswitch 161 0 7 #[47, 52, 57, 62, 67, 89, 115, 138])) := ri_of (by decide +kernel) rfl
theorem wi_252_102 : ri (rt_P sc fm) 252 102 (.aload_n 0) (103) := ri_of (by decide +kernel) rfl
theorem wi_252_103 : ri (rt_P sc fm) 252 103 (.getfield 19) (106) := ri_of (by decide +kernel) rfl
theorem wi_252_106 : ri (rt_P sc fm) 252 106 (.iload_n 2) (107) := ri_of (by decide +kernel) rfl
theorem wi_252_107 : ri (rt_P sc fm) 252 107 (.aaload) (108) := ri_of (by decide +kernel) rfl
theorem wi_252_108 : ri (rt_P sc fm) 252 108 (.getfield 103) (111) := ri_of (by decide +kernel) rfl
theorem wi_252_111 : ri (rt_P sc fm) 252 111 (.goto 4) (114) := ri_of (by decide +kernel) rfl
theorem wi_252_114 : ri (rt_P sc fm) 252 114 (.iconst (-1)) (115) := ri_of (by decide +kernel) rfl
theorem wi_252_115 : ri (rt_P sc fm) 252 115 (.ireturn) (116) := ri_of (by decide +kernel) rfl
theorem wi_252_116 : ri (rt_P sc fm) 252 116 (.iload_n 2) (117) := ri_of (by decide +kernel) rfl
theorem wi_252_117 : ri (rt_P sc fm) 252 117 (.ifCond .lt 20) (120) := ri_of (by decide +kernel) rfl
theorem wi_252_120 : ri (rt_P sc fm) 252 120 (.iload_n 2) (121) := ri_of (by decide +kernel) rfl
theorem wi_252_121 : ri (rt_P sc fm) 252 121 (.aload_n 0) (122) := ri_of (by decide +kernel) rfl
theorem wi_252_122 : ri (rt_P sc fm) 252 122 (.getfield 65) (125) := ri_of (by decide +kernel) rfl
theorem wi_252_125 : ri (rt_P sc fm) 252 125 (.if_icmp .ge 12) (128) := ri_of (by decide +kernel) rfl
theorem wi_252_128 : ri (rt_P sc fm) 252 128 (.aload_n 0) (129) := ri_of (by decide +kernel) rfl
theorem wi_252_129 : ri (rt_P sc fm) 252 129 (.getfield 37) (132) := ri_of (by decide +kernel) rfl
theorem wi_252_132 : ri (rt_P sc fm) 252 132 (.iload_n 2) (133) := ri_of (by decide +kernel) rfl
theorem wi_252_133 : ri (rt_P sc fm) 252 133 (.iaload) (134) := ri_of (by decide +kernel) rfl
theorem wi_252_134 : ri (rt_P sc fm) 252 134 (.goto 4) (137) := ri_of (by decide +kernel) rfl
theorem wi_252_137 : ri (rt_P sc fm) 252 137 (.iconst (-1)) (138) := ri_of (by decide +kernel) rfl
theorem wi_252_138 : ri (rt_P sc fm) 252 138 (.ireturn) (139) := ri_of (by decide +kernel) rfl
theorem wi_252_139 : ri (rt_P sc fm) 252 139 (.iload_n 2) (140) := ri_of (by decide +kernel) rfl
theorem wi_252_140 : ri (rt_P sc fm) 252 140 (.ifCond .lt 20) (143) := ri_of (by decide +kernel) rfl
theorem wi_252_143 : ri (rt_P sc fm) 252 143 (.iload_n 2) (144) := ri_of (by decide +kernel) rfl
theorem wi_252_144 : ri (rt_P sc fm) 252 144 (.aload_n 0) (145) := ri_of (by decide +kernel) rfl
theorem wi_252_145 : ri (rt_P sc fm) 252 145 (.getfield 65) (148) := ri_of (by decide +kernel) rfl
theorem wi_252_148 : ri (rt_P sc fm) 252 148 (.if_icmp .ge 12) (151) := ri_of (by decide +kernel) rfl
theorem wi_252_151 : ri (rt_P sc fm) 252 151 (.aload_n 0) (152) := ri_of (by decide +kernel) rfl
theorem wi_252_152 : ri (rt_P sc fm) 252 152 (.getfield 46) (155) := ri_of (by decide +kernel) rfl
theorem wi_252_155 : ri (rt_P sc fm) 252 155 (.iload_n 2) (156) := ri_of (by decide +kernel) rfl
theorem wi_252_156 : ri (rt_P sc fm) 252 156 (.iaload) (157) := ri_of (by decide +kernel) rfl
theorem wi_252_157 : ri (rt_P sc fm) 252 157 (.goto 4) (160) := ri_of (by decide +kernel) rfl
theorem wi_252_160 : ri (rt_P sc fm) 252 160 (.iconst (-1)) (161) := ri_of (by decide +kernel) rfl
theorem wi_252_161 : ri (rt_P sc fm) 252 161 (.ireturn) (162) := ri_of (by decide +kernel) rfl
theorem wi_252_162 : ri (rt_P sc fm) 252 162 (.iconst (-1)) (163) := ri_of (by decide +kernel) rfl
theorem wi_252_163 : ri (rt_P sc fm) 252 163 (.ireturn) (164) := ri_of (by decide +kernel) rfl
theorem wi_252_48 : ri (rt_P sc fm) 252 48 (.aload_n 0) (49) := ri_of (by decide +kernel) rfl
theorem wi_252_49 : ri (rt_P sc fm) 252 49 (.getfield 55) (52) := ri_of (by decide +kernel) rfl
theorem wi_252_52 : ri (rt_P sc fm) 252 52 (.ireturn) (53) := ri_of (by decide +kernel) rfl
theorem wi_252_53 : ri (rt_P sc fm) 252 53 (.aload_n 0) (54) := ri_of (by decide +kernel) rfl
theorem wi_252_54 : ri (rt_P sc fm) 252 54 (.getfield 59) (57) := ri_of (by decide +kernel) rfl
theorem wi_252_57 : ri (rt_P sc fm) 252 57 (.ireturn) (58) := ri_of (by decide +kernel) rfl
theorem wi_252_58 : ri (rt_P sc fm) 252 58 (.aload_n 0) (59) := ri_of (by decide +kernel) rfl
theorem wi_252_59 : ri (rt_P sc fm) 252 59 (.getfield 62) (62) := ri_of (by decide +kernel) rfl
theorem wi_252_62 : ri (rt_P sc fm) 252 62 (.ireturn) (63) := ri_of (by decide +kernel) rfl
theorem wi_252_63 : ri (rt_P sc fm) 252 63 (.aload_n 0) (64) := ri_of (by decide +kernel) rfl
theorem wi_252_64 : ri (rt_P sc fm) 252 64 (.getfield 65) (67) := ri_of (by decide +kernel) rfl
theorem wi_252_67 : ri (rt_P sc fm) 252 67 (.ireturn) (68) := ri_of (by decide +kernel) rfl
theorem wi_252_68 : ri (rt_P sc fm) 252 68 (.aload_n 0) (69) := ri_of (by decide +kernel) rfl
theorem wi_252_69 : ri (rt_P sc fm) 252 69 (.iload_n 2) (70) := ri_of (by decide +kernel) rfl
theorem wi_252_70 : ri (rt_P sc fm) 252 70 (.invokevirtual 68) (73) := ri_of (by decide +kernel) rfl
theorem wi_252_73 : ri (rt_P sc fm) 252 73 (.ifCond .eq 15) (76) := ri_of (by decide +kernel) rfl
theorem wi_252_76 : ri (rt_P sc fm) 252 76 (.aload_n 0) (77) := ri_of (by decide +kernel) rfl
theorem wi_252_77 : ri (rt_P sc fm) 252 77 (.getfield 11) (80) := ri_of (by decide +kernel) rfl
theorem wi_252_80 : ri (rt_P sc fm) 252 80 (.iload_n 2) (81) := ri_of (by decide +kernel) rfl
theorem wi_252_81 : ri (rt_P sc fm) 252 81 (.aaload) (82) := ri_of (by decide +kernel) rfl
theorem wi_252_82 : ri (rt_P sc fm) 252 82 (.getfield 100) (85) := ri_of (by decide +kernel) rfl
theorem wi_252_85 : ri (rt_P sc fm) 252 85 (.goto 4) (88) := ri_of (by decide +kernel) rfl
theorem wi_252_88 : ri (rt_P sc fm) 252 88 (.iconst (-1)) (89) := ri_of (by decide +kernel) rfl
theorem wi_252_89 : ri (rt_P sc fm) 252 89 (.ireturn) (90) := ri_of (by decide +kernel) rfl
theorem wi_252_90 : ri (rt_P sc fm) 252 90 (.iload_n 2) (91) := ri_of (by decide +kernel) rfl
theorem wi_252_91 : ri (rt_P sc fm) 252 91 (.ifCond .lt 23) (94) := ri_of (by decide +kernel) rfl
theorem wi_252_94 : ri (rt_P sc fm) 252 94 (.iload_n 2) (95) := ri_of (by decide +kernel) rfl
theorem wi_252_95 : ri (rt_P sc fm) 252 95 (.aload_n 0) (96) := ri_of (by decide +kernel) rfl
theorem wi_252_96 : ri (rt_P sc fm) 252 96 (.getfield 59) (99) := ri_of (by decide +kernel) rfl
theorem wi_252_99 : ri (rt_P sc fm) 252 99 (.if_icmp .ge 15) (102) := ri_of (by decide +kernel) rfl
theorem wr_252 : rx_rt (rt_P sc fm) 252 = (some FieldType.int) := (by decide +kernel : rt_rt 252 = (some FieldType.int))
/-- MarkHouse$Program.count(II)I -/
def d_252 (n : Nat) (a1 : Int32) (a2 : Int32) (c : cS) : Option (Int32) :=
  if a1 = 0 then
    some (c.1 7 2)
  else
  if a1 = 1 then
    some (c.1 7 4)
  else
  if a1 = 2 then
    some (c.1 7 7)
  else
  if a1 = 3 then
    some (c.1 7 10)
  else
  if a1 = 4 then
    Option.bind (d_37 n a2 c) (fun v6 =>
    jn (fun p7 : Int32 =>
      some p7)
    (fun j89 =>
    if v6 = 0 then
      j89 (-1)
    else
      if ib a2 4 then
      j89 (c.1 (oA (ix a2)) 1)
      else none))
  else
  if a1 = 5 then
    jn (fun p10 : Int32 =>
      some p10)
    (fun j115 =>
    jn (fun p11 : Unit =>
      j115 (-1))
    (fun j114 =>
    if a2 < 0 then
      j114 ()
    else
      if (c.1 7 4) ≤ a2 then
        j114 ()
      else
        if ib a2 12 then
        j115 (c.1 (kA (ix a2)) 1)
        else none))
  else
  if a1 = 6 then
    jn (fun p14 : Int32 =>
      some p14)
    (fun j138 =>
    jn (fun p15 : Unit =>
      j138 (-1))
    (fun j137 =>
    if a2 < 0 then
      j137 ()
    else
      if (c.1 7 10) ≤ a2 then
        j137 ()
      else
        if ib a2 12 then
        j138 (c.1 14 (ix a2))
        else none))
  else
  if a1 = 7 then
    jn (fun p18 : Int32 =>
      some p18)
    (fun j161 =>
    jn (fun p19 : Unit =>
      j161 (-1))
    (fun j160 =>
    if a2 < 0 then
      j160 ()
    else
      if (c.1 7 10) ≤ a2 then
        j160 ()
      else
        if ib a2 12 then
        j161 (c.1 17 (ix a2))
        else none))
  else
  some (-1)
theorem sp_252 {F Lo n : Nat} {a1 : Int32} {a2 : Int32} {c y : cS} {w : cW} {K : Int32 → Prop} {Q : ((Option Value) ⊕ String) → List va_E → Prop} (hw : rOK fm w) (hF : 1 ≤ F) (hLo : 21 ≤ Lo)  (h : wp (d_252 n a1 a2 c) K) (hQ : ∀ r, K r → Q (.inl (some (.int r))) (hq true c y w)) : rs (rt_P sc fm) 252 F Lo 0 [(0, .ref 7), (1, .int a1), (2, .int a2)] [] (hq true c y w) Q := by
  unfold d_252 at h
  obtain ⟨lv, elv⟩ : ∃ lv : rx_L, lv = [(0, .ref 7), (1, .int a1), (2, .int a2)] := ⟨_, rfl⟩
  rw [← elv]
  have l0 : rx_ld lv 0 = some (.ref 7) := by rw [elv]; rfl
  have l1 : rx_ld lv 1 = some (.int a1) := by rw [elv]; rfl
  have l2 : rx_ld lv 2 = some (.int a2) := by rw [elv]; rfl
  refine rs_ildn wi_252_0 l1 ?_
  by_cases q1 : a1 = 0
  ·
    have h := wp_pos h q1
    refine rs_tsk (tg := 48) (off := 47) (v := 0) wi_252_1 q1 (by decide) (by decide) ⟨by decide, by decide⟩ ?_
    refine rs_aldn wi_252_48 l0 ?_
    refine dq_gi wi_252_49 wf_252_55 tf_7_2 ?_
    exact rs_iret wi_252_52 wr_252 rfl (hQ (c.1 7 2) h)
  have h := wp_neg h q1
  by_cases q2 : a1 = 1
  ·
    have h := wp_pos h q2
    refine rs_tsk (tg := 53) (off := 52) (v := 1) wi_252_1 q2 (by decide) (by decide) ⟨by decide, by decide⟩ ?_
    refine rs_aldn wi_252_53 l0 ?_
    refine dq_gi wi_252_54 wf_252_59 tf_7_4 ?_
    exact rs_iret wi_252_57 wr_252 rfl (hQ (c.1 7 4) h)
  have h := wp_neg h q2
  by_cases q3 : a1 = 2
  ·
    have h := wp_pos h q3
    refine rs_tsk (tg := 58) (off := 57) (v := 2) wi_252_1 q3 (by decide) (by decide) ⟨by decide, by decide⟩ ?_
    refine rs_aldn wi_252_58 l0 ?_
    refine dq_gi wi_252_59 wf_252_62 tf_7_7 ?_
    exact rs_iret wi_252_62 wr_252 rfl (hQ (c.1 7 7) h)
  have h := wp_neg h q3
  by_cases q4 : a1 = 3
  ·
    have h := wp_pos h q4
    refine rs_tsk (tg := 63) (off := 62) (v := 3) wi_252_1 q4 (by decide) (by decide) ⟨by decide, by decide⟩ ?_
    refine rs_aldn wi_252_63 l0 ?_
    refine dq_gi wi_252_64 wf_252_65 tf_7_10 ?_
    exact rs_iret wi_252_67 wr_252 rfl (hQ (c.1 7 10) h)
  have h := wp_neg h q4
  by_cases q5 : a1 = 4
  ·
    have h := wp_pos h q5
    refine rs_tsk (tg := 68) (off := 67) (v := 4) wi_252_1 q5 (by decide) (by decide) ⟨by decide, by decide⟩ ?_
    refine rs_aldn wi_252_68 l0 ?_
    refine rs_ildn wi_252_69 l2 ?_
    refine rs_V wi_252_70 wc_252_68 rfl (dq_isa tf_7_0 wa_9_37) (Nat.le_trans (by decide) hF) (ml_le wm_37 (Nat.le_trans (by decide) hLo)) rfl (sp_37 hw (Nat.le_trans (by decide : 0 ≤ 1 - 1) (Nat.sub_le_sub_right hF 1)) (ml_sub wm_37 (Nat.le_trans (by decide : 0 ≤ 21 - 21) (Nat.sub_le_sub_right hLo 21))) (wp_bind h) (fun v6 h => rs_back1 ?_))
    refine wp_jn (B := fun p7 : Int32 => ∀ lv, rs (rt_P sc fm) 252 F Lo 89 lv [.int p7] (hq true c y w) Q) h (fun p7 h lv => ?_) (fun j89 hj89 h => ?_)
    ·
      exact rs_iret wi_252_89 wr_252 rfl (hQ p7 h)
    refine rs_ifeq (tg := 88) wi_252_73 ⟨by decide, by decide⟩ (fun q => ?_) (fun q => ?_)
    ·
      have h := wp_pos h q
      refine rs_pure wi_252_88 rfl ?_
      refine rs_topi (v := (-1)) (by decide) ?_
      exact hj89 _ h _
    ·
      have h := wp_neg h q
      refine rs_aldn wi_252_76 l0 ?_
      refine dq_gr wi_252_77 wf_252_11 tf_7_1 ?_
      refine rs_ildn wi_252_80 l2 ?_
      obtain ⟨g8, h⟩ := wp_gd h
      refine dq_aald wi_252_81 (by decide) t_8 g8 (hw.1 _ (ib_lt g8)) ?_
      refine dq_gi wi_252_82 wf_252_100 (fO_1 (ib_lt g8)) ?_
      refine rs_goto (tg := 89) wi_252_85 ⟨by decide, by decide⟩ ?_
      exact hj89 _ h _
  have h := wp_neg h q5
  by_cases q9 : a1 = 5
  ·
    have h := wp_pos h q9
    refine rs_tsk (tg := 90) (off := 89) (v := 5) wi_252_1 q9 (by decide) (by decide) ⟨by decide, by decide⟩ ?_
    refine rs_ildn wi_252_90 l2 ?_
    refine wp_jn (B := fun p10 : Int32 => ∀ lv, rs (rt_P sc fm) 252 F Lo 115 lv [.int p10] (hq true c y w) Q) h (fun p10 h lv => ?_) (fun j115 hj115 h => ?_)
    ·
      exact rs_iret wi_252_115 wr_252 rfl (hQ p10 h)
    refine wp_jn (B := fun p11 : Unit => ∀ lv, rs (rt_P sc fm) 252 F Lo 114 lv [] (hq true c y w) Q) h (fun p11 h lv => ?_) (fun j114 hj114 h => ?_)
    ·
      refine rs_pure wi_252_114 rfl ?_
      refine rs_topi (v := (-1)) (by decide) ?_
      exact hj115 _ h _
    refine rs_iflt (tg := 114) wi_252_91 ⟨by decide, by decide⟩ (fun q => ?_) (fun q => ?_)
    ·
      have h := wp_pos h q
      exact hj114 _ h _
    ·
      have h := wp_neg h q
      refine rs_ildn wi_252_94 l2 ?_
      refine rs_aldn wi_252_95 l0 ?_
      refine dq_gi wi_252_96 wf_252_59 tf_7_4 ?_
      refine rs_icge (tg := 114) wi_252_99 ⟨by decide, by decide⟩ (fun q => ?_) (fun q => ?_)
      ·
        have h := wp_pos h q
        exact hj114 _ h _
      ·
        have h := wp_neg h q
        refine rs_aldn wi_252_102 l0 ?_
        refine dq_gr wi_252_103 wf_252_19 tf_7_3 ?_
        refine rs_ildn wi_252_106 l2 ?_
        obtain ⟨g12, h⟩ := wp_gd h
        refine dq_aald wi_252_107 (by decide) t_9 g12 (hw.2.1 _ (ib_lt g12)) ?_
        refine dq_gi wi_252_108 wf_252_103 (fK_1 (ib_lt g12)) ?_
        refine rs_goto (tg := 115) wi_252_111 ⟨by decide, by decide⟩ ?_
        exact hj115 _ h _
  have h := wp_neg h q9
  by_cases q13 : a1 = 6
  ·
    have h := wp_pos h q13
    refine rs_tsk (tg := 116) (off := 115) (v := 6) wi_252_1 q13 (by decide) (by decide) ⟨by decide, by decide⟩ ?_
    refine rs_ildn wi_252_116 l2 ?_
    refine wp_jn (B := fun p14 : Int32 => ∀ lv, rs (rt_P sc fm) 252 F Lo 138 lv [.int p14] (hq true c y w) Q) h (fun p14 h lv => ?_) (fun j138 hj138 h => ?_)
    ·
      exact rs_iret wi_252_138 wr_252 rfl (hQ p14 h)
    refine wp_jn (B := fun p15 : Unit => ∀ lv, rs (rt_P sc fm) 252 F Lo 137 lv [] (hq true c y w) Q) h (fun p15 h lv => ?_) (fun j137 hj137 h => ?_)
    ·
      refine rs_pure wi_252_137 rfl ?_
      refine rs_topi (v := (-1)) (by decide) ?_
      exact hj138 _ h _
    refine rs_iflt (tg := 137) wi_252_117 ⟨by decide, by decide⟩ (fun q => ?_) (fun q => ?_)
    ·
      have h := wp_pos h q
      exact hj137 _ h _
    ·
      have h := wp_neg h q
      refine rs_ildn wi_252_120 l2 ?_
      refine rs_aldn wi_252_121 l0 ?_
      refine dq_gi wi_252_122 wf_252_65 tf_7_10 ?_
      refine rs_icge (tg := 137) wi_252_125 ⟨by decide, by decide⟩ (fun q => ?_) (fun q => ?_)
      ·
        have h := wp_pos h q
        exact hj137 _ h _
      ·
        have h := wp_neg h q
        refine rs_aldn wi_252_128 l0 ?_
        refine dq_gr wi_252_129 wf_252_37 tf_7_11 ?_
        refine rs_ildn wi_252_132 l2 ?_
        obtain ⟨g16, h⟩ := wp_gd h
        refine dq_iald wi_252_133 t_14 g16 ?_
        refine rs_goto (tg := 138) wi_252_134 ⟨by decide, by decide⟩ ?_
        exact hj138 _ h _
  have h := wp_neg h q13
  by_cases q17 : a1 = 7
  ·
    have h := wp_pos h q17
    refine rs_tsk (tg := 139) (off := 138) (v := 7) wi_252_1 q17 (by decide) (by decide) ⟨by decide, by decide⟩ ?_
    refine rs_ildn wi_252_139 l2 ?_
    refine wp_jn (B := fun p18 : Int32 => ∀ lv, rs (rt_P sc fm) 252 F Lo 161 lv [.int p18] (hq true c y w) Q) h (fun p18 h lv => ?_) (fun j161 hj161 h => ?_)
    ·
      exact rs_iret wi_252_161 wr_252 rfl (hQ p18 h)
    refine wp_jn (B := fun p19 : Unit => ∀ lv, rs (rt_P sc fm) 252 F Lo 160 lv [] (hq true c y w) Q) h (fun p19 h lv => ?_) (fun j160 hj160 h => ?_)
    ·
      refine rs_pure wi_252_160 rfl ?_
      refine rs_topi (v := (-1)) (by decide) ?_
      exact hj161 _ h _
    refine rs_iflt (tg := 160) wi_252_140 ⟨by decide, by decide⟩ (fun q => ?_) (fun q => ?_)
    ·
      have h := wp_pos h q
      exact hj160 _ h _
    ·
      have h := wp_neg h q
      refine rs_ildn wi_252_143 l2 ?_
      refine rs_aldn wi_252_144 l0 ?_
      refine dq_gi wi_252_145 wf_252_65 tf_7_10 ?_
      refine rs_icge (tg := 160) wi_252_148 ⟨by decide, by decide⟩ (fun q => ?_) (fun q => ?_)
      ·
        have h := wp_pos h q
        exact hj160 _ h _
      ·
        have h := wp_neg h q
        refine rs_aldn wi_252_151 l0 ?_
        refine dq_gr wi_252_152 wf_252_46 tf_7_14 ?_
        refine rs_ildn wi_252_155 l2 ?_
        obtain ⟨g20, h⟩ := wp_gd h
        refine dq_iald wi_252_156 t_17 g20 ?_
        refine rs_goto (tg := 161) wi_252_157 ⟨by decide, by decide⟩ ?_
        exact hj161 _ h _
  have h := wp_neg h q17
  refine rs_tsd (tg := 162) wi_252_1 (rz_sw fun k k1 k2 => by
    have kk : k = 0 ∨ k = 1 ∨ k = 2 ∨ k = 3 ∨ k = 4 ∨ k = 5 ∨ k = 6 ∨ k = 7 := by omega
    rcases kk with rfl | rfl | rfl | rfl | rfl | rfl | rfl | rfl
    · exact q1
    · exact q2
    · exact q3
    · exact q4
    · exact q5
    · exact q9
    · exact q13
    · exact q17
    ) ⟨by decide, by decide⟩ ?_
  refine rs_pure wi_252_162 rfl ?_
  refine rs_topi (v := (-1)) (by decide) ?_
  exact rs_iret wi_252_163 wr_252 rfl (hQ (-1) h)
theorem wf_350_164 : rx_ft (rt_P sc fm) 350 164 = some (2, 2) := (by decide +kernel : rt_ft 350 164 = some (2, 2))
theorem wf_350_167 : rx_ft (rt_P sc fm) 350 167 = some (2, 6) := (by decide +kernel : rt_ft 350 167 = some (2, 6))
theorem wf_350_28 : rx_ft (rt_P sc fm) 350 28 = some (14, 2) := (by decide +kernel : rt_ft 350 28 = some (14, 2))
theorem wi_350_0 : ri (rt_P sc fm) 350 0 (.iload_n 1) (1) := ri_of (by decide +kernel) rfl
theorem wi_350_1 : ri (rt_P sc fm) 350 1 (.bipush 8) (3) := ri_of (by decide +kernel) rfl
theorem wi_350_10 : ri (rt_P sc fm) 350 10 (.getfield 164) (13) := ri_of (by decide +kernel) rfl
theorem wi_350_13 : ri (rt_P sc fm) 350 13 (.iload_n 2) (14) := ri_of (by decide +kernel) rfl
theorem wi_350_14 : ri (rt_P sc fm) 350 14 (.iaload) (15) := ri_of (by decide +kernel) rfl
theorem wi_350_15 : ri (rt_P sc fm) 350 15 (.goto 12) (18) := ri_of (by decide +kernel) rfl
theorem wi_350_18 : ri (rt_P sc fm) 350 18 (.aload_n 0) (19) := ri_of (by decide +kernel) rfl
theorem wi_350_19 : ri (rt_P sc fm) 350 19 (.getfield 28) (22) := ri_of (by decide +kernel) rfl
theorem wi_350_22 : ri (rt_P sc fm) 350 22 (.getfield 167) (25) := ri_of (by decide +kernel) rfl
theorem wi_350_25 : ri (rt_P sc fm) 350 25 (.iload_n 2) (26) := ri_of (by decide +kernel) rfl
theorem wi_350_26 : ri (rt_P sc fm) 350 26 (.iaload) (27) := ri_of (by decide +kernel) rfl
theorem wi_350_27 : ri (rt_P sc fm) 350 27 (.ireturn) (28) := ri_of (by decide +kernel) rfl
theorem wi_350_3 : ri (rt_P sc fm) 350 3 (.if_icmp .ne 15) (6) := ri_of (by decide +kernel) rfl
theorem wi_350_6 : ri (rt_P sc fm) 350 6 (.aload_n 0) (7) := ri_of (by decide +kernel) rfl
theorem wi_350_7 : ri (rt_P sc fm) 350 7 (.getfield 28) (10) := ri_of (by decide +kernel) rfl
theorem wr_350 : rx_rt (rt_P sc fm) 350 = (some FieldType.int) := (by decide +kernel : rt_rt 350 = (some FieldType.int))
/-- MarkHouse.methodSize(II)I -/
def d_350 (n : Nat) (a1 : Int32) (a2 : Int32) (c : cS) : Option (Int32) :=
  jn (fun p1 : Int32 =>
    some p1)
  (fun j27 =>
  if a1 = 8 then
    if ib a2 96 then
    j27 (c.1 116 (ix a2))
    else none
  else
    if ib a2 96 then
    j27 (c.1 120 (ix a2))
    else none)
theorem sp_350 {F Lo n : Nat} {a1 : Int32} {a2 : Int32} {c y : cS} {w : cW} {K : Int32 → Prop} {Q : ((Option Value) ⊕ String) → List va_E → Prop} (hw : rOK fm w) (hF : 0 ≤ F) (hLo : 0 ≤ Lo)  (h : wp (d_350 n a1 a2 c) K) (hQ : ∀ r, K r → Q (.inl (some (.int r))) (hq true c y w)) : rs (rt_P sc fm) 350 F Lo 0 [(0, .ref 0), (1, .int a1), (2, .int a2)] [] (hq true c y w) Q := by
  unfold d_350 at h
  obtain ⟨lv, elv⟩ : ∃ lv : rx_L, lv = [(0, .ref 0), (1, .int a1), (2, .int a2)] := ⟨_, rfl⟩
  rw [← elv]
  have l0 : rx_ld lv 0 = some (.ref 0) := by rw [elv]; rfl
  have l1 : rx_ld lv 1 = some (.int a1) := by rw [elv]; rfl
  have l2 : rx_ld lv 2 = some (.int a2) := by rw [elv]; rfl
  refine rs_ildn wi_350_0 l1 ?_
  refine rs_pure wi_350_1 rfl ?_
  refine rs_topi (v := 8) (by decide) ?_
  refine wp_jn (B := fun p1 : Int32 => ∀ lv, rs (rt_P sc fm) 350 F Lo 27 lv [.int p1] (hq true c y w) Q) h (fun p1 h lv => ?_) (fun j27 hj27 h => ?_)
  ·
    exact rs_iret wi_350_27 wr_350 rfl (hQ p1 h)
  refine rs_icne (tg := 18) wi_350_3 ⟨by decide, by decide⟩ (fun q => ?_) (fun q => ?_)
  ·
    have h := wp_neg h q
    refine rs_aldn wi_350_18 l0 ?_
    refine dq_gr wi_350_19 wf_350_28 tf_0_2 ?_
    refine dq_gr wi_350_22 wf_350_167 tf_114_6 ?_
    refine rs_ildn wi_350_25 l2 ?_
    obtain ⟨g2, h⟩ := wp_gd h
    refine dq_iald wi_350_26 t_120 g2 ?_
    exact hj27 _ h _
  ·
    have h := wp_pos h q
    refine rs_aldn wi_350_6 l0 ?_
    refine dq_gr wi_350_7 wf_350_28 tf_0_2 ?_
    refine dq_gr wi_350_10 wf_350_164 tf_114_2 ?_
    refine rs_ildn wi_350_13 l2 ?_
    obtain ⟨g3, h⟩ := wp_gd h
    refine dq_iald wi_350_14 t_116 g3 ?_
    refine rs_goto (tg := 27) wi_350_15 ⟨by decide, by decide⟩ ?_
    exact hj27 _ h _
theorem tf_0_3 : fo true 0 14 3 (.ref 133) := ⟨_, rfl, rfl, by decide, by decide⟩
theorem wa_14_350 : rz_cn 14 (rx_yn (rt_P sc fm) 350).cls = true := (by decide +kernel : rz_cn 14 (rt_yn 350).cls = true)
theorem wa_2_21 : rz_cn 2 (rx_yn (rt_P sc fm) 21).cls = true := (by decide +kernel : rz_cn 2 (rt_yn 21).cls = true)
theorem wa_9_252 : rz_cn 9 (rx_yn (rt_P sc fm) 252).cls = true := (by decide +kernel : rz_cn 9 (rt_yn 252).cls = true)
theorem wc_62_146 : rx_ct (rt_P sc fm) 62 146 = some (0, 21, 1) := (by decide +kernel : rt_ct 62 146 = some (0, 21, 1))
theorem wc_62_154 : rx_ct (rt_P sc fm) 62 154 = some (0, 22, 1) := (by decide +kernel : rt_ct 62 154 = some (0, 22, 1))
theorem wc_62_157 : rx_ct (rt_P sc fm) 62 157 = some (0, 350, 2) := (by decide +kernel : rt_ct 62 157 = some (0, 350, 2))
theorem wc_62_161 : rx_ct (rt_P sc fm) 62 161 = some (0, 252, 2) := (by decide +kernel : rt_ct 62 161 = some (0, 252, 2))
theorem wf_62_126 : rx_ft (rt_P sc fm) 62 126 = some (9, 0) := (by decide +kernel : rt_ft 62 126 = some (9, 0))
theorem wf_62_150 : rx_ft (rt_P sc fm) 62 150 = some (7, 10) := (by decide +kernel : rt_ft 62 150 = some (7, 10))
theorem wf_62_19 : rx_ft (rt_P sc fm) 62 19 = some (14, 1) := (by decide +kernel : rt_ft 62 19 = some (14, 1))
theorem wf_62_28 : rx_ft (rt_P sc fm) 62 28 = some (14, 2) := (by decide +kernel : rt_ft 62 28 = some (14, 2))
theorem wf_62_35 : rx_ft (rt_P sc fm) 62 35 = some (14, 3) := (by decide +kernel : rt_ft 62 35 = some (14, 3))
theorem wi_62_0 : ri (rt_P sc fm) 62 0 (.aload_n 0) (1) := ri_of (by decide +kernel) rfl
theorem wi_62_1 : ri (rt_P sc fm) 62 1 (.getfield 19) (4) := ri_of (by decide +kernel) rfl
theorem wi_62_10 : ri (rt_P sc fm) 62 10 (.iconst (-1)) (11) := ri_of (by decide +kernel) rfl
theorem wi_62_11 : ri (rt_P sc fm) 62 11 (.ireturn) (12) := ri_of (by decide +kernel) rfl
theorem wi_62_12 : ri (rt_P sc fm) 62 12 (.iload_n 1) (13) := ri_of (by decide +kernel) rfl
theorem wi_62_13 : ri (rt_P sc fm) 62 13 (.bipush 10) (15) := ri_of (by decide +kernel) rfl
theorem wi_62_15 : ri (rt_P sc fm) 62 15 (.if_icmp .ne 28) (18) := ri_of (by decide +kernel) rfl
theorem wi_62_18 : ri (rt_P sc fm) 62 18 (.aload_n 0) (19) := ri_of (by decide +kernel) rfl
theorem wi_62_19 : ri (rt_P sc fm) 62 19 (.getfield 28) (22) := ri_of (by decide +kernel) rfl
theorem wi_62_22 : ri (rt_P sc fm) 62 22 (.iload_n 2) (23) := ri_of (by decide +kernel) rfl
theorem wi_62_23 : ri (rt_P sc fm) 62 23 (.invokevirtual 146) (26) := ri_of (by decide +kernel) rfl
theorem wi_62_26 : ri (rt_P sc fm) 62 26 (.ifCond .ge 7) (29) := ri_of (by decide +kernel) rfl
theorem wi_62_29 : ri (rt_P sc fm) 62 29 (.iconst (-1)) (30) := ri_of (by decide +kernel) rfl
theorem wi_62_30 : ri (rt_P sc fm) 62 30 (.goto 12) (33) := ri_of (by decide +kernel) rfl
theorem wi_62_33 : ri (rt_P sc fm) 62 33 (.aload_n 0) (34) := ri_of (by decide +kernel) rfl
theorem wi_62_34 : ri (rt_P sc fm) 62 34 (.getfield 35) (37) := ri_of (by decide +kernel) rfl
theorem wi_62_37 : ri (rt_P sc fm) 62 37 (.getfield 150) (40) := ri_of (by decide +kernel) rfl
theorem wi_62_4 : ri (rt_P sc fm) 62 4 (.getfield 126) (7) := ri_of (by decide +kernel) rfl
theorem wi_62_40 : ri (rt_P sc fm) 62 40 (.iload_n 2) (41) := ri_of (by decide +kernel) rfl
theorem wi_62_41 : ri (rt_P sc fm) 62 41 (.iaload) (42) := ri_of (by decide +kernel) rfl
theorem wi_62_42 : ri (rt_P sc fm) 62 42 (.ireturn) (43) := ri_of (by decide +kernel) rfl
theorem wi_62_43 : ri (rt_P sc fm) 62 43 (.iload_n 1) (44) := ri_of (by decide +kernel) rfl
theorem wi_62_44 : ri (rt_P sc fm) 62 44 (.bipush 8) (46) := ri_of (by decide +kernel) rfl
theorem wi_62_46 : ri (rt_P sc fm) 62 46 (.if_icmp .eq 9) (49) := ri_of (by decide +kernel) rfl
theorem wi_62_49 : ri (rt_P sc fm) 62 49 (.iload_n 1) (50) := ri_of (by decide +kernel) rfl
theorem wi_62_50 : ri (rt_P sc fm) 62 50 (.bipush 9) (52) := ri_of (by decide +kernel) rfl
theorem wi_62_52 : ri (rt_P sc fm) 62 52 (.if_icmp .ne 33) (55) := ri_of (by decide +kernel) rfl
theorem wi_62_55 : ri (rt_P sc fm) 62 55 (.aload_n 0) (56) := ri_of (by decide +kernel) rfl
theorem wi_62_56 : ri (rt_P sc fm) 62 56 (.getfield 28) (59) := ri_of (by decide +kernel) rfl
theorem wi_62_59 : ri (rt_P sc fm) 62 59 (.iload_n 2) (60) := ri_of (by decide +kernel) rfl
theorem wi_62_60 : ri (rt_P sc fm) 62 60 (.invokevirtual 146) (63) := ri_of (by decide +kernel) rfl
theorem wi_62_63 : ri (rt_P sc fm) 62 63 (.iconst 2) (64) := ri_of (by decide +kernel) rfl
theorem wi_62_64 : ri (rt_P sc fm) 62 64 (.if_icmp .ne 19) (67) := ri_of (by decide +kernel) rfl
theorem wi_62_67 : ri (rt_P sc fm) 62 67 (.aload_n 0) (68) := ri_of (by decide +kernel) rfl
theorem wi_62_68 : ri (rt_P sc fm) 62 68 (.iload_n 1) (69) := ri_of (by decide +kernel) rfl
theorem wi_62_69 : ri (rt_P sc fm) 62 69 (.aload_n 0) (70) := ri_of (by decide +kernel) rfl
theorem wi_62_7 : ri (rt_P sc fm) 62 7 (.ifCond .ne 5) (10) := ri_of (by decide +kernel) rfl
theorem wi_62_70 : ri (rt_P sc fm) 62 70 (.getfield 28) (73) := ri_of (by decide +kernel) rfl
theorem wi_62_73 : ri (rt_P sc fm) 62 73 (.iload_n 2) (74) := ri_of (by decide +kernel) rfl
theorem wi_62_74 : ri (rt_P sc fm) 62 74 (.invokevirtual 154) (77) := ri_of (by decide +kernel) rfl
theorem wi_62_77 : ri (rt_P sc fm) 62 77 (.invokevirtual 157) (80) := ri_of (by decide +kernel) rfl
theorem wi_62_80 : ri (rt_P sc fm) 62 80 (.goto 4) (83) := ri_of (by decide +kernel) rfl
theorem wi_62_83 : ri (rt_P sc fm) 62 83 (.iconst (-1)) (84) := ri_of (by decide +kernel) rfl
theorem wi_62_84 : ri (rt_P sc fm) 62 84 (.ireturn) (85) := ri_of (by decide +kernel) rfl
theorem wi_62_85 : ri (rt_P sc fm) 62 85 (.aload_n 0) (86) := ri_of (by decide +kernel) rfl
theorem wi_62_86 : ri (rt_P sc fm) 62 86 (.getfield 19) (89) := ri_of (by decide +kernel) rfl
theorem wi_62_89 : ri (rt_P sc fm) 62 89 (.iload_n 1) (90) := ri_of (by decide +kernel) rfl
theorem wi_62_90 : ri (rt_P sc fm) 62 90 (.iload_n 2) (91) := ri_of (by decide +kernel) rfl
theorem wi_62_91 : ri (rt_P sc fm) 62 91 (.invokevirtual 161) (94) := ri_of (by decide +kernel) rfl
theorem wi_62_94 : ri (rt_P sc fm) 62 94 (.ireturn) (95) := ri_of (by decide +kernel) rfl
theorem wm_21 : rx_ml (rt_P sc fm) 21 = 4 := (by decide +kernel : rt_ml 21 = 4)
theorem wm_252 : rx_ml (rt_P sc fm) 252 = 3 := (by decide +kernel : rt_ml 252 = 3)
theorem wm_350 : rx_ml (rt_P sc fm) 350 = 3 := (by decide +kernel : rt_ml 350 = 3)
theorem wr_62 : rx_rt (rt_P sc fm) 62 = (some FieldType.int) := (by decide +kernel : rt_rt 62 = (some FieldType.int))
/-- MarkHouse.size(II)I -/
def d_62 (n : Nat) (a1 : Int32) (a2 : Int32) (c : cS) : Option (Int32) :=
  if (c.1 7 0) = 0 then
    some (-1)
  else
    if a1 = 10 then
      Option.bind (d_21 n a2 c) (fun v7 =>
      jn (fun p8 : Int32 =>
        some p8)
      (fun j42 =>
      if 0 ≤ v7 then
        if ib a2 2242 then
        j42 (c.1 144 (ix a2))
        else none
      else
        j42 (-1)))
    else
      jn (fun p1 : Unit =>
        Option.bind (d_21 n a2 c) (fun v2 =>
        jn (fun p3 : Int32 =>
          some p3)
        (fun j84 =>
        if v2 = 2 then
          Option.bind (d_22 n a2) (fun v4 =>
          Option.bind (d_350 n a1 v4 c) (fun v5 =>
          j84 v5))
        else
          j84 (-1))))
      (fun j55 =>
      if a1 = 8 then
        j55 ()
      else
        if a1 = 9 then
          j55 ()
        else
          Option.bind (d_252 n a1 a2 c) (fun v6 =>
          some v6))
theorem sp_62 {F Lo n : Nat} {a1 : Int32} {a2 : Int32} {c y : cS} {w : cW} {K : Int32 → Prop} {Q : ((Option Value) ⊕ String) → List va_E → Prop} (hw : rOK fm w) (hF : 2 ≤ F) (hLo : 44 ≤ Lo)  (h : wp (d_62 n a1 a2 c) K) (hQ : ∀ r, K r → Q (.inl (some (.int r))) (hq true c y w)) : rs (rt_P sc fm) 62 F Lo 0 [(0, .ref 0), (1, .int a1), (2, .int a2)] [] (hq true c y w) Q := by
  unfold d_62 at h
  obtain ⟨lv, elv⟩ : ∃ lv : rx_L, lv = [(0, .ref 0), (1, .int a1), (2, .int a2)] := ⟨_, rfl⟩
  rw [← elv]
  have l0 : rx_ld lv 0 = some (.ref 0) := by rw [elv]; rfl
  have l1 : rx_ld lv 1 = some (.int a1) := by rw [elv]; rfl
  have l2 : rx_ld lv 2 = some (.int a2) := by rw [elv]; rfl
  refine rs_aldn wi_62_0 l0 ?_
  refine dq_gr wi_62_1 wf_62_19 tf_0_1 ?_
  refine dq_gi wi_62_4 wf_62_126 tf_7_0 ?_
  refine rs_ifne (tg := 12) wi_62_7 ⟨by decide, by decide⟩ (fun q => ?_) (fun q => ?_)
  ·
    have h := wp_neg h q
    refine rs_ildn wi_62_12 l1 ?_
    refine rs_pure wi_62_13 rfl ?_
    refine rs_topi (v := 10) (by decide) ?_
    refine rs_icne (tg := 43) wi_62_15 ⟨by decide, by decide⟩ (fun q => ?_) (fun q => ?_)
    ·
      have h := wp_neg h q
      refine rs_ildn wi_62_43 l1 ?_
      refine rs_pure wi_62_44 rfl ?_
      refine rs_topi (v := 8) (by decide) ?_
      refine wp_jn (B := fun p1 : Unit => ∀ lv, rx_ld lv 0 = some (.ref 0) → rx_ld lv 1 = some (.int a1) → rx_ld lv 2 = some (.int a2) → rs (rt_P sc fm) 62 F Lo 55 lv [] (hq true c y w) Q) h (fun p1 h lv l0 l1 l2 => ?_) (fun j55 hj55 h => ?_)
      ·
        refine rs_aldn wi_62_55 l0 ?_
        refine dq_gr wi_62_56 wf_62_28 tf_0_2 ?_
        refine rs_ildn wi_62_59 l2 ?_
        refine rs_V wi_62_60 wc_62_146 rfl (dq_isa tf_114_0 wa_2_21) (Nat.le_trans (by decide) hF) (ml_le wm_21 (Nat.le_trans (by decide) hLo)) rfl (sp_21 hw (Nat.le_trans (by decide : 1 ≤ 2 - 1) (Nat.sub_le_sub_right hF 1)) (ml_sub wm_21 (Nat.le_trans (by decide : 21 ≤ 44 - 23) (Nat.sub_le_sub_right hLo 23))) (wp_bind h) (fun v2 h => rs_back1 ?_))
        refine rs_pure wi_62_63 rfl ?_
        refine rs_topi (v := 2) (by decide) ?_
        refine wp_jn (B := fun p3 : Int32 => ∀ lv, rs (rt_P sc fm) 62 F Lo 84 lv [.int p3] (hq true c y w) Q) h (fun p3 h lv => ?_) (fun j84 hj84 h => ?_)
        ·
          exact rs_iret wi_62_84 wr_62 rfl (hQ p3 h)
        refine rs_icne (tg := 83) wi_62_64 ⟨by decide, by decide⟩ (fun q => ?_) (fun q => ?_)
        ·
          have h := wp_neg h q
          refine rs_pure wi_62_83 rfl ?_
          refine rs_topi (v := (-1)) (by decide) ?_
          exact hj84 _ h _
        ·
          have h := wp_pos h q
          refine rs_aldn wi_62_67 l0 ?_
          refine rs_ildn wi_62_68 l1 ?_
          refine rs_aldn wi_62_69 l0 ?_
          refine dq_gr wi_62_70 wf_62_28 tf_0_2 ?_
          refine rs_ildn wi_62_73 l2 ?_
          refine rs_V wi_62_74 wc_62_154 rfl (dq_isa tf_114_0 wa_2_22) (Nat.le_trans (by decide) hF) (ml_le wm_22 (Nat.le_trans (by decide) hLo)) rfl (sp_22 (Nat.le_trans (by decide : 0 ≤ 2 - 1) (Nat.sub_le_sub_right hF 1)) (ml_sub wm_22 (Nat.le_trans (by decide : 0 ≤ 44 - 21) (Nat.sub_le_sub_right hLo 21))) (wp_bind h) (fun v4 h => rs_back1 ?_))
          refine rs_V wi_62_77 wc_62_157 rfl (dq_isa tf_0_0 wa_14_350) (Nat.le_trans (by decide) hF) (ml_le wm_350 (Nat.le_trans (by decide) hLo)) rfl (sp_350 hw (Nat.le_trans (by decide : 0 ≤ 2 - 1) (Nat.sub_le_sub_right hF 1)) (ml_sub wm_350 (Nat.le_trans (by decide : 0 ≤ 44 - 22) (Nat.sub_le_sub_right hLo 22))) (wp_bind h) (fun v5 h => rs_back1 ?_))
          refine rs_goto (tg := 84) wi_62_80 ⟨by decide, by decide⟩ ?_
          exact hj84 _ h _
      refine rs_iceq (tg := 55) wi_62_46 ⟨by decide, by decide⟩ (fun q => ?_) (fun q => ?_)
      ·
        have h := wp_pos h q
        exact hj55 _ h _ l0 l1 l2
      ·
        have h := wp_neg h q
        refine rs_ildn wi_62_49 l1 ?_
        refine rs_pure wi_62_50 rfl ?_
        refine rs_topi (v := 9) (by decide) ?_
        refine rs_icne (tg := 85) wi_62_52 ⟨by decide, by decide⟩ (fun q => ?_) (fun q => ?_)
        ·
          have h := wp_neg h q
          refine rs_aldn wi_62_85 l0 ?_
          refine dq_gr wi_62_86 wf_62_19 tf_0_1 ?_
          refine rs_ildn wi_62_89 l1 ?_
          refine rs_ildn wi_62_90 l2 ?_
          refine rs_V wi_62_91 wc_62_161 rfl (dq_isa tf_7_0 wa_9_252) (Nat.le_trans (by decide) hF) (ml_le wm_252 (Nat.le_trans (by decide) hLo)) rfl (sp_252 hw (Nat.le_trans (by decide : 1 ≤ 2 - 1) (Nat.sub_le_sub_right hF 1)) (ml_sub wm_252 (Nat.le_trans (by decide : 21 ≤ 44 - 22) (Nat.sub_le_sub_right hLo 22))) (wp_bind h) (fun v6 h => rs_back1 ?_))
          exact rs_iret wi_62_94 wr_62 rfl (hQ v6 h)
        ·
          have h := wp_pos h q
          exact hj55 _ h _ l0 l1 l2
    ·
      have h := wp_pos h q
      refine rs_aldn wi_62_18 l0 ?_
      refine dq_gr wi_62_19 wf_62_28 tf_0_2 ?_
      refine rs_ildn wi_62_22 l2 ?_
      refine rs_V wi_62_23 wc_62_146 rfl (dq_isa tf_114_0 wa_2_21) (Nat.le_trans (by decide) hF) (ml_le wm_21 (Nat.le_trans (by decide) hLo)) rfl (sp_21 hw (Nat.le_trans (by decide : 1 ≤ 2 - 1) (Nat.sub_le_sub_right hF 1)) (ml_sub wm_21 (Nat.le_trans (by decide : 21 ≤ 44 - 23) (Nat.sub_le_sub_right hLo 23))) (wp_bind h) (fun v7 h => rs_back1 ?_))
      refine wp_jn (B := fun p8 : Int32 => ∀ lv, rs (rt_P sc fm) 62 F Lo 42 lv [.int p8] (hq true c y w) Q) h (fun p8 h lv => ?_) (fun j42 hj42 h => ?_)
      ·
        exact rs_iret wi_62_42 wr_62 rfl (hQ p8 h)
      refine rs_ifge (tg := 33) wi_62_26 ⟨by decide, by decide⟩ (fun q => ?_) (fun q => ?_)
      ·
        have h := wp_pos h q
        refine rs_aldn wi_62_33 l0 ?_
        refine dq_gr wi_62_34 wf_62_35 tf_0_3 ?_
        refine dq_gr wi_62_37 wf_62_150 tf_133_10 ?_
        refine rs_ildn wi_62_40 l2 ?_
        obtain ⟨g9, h⟩ := wp_gd h
        refine dq_iald wi_62_41 t_144 g9 ?_
        exact hj42 _ h _
      ·
        have h := wp_neg h q
        refine rs_pure wi_62_29 rfl ?_
        refine rs_topi (v := (-1)) (by decide) ?_
        refine rs_goto (tg := 42) wi_62_30 ⟨by decide, by decide⟩ ?_
        exact hj42 _ h _
  ·
    have h := wp_pos h q
    refine rs_pure wi_62_10 rfl ?_
    refine rs_topi (v := (-1)) (by decide) ?_
    exact rs_iret wi_62_11 wr_62 rfl (hQ (-1) h)
theorem wc_63_170 : rx_ct (rt_P sc fm) 63 170 = some (0, 37, 1) := (by decide +kernel : rt_ct 63 170 = some (0, 37, 1))
theorem wc_63_182 : rx_ct (rt_P sc fm) 63 182 = some (0, 237, 2) := (by decide +kernel : rt_ct 63 182 = some (0, 237, 2))
theorem wc_63_186 : rx_ct (rt_P sc fm) 63 186 = some (0, 238, 2) := (by decide +kernel : rt_ct 63 186 = some (0, 238, 2))
theorem wc_63_189 : rx_ct (rt_P sc fm) 63 189 = some (0, 239, 2) := (by decide +kernel : rt_ct 63 189 = some (0, 239, 2))
theorem wf_63_174 : rx_ft (rt_P sc fm) 63 174 = some (9, 1) := (by decide +kernel : rt_ft 63 174 = some (9, 1))
theorem wf_63_178 : rx_ft (rt_P sc fm) 63 178 = some (8, 1) := (by decide +kernel : rt_ft 63 178 = some (8, 1))
theorem wf_63_19 : rx_ft (rt_P sc fm) 63 19 = some (14, 1) := (by decide +kernel : rt_ft 63 19 = some (14, 1))
theorem wi_63_0 : ri (rt_P sc fm) 63 0 (.aload_n 0) (1) := ri_of (by decide +kernel) rfl
theorem wi_63_1 : ri (rt_P sc fm) 63 1 (.getfield 19) (4) := ri_of (by decide +kernel) rfl
theorem wi_63_100 : ri (rt_P sc fm) 63 100 (.invokevirtual 186) (103) := ri_of (by decide +kernel) rfl
theorem wi_63_103 : ri (rt_P sc fm) 63 103 (.ireturn) (104) := ri_of (by decide +kernel) rfl
theorem wi_63_104 : ri (rt_P sc fm) 63 104 (.aload 5) (106) := ri_of (by decide +kernel) rfl
theorem wi_63_106 : ri (rt_P sc fm) 63 106 (.iload_n 2) (107) := ri_of (by decide +kernel) rfl
theorem wi_63_107 : ri (rt_P sc fm) 63 107 (.iload_n 3) (108) := ri_of (by decide +kernel) rfl
theorem wi_63_108 : ri (rt_P sc fm) 63 108 (.invokevirtual 189) (111) := ri_of (by decide +kernel) rfl
theorem wi_63_11 : ri (rt_P sc fm) 63 11 (.iconst (-1)) (12) := ri_of (by decide +kernel) rfl
theorem wi_63_111 : ri (rt_P sc fm) 63 111 (.ireturn) (112) := ri_of (by decide +kernel) rfl
theorem wi_63_112 : ri (rt_P sc fm) 63 112 (.iconst (-1)) (113) := ri_of (by decide +kernel) rfl
theorem wi_63_113 : ri (rt_P sc fm) 63 113 (.ireturn) (114) := ri_of (by decide +kernel) rfl
theorem wi_63_12 : ri (rt_P sc fm) 63 12 (.ireturn) (13) := ri_of (by decide +kernel) rfl
theorem wi_63_13 : ri (rt_P sc fm) 63 13 (.aload_n 0) (14) := ri_of (by decide +kernel) rfl
theorem wi_63_14 : ri (rt_P sc fm) 63 14 (.getfield 19) (17) := ri_of (by decide +kernel) rfl
theorem wi_63_17 : ri (rt_P sc fm) 63 17 (.getfield 174) (20) := ri_of (by decide +kernel) rfl
theorem wi_63_20 : ri (rt_P sc fm) 63 20 (.iload_n 1) (21) := ri_of (by decide +kernel) rfl
theorem wi_63_21 : ri (rt_P sc fm) 63 21 (.aaload) (22) := ri_of (by decide +kernel) rfl
theorem wi_63_22 : ri (rt_P sc fm) 63 22 (.astore 5) (24) := ri_of (by decide +kernel) rfl
theorem wi_63_24 : ri (rt_P sc fm) 63 24 (.iload_n 2) (25) := ri_of (by decide +kernel) rfl
theorem wi_63_25 : ri (rt_P sc fm) 63 25 (.ifCond .lt 25) (28) := ri_of (by decide +kernel) rfl
theorem wi_63_28 : ri (rt_P sc fm) 63 28 (.iload_n 2) (29) := ri_of (by decide +kernel) rfl
theorem wi_63_29 : ri (rt_P sc fm) 63 29 (.aload 5) (31) := ri_of (by decide +kernel) rfl
theorem wi_63_31 : ri (rt_P sc fm) 63 31 (.getfield 178) (34) := ri_of (by decide +kernel) rfl
theorem wi_63_34 : ri (rt_P sc fm) 63 34 (.if_icmp .ge 16) (37) := ri_of (by decide +kernel) rfl
theorem wi_63_37 : ri (rt_P sc fm) 63 37 (.iload_n 3) (38) := ri_of (by decide +kernel) rfl
theorem wi_63_38 : ri (rt_P sc fm) 63 38 (.ifCond .lt 12) (41) := ri_of (by decide +kernel) rfl
theorem wi_63_4 : ri (rt_P sc fm) 63 4 (.iload_n 1) (5) := ri_of (by decide +kernel) rfl
theorem wi_63_41 : ri (rt_P sc fm) 63 41 (.iload_n 3) (42) := ri_of (by decide +kernel) rfl
theorem wi_63_42 : ri (rt_P sc fm) 63 42 (.aload 5) (44) := ri_of (by decide +kernel) rfl
theorem wi_63_44 : ri (rt_P sc fm) 63 44 (.getfield 178) (47) := ri_of (by decide +kernel) rfl
theorem wi_63_47 : ri (rt_P sc fm) 63 47 (.if_icmp .lt 5) (50) := ri_of (by decide +kernel) rfl
theorem wi_63_5 : ri (rt_P sc fm) 63 5 (.invokevirtual 170) (8) := ri_of (by decide +kernel) rfl
theorem wi_63_50 : ri (rt_P sc fm) 63 50 (.iconst (-1)) (51) := ri_of (by decide +kernel) rfl
theorem wi_63_51 : ri (rt_P sc fm) 63 51 (.ireturn) (52) := ri_of (by decide +kernel) rfl
theorem wi_63_52 : ri (rt_P sc fm) 63 52 (.iload 4) (54) := ri_of (by decide +kernel) rfl
theorem wi_63_54 : ri (rt_P sc fm) 63 54 (.tableswitch 58 0 2 #[26, 42, 50]) (54 + rx_len (.tableswitch 58 0 2 #[26, 42, 50])) := ri_of (by decide +kernel) rfl
theorem wi_63_8 : ri (rt_P sc fm) 63 8 (.ifCond .ne 5) (11) := ri_of (by decide +kernel) rfl
theorem wi_63_80 : ri (rt_P sc fm) 63 80 (.aload 5) (82) := ri_of (by decide +kernel) rfl
theorem wi_63_82 : ri (rt_P sc fm) 63 82 (.iload_n 2) (83) := ri_of (by decide +kernel) rfl
theorem wi_63_83 : ri (rt_P sc fm) 63 83 (.iload_n 3) (84) := ri_of (by decide +kernel) rfl
theorem wi_63_84 : ri (rt_P sc fm) 63 84 (.invokevirtual 182) (87) := ri_of (by decide +kernel) rfl
theorem wi_63_87 : ri (rt_P sc fm) 63 87 (.ifCond .eq 7) (90) := ri_of (by decide +kernel) rfl
theorem wi_63_90 : ri (rt_P sc fm) 63 90 (.iconst 1) (91) := ri_of (by decide +kernel) rfl
theorem wi_63_91 : ri (rt_P sc fm) 63 91 (.goto 4) (94) := ri_of (by decide +kernel) rfl
theorem wi_63_94 : ri (rt_P sc fm) 63 94 (.iconst 0) (95) := ri_of (by decide +kernel) rfl
theorem wi_63_95 : ri (rt_P sc fm) 63 95 (.ireturn) (96) := ri_of (by decide +kernel) rfl
theorem wi_63_96 : ri (rt_P sc fm) 63 96 (.aload 5) (98) := ri_of (by decide +kernel) rfl
theorem wi_63_98 : ri (rt_P sc fm) 63 98 (.iload_n 2) (99) := ri_of (by decide +kernel) rfl
theorem wi_63_99 : ri (rt_P sc fm) 63 99 (.iload_n 3) (100) := ri_of (by decide +kernel) rfl
theorem wr_63 : rx_rt (rt_P sc fm) 63 = (some FieldType.int) := (by decide +kernel : rt_rt 63 = (some FieldType.int))
/-- MarkHouse.order(IIII)I -/
def d_63 (n : Nat) (a1 : Int32) (a2 : Int32) (a3 : Int32) (a4 : Int32) (c : cS) : Option (Int32) :=
  Option.bind (d_37 n a1 c) (fun v1 =>
  if v1 = 0 then
    some (-1)
  else
    if ib a1 4 then
    jn (fun p4 : Unit =>
      some (-1))
    (fun j50 =>
    if a2 < 0 then
      j50 ()
    else
      if (c.1 (oA (ix a1)) 1) ≤ a2 then
        j50 ()
      else
        if a3 < 0 then
          j50 ()
        else
          if a3 < (c.1 (oA (ix a1)) 1) then
            if a4 = 0 then
              Option.bind (d_237 n (ix a1) a2 a3 c) (fun v6 =>
              jn (fun p7 : Int32 =>
                some p7)
              (fun j95 =>
              if v6 = 0 then
                j95 0
              else
                j95 1))
            else
            if a4 = 1 then
              Option.bind (d_238 n (ix a1) a2 a3 c) (fun v9 =>
              some v9)
            else
            if a4 = 2 then
              Option.bind (d_239 n (ix a1) a2 a3 c) (fun v11 =>
              some v11)
            else
            some (-1)
          else
            j50 ())
    else none)
theorem sp_63 {F Lo n : Nat} {a1 : Int32} {a2 : Int32} {a3 : Int32} {a4 : Int32} {c y : cS} {w : cW} {K : Int32 → Prop} {Q : ((Option Value) ⊕ String) → List va_E → Prop} (hw : rOK fm w) (hF : 1 ≤ F) (hLo : 22 ≤ Lo)  (h : wp (d_63 n a1 a2 a3 a4 c) K) (hQ : ∀ r, K r → Q (.inl (some (.int r))) (hq true c y w)) : rs (rt_P sc fm) 63 F Lo 0 [(0, .ref 0), (1, .int a1), (2, .int a2), (3, .int a3), (4, .int a4)] [] (hq true c y w) Q := by
  unfold d_63 at h
  obtain ⟨lv, elv⟩ : ∃ lv : rx_L, lv = [(0, .ref 0), (1, .int a1), (2, .int a2), (3, .int a3), (4, .int a4)] := ⟨_, rfl⟩
  rw [← elv]
  have l0 : rx_ld lv 0 = some (.ref 0) := by rw [elv]; rfl
  have l1 : rx_ld lv 1 = some (.int a1) := by rw [elv]; rfl
  have l2 : rx_ld lv 2 = some (.int a2) := by rw [elv]; rfl
  have l3 : rx_ld lv 3 = some (.int a3) := by rw [elv]; rfl
  have l4 : rx_ld lv 4 = some (.int a4) := by rw [elv]; rfl
  refine rs_aldn wi_63_0 l0 ?_
  refine dq_gr wi_63_1 wf_63_19 tf_0_1 ?_
  refine rs_ildn wi_63_4 l1 ?_
  refine rs_V wi_63_5 wc_63_170 rfl (dq_isa tf_7_0 wa_9_37) (Nat.le_trans (by decide) hF) (ml_le wm_37 (Nat.le_trans (by decide) hLo)) rfl (sp_37 hw (Nat.le_trans (by decide : 0 ≤ 1 - 1) (Nat.sub_le_sub_right hF 1)) (ml_sub wm_37 (Nat.le_trans (by decide : 0 ≤ 22 - 21) (Nat.sub_le_sub_right hLo 21))) (wp_bind h) (fun v1 h => rs_back1 ?_))
  refine rs_ifne (tg := 13) wi_63_8 ⟨by decide, by decide⟩ (fun q => ?_) (fun q => ?_)
  ·
    have h := wp_neg h q
    refine rs_aldn wi_63_13 l0 ?_
    refine dq_gr wi_63_14 wf_63_19 tf_0_1 ?_
    refine dq_gr wi_63_17 wf_63_174 tf_7_1 ?_
    refine rs_ildn wi_63_20 l1 ?_
    obtain ⟨g2, h⟩ := wp_gd h
    refine dq_aald wi_63_21 (by decide) t_8 g2 (hw.1 _ (ib_lt g2)) ?_
    refine dl_ast wi_63_22 rfl (fun lv l5 t3 => ?_)
    have l2 := t3 _ _ (by decide) (Or.inl rfl) l2
    have l3 := t3 _ _ (by decide) (Or.inl rfl) l3
    have l4 := t3 _ _ (by decide) (Or.inl rfl) l4
    refine rs_ildn wi_63_24 l2 ?_
    refine wp_jn (B := fun p4 : Unit => ∀ lv, rs (rt_P sc fm) 63 F Lo 50 lv [] (hq true c y w) Q) h (fun p4 h lv => ?_) (fun j50 hj50 h => ?_)
    ·
      refine rs_pure wi_63_50 rfl ?_
      refine rs_topi (v := (-1)) (by decide) ?_
      exact rs_iret wi_63_51 wr_63 rfl (hQ (-1) h)
    refine rs_iflt (tg := 50) wi_63_25 ⟨by decide, by decide⟩ (fun q => ?_) (fun q => ?_)
    ·
      have h := wp_pos h q
      exact hj50 _ h _
    ·
      have h := wp_neg h q
      refine rs_ildn wi_63_28 l2 ?_
      refine rs_ald wi_63_29 l5 ?_
      refine dq_gi wi_63_31 wf_63_178 (fO_1 (ib_lt g2)) ?_
      refine rs_icge (tg := 50) wi_63_34 ⟨by decide, by decide⟩ (fun q => ?_) (fun q => ?_)
      ·
        have h := wp_pos h q
        exact hj50 _ h _
      ·
        have h := wp_neg h q
        refine rs_ildn wi_63_37 l3 ?_
        refine rs_iflt (tg := 50) wi_63_38 ⟨by decide, by decide⟩ (fun q => ?_) (fun q => ?_)
        ·
          have h := wp_pos h q
          exact hj50 _ h _
        ·
          have h := wp_neg h q
          refine rs_ildn wi_63_41 l3 ?_
          refine rs_ald wi_63_42 l5 ?_
          refine dq_gi wi_63_44 wf_63_178 (fO_1 (ib_lt g2)) ?_
          refine rs_iclt (tg := 52) wi_63_47 ⟨by decide, by decide⟩ (fun q => ?_) (fun q => ?_)
          ·
            have h := wp_pos h q
            refine rs_ild wi_63_52 l4 ?_
            by_cases q5 : a4 = 0
            ·
              have h := wp_pos h q5
              refine rs_tsk (tg := 80) (off := 26) (v := 0) wi_63_54 q5 (by decide) (by decide) ⟨by decide, by decide⟩ ?_
              refine rs_ald wi_63_80 l5 ?_
              refine rs_ildn wi_63_82 l2 ?_
              refine rs_ildn wi_63_83 l3 ?_
              refine rs_V wi_63_84 wc_63_182 rfl (dq_isa (fO_0 (ib_lt g2)) wa_8_237) (Nat.le_trans (by decide) hF) (ml_le wm_237 (Nat.le_trans (by decide) hLo)) rfl (sp_237 hw (Nat.le_trans (by decide : 0 ≤ 1 - 1) (Nat.sub_le_sub_right hF 1)) (ml_sub wm_237 (Nat.le_trans (by decide : 0 ≤ 22 - 22) (Nat.sub_le_sub_right hLo 22))) (ib_lt g2) (wp_bind h) (fun v6 h => rs_back1 ?_))
              refine wp_jn (B := fun p7 : Int32 => ∀ lv, rs (rt_P sc fm) 63 F Lo 95 lv [.int p7] (hq true c y w) Q) h (fun p7 h lv => ?_) (fun j95 hj95 h => ?_)
              ·
                exact rs_iret wi_63_95 wr_63 rfl (hQ p7 h)
              refine rs_ifeq (tg := 94) wi_63_87 ⟨by decide, by decide⟩ (fun q => ?_) (fun q => ?_)
              ·
                have h := wp_pos h q
                refine rs_pure wi_63_94 rfl ?_
                refine rs_topi (v := 0) (by decide) ?_
                exact hj95 _ h _
              ·
                have h := wp_neg h q
                refine rs_pure wi_63_90 rfl ?_
                refine rs_topi (v := 1) (by decide) ?_
                refine rs_goto (tg := 95) wi_63_91 ⟨by decide, by decide⟩ ?_
                exact hj95 _ h _
            have h := wp_neg h q5
            by_cases q8 : a4 = 1
            ·
              have h := wp_pos h q8
              refine rs_tsk (tg := 96) (off := 42) (v := 1) wi_63_54 q8 (by decide) (by decide) ⟨by decide, by decide⟩ ?_
              refine rs_ald wi_63_96 l5 ?_
              refine rs_ildn wi_63_98 l2 ?_
              refine rs_ildn wi_63_99 l3 ?_
              refine rs_V wi_63_100 wc_63_186 rfl (dq_isa (fO_0 (ib_lt g2)) wa_8_238) (Nat.le_trans (by decide) hF) (ml_le wm_238 (Nat.le_trans (by decide) hLo)) rfl (sp_238 hw (Nat.le_trans (by decide : 0 ≤ 1 - 1) (Nat.sub_le_sub_right hF 1)) (ml_sub wm_238 (Nat.le_trans (by decide : 0 ≤ 22 - 22) (Nat.sub_le_sub_right hLo 22))) (ib_lt g2) (wp_bind h) (fun v9 h => rs_back1 ?_))
              exact rs_iret wi_63_103 wr_63 rfl (hQ v9 h)
            have h := wp_neg h q8
            by_cases q10 : a4 = 2
            ·
              have h := wp_pos h q10
              refine rs_tsk (tg := 104) (off := 50) (v := 2) wi_63_54 q10 (by decide) (by decide) ⟨by decide, by decide⟩ ?_
              refine rs_ald wi_63_104 l5 ?_
              refine rs_ildn wi_63_106 l2 ?_
              refine rs_ildn wi_63_107 l3 ?_
              refine rs_V wi_63_108 wc_63_189 rfl (dq_isa (fO_0 (ib_lt g2)) wa_8_239) (Nat.le_trans (by decide) hF) (ml_le wm_239 (Nat.le_trans (by decide) hLo)) rfl (sp_239 hw (Nat.le_trans (by decide : 0 ≤ 1 - 1) (Nat.sub_le_sub_right hF 1)) (ml_sub wm_239 (Nat.le_trans (by decide : 0 ≤ 22 - 22) (Nat.sub_le_sub_right hLo 22))) (ib_lt g2) (wp_bind h) (fun v11 h => rs_back1 ?_))
              exact rs_iret wi_63_111 wr_63 rfl (hQ v11 h)
            have h := wp_neg h q10
            refine rs_tsd (tg := 112) wi_63_54 (rz_sw fun k k1 k2 => by
              have kk : k = 0 ∨ k = 1 ∨ k = 2 := by omega
              rcases kk with rfl | rfl | rfl
              · exact q5
              · exact q8
              · exact q10
              ) ⟨by decide, by decide⟩ ?_
            refine rs_pure wi_63_112 rfl ?_
            refine rs_topi (v := (-1)) (by decide) ?_
            exact rs_iret wi_63_113 wr_63 rfl (hQ (-1) h)
          ·
            have h := wp_neg h q
            exact hj50 _ h _
  ·
    have h := wp_pos h q
    refine rs_pure wi_63_11 rfl ?_
    refine rs_topi (v := (-1)) (by decide) ?_
    exact rs_iret wi_63_12 wr_63 rfl (hQ (-1) h)
theorem wf_228_26 : rx_ft (rt_P sc fm) 228 26 = some (7, 4) := (by decide +kernel : rt_ft 228 26 = some (7, 4))
theorem wf_228_39 : rx_ft (rt_P sc fm) 228 39 = some (7, 8) := (by decide +kernel : rt_ft 228 39 = some (7, 8))
theorem wi_228_0 : ri (rt_P sc fm) 228 0 (.aload_n 0) (1) := ri_of (by decide +kernel) rfl
theorem wi_228_1 : ri (rt_P sc fm) 228 1 (.getfield 39) (4) := ri_of (by decide +kernel) rfl
theorem wi_228_10 : ri (rt_P sc fm) 228 10 (.iload 4) (12) := ri_of (by decide +kernel) rfl
theorem wi_228_12 : ri (rt_P sc fm) 228 12 (.iload_n 2) (13) := ri_of (by decide +kernel) rfl
theorem wi_228_13 : ri (rt_P sc fm) 228 13 (.if_icmp .ge 16) (16) := ri_of (by decide +kernel) rfl
theorem wi_228_16 : ri (rt_P sc fm) 228 16 (.aload_n 0) (17) := ri_of (by decide +kernel) rfl
theorem wi_228_17 : ri (rt_P sc fm) 228 17 (.getfield 26) (20) := ri_of (by decide +kernel) rfl
theorem wi_228_20 : ri (rt_P sc fm) 228 20 (.iload_n 3) (21) := ri_of (by decide +kernel) rfl
theorem wi_228_21 : ri (rt_P sc fm) 228 21 (.iaload) (22) := ri_of (by decide +kernel) rfl
theorem wi_228_22 : ri (rt_P sc fm) 228 22 (.istore_n 3) (23) := ri_of (by decide +kernel) rfl
theorem wi_228_23 : ri (rt_P sc fm) 228 23 (.iinc 4 1) (26) := ri_of (by decide +kernel) rfl
theorem wi_228_26 : ri (rt_P sc fm) 228 26 (.goto (-16)) (29) := ri_of (by decide +kernel) rfl
theorem wi_228_29 : ri (rt_P sc fm) 228 29 (.iload_n 3) (30) := ri_of (by decide +kernel) rfl
theorem wi_228_30 : ri (rt_P sc fm) 228 30 (.ireturn) (31) := ri_of (by decide +kernel) rfl
theorem wi_228_4 : ri (rt_P sc fm) 228 4 (.iload_n 1) (5) := ri_of (by decide +kernel) rfl
theorem wi_228_5 : ri (rt_P sc fm) 228 5 (.iaload) (6) := ri_of (by decide +kernel) rfl
theorem wi_228_6 : ri (rt_P sc fm) 228 6 (.istore_n 3) (7) := ri_of (by decide +kernel) rfl
theorem wi_228_7 : ri (rt_P sc fm) 228 7 (.iconst 0) (8) := ri_of (by decide +kernel) rfl
theorem wi_228_8 : ri (rt_P sc fm) 228 8 (.istore 4) (10) := ri_of (by decide +kernel) rfl
theorem wr_228 : rx_rt (rt_P sc fm) 228 = (some FieldType.int) := (by decide +kernel : rt_rt 228 = (some FieldType.int))
/-- MarkHouse$Marks.markAt(II)I -/
def d_228 (n : Nat) (a1 : Int32) (a2 : Int32) (c : cS) : Option (Int32) :=
  if ib a1 2242 then
  lt ((c.1 142 (ix a1)) : Int32) (fun v3 =>
  Option.bind (whl (R := (Int32)) (fun s6 : Int32 × Int32 =>
    if a2 ≤ s6.2 then
      some (.inr s6.1)
    else
      if ib s6.1 4096 then
      lt ((c.1 138 (ix s6.1)) : Int32) (fun v9 =>
      lt (s6.2 + 1 : Int32) (fun v12 =>
      some (.inl (v9, v12))))
      else none) n (v3, 0))
  (fun x14 : Int32 =>
    some x14))
  else none
theorem sp_228 {F Lo n : Nat} {a1 : Int32} {a2 : Int32} {c y : cS} {w : cW} {K : Int32 → Prop} {Q : ((Option Value) ⊕ String) → List va_E → Prop} (hw : rOK fm w) (hF : 0 ≤ F) (hLo : 0 ≤ Lo)  (h : wp (d_228 n a1 a2 c) K) (hQ : ∀ r, K r → Q (.inl (some (.int r))) (hq true c y w)) : rs (rt_P sc fm) 228 F Lo 0 [(0, .ref 133), (1, .int a1), (2, .int a2)] [] (hq true c y w) Q := by
  unfold d_228 at h
  obtain ⟨lv, elv⟩ : ∃ lv : rx_L, lv = [(0, .ref 133), (1, .int a1), (2, .int a2)] := ⟨_, rfl⟩
  rw [← elv]
  have l0 : rx_ld lv 0 = some (.ref 133) := by rw [elv]; rfl
  have l1 : rx_ld lv 1 = some (.int a1) := by rw [elv]; rfl
  have l2 : rx_ld lv 2 = some (.int a2) := by rw [elv]; rfl
  refine rs_aldn wi_228_0 l0 ?_
  refine dq_gr wi_228_1 wf_228_39 tf_133_8 ?_
  refine rs_ildn wi_228_4 l1 ?_
  obtain ⟨g1, h⟩ := wp_gd h
  refine dq_iald wi_228_5 t_142 g1 ?_
  obtain ⟨v3, e4, h⟩ := wp_lt h
  refine rs_topi e4 ?_
  refine dl_istn wi_228_6 rfl (fun lv l3 t2 => ?_)
  have l0 := t2 _ _ (by decide) (Or.inl rfl) l0
  have l2 := t2 _ _ (by decide) (Or.inl rfl) l2
  refine rs_pure wi_228_7 rfl ?_
  refine rs_topi (v := 0) (by decide) ?_
  refine dl_ist wi_228_8 rfl (fun lv l4 t5 => ?_)
  have l0 := t5 _ _ (by decide) (Or.inl rfl) l0
  have l2 := t5 _ _ (by decide) (Or.inl rfl) l2
  have l3 := t5 _ _ (by decide) (Or.inl rfl) l3
  refine whl_ex (A := fun s6 : Int32 × Int32 => ∀ lv, rx_ld lv 0 = some (.ref 133) → rx_ld lv 2 = some (.int a2) → rx_ld lv 3 = some (.int s6.1) → rx_ld lv 4 = some (.int s6.2) → rs (rt_P sc fm) 228 F Lo 10 lv [] (hq true c y w) Q) (B := (fun x14 : Int32 => ∀ lv, rx_ld lv 3 = some (.int x14) → rs (rt_P sc fm) 228 F Lo 29 lv [] (hq true c y w) Q)) ?_ ?_ _ _ (wp_bind h) _ l0 l2 l3 l4
  · intro s6 h lv l0 l2 l3 l4
    refine rs_ild wi_228_10 l4 ?_
    refine rs_ildn wi_228_12 l2 ?_
    refine rs_icge (tg := 29) wi_228_13 ⟨by decide, by decide⟩ (fun q => ?_) (fun q => ?_)
    ·
      have h := wp_pos h q
      exact h _ l3
    ·
      have h := wp_neg h q
      refine rs_aldn wi_228_16 l0 ?_
      refine dq_gr wi_228_17 wf_228_26 tf_133_4 ?_
      refine rs_ildn wi_228_20 l3 ?_
      obtain ⟨g7, h⟩ := wp_gd h
      refine dq_iald wi_228_21 t_138 g7 ?_
      obtain ⟨v9, e10, h⟩ := wp_lt h
      refine rs_topi e10 ?_
      refine dl_istn wi_228_22 rfl (fun lv l3 t8 => ?_)
      have l0 := t8 _ _ (by decide) (Or.inl rfl) l0
      have l2 := t8 _ _ (by decide) (Or.inl rfl) l2
      have l4 := t8 _ _ (by decide) (Or.inl rfl) l4
      obtain ⟨v12, e13, h⟩ := wp_lt h
      refine dl_inc wi_228_23 l4 rfl e13 (fun lv l4 t11 => ?_)
      have l0 := t11 _ _ (by decide) (Or.inl rfl) l0
      have l2 := t11 _ _ (by decide) (Or.inl rfl) l2
      have l3 := t11 _ _ (by decide) (Or.inl rfl) l3
      refine rs_goto (tg := 10) wi_228_26 ⟨by decide, by decide⟩ ?_
      exact h _ l0 l2 l3 l4
  ·
    intro x14 h lv l3
    refine rs_ildn wi_228_29 l3 ?_
    exact rs_iret wi_228_30 wr_228 rfl (hQ x14 h)
theorem wa_7_228 : rz_cn 7 (rx_yn (rt_P sc fm) 228).cls = true := (by decide +kernel : rz_cn 7 (rt_yn 228).cls = true)
theorem wc_64_146 : rx_ct (rt_P sc fm) 64 146 = some (0, 21, 1) := (by decide +kernel : rt_ct 64 146 = some (0, 21, 1))
theorem wc_64_192 : rx_ct (rt_P sc fm) 64 192 = some (0, 228, 2) := (by decide +kernel : rt_ct 64 192 = some (0, 228, 2))
theorem wc_64_202 : rx_ct (rt_P sc fm) 64 202 = some (0, 227, 1) := (by decide +kernel : rt_ct 64 202 = some (0, 227, 1))
theorem wf_64_150 : rx_ft (rt_P sc fm) 64 150 = some (7, 10) := (by decide +kernel : rt_ft 64 150 = some (7, 10))
theorem wf_64_195 : rx_ft (rt_P sc fm) 64 195 = some (7, 1) := (by decide +kernel : rt_ft 64 195 = some (7, 1))
theorem wf_64_198 : rx_ft (rt_P sc fm) 64 198 = some (7, 3) := (by decide +kernel : rt_ft 64 198 = some (7, 3))
theorem wf_64_205 : rx_ft (rt_P sc fm) 64 205 = some (7, 2) := (by decide +kernel : rt_ft 64 205 = some (7, 2))
theorem wf_64_28 : rx_ft (rt_P sc fm) 64 28 = some (14, 2) := (by decide +kernel : rt_ft 64 28 = some (14, 2))
theorem wf_64_35 : rx_ft (rt_P sc fm) 64 35 = some (14, 3) := (by decide +kernel : rt_ft 64 35 = some (14, 3))
theorem wi_64_0 : ri (rt_P sc fm) 64 0 (.aload_n 0) (1) := ri_of (by decide +kernel) rfl
theorem wi_64_1 : ri (rt_P sc fm) 64 1 (.getfield 28) (4) := ri_of (by decide +kernel) rfl
theorem wi_64_100 : ri (rt_P sc fm) 64 100 (.iconst 0) (101) := ri_of (by decide +kernel) rfl
theorem wi_64_101 : ri (rt_P sc fm) 64 101 (.ireturn) (102) := ri_of (by decide +kernel) rfl
theorem wi_64_102 : ri (rt_P sc fm) 64 102 (.aload_n 0) (103) := ri_of (by decide +kernel) rfl
theorem wi_64_103 : ri (rt_P sc fm) 64 103 (.getfield 35) (106) := ri_of (by decide +kernel) rfl
theorem wi_64_106 : ri (rt_P sc fm) 64 106 (.iload 4) (108) := ri_of (by decide +kernel) rfl
theorem wi_64_108 : ri (rt_P sc fm) 64 108 (.invokevirtual 202) (111) := ri_of (by decide +kernel) rfl
theorem wi_64_11 : ri (rt_P sc fm) 64 11 (.iload_n 2) (12) := ri_of (by decide +kernel) rfl
theorem wi_64_111 : ri (rt_P sc fm) 64 111 (.ifCond .eq 7) (114) := ri_of (by decide +kernel) rfl
theorem wi_64_114 : ri (rt_P sc fm) 64 114 (.iconst 1) (115) := ri_of (by decide +kernel) rfl
theorem wi_64_115 : ri (rt_P sc fm) 64 115 (.goto 4) (118) := ri_of (by decide +kernel) rfl
theorem wi_64_118 : ri (rt_P sc fm) 64 118 (.iconst 0) (119) := ri_of (by decide +kernel) rfl
theorem wi_64_119 : ri (rt_P sc fm) 64 119 (.ireturn) (120) := ri_of (by decide +kernel) rfl
theorem wi_64_12 : ri (rt_P sc fm) 64 12 (.ifCond .lt 16) (15) := ri_of (by decide +kernel) rfl
theorem wi_64_120 : ri (rt_P sc fm) 64 120 (.aload_n 0) (121) := ri_of (by decide +kernel) rfl
theorem wi_64_121 : ri (rt_P sc fm) 64 121 (.getfield 35) (124) := ri_of (by decide +kernel) rfl
theorem wi_64_124 : ri (rt_P sc fm) 64 124 (.iload 4) (126) := ri_of (by decide +kernel) rfl
theorem wi_64_126 : ri (rt_P sc fm) 64 126 (.invokevirtual 202) (129) := ri_of (by decide +kernel) rfl
theorem wi_64_129 : ri (rt_P sc fm) 64 129 (.ifCond .eq 7) (132) := ri_of (by decide +kernel) rfl
theorem wi_64_132 : ri (rt_P sc fm) 64 132 (.iconst 0) (133) := ri_of (by decide +kernel) rfl
theorem wi_64_133 : ri (rt_P sc fm) 64 133 (.goto 13) (136) := ri_of (by decide +kernel) rfl
theorem wi_64_136 : ri (rt_P sc fm) 64 136 (.aload_n 0) (137) := ri_of (by decide +kernel) rfl
theorem wi_64_137 : ri (rt_P sc fm) 64 137 (.getfield 35) (140) := ri_of (by decide +kernel) rfl
theorem wi_64_140 : ri (rt_P sc fm) 64 140 (.getfield 205) (143) := ri_of (by decide +kernel) rfl
theorem wi_64_143 : ri (rt_P sc fm) 64 143 (.iload 4) (145) := ri_of (by decide +kernel) rfl
theorem wi_64_145 : ri (rt_P sc fm) 64 145 (.iaload) (146) := ri_of (by decide +kernel) rfl
theorem wi_64_146 : ri (rt_P sc fm) 64 146 (.ireturn) (147) := ri_of (by decide +kernel) rfl
theorem wi_64_147 : ri (rt_P sc fm) 64 147 (.iconst (-1)) (148) := ri_of (by decide +kernel) rfl
theorem wi_64_148 : ri (rt_P sc fm) 64 148 (.ireturn) (149) := ri_of (by decide +kernel) rfl
theorem wi_64_15 : ri (rt_P sc fm) 64 15 (.iload_n 2) (16) := ri_of (by decide +kernel) rfl
theorem wi_64_16 : ri (rt_P sc fm) 64 16 (.aload_n 0) (17) := ri_of (by decide +kernel) rfl
theorem wi_64_17 : ri (rt_P sc fm) 64 17 (.getfield 35) (20) := ri_of (by decide +kernel) rfl
theorem wi_64_20 : ri (rt_P sc fm) 64 20 (.getfield 150) (23) := ri_of (by decide +kernel) rfl
theorem wi_64_23 : ri (rt_P sc fm) 64 23 (.iload_n 1) (24) := ri_of (by decide +kernel) rfl
theorem wi_64_24 : ri (rt_P sc fm) 64 24 (.iaload) (25) := ri_of (by decide +kernel) rfl
theorem wi_64_25 : ri (rt_P sc fm) 64 25 (.if_icmp .lt 5) (28) := ri_of (by decide +kernel) rfl
theorem wi_64_28 : ri (rt_P sc fm) 64 28 (.iconst (-1)) (29) := ri_of (by decide +kernel) rfl
theorem wi_64_29 : ri (rt_P sc fm) 64 29 (.ireturn) (30) := ri_of (by decide +kernel) rfl
theorem wi_64_30 : ri (rt_P sc fm) 64 30 (.aload_n 0) (31) := ri_of (by decide +kernel) rfl
theorem wi_64_31 : ri (rt_P sc fm) 64 31 (.getfield 35) (34) := ri_of (by decide +kernel) rfl
theorem wi_64_34 : ri (rt_P sc fm) 64 34 (.iload_n 1) (35) := ri_of (by decide +kernel) rfl
theorem wi_64_35 : ri (rt_P sc fm) 64 35 (.iload_n 2) (36) := ri_of (by decide +kernel) rfl
theorem wi_64_36 : ri (rt_P sc fm) 64 36 (.invokevirtual 192) (39) := ri_of (by decide +kernel) rfl
theorem wi_64_39 : ri (rt_P sc fm) 64 39 (.istore 4) (41) := ri_of (by decide +kernel) rfl
theorem wi_64_4 : ri (rt_P sc fm) 64 4 (.iload_n 1) (5) := ri_of (by decide +kernel) rfl
theorem wi_64_41 : ri (rt_P sc fm) 64 41 (.iload_n 3) (42) := ri_of (by decide +kernel) rfl
theorem wi_64_42 : ri (rt_P sc fm) 64 42 (.tableswitch 105 0 3 #[30, 41, 60, 78]) (42 + rx_len (.tableswitch 105 0 3 #[30, 41, 60, 78])) := ri_of (by decide +kernel) rfl
theorem wi_64_5 : ri (rt_P sc fm) 64 5 (.invokevirtual 146) (8) := ri_of (by decide +kernel) rfl
theorem wi_64_72 : ri (rt_P sc fm) 64 72 (.aload_n 0) (73) := ri_of (by decide +kernel) rfl
theorem wi_64_73 : ri (rt_P sc fm) 64 73 (.getfield 35) (76) := ri_of (by decide +kernel) rfl
theorem wi_64_76 : ri (rt_P sc fm) 64 76 (.getfield 195) (79) := ri_of (by decide +kernel) rfl
theorem wi_64_79 : ri (rt_P sc fm) 64 79 (.iload 4) (81) := ri_of (by decide +kernel) rfl
theorem wi_64_8 : ri (rt_P sc fm) 64 8 (.ifCond .lt 20) (11) := ri_of (by decide +kernel) rfl
theorem wi_64_81 : ri (rt_P sc fm) 64 81 (.iaload) (82) := ri_of (by decide +kernel) rfl
theorem wi_64_82 : ri (rt_P sc fm) 64 82 (.ireturn) (83) := ri_of (by decide +kernel) rfl
theorem wi_64_83 : ri (rt_P sc fm) 64 83 (.aload_n 0) (84) := ri_of (by decide +kernel) rfl
theorem wi_64_84 : ri (rt_P sc fm) 64 84 (.getfield 35) (87) := ri_of (by decide +kernel) rfl
theorem wi_64_87 : ri (rt_P sc fm) 64 87 (.getfield 198) (90) := ri_of (by decide +kernel) rfl
theorem wi_64_90 : ri (rt_P sc fm) 64 90 (.iload 4) (92) := ri_of (by decide +kernel) rfl
theorem wi_64_92 : ri (rt_P sc fm) 64 92 (.baload) (93) := ri_of (by decide +kernel) rfl
theorem wi_64_93 : ri (rt_P sc fm) 64 93 (.ifCond .eq 7) (96) := ri_of (by decide +kernel) rfl
theorem wi_64_96 : ri (rt_P sc fm) 64 96 (.iconst 1) (97) := ri_of (by decide +kernel) rfl
theorem wi_64_97 : ri (rt_P sc fm) 64 97 (.goto 4) (100) := ri_of (by decide +kernel) rfl
theorem wm_228 : rx_ml (rt_P sc fm) 228 = 5 := (by decide +kernel : rt_ml 228 = 5)
theorem wr_64 : rx_rt (rt_P sc fm) 64 = (some FieldType.int) := (by decide +kernel : rt_rt 64 = (some FieldType.int))
/-- MarkHouse.mark(III)I -/
def d_64 (n : Nat) (a1 : Int32) (a2 : Int32) (a3 : Int32) (c : cS) : Option (Int32) :=
  Option.bind (d_21 n a1 c) (fun v1 =>
  jn (fun p2 : Unit =>
    some (-1))
  (fun j28 =>
  if v1 < 0 then
    j28 ()
  else
    if a2 < 0 then
      j28 ()
    else
      if ib a1 2242 then
      if a2 < (c.1 144 (ix a1)) then
        Option.bind (d_228 n a1 a2 c) (fun v4 =>
        if a3 = 0 then
          if ib v4 4096 then
          some (c.1 135 (ix v4))
          else none
        else
        if a3 = 1 then
          if ib v4 4096 then
          jn (fun p10 : Int32 =>
            some p10)
          (fun j101 =>
          if (c.1 137 (ix v4)) = 0 then
            j101 0
          else
            j101 1)
          else none
        else
        if a3 = 2 then
          Option.bind (d_227 n v4 c) (fun v12 =>
          jn (fun p13 : Int32 =>
            some p13)
          (fun j119 =>
          if v12 = 0 then
            j119 0
          else
            j119 1))
        else
        if a3 = 3 then
          Option.bind (d_227 n v4 c) (fun v15 =>
          jn (fun p16 : Int32 =>
            some p16)
          (fun j146 =>
          if v15 = 0 then
            if ib v4 4096 then
            j146 (c.1 136 (ix v4))
            else none
          else
            j146 0))
        else
        some (-1))
      else
        j28 ()
      else none))
theorem sp_64 {F Lo n : Nat} {a1 : Int32} {a2 : Int32} {a3 : Int32} {c y : cS} {w : cW} {K : Int32 → Prop} {Q : ((Option Value) ⊕ String) → List va_E → Prop} (hw : rOK fm w) (hF : 2 ≤ F) (hLo : 44 ≤ Lo)  (h : wp (d_64 n a1 a2 a3 c) K) (hQ : ∀ r, K r → Q (.inl (some (.int r))) (hq true c y w)) : rs (rt_P sc fm) 64 F Lo 0 [(0, .ref 0), (1, .int a1), (2, .int a2), (3, .int a3)] [] (hq true c y w) Q := by
  unfold d_64 at h
  obtain ⟨lv, elv⟩ : ∃ lv : rx_L, lv = [(0, .ref 0), (1, .int a1), (2, .int a2), (3, .int a3)] := ⟨_, rfl⟩
  rw [← elv]
  have l0 : rx_ld lv 0 = some (.ref 0) := by rw [elv]; rfl
  have l1 : rx_ld lv 1 = some (.int a1) := by rw [elv]; rfl
  have l2 : rx_ld lv 2 = some (.int a2) := by rw [elv]; rfl
  have l3 : rx_ld lv 3 = some (.int a3) := by rw [elv]; rfl
  refine rs_aldn wi_64_0 l0 ?_
  refine dq_gr wi_64_1 wf_64_28 tf_0_2 ?_
  refine rs_ildn wi_64_4 l1 ?_
  refine rs_V wi_64_5 wc_64_146 rfl (dq_isa tf_114_0 wa_2_21) (Nat.le_trans (by decide) hF) (ml_le wm_21 (Nat.le_trans (by decide) hLo)) rfl (sp_21 hw (Nat.le_trans (by decide : 1 ≤ 2 - 1) (Nat.sub_le_sub_right hF 1)) (ml_sub wm_21 (Nat.le_trans (by decide : 21 ≤ 44 - 23) (Nat.sub_le_sub_right hLo 23))) (wp_bind h) (fun v1 h => rs_back1 ?_))
  refine wp_jn (B := fun p2 : Unit => ∀ lv, rs (rt_P sc fm) 64 F Lo 28 lv [] (hq true c y w) Q) h (fun p2 h lv => ?_) (fun j28 hj28 h => ?_)
  ·
    refine rs_pure wi_64_28 rfl ?_
    refine rs_topi (v := (-1)) (by decide) ?_
    exact rs_iret wi_64_29 wr_64 rfl (hQ (-1) h)
  refine rs_iflt (tg := 28) wi_64_8 ⟨by decide, by decide⟩ (fun q => ?_) (fun q => ?_)
  ·
    have h := wp_pos h q
    exact hj28 _ h _
  ·
    have h := wp_neg h q
    refine rs_ildn wi_64_11 l2 ?_
    refine rs_iflt (tg := 28) wi_64_12 ⟨by decide, by decide⟩ (fun q => ?_) (fun q => ?_)
    ·
      have h := wp_pos h q
      exact hj28 _ h _
    ·
      have h := wp_neg h q
      refine rs_ildn wi_64_15 l2 ?_
      refine rs_aldn wi_64_16 l0 ?_
      refine dq_gr wi_64_17 wf_64_35 tf_0_3 ?_
      refine dq_gr wi_64_20 wf_64_150 tf_133_10 ?_
      refine rs_ildn wi_64_23 l1 ?_
      obtain ⟨g3, h⟩ := wp_gd h
      refine dq_iald wi_64_24 t_144 g3 ?_
      refine rs_iclt (tg := 30) wi_64_25 ⟨by decide, by decide⟩ (fun q => ?_) (fun q => ?_)
      ·
        have h := wp_pos h q
        refine rs_aldn wi_64_30 l0 ?_
        refine dq_gr wi_64_31 wf_64_35 tf_0_3 ?_
        refine rs_ildn wi_64_34 l1 ?_
        refine rs_ildn wi_64_35 l2 ?_
        refine rs_V wi_64_36 wc_64_192 rfl (dq_isa tf_133_0 wa_7_228) (Nat.le_trans (by decide) hF) (ml_le wm_228 (Nat.le_trans (by decide) hLo)) rfl (sp_228 hw (Nat.le_trans (by decide : 0 ≤ 2 - 1) (Nat.sub_le_sub_right hF 1)) (ml_sub wm_228 (Nat.le_trans (by decide : 0 ≤ 44 - 24) (Nat.sub_le_sub_right hLo 24))) (wp_bind h) (fun v4 h => rs_back1 ?_))
        refine dl_ist wi_64_39 rfl (fun lv l4 t5 => ?_)
        have l0 := t5 _ _ (by decide) (Or.inl rfl) l0
        have l3 := t5 _ _ (by decide) (Or.inl rfl) l3
        refine rs_ildn wi_64_41 l3 ?_
        by_cases q6 : a3 = 0
        ·
          have h := wp_pos h q6
          refine rs_tsk (tg := 72) (off := 30) (v := 0) wi_64_42 q6 (by decide) (by decide) ⟨by decide, by decide⟩ ?_
          refine rs_aldn wi_64_72 l0 ?_
          refine dq_gr wi_64_73 wf_64_35 tf_0_3 ?_
          refine dq_gr wi_64_76 wf_64_195 tf_133_1 ?_
          refine rs_ild wi_64_79 l4 ?_
          obtain ⟨g7, h⟩ := wp_gd h
          refine dq_iald wi_64_81 t_135 g7 ?_
          exact rs_iret wi_64_82 wr_64 rfl (hQ (c.1 135 (ix v4)) h)
        have h := wp_neg h q6
        by_cases q8 : a3 = 1
        ·
          have h := wp_pos h q8
          refine rs_tsk (tg := 83) (off := 41) (v := 1) wi_64_42 q8 (by decide) (by decide) ⟨by decide, by decide⟩ ?_
          refine rs_aldn wi_64_83 l0 ?_
          refine dq_gr wi_64_84 wf_64_35 tf_0_3 ?_
          refine dq_gr wi_64_87 wf_64_198 tf_133_3 ?_
          refine rs_ild wi_64_90 l4 ?_
          obtain ⟨g9, h⟩ := wp_gd h
          refine dq_zald wi_64_92 t_137 g9 ?_
          refine wp_jn (B := fun p10 : Int32 => ∀ lv, rs (rt_P sc fm) 64 F Lo 101 lv [.int p10] (hq true c y w) Q) h (fun p10 h lv => ?_) (fun j101 hj101 h => ?_)
          ·
            exact rs_iret wi_64_101 wr_64 rfl (hQ p10 h)
          refine rs_ifeq (tg := 100) wi_64_93 ⟨by decide, by decide⟩ (fun q => ?_) (fun q => ?_)
          ·
            have h := wp_pos h q
            refine rs_pure wi_64_100 rfl ?_
            refine rs_topi (v := 0) (by decide) ?_
            exact hj101 _ h _
          ·
            have h := wp_neg h q
            refine rs_pure wi_64_96 rfl ?_
            refine rs_topi (v := 1) (by decide) ?_
            refine rs_goto (tg := 101) wi_64_97 ⟨by decide, by decide⟩ ?_
            exact hj101 _ h _
        have h := wp_neg h q8
        by_cases q11 : a3 = 2
        ·
          have h := wp_pos h q11
          refine rs_tsk (tg := 102) (off := 60) (v := 2) wi_64_42 q11 (by decide) (by decide) ⟨by decide, by decide⟩ ?_
          refine rs_aldn wi_64_102 l0 ?_
          refine dq_gr wi_64_103 wf_64_35 tf_0_3 ?_
          refine rs_ild wi_64_106 l4 ?_
          refine rs_V wi_64_108 wc_64_202 rfl (dq_isa tf_133_0 wa_7_227) (Nat.le_trans (by decide) hF) (ml_le wm_227 (Nat.le_trans (by decide) hLo)) rfl (sp_227 hw (Nat.le_trans (by decide : 0 ≤ 2 - 1) (Nat.sub_le_sub_right hF 1)) (ml_sub wm_227 (Nat.le_trans (by decide : 0 ≤ 44 - 21) (Nat.sub_le_sub_right hLo 21))) (wp_bind h) (fun v12 h => rs_back1 ?_))
          refine wp_jn (B := fun p13 : Int32 => ∀ lv, rs (rt_P sc fm) 64 F Lo 119 lv [.int p13] (hq true c y w) Q) h (fun p13 h lv => ?_) (fun j119 hj119 h => ?_)
          ·
            exact rs_iret wi_64_119 wr_64 rfl (hQ p13 h)
          refine rs_ifeq (tg := 118) wi_64_111 ⟨by decide, by decide⟩ (fun q => ?_) (fun q => ?_)
          ·
            have h := wp_pos h q
            refine rs_pure wi_64_118 rfl ?_
            refine rs_topi (v := 0) (by decide) ?_
            exact hj119 _ h _
          ·
            have h := wp_neg h q
            refine rs_pure wi_64_114 rfl ?_
            refine rs_topi (v := 1) (by decide) ?_
            refine rs_goto (tg := 119) wi_64_115 ⟨by decide, by decide⟩ ?_
            exact hj119 _ h _
        have h := wp_neg h q11
        by_cases q14 : a3 = 3
        ·
          have h := wp_pos h q14
          refine rs_tsk (tg := 120) (off := 78) (v := 3) wi_64_42 q14 (by decide) (by decide) ⟨by decide, by decide⟩ ?_
          refine rs_aldn wi_64_120 l0 ?_
          refine dq_gr wi_64_121 wf_64_35 tf_0_3 ?_
          refine rs_ild wi_64_124 l4 ?_
          refine rs_V wi_64_126 wc_64_202 rfl (dq_isa tf_133_0 wa_7_227) (Nat.le_trans (by decide) hF) (ml_le wm_227 (Nat.le_trans (by decide) hLo)) rfl (sp_227 hw (Nat.le_trans (by decide : 0 ≤ 2 - 1) (Nat.sub_le_sub_right hF 1)) (ml_sub wm_227 (Nat.le_trans (by decide : 0 ≤ 44 - 21) (Nat.sub_le_sub_right hLo 21))) (wp_bind h) (fun v15 h => rs_back1 ?_))
          refine wp_jn (B := fun p16 : Int32 => ∀ lv, rs (rt_P sc fm) 64 F Lo 146 lv [.int p16] (hq true c y w) Q) h (fun p16 h lv => ?_) (fun j146 hj146 h => ?_)
          ·
            exact rs_iret wi_64_146 wr_64 rfl (hQ p16 h)
          refine rs_ifeq (tg := 136) wi_64_129 ⟨by decide, by decide⟩ (fun q => ?_) (fun q => ?_)
          ·
            have h := wp_pos h q
            refine rs_aldn wi_64_136 l0 ?_
            refine dq_gr wi_64_137 wf_64_35 tf_0_3 ?_
            refine dq_gr wi_64_140 wf_64_205 tf_133_2 ?_
            refine rs_ild wi_64_143 l4 ?_
            obtain ⟨g17, h⟩ := wp_gd h
            refine dq_iald wi_64_145 t_136 g17 ?_
            exact hj146 _ h _
          ·
            have h := wp_neg h q
            refine rs_pure wi_64_132 rfl ?_
            refine rs_topi (v := 0) (by decide) ?_
            refine rs_goto (tg := 146) wi_64_133 ⟨by decide, by decide⟩ ?_
            exact hj146 _ h _
        have h := wp_neg h q14
        refine rs_tsd (tg := 147) wi_64_42 (rz_sw fun k k1 k2 => by
          have kk : k = 0 ∨ k = 1 ∨ k = 2 ∨ k = 3 := by omega
          rcases kk with rfl | rfl | rfl | rfl
          · exact q6
          · exact q8
          · exact q11
          · exact q14
          ) ⟨by decide, by decide⟩ ?_
        refine rs_pure wi_64_147 rfl ?_
        refine rs_topi (v := (-1)) (by decide) ?_
        exact rs_iret wi_64_148 wr_64 rfl (hQ (-1) h)
      ·
        have h := wp_neg h q
        exact hj28 _ h _
theorem tf_145_10 : fo true 145 10 10 (.int 0) := ⟨_, rfl, rfl, by decide, by decide⟩
theorem tf_145_11 : fo true 145 10 11 (.int 0) := ⟨_, rfl, rfl, by decide, by decide⟩
theorem tf_145_6 : fo true 145 10 6 (.int 0) := ⟨_, rfl, rfl, by decide, by decide⟩
theorem wf_293_474 : rx_ft (rt_P sc fm) 293 474 = some (10, 11) := (by decide +kernel : rt_ft 293 474 = some (10, 11))
theorem wf_293_477 : rx_ft (rt_P sc fm) 293 477 = some (10, 10) := (by decide +kernel : rt_ft 293 477 = some (10, 10))
theorem wf_293_480 : rx_ft (rt_P sc fm) 293 480 = some (10, 6) := (by decide +kernel : rt_ft 293 480 = some (10, 6))
theorem wf_293_489 : rx_ft (rt_P sc fm) 293 489 = some (3, 0) := (by decide +kernel : rt_ft 293 489 = some (3, 0))
theorem wf_293_9 : rx_ft (rt_P sc fm) 293 9 = some (10, 0) := (by decide +kernel : rt_ft 293 9 = some (10, 0))
theorem wi_293_0 : ri (rt_P sc fm) 293 0 (.aload_n 0) (1) := ri_of (by decide +kernel) rfl
theorem wi_293_1 : ri (rt_P sc fm) 293 1 (.getfield 480) (4) := ri_of (by decide +kernel) rfl
theorem wi_293_10 : ri (rt_P sc fm) 293 10 (.getfield 477) (13) := ri_of (by decide +kernel) rfl
theorem wi_293_13 : ri (rt_P sc fm) 293 13 (.aload_n 0) (14) := ri_of (by decide +kernel) rfl
theorem wi_293_14 : ri (rt_P sc fm) 293 14 (.getfield 474) (17) := ri_of (by decide +kernel) rfl
theorem wi_293_17 : ri (rt_P sc fm) 293 17 (.if_icmp .ge 22) (20) := ri_of (by decide +kernel) rfl
theorem wi_293_20 : ri (rt_P sc fm) 293 20 (.aload_n 0) (21) := ri_of (by decide +kernel) rfl
theorem wi_293_21 : ri (rt_P sc fm) 293 21 (.getfield 9) (24) := ri_of (by decide +kernel) rfl
theorem wi_293_24 : ri (rt_P sc fm) 293 24 (.getfield 489) (27) := ri_of (by decide +kernel) rfl
theorem wi_293_27 : ri (rt_P sc fm) 293 27 (.aload_n 0) (28) := ri_of (by decide +kernel) rfl
theorem wi_293_28 : ri (rt_P sc fm) 293 28 (.getfield 477) (31) := ri_of (by decide +kernel) rfl
theorem wi_293_31 : ri (rt_P sc fm) 293 31 (.baload) (32) := ri_of (by decide +kernel) rfl
theorem wi_293_32 : ri (rt_P sc fm) 293 32 (.sipush 255) (35) := ri_of (by decide +kernel) rfl
theorem wi_293_35 : ri (rt_P sc fm) 293 35 (.iand) (36) := ri_of (by decide +kernel) rfl
theorem wi_293_36 : ri (rt_P sc fm) 293 36 (.goto 4) (39) := ri_of (by decide +kernel) rfl
theorem wi_293_39 : ri (rt_P sc fm) 293 39 (.iconst (-1)) (40) := ri_of (by decide +kernel) rfl
theorem wi_293_4 : ri (rt_P sc fm) 293 4 (.ifCond .lt 5) (7) := ri_of (by decide +kernel) rfl
theorem wi_293_40 : ri (rt_P sc fm) 293 40 (.istore_n 3) (41) := ri_of (by decide +kernel) rfl
theorem wi_293_41 : ri (rt_P sc fm) 293 41 (.iload_n 3) (42) := ri_of (by decide +kernel) rfl
theorem wi_293_42 : ri (rt_P sc fm) 293 42 (.iload_n 1) (43) := ri_of (by decide +kernel) rfl
theorem wi_293_43 : ri (rt_P sc fm) 293 43 (.if_icmp .lt 8) (46) := ri_of (by decide +kernel) rfl
theorem wi_293_46 : ri (rt_P sc fm) 293 46 (.iload_n 3) (47) := ri_of (by decide +kernel) rfl
theorem wi_293_47 : ri (rt_P sc fm) 293 47 (.iload_n 2) (48) := ri_of (by decide +kernel) rfl
theorem wi_293_48 : ri (rt_P sc fm) 293 48 (.if_icmp .le 13) (51) := ri_of (by decide +kernel) rfl
theorem wi_293_51 : ri (rt_P sc fm) 293 51 (.aload_n 0) (52) := ri_of (by decide +kernel) rfl
theorem wi_293_52 : ri (rt_P sc fm) 293 52 (.aload_n 0) (53) := ri_of (by decide +kernel) rfl
theorem wi_293_53 : ri (rt_P sc fm) 293 53 (.getfield 477) (56) := ri_of (by decide +kernel) rfl
theorem wi_293_56 : ri (rt_P sc fm) 293 56 (.putfield 480) (59) := ri_of (by decide +kernel) rfl
theorem wi_293_59 : ri (rt_P sc fm) 293 59 (.iconst (-1)) (60) := ri_of (by decide +kernel) rfl
theorem wi_293_60 : ri (rt_P sc fm) 293 60 (.ireturn) (61) := ri_of (by decide +kernel) rfl
theorem wi_293_61 : ri (rt_P sc fm) 293 61 (.aload_n 0) (62) := ri_of (by decide +kernel) rfl
theorem wi_293_62 : ri (rt_P sc fm) 293 62 (.dup) (63) := ri_of (by decide +kernel) rfl
theorem wi_293_63 : ri (rt_P sc fm) 293 63 (.getfield 477) (66) := ri_of (by decide +kernel) rfl
theorem wi_293_66 : ri (rt_P sc fm) 293 66 (.iconst 1) (67) := ri_of (by decide +kernel) rfl
theorem wi_293_67 : ri (rt_P sc fm) 293 67 (.iadd) (68) := ri_of (by decide +kernel) rfl
theorem wi_293_68 : ri (rt_P sc fm) 293 68 (.putfield 477) (71) := ri_of (by decide +kernel) rfl
theorem wi_293_7 : ri (rt_P sc fm) 293 7 (.iconst (-1)) (8) := ri_of (by decide +kernel) rfl
theorem wi_293_71 : ri (rt_P sc fm) 293 71 (.iload_n 3) (72) := ri_of (by decide +kernel) rfl
theorem wi_293_72 : ri (rt_P sc fm) 293 72 (.ireturn) (73) := ri_of (by decide +kernel) rfl
theorem wi_293_8 : ri (rt_P sc fm) 293 8 (.ireturn) (9) := ri_of (by decide +kernel) rfl
theorem wi_293_9 : ri (rt_P sc fm) 293 9 (.aload_n 0) (10) := ri_of (by decide +kernel) rfl
theorem wp_293_477 : rx_pt (rt_P sc fm) 293 477 = some (10, 10, .int) := (by decide +kernel : rt_pt 293 477 = some (10, 10, .int))
theorem wp_293_480 : rx_pt (rt_P sc fm) 293 480 = some (10, 6, .int) := (by decide +kernel : rt_pt 293 480 = some (10, 6, .int))
theorem wr_293 : rx_rt (rt_P sc fm) 293 = (some FieldType.int) := (by decide +kernel : rt_rt 293 = (some FieldType.int))
/-- MarkHouse$Reader.fileByte(II)I -/
def d_293 (n : Nat) (a1 : Int32) (a2 : Int32) (c : cS) : Option (Int32 × cS) :=
  if (c.1 145 6) < 0 then
    jn (fun p1 : Int32 =>
      jn (fun p3 : Unit =>
        lt (pI c 145 6 (c.1 145 10)) (fun c4 =>
        some ((-1), c4)))
      (fun j51 =>
      if p1 < a1 then
        j51 ()
      else
        if p1 ≤ a2 then
          lt (pI c 145 10 ((c.1 145 10) + 1)) (fun c6 =>
          some (p1, c6))
        else
          j51 ()))
    (fun j40 =>
    if (c.1 145 11) ≤ (c.1 145 10) then
      j40 (-1)
    else
      if ib (c.1 145 10) 4000 then
      j40 ((c.1 2 (ix (c.1 145 10))) &&& 255)
      else none)
  else
    some ((-1), c)
theorem sp_293 {F Lo n : Nat} {a1 : Int32} {a2 : Int32} {c y : cS} {w : cW} {K : Int32 × cS → Prop} {Q : ((Option Value) ⊕ String) → List va_E → Prop} (hw : rOK fm w) (hF : 0 ≤ F) (hLo : 0 ≤ Lo)  (h : wp (d_293 n a1 a2 c) K) (hQ : ∀ r, K r → Q (.inl (some (.int r.1))) (hq true r.2 y w)) : rs (rt_P sc fm) 293 F Lo 0 [(0, .ref 145), (1, .int a1), (2, .int a2)] [] (hq true c y w) Q := by
  unfold d_293 at h
  obtain ⟨lv, elv⟩ : ∃ lv : rx_L, lv = [(0, .ref 145), (1, .int a1), (2, .int a2)] := ⟨_, rfl⟩
  rw [← elv]
  have l0 : rx_ld lv 0 = some (.ref 145) := by rw [elv]; rfl
  have l1 : rx_ld lv 1 = some (.int a1) := by rw [elv]; rfl
  have l2 : rx_ld lv 2 = some (.int a2) := by rw [elv]; rfl
  refine rs_aldn wi_293_0 l0 ?_
  refine dq_gi wi_293_1 wf_293_480 tf_145_6 ?_
  refine rs_iflt (tg := 9) wi_293_4 ⟨by decide, by decide⟩ (fun q => ?_) (fun q => ?_)
  ·
    have h := wp_pos h q
    refine rs_aldn wi_293_9 l0 ?_
    refine dq_gi wi_293_10 wf_293_477 tf_145_10 ?_
    refine rs_aldn wi_293_13 l0 ?_
    refine dq_gi wi_293_14 wf_293_474 tf_145_11 ?_
    refine wp_jn (B := fun p1 : Int32 => ∀ lv, rx_ld lv 0 = some (.ref 145) → rx_ld lv 1 = some (.int a1) → rx_ld lv 2 = some (.int a2) → rs (rt_P sc fm) 293 F Lo 40 lv [.int p1] (hq true c y w) Q) h (fun p1 h lv l0 l1 l2 => ?_) (fun j40 hj40 h => ?_)
    ·
      refine dl_istn wi_293_40 rfl (fun lv l3 t2 => ?_)
      have l0 := t2 _ _ (by decide) (Or.inl rfl) l0
      have l1 := t2 _ _ (by decide) (Or.inl rfl) l1
      have l2 := t2 _ _ (by decide) (Or.inl rfl) l2
      refine rs_ildn wi_293_41 l3 ?_
      refine rs_ildn wi_293_42 l1 ?_
      refine wp_jn (B := fun p3 : Unit => ∀ lv, rx_ld lv 0 = some (.ref 145) → rs (rt_P sc fm) 293 F Lo 51 lv [] (hq true c y w) Q) h (fun p3 h lv l0 => ?_) (fun j51 hj51 h => ?_)
      ·
        refine rs_aldn wi_293_51 l0 ?_
        refine rs_aldn wi_293_52 l0 ?_
        refine dq_gi wi_293_53 wf_293_477 tf_145_10 ?_
        obtain ⟨c4, e5, h⟩ := wp_lt h
        refine dq_pi wi_293_56 wp_293_480 tf_145_6 rfl rfl e5 ?_
        refine rs_pure wi_293_59 rfl ?_
        refine rs_topi (v := (-1)) (by decide) ?_
        exact rs_iret wi_293_60 wr_293 rfl (hQ ((-1), c4) h)
      refine rs_iclt (tg := 51) wi_293_43 ⟨by decide, by decide⟩ (fun q => ?_) (fun q => ?_)
      ·
        have h := wp_pos h q
        exact hj51 _ h _ l0
      ·
        have h := wp_neg h q
        refine rs_ildn wi_293_46 l3 ?_
        refine rs_ildn wi_293_47 l2 ?_
        refine rs_icle (tg := 61) wi_293_48 ⟨by decide, by decide⟩ (fun q => ?_) (fun q => ?_)
        ·
          have h := wp_pos h q
          refine rs_aldn wi_293_61 l0 ?_
          refine rs_pure wi_293_62 rfl ?_
          refine dq_gi wi_293_63 wf_293_477 tf_145_10 ?_
          refine rs_pure wi_293_66 rfl ?_
          refine rs_topi (v := 1) (by decide) ?_
          refine rs_pure wi_293_67 rfl ?_
          obtain ⟨c6, e7, h⟩ := wp_lt h
          refine dq_pi wi_293_68 wp_293_477 tf_145_10 rfl rfl e7 ?_
          refine rs_ildn wi_293_71 l3 ?_
          exact rs_iret wi_293_72 wr_293 rfl (hQ (p1, c6) h)
        ·
          have h := wp_neg h q
          exact hj51 _ h _ l0
    refine rs_icge (tg := 39) wi_293_17 ⟨by decide, by decide⟩ (fun q => ?_) (fun q => ?_)
    ·
      have h := wp_pos h q
      refine rs_pure wi_293_39 rfl ?_
      refine rs_topi (v := (-1)) (by decide) ?_
      exact hj40 _ h _ l0 l1 l2
    ·
      have h := wp_neg h q
      refine rs_aldn wi_293_20 l0 ?_
      refine dq_gr wi_293_21 wf_293_9 tf_145_0 ?_
      refine dq_gr wi_293_24 wf_293_489 tf_1_0 ?_
      refine rs_aldn wi_293_27 l0 ?_
      refine dq_gi wi_293_28 wf_293_477 tf_145_10 ?_
      obtain ⟨g8, h⟩ := wp_gd h
      refine dq_bald wi_293_31 t_2 g8 ?_
      refine rs_pure wi_293_32 rfl ?_
      refine rs_topi (v := 255) (by decide) ?_
      refine rs_pure wi_293_35 rfl ?_
      refine rs_goto (tg := 40) wi_293_36 ⟨by decide, by decide⟩ ?_
      exact hj40 _ h _ l0 l1 l2
  ·
    have h := wp_neg h q
    refine rs_pure wi_293_7 rfl ?_
    refine rs_topi (v := (-1)) (by decide) ?_
    exact rs_iret wi_293_8 wr_293 rfl (hQ ((-1), c) h)
theorem wa_10_293 : rz_cn 10 (rx_yn (rt_P sc fm) 293).cls = true := (by decide +kernel : rz_cn 10 (rt_yn 293).cls = true)
theorem wc_295_483 : rx_ct (rt_P sc fm) 295 483 = some (0, 293, 2) := (by decide +kernel : rt_ct 295 483 = some (0, 293, 2))
theorem wc_295_499 : rx_ct (rt_P sc fm) 295 499 = some (11, 352, 1) := (by decide +kernel : rt_ct 295 499 = some (11, 352, 1))
theorem wc_295_502 : rx_ct (rt_P sc fm) 295 502 = some (11, 353, 1) := (by decide +kernel : rt_ct 295 502 = some (11, 353, 1))
theorem wf_295_477 : rx_ft (rt_P sc fm) 295 477 = some (10, 10) := (by decide +kernel : rt_ft 295 477 = some (10, 10))
theorem wf_295_480 : rx_ft (rt_P sc fm) 295 480 = some (10, 6) := (by decide +kernel : rt_ft 295 480 = some (10, 6))
theorem wi_295_0 : ri (rt_P sc fm) 295 0 (.aload_n 0) (1) := ri_of (by decide +kernel) rfl
theorem wi_295_1 : ri (rt_P sc fm) 295 1 (.iconst 1) (2) := ri_of (by decide +kernel) rfl
theorem wi_295_10 : ri (rt_P sc fm) 295 10 (.iconst 0) (11) := ri_of (by decide +kernel) rfl
theorem wi_295_11 : ri (rt_P sc fm) 295 11 (.istore 4) (13) := ri_of (by decide +kernel) rfl
theorem wi_295_13 : ri (rt_P sc fm) 295 13 (.iload 4) (15) := ri_of (by decide +kernel) rfl
theorem wi_295_15 : ri (rt_P sc fm) 295 15 (.iload_n 1) (16) := ri_of (by decide +kernel) rfl
theorem wi_295_16 : ri (rt_P sc fm) 295 16 (.if_icmp .ge 75) (19) := ri_of (by decide +kernel) rfl
theorem wi_295_19 : ri (rt_P sc fm) 295 19 (.aload_n 0) (20) := ri_of (by decide +kernel) rfl
theorem wi_295_2 : ri (rt_P sc fm) 295 2 (.bipush 8) (4) := ri_of (by decide +kernel) rfl
theorem wi_295_20 : ri (rt_P sc fm) 295 20 (.getfield 480) (23) := ri_of (by decide +kernel) rfl
theorem wi_295_23 : ri (rt_P sc fm) 295 23 (.ifCond .ge 68) (26) := ri_of (by decide +kernel) rfl
theorem wi_295_26 : ri (rt_P sc fm) 295 26 (.aload_n 0) (27) := ri_of (by decide +kernel) rfl
theorem wi_295_27 : ri (rt_P sc fm) 295 27 (.bipush 48) (29) := ri_of (by decide +kernel) rfl
theorem wi_295_29 : ri (rt_P sc fm) 295 29 (.bipush 122) (31) := ri_of (by decide +kernel) rfl
theorem wi_295_31 : ri (rt_P sc fm) 295 31 (.invokevirtual 483) (34) := ri_of (by decide +kernel) rfl
theorem wi_295_34 : ri (rt_P sc fm) 295 34 (.istore 5) (36) := ri_of (by decide +kernel) rfl
theorem wi_295_36 : ri (rt_P sc fm) 295 36 (.iload 5) (38) := ri_of (by decide +kernel) rfl
theorem wi_295_38 : ri (rt_P sc fm) 295 38 (.ifCond .lt 34) (41) := ri_of (by decide +kernel) rfl
theorem wi_295_4 : ri (rt_P sc fm) 295 4 (.invokevirtual 483) (7) := ri_of (by decide +kernel) rfl
theorem wi_295_41 : ri (rt_P sc fm) 295 41 (.iload 5) (43) := ri_of (by decide +kernel) rfl
theorem wi_295_43 : ri (rt_P sc fm) 295 43 (.invokestatic 499) (46) := ri_of (by decide +kernel) rfl
theorem wi_295_46 : ri (rt_P sc fm) 295 46 (.ifCond .ne 26) (49) := ri_of (by decide +kernel) rfl
theorem wi_295_49 : ri (rt_P sc fm) 295 49 (.iload 4) (51) := ri_of (by decide +kernel) rfl
theorem wi_295_51 : ri (rt_P sc fm) 295 51 (.ifCond .eq 11) (54) := ri_of (by decide +kernel) rfl
theorem wi_295_54 : ri (rt_P sc fm) 295 54 (.iload 5) (56) := ri_of (by decide +kernel) rfl
theorem wi_295_56 : ri (rt_P sc fm) 295 56 (.invokestatic 502) (59) := ri_of (by decide +kernel) rfl
theorem wi_295_59 : ri (rt_P sc fm) 295 59 (.ifCond .ne 13) (62) := ri_of (by decide +kernel) rfl
theorem wi_295_62 : ri (rt_P sc fm) 295 62 (.aload_n 0) (63) := ri_of (by decide +kernel) rfl
theorem wi_295_63 : ri (rt_P sc fm) 295 63 (.aload_n 0) (64) := ri_of (by decide +kernel) rfl
theorem wi_295_64 : ri (rt_P sc fm) 295 64 (.getfield 477) (67) := ri_of (by decide +kernel) rfl
theorem wi_295_67 : ri (rt_P sc fm) 295 67 (.iconst 1) (68) := ri_of (by decide +kernel) rfl
theorem wi_295_68 : ri (rt_P sc fm) 295 68 (.isub) (69) := ri_of (by decide +kernel) rfl
theorem wi_295_69 : ri (rt_P sc fm) 295 69 (.putfield 480) (72) := ri_of (by decide +kernel) rfl
theorem wi_295_7 : ri (rt_P sc fm) 295 7 (.istore_n 1) (8) := ri_of (by decide +kernel) rfl
theorem wi_295_72 : ri (rt_P sc fm) 295 72 (.lload_n 2) (73) := ri_of (by decide +kernel) rfl
theorem wi_295_73 : ri (rt_P sc fm) 295 73 (.bipush 8) (75) := ri_of (by decide +kernel) rfl
theorem wi_295_75 : ri (rt_P sc fm) 295 75 (.lshl) (76) := ri_of (by decide +kernel) rfl
theorem wi_295_76 : ri (rt_P sc fm) 295 76 (.iload 5) (78) := ri_of (by decide +kernel) rfl
theorem wi_295_78 : ri (rt_P sc fm) 295 78 (.sipush 255) (81) := ri_of (by decide +kernel) rfl
theorem wi_295_8 : ri (rt_P sc fm) 295 8 (.lconst 0) (9) := ri_of (by decide +kernel) rfl
theorem wi_295_81 : ri (rt_P sc fm) 295 81 (.iand) (82) := ri_of (by decide +kernel) rfl
theorem wi_295_82 : ri (rt_P sc fm) 295 82 (.i2l) (83) := ri_of (by decide +kernel) rfl
theorem wi_295_83 : ri (rt_P sc fm) 295 83 (.lor) (84) := ri_of (by decide +kernel) rfl
theorem wi_295_84 : ri (rt_P sc fm) 295 84 (.lstore_n 2) (85) := ri_of (by decide +kernel) rfl
theorem wi_295_85 : ri (rt_P sc fm) 295 85 (.iinc 4 1) (88) := ri_of (by decide +kernel) rfl
theorem wi_295_88 : ri (rt_P sc fm) 295 88 (.goto (-75)) (91) := ri_of (by decide +kernel) rfl
theorem wi_295_9 : ri (rt_P sc fm) 295 9 (.lstore_n 2) (10) := ri_of (by decide +kernel) rfl
theorem wi_295_91 : ri (rt_P sc fm) 295 91 (.lload_n 2) (92) := ri_of (by decide +kernel) rfl
theorem wi_295_92 : ri (rt_P sc fm) 295 92 (.lreturn) (93) := ri_of (by decide +kernel) rfl
theorem wm_293 : rx_ml (rt_P sc fm) 293 = 4 := (by decide +kernel : rt_ml 293 = 4)
theorem wp_295_480 : rx_pt (rt_P sc fm) 295 480 = some (10, 6, .int) := (by decide +kernel : rt_pt 295 480 = some (10, 6, .int))
theorem wr_295 : rx_rt (rt_P sc fm) 295 = (some FieldType.long) := (by decide +kernel : rt_rt 295 = (some FieldType.long))
/-- MarkHouse$Reader.fileName()J -/
def d_295 (n : Nat)  (c : cS) : Option (Int64 × cS) :=
  Option.bind (d_293 n 1 8 c) (fun r1 =>
  Option.bind (whl (R := (Int64 × cS)) (fun s5 : Int64 × Int32 × cS =>
    if r1.1 ≤ s5.2.1 then
      some (.inr (s5.1, s5.2.2))
    else
      if 0 ≤ (s5.2.2.1 145 6) then
        some (.inr (s5.1, s5.2.2))
      else
        Option.bind (d_293 n 48 122 s5.2.2) (fun r6 =>
        jn (fun p8 : cS =>
          lt (((s5.1 <<< ((8 : Int32).toInt64 &&& 63)) ||| ((r6.1 &&& 255) : Int32).toInt64) : Int64) (fun v10 =>
          lt (s5.2.1 + 1 : Int32) (fun v13 =>
          some (.inl (v10, v13, p8)))))
        (fun j72 =>
        if r6.1 < 0 then
          j72 r6.2
        else
          Option.bind (d_352 n r6.1) (fun v15 =>
          if v15 = 0 then
            jn (fun p16 : Unit =>
              lt (pI r6.2 145 6 ((r6.2.1 145 10) - 1)) (fun c17 =>
              j72 c17))
            (fun j62 =>
            if s5.2.1 = 0 then
              j62 ()
            else
              Option.bind (d_353 n r6.1) (fun v19 =>
              if v19 = 0 then
                j62 ()
              else
                j72 r6.2))
          else
            j72 r6.2)))) n (0, 0, r1.2))
  (fun x20 : Int64 × cS =>
    some (x20.1, x20.2)))
theorem sp_295 {F Lo n : Nat}  {c y : cS} {w : cW} {K : Int64 × cS → Prop} {Q : ((Option Value) ⊕ String) → List va_E → Prop} (hw : rOK fm w) (hF : 1 ≤ F) (hLo : 23 ≤ Lo)  (h : wp (d_295 n  c) K) (hQ : ∀ r, K r → Q (.inl (some (.long r.1))) (hq true r.2 y w)) : rs (rt_P sc fm) 295 F Lo 0 [(0, .ref 145)] [] (hq true c y w) Q := by
  unfold d_295 at h
  obtain ⟨lv, elv⟩ : ∃ lv : rx_L, lv = [(0, .ref 145)] := ⟨_, rfl⟩
  rw [← elv]
  have l0 : rx_ld lv 0 = some (.ref 145) := by rw [elv]; rfl
  refine rs_aldn wi_295_0 l0 ?_
  refine rs_pure wi_295_1 rfl ?_
  refine rs_topi (v := 1) (by decide) ?_
  refine rs_pure wi_295_2 rfl ?_
  refine rs_topi (v := 8) (by decide) ?_
  refine rs_V wi_295_4 wc_295_483 rfl (dq_isa tf_145_0 wa_10_293) (Nat.le_trans (by decide) hF) (ml_le wm_293 (Nat.le_trans (by decide) hLo)) rfl (sp_293 hw (Nat.le_trans (by decide : 0 ≤ 1 - 1) (Nat.sub_le_sub_right hF 1)) (ml_sub wm_293 (Nat.le_trans (by decide : 0 ≤ 23 - 23) (Nat.sub_le_sub_right hLo 23))) (wp_bind h) (fun r1 h => rs_back1 ?_))
  refine dl_istn wi_295_7 rfl (fun lv l1 t2 => ?_)
  have l0 := t2 _ _ (by decide) (Or.inl rfl) l0
  refine rs_pure wi_295_8 rfl ?_
  refine rs_topl (v := 0) (by decide) ?_
  refine dl_lstn wi_295_9 rfl (fun lv l2 t3 => ?_)
  have l0 := t3 _ _ (by decide) (by decide) (Or.inl rfl) l0
  have l1 := t3 _ _ (by decide) (by decide) (Or.inl rfl) l1
  refine rs_pure wi_295_10 rfl ?_
  refine rs_topi (v := 0) (by decide) ?_
  refine dl_ist wi_295_11 rfl (fun lv l4 t4 => ?_)
  have l0 := t4 _ _ (by decide) (Or.inl rfl) l0
  have l1 := t4 _ _ (by decide) (Or.inl rfl) l1
  have l2 := t4 _ _ (by decide) (Or.inr (by decide)) l2
  refine whl_ex (A := fun s5 : Int64 × Int32 × cS => ∀ lv, rx_ld lv 0 = some (.ref 145) → rx_ld lv 1 = some (.int r1.1) → rx_ld lv 2 = some (.long s5.1) → rx_ld lv 4 = some (.int s5.2.1) → rs (rt_P sc fm) 295 F Lo 13 lv [] (hq true s5.2.2 y w) Q) (B := (fun x20 : Int64 × cS => ∀ lv, rx_ld lv 2 = some (.long x20.1) → rs (rt_P sc fm) 295 F Lo 91 lv [] (hq true x20.2 y w) Q)) ?_ ?_ _ _ (wp_bind h) _ l0 l1 l2 l4
  · intro s5 h lv l0 l1 l2 l4
    refine rs_ild wi_295_13 l4 ?_
    refine rs_ildn wi_295_15 l1 ?_
    refine rs_icge (tg := 91) wi_295_16 ⟨by decide, by decide⟩ (fun q => ?_) (fun q => ?_)
    ·
      have h := wp_pos h q
      exact h _ l2
    ·
      have h := wp_neg h q
      refine rs_aldn wi_295_19 l0 ?_
      refine dq_gi wi_295_20 wf_295_480 tf_145_6 ?_
      refine rs_ifge (tg := 91) wi_295_23 ⟨by decide, by decide⟩ (fun q => ?_) (fun q => ?_)
      ·
        have h := wp_pos h q
        exact h _ l2
      ·
        have h := wp_neg h q
        refine rs_aldn wi_295_26 l0 ?_
        refine rs_pure wi_295_27 rfl ?_
        refine rs_topi (v := 48) (by decide) ?_
        refine rs_pure wi_295_29 rfl ?_
        refine rs_topi (v := 122) (by decide) ?_
        refine rs_V wi_295_31 wc_295_483 rfl (dq_isa tf_145_0 wa_10_293) (Nat.le_trans (by decide) hF) (ml_le wm_293 (Nat.le_trans (by decide) hLo)) rfl (sp_293 hw (Nat.le_trans (by decide : 0 ≤ 1 - 1) (Nat.sub_le_sub_right hF 1)) (ml_sub wm_293 (Nat.le_trans (by decide : 0 ≤ 23 - 23) (Nat.sub_le_sub_right hLo 23))) (wp_bind h) (fun r6 h => rs_back1 ?_))
        refine dl_ist wi_295_34 rfl (fun lv l5 t7 => ?_)
        have l0 := t7 _ _ (by decide) (Or.inl rfl) l0
        have l1 := t7 _ _ (by decide) (Or.inl rfl) l1
        have l2 := t7 _ _ (by decide) (Or.inr (by decide)) l2
        have l4 := t7 _ _ (by decide) (Or.inl rfl) l4
        refine rs_ild wi_295_36 l5 ?_
        refine wp_jn (B := fun p8 : cS => ∀ lv, rx_ld lv 0 = some (.ref 145) → rx_ld lv 1 = some (.int r1.1) → rx_ld lv 2 = some (.long s5.1) → rx_ld lv 4 = some (.int s5.2.1) → rx_ld lv 5 = some (.int r6.1) → rs (rt_P sc fm) 295 F Lo 72 lv [] (hq true p8 y w) Q) h (fun p8 h lv l0 l1 l2 l4 l5 => ?_) (fun j72 hj72 h => ?_)
        ·
          refine rs_lldn wi_295_72 l2 ?_
          refine rs_pure wi_295_73 rfl ?_
          refine rs_topi (v := 8) (by decide) ?_
          refine rs_pure wi_295_75 rfl ?_
          refine rs_ild wi_295_76 l5 ?_
          refine rs_pure wi_295_78 rfl ?_
          refine rs_topi (v := 255) (by decide) ?_
          refine rs_pure wi_295_81 rfl ?_
          refine rs_pure wi_295_82 rfl ?_
          refine rs_pure wi_295_83 rfl ?_
          obtain ⟨v10, e11, h⟩ := wp_lt h
          refine rs_topl e11 ?_
          refine dl_lstn wi_295_84 rfl (fun lv l2 t9 => ?_)
          have l0 := t9 _ _ (by decide) (by decide) (Or.inl rfl) l0
          have l1 := t9 _ _ (by decide) (by decide) (Or.inl rfl) l1
          have l4 := t9 _ _ (by decide) (by decide) (Or.inl rfl) l4
          obtain ⟨v13, e14, h⟩ := wp_lt h
          refine dl_inc wi_295_85 l4 rfl e14 (fun lv l4 t12 => ?_)
          have l0 := t12 _ _ (by decide) (Or.inl rfl) l0
          have l1 := t12 _ _ (by decide) (Or.inl rfl) l1
          have l2 := t12 _ _ (by decide) (Or.inr (by decide)) l2
          refine rs_goto (tg := 13) wi_295_88 ⟨by decide, by decide⟩ ?_
          exact h _ l0 l1 l2 l4
        refine rs_iflt (tg := 72) wi_295_38 ⟨by decide, by decide⟩ (fun q => ?_) (fun q => ?_)
        ·
          have h := wp_pos h q
          exact hj72 _ h _ l0 l1 l2 l4 l5
        ·
          have h := wp_neg h q
          refine rs_ild wi_295_41 l5 ?_
          refine rs_SN wi_295_43 wc_295_499 rfl (Nat.le_trans (by decide) hF) (ml_le wm_352 (Nat.le_trans (by decide) hLo)) rfl (sp_352 (Nat.le_trans (by decide : 0 ≤ 1 - 1) (Nat.sub_le_sub_right hF 1)) (ml_sub wm_352 (Nat.le_trans (by decide : 0 ≤ 23 - 20) (Nat.sub_le_sub_right hLo 20))) (wp_bind h) (fun v15 h => rs_back1 ?_))
          refine rs_ifne (tg := 72) wi_295_46 ⟨by decide, by decide⟩ (fun q => ?_) (fun q => ?_)
          ·
            have h := wp_neg h q
            exact hj72 _ h _ l0 l1 l2 l4 l5
          ·
            have h := wp_pos h q
            refine rs_ild wi_295_49 l4 ?_
            refine wp_jn (B := fun p16 : Unit => ∀ lv, rx_ld lv 0 = some (.ref 145) → rx_ld lv 1 = some (.int r1.1) → rx_ld lv 2 = some (.long s5.1) → rx_ld lv 4 = some (.int s5.2.1) → rx_ld lv 5 = some (.int r6.1) → rs (rt_P sc fm) 295 F Lo 62 lv [] (hq true r6.2 y w) Q) h (fun p16 h lv l0 l1 l2 l4 l5 => ?_) (fun j62 hj62 h => ?_)
            ·
              refine rs_aldn wi_295_62 l0 ?_
              refine rs_aldn wi_295_63 l0 ?_
              refine dq_gi wi_295_64 wf_295_477 tf_145_10 ?_
              refine rs_pure wi_295_67 rfl ?_
              refine rs_topi (v := 1) (by decide) ?_
              refine rs_pure wi_295_68 rfl ?_
              obtain ⟨c17, e18, h⟩ := wp_lt h
              refine dq_pi wi_295_69 wp_295_480 tf_145_6 rfl rfl e18 ?_
              exact hj72 _ h _ l0 l1 l2 l4 l5
            refine rs_ifeq (tg := 62) wi_295_51 ⟨by decide, by decide⟩ (fun q => ?_) (fun q => ?_)
            ·
              have h := wp_pos h q
              exact hj62 _ h _ l0 l1 l2 l4 l5
            ·
              have h := wp_neg h q
              refine rs_ild wi_295_54 l5 ?_
              refine rs_SN wi_295_56 wc_295_502 rfl (Nat.le_trans (by decide) hF) (ml_le wm_353 (Nat.le_trans (by decide) hLo)) rfl (sp_353 (Nat.le_trans (by decide : 0 ≤ 1 - 1) (Nat.sub_le_sub_right hF 1)) (ml_sub wm_353 (Nat.le_trans (by decide : 0 ≤ 23 - 20) (Nat.sub_le_sub_right hLo 20))) (wp_bind h) (fun v19 h => rs_back1 ?_))
              refine rs_ifne (tg := 72) wi_295_59 ⟨by decide, by decide⟩ (fun q => ?_) (fun q => ?_)
              ·
                have h := wp_neg h q
                exact hj72 _ h _ l0 l1 l2 l4 l5
              ·
                have h := wp_pos h q
                exact hj62 _ h _ l0 l1 l2 l4 l5
  ·
    intro x20 h lv l2
    refine rs_lldn wi_295_91 l2 ?_
    exact rs_lret wi_295_92 wr_295 (hQ (x20.1, x20.2) h)
theorem wc_297_483 : rx_ct (rt_P sc fm) 297 483 = some (0, 293, 2) := (by decide +kernel : rt_ct 297 483 = some (0, 293, 2))
theorem wf_297_477 : rx_ft (rt_P sc fm) 297 477 = some (10, 10) := (by decide +kernel : rt_ft 297 477 = some (10, 10))
theorem wf_297_480 : rx_ft (rt_P sc fm) 297 480 = some (10, 6) := (by decide +kernel : rt_ft 297 480 = some (10, 6))
theorem wi_297_0 : ri (rt_P sc fm) 297 0 (.aload_n 0) (1) := ri_of (by decide +kernel) rfl
theorem wi_297_1 : ri (rt_P sc fm) 297 1 (.iconst 0) (2) := ri_of (by decide +kernel) rfl
theorem wi_297_10 : ri (rt_P sc fm) 297 10 (.iconst 0) (11) := ri_of (by decide +kernel) rfl
theorem wi_297_11 : ri (rt_P sc fm) 297 11 (.istore 4) (13) := ri_of (by decide +kernel) rfl
theorem wi_297_13 : ri (rt_P sc fm) 297 13 (.iload 4) (15) := ri_of (by decide +kernel) rfl
theorem wi_297_15 : ri (rt_P sc fm) 297 15 (.iload_n 1) (16) := ri_of (by decide +kernel) rfl
theorem wi_297_16 : ri (rt_P sc fm) 297 16 (.if_icmp .ge 56) (19) := ri_of (by decide +kernel) rfl
theorem wi_297_19 : ri (rt_P sc fm) 297 19 (.aload_n 0) (20) := ri_of (by decide +kernel) rfl
theorem wi_297_2 : ri (rt_P sc fm) 297 2 (.bipush 8) (4) := ri_of (by decide +kernel) rfl
theorem wi_297_20 : ri (rt_P sc fm) 297 20 (.getfield 480) (23) := ri_of (by decide +kernel) rfl
theorem wi_297_23 : ri (rt_P sc fm) 297 23 (.ifCond .ge 49) (26) := ri_of (by decide +kernel) rfl
theorem wi_297_26 : ri (rt_P sc fm) 297 26 (.aload_n 0) (27) := ri_of (by decide +kernel) rfl
theorem wi_297_27 : ri (rt_P sc fm) 297 27 (.bipush 32) (29) := ri_of (by decide +kernel) rfl
theorem wi_297_29 : ri (rt_P sc fm) 297 29 (.bipush 126) (31) := ri_of (by decide +kernel) rfl
theorem wi_297_31 : ri (rt_P sc fm) 297 31 (.invokevirtual 483) (34) := ri_of (by decide +kernel) rfl
theorem wi_297_34 : ri (rt_P sc fm) 297 34 (.istore 5) (36) := ri_of (by decide +kernel) rfl
theorem wi_297_36 : ri (rt_P sc fm) 297 36 (.iload 5) (38) := ri_of (by decide +kernel) rfl
theorem wi_297_38 : ri (rt_P sc fm) 297 38 (.bipush 39) (40) := ri_of (by decide +kernel) rfl
theorem wi_297_4 : ri (rt_P sc fm) 297 4 (.invokevirtual 483) (7) := ri_of (by decide +kernel) rfl
theorem wi_297_40 : ri (rt_P sc fm) 297 40 (.if_icmp .ne 13) (43) := ri_of (by decide +kernel) rfl
theorem wi_297_43 : ri (rt_P sc fm) 297 43 (.aload_n 0) (44) := ri_of (by decide +kernel) rfl
theorem wi_297_44 : ri (rt_P sc fm) 297 44 (.aload_n 0) (45) := ri_of (by decide +kernel) rfl
theorem wi_297_45 : ri (rt_P sc fm) 297 45 (.getfield 477) (48) := ri_of (by decide +kernel) rfl
theorem wi_297_48 : ri (rt_P sc fm) 297 48 (.iconst 1) (49) := ri_of (by decide +kernel) rfl
theorem wi_297_49 : ri (rt_P sc fm) 297 49 (.isub) (50) := ri_of (by decide +kernel) rfl
theorem wi_297_50 : ri (rt_P sc fm) 297 50 (.putfield 480) (53) := ri_of (by decide +kernel) rfl
theorem wi_297_53 : ri (rt_P sc fm) 297 53 (.lload_n 2) (54) := ri_of (by decide +kernel) rfl
theorem wi_297_54 : ri (rt_P sc fm) 297 54 (.bipush 8) (56) := ri_of (by decide +kernel) rfl
theorem wi_297_56 : ri (rt_P sc fm) 297 56 (.lshl) (57) := ri_of (by decide +kernel) rfl
theorem wi_297_57 : ri (rt_P sc fm) 297 57 (.iload 5) (59) := ri_of (by decide +kernel) rfl
theorem wi_297_59 : ri (rt_P sc fm) 297 59 (.sipush 255) (62) := ri_of (by decide +kernel) rfl
theorem wi_297_62 : ri (rt_P sc fm) 297 62 (.iand) (63) := ri_of (by decide +kernel) rfl
theorem wi_297_63 : ri (rt_P sc fm) 297 63 (.i2l) (64) := ri_of (by decide +kernel) rfl
theorem wi_297_64 : ri (rt_P sc fm) 297 64 (.lor) (65) := ri_of (by decide +kernel) rfl
theorem wi_297_65 : ri (rt_P sc fm) 297 65 (.lstore_n 2) (66) := ri_of (by decide +kernel) rfl
theorem wi_297_66 : ri (rt_P sc fm) 297 66 (.iinc 4 1) (69) := ri_of (by decide +kernel) rfl
theorem wi_297_69 : ri (rt_P sc fm) 297 69 (.goto (-56)) (72) := ri_of (by decide +kernel) rfl
theorem wi_297_7 : ri (rt_P sc fm) 297 7 (.istore_n 1) (8) := ri_of (by decide +kernel) rfl
theorem wi_297_72 : ri (rt_P sc fm) 297 72 (.lload_n 2) (73) := ri_of (by decide +kernel) rfl
theorem wi_297_73 : ri (rt_P sc fm) 297 73 (.lreturn) (74) := ri_of (by decide +kernel) rfl
theorem wi_297_8 : ri (rt_P sc fm) 297 8 (.lconst 0) (9) := ri_of (by decide +kernel) rfl
theorem wi_297_9 : ri (rt_P sc fm) 297 9 (.lstore_n 2) (10) := ri_of (by decide +kernel) rfl
theorem wp_297_480 : rx_pt (rt_P sc fm) 297 480 = some (10, 6, .int) := (by decide +kernel : rt_pt 297 480 = some (10, 6, .int))
theorem wr_297 : rx_rt (rt_P sc fm) 297 = (some FieldType.long) := (by decide +kernel : rt_rt 297 = (some FieldType.long))
/-- MarkHouse$Reader.fileText()J -/
def d_297 (n : Nat)  (c : cS) : Option (Int64 × cS) :=
  Option.bind (d_293 n 0 8 c) (fun r1 =>
  Option.bind (whl (R := (Int64 × cS)) (fun s5 : Int64 × Int32 × cS =>
    if r1.1 ≤ s5.2.1 then
      some (.inr (s5.1, s5.2.2))
    else
      if 0 ≤ (s5.2.2.1 145 6) then
        some (.inr (s5.1, s5.2.2))
      else
        Option.bind (d_293 n 32 126 s5.2.2) (fun r6 =>
        jn (fun p8 : cS =>
          lt (((s5.1 <<< ((8 : Int32).toInt64 &&& 63)) ||| ((r6.1 &&& 255) : Int32).toInt64) : Int64) (fun v10 =>
          lt (s5.2.1 + 1 : Int32) (fun v13 =>
          some (.inl (v10, v13, p8)))))
        (fun j53 =>
        if r6.1 = 39 then
          lt (pI r6.2 145 6 ((r6.2.1 145 10) - 1)) (fun c15 =>
          j53 c15)
        else
          j53 r6.2))) n (0, 0, r1.2))
  (fun x17 : Int64 × cS =>
    some (x17.1, x17.2)))
theorem sp_297 {F Lo n : Nat}  {c y : cS} {w : cW} {K : Int64 × cS → Prop} {Q : ((Option Value) ⊕ String) → List va_E → Prop} (hw : rOK fm w) (hF : 1 ≤ F) (hLo : 23 ≤ Lo)  (h : wp (d_297 n  c) K) (hQ : ∀ r, K r → Q (.inl (some (.long r.1))) (hq true r.2 y w)) : rs (rt_P sc fm) 297 F Lo 0 [(0, .ref 145)] [] (hq true c y w) Q := by
  unfold d_297 at h
  obtain ⟨lv, elv⟩ : ∃ lv : rx_L, lv = [(0, .ref 145)] := ⟨_, rfl⟩
  rw [← elv]
  have l0 : rx_ld lv 0 = some (.ref 145) := by rw [elv]; rfl
  refine rs_aldn wi_297_0 l0 ?_
  refine rs_pure wi_297_1 rfl ?_
  refine rs_topi (v := 0) (by decide) ?_
  refine rs_pure wi_297_2 rfl ?_
  refine rs_topi (v := 8) (by decide) ?_
  refine rs_V wi_297_4 wc_297_483 rfl (dq_isa tf_145_0 wa_10_293) (Nat.le_trans (by decide) hF) (ml_le wm_293 (Nat.le_trans (by decide) hLo)) rfl (sp_293 hw (Nat.le_trans (by decide : 0 ≤ 1 - 1) (Nat.sub_le_sub_right hF 1)) (ml_sub wm_293 (Nat.le_trans (by decide : 0 ≤ 23 - 23) (Nat.sub_le_sub_right hLo 23))) (wp_bind h) (fun r1 h => rs_back1 ?_))
  refine dl_istn wi_297_7 rfl (fun lv l1 t2 => ?_)
  have l0 := t2 _ _ (by decide) (Or.inl rfl) l0
  refine rs_pure wi_297_8 rfl ?_
  refine rs_topl (v := 0) (by decide) ?_
  refine dl_lstn wi_297_9 rfl (fun lv l2 t3 => ?_)
  have l0 := t3 _ _ (by decide) (by decide) (Or.inl rfl) l0
  have l1 := t3 _ _ (by decide) (by decide) (Or.inl rfl) l1
  refine rs_pure wi_297_10 rfl ?_
  refine rs_topi (v := 0) (by decide) ?_
  refine dl_ist wi_297_11 rfl (fun lv l4 t4 => ?_)
  have l0 := t4 _ _ (by decide) (Or.inl rfl) l0
  have l1 := t4 _ _ (by decide) (Or.inl rfl) l1
  have l2 := t4 _ _ (by decide) (Or.inr (by decide)) l2
  refine whl_ex (A := fun s5 : Int64 × Int32 × cS => ∀ lv, rx_ld lv 0 = some (.ref 145) → rx_ld lv 1 = some (.int r1.1) → rx_ld lv 2 = some (.long s5.1) → rx_ld lv 4 = some (.int s5.2.1) → rs (rt_P sc fm) 297 F Lo 13 lv [] (hq true s5.2.2 y w) Q) (B := (fun x17 : Int64 × cS => ∀ lv, rx_ld lv 2 = some (.long x17.1) → rs (rt_P sc fm) 297 F Lo 72 lv [] (hq true x17.2 y w) Q)) ?_ ?_ _ _ (wp_bind h) _ l0 l1 l2 l4
  · intro s5 h lv l0 l1 l2 l4
    refine rs_ild wi_297_13 l4 ?_
    refine rs_ildn wi_297_15 l1 ?_
    refine rs_icge (tg := 72) wi_297_16 ⟨by decide, by decide⟩ (fun q => ?_) (fun q => ?_)
    ·
      have h := wp_pos h q
      exact h _ l2
    ·
      have h := wp_neg h q
      refine rs_aldn wi_297_19 l0 ?_
      refine dq_gi wi_297_20 wf_297_480 tf_145_6 ?_
      refine rs_ifge (tg := 72) wi_297_23 ⟨by decide, by decide⟩ (fun q => ?_) (fun q => ?_)
      ·
        have h := wp_pos h q
        exact h _ l2
      ·
        have h := wp_neg h q
        refine rs_aldn wi_297_26 l0 ?_
        refine rs_pure wi_297_27 rfl ?_
        refine rs_topi (v := 32) (by decide) ?_
        refine rs_pure wi_297_29 rfl ?_
        refine rs_topi (v := 126) (by decide) ?_
        refine rs_V wi_297_31 wc_297_483 rfl (dq_isa tf_145_0 wa_10_293) (Nat.le_trans (by decide) hF) (ml_le wm_293 (Nat.le_trans (by decide) hLo)) rfl (sp_293 hw (Nat.le_trans (by decide : 0 ≤ 1 - 1) (Nat.sub_le_sub_right hF 1)) (ml_sub wm_293 (Nat.le_trans (by decide : 0 ≤ 23 - 23) (Nat.sub_le_sub_right hLo 23))) (wp_bind h) (fun r6 h => rs_back1 ?_))
        refine dl_ist wi_297_34 rfl (fun lv l5 t7 => ?_)
        have l0 := t7 _ _ (by decide) (Or.inl rfl) l0
        have l1 := t7 _ _ (by decide) (Or.inl rfl) l1
        have l2 := t7 _ _ (by decide) (Or.inr (by decide)) l2
        have l4 := t7 _ _ (by decide) (Or.inl rfl) l4
        refine rs_ild wi_297_36 l5 ?_
        refine rs_pure wi_297_38 rfl ?_
        refine rs_topi (v := 39) (by decide) ?_
        refine wp_jn (B := fun p8 : cS => ∀ lv, rx_ld lv 0 = some (.ref 145) → rx_ld lv 1 = some (.int r1.1) → rx_ld lv 2 = some (.long s5.1) → rx_ld lv 4 = some (.int s5.2.1) → rx_ld lv 5 = some (.int r6.1) → rs (rt_P sc fm) 297 F Lo 53 lv [] (hq true p8 y w) Q) h (fun p8 h lv l0 l1 l2 l4 l5 => ?_) (fun j53 hj53 h => ?_)
        ·
          refine rs_lldn wi_297_53 l2 ?_
          refine rs_pure wi_297_54 rfl ?_
          refine rs_topi (v := 8) (by decide) ?_
          refine rs_pure wi_297_56 rfl ?_
          refine rs_ild wi_297_57 l5 ?_
          refine rs_pure wi_297_59 rfl ?_
          refine rs_topi (v := 255) (by decide) ?_
          refine rs_pure wi_297_62 rfl ?_
          refine rs_pure wi_297_63 rfl ?_
          refine rs_pure wi_297_64 rfl ?_
          obtain ⟨v10, e11, h⟩ := wp_lt h
          refine rs_topl e11 ?_
          refine dl_lstn wi_297_65 rfl (fun lv l2 t9 => ?_)
          have l0 := t9 _ _ (by decide) (by decide) (Or.inl rfl) l0
          have l1 := t9 _ _ (by decide) (by decide) (Or.inl rfl) l1
          have l4 := t9 _ _ (by decide) (by decide) (Or.inl rfl) l4
          obtain ⟨v13, e14, h⟩ := wp_lt h
          refine dl_inc wi_297_66 l4 rfl e14 (fun lv l4 t12 => ?_)
          have l0 := t12 _ _ (by decide) (Or.inl rfl) l0
          have l1 := t12 _ _ (by decide) (Or.inl rfl) l1
          have l2 := t12 _ _ (by decide) (Or.inr (by decide)) l2
          refine rs_goto (tg := 13) wi_297_69 ⟨by decide, by decide⟩ ?_
          exact h _ l0 l1 l2 l4
        refine rs_icne (tg := 53) wi_297_40 ⟨by decide, by decide⟩ (fun q => ?_) (fun q => ?_)
        ·
          have h := wp_neg h q
          exact hj53 _ h _ l0 l1 l2 l4 l5
        ·
          have h := wp_pos h q
          refine rs_aldn wi_297_43 l0 ?_
          refine rs_aldn wi_297_44 l0 ?_
          refine dq_gi wi_297_45 wf_297_477 tf_145_10 ?_
          refine rs_pure wi_297_48 rfl ?_
          refine rs_topi (v := 1) (by decide) ?_
          refine rs_pure wi_297_49 rfl ?_
          obtain ⟨c15, e16, h⟩ := wp_lt h
          refine dq_pi wi_297_50 wp_297_480 tf_145_6 rfl rfl e16 ?_
          exact hj53 _ h _ l0 l1 l2 l4 l5
  ·
    intro x17 h lv l2
    refine rs_lldn wi_297_72 l2 ?_
    exact rs_lret wi_297_73 wr_297 (hQ (x17.1, x17.2) h)
theorem wa_10_295 : rz_cn 10 (rx_yn (rt_P sc fm) 295).cls = true := (by decide +kernel : rz_cn 10 (rt_yn 295).cls = true)
theorem wa_10_297 : rz_cn 10 (rx_yn (rt_P sc fm) 297).cls = true := (by decide +kernel : rz_cn 10 (rt_yn 297).cls = true)
theorem wc_296_483 : rx_ct (rt_P sc fm) 296 483 = some (0, 293, 2) := (by decide +kernel : rt_ct 296 483 = some (0, 293, 2))
theorem wc_296_493 : rx_ct (rt_P sc fm) 296 493 = some (0, 295, 0) := (by decide +kernel : rt_ct 296 493 = some (0, 295, 0))
theorem wc_296_505 : rx_ct (rt_P sc fm) 296 505 = some (0, 297, 0) := (by decide +kernel : rt_ct 296 505 = some (0, 297, 0))
theorem wi_296_0 : ri (rt_P sc fm) 296 0 (.iload_n 1) (1) := ri_of (by decide +kernel) rfl
theorem wi_296_1 : ri (rt_P sc fm) 296 1 (.iconst 1) (2) := ri_of (by decide +kernel) rfl
theorem wi_296_10 : ri (rt_P sc fm) 296 10 (.iconst 4) (11) := ri_of (by decide +kernel) rfl
theorem wi_296_11 : ri (rt_P sc fm) 296 11 (.if_icmp .ge 27) (14) := ri_of (by decide +kernel) rfl
theorem wi_296_14 : ri (rt_P sc fm) 296 14 (.iload_n 2) (15) := ri_of (by decide +kernel) rfl
theorem wi_296_15 : ri (rt_P sc fm) 296 15 (.bipush 8) (17) := ri_of (by decide +kernel) rfl
theorem wi_296_17 : ri (rt_P sc fm) 296 17 (.ishl) (18) := ri_of (by decide +kernel) rfl
theorem wi_296_18 : ri (rt_P sc fm) 296 18 (.aload_n 0) (19) := ri_of (by decide +kernel) rfl
theorem wi_296_19 : ri (rt_P sc fm) 296 19 (.iconst 0) (20) := ri_of (by decide +kernel) rfl
theorem wi_296_2 : ri (rt_P sc fm) 296 2 (.if_icmp .ne 39) (5) := ri_of (by decide +kernel) rfl
theorem wi_296_20 : ri (rt_P sc fm) 296 20 (.sipush 255) (23) := ri_of (by decide +kernel) rfl
theorem wi_296_23 : ri (rt_P sc fm) 296 23 (.invokevirtual 483) (26) := ri_of (by decide +kernel) rfl
theorem wi_296_26 : ri (rt_P sc fm) 296 26 (.sipush 255) (29) := ri_of (by decide +kernel) rfl
theorem wi_296_29 : ri (rt_P sc fm) 296 29 (.iand) (30) := ri_of (by decide +kernel) rfl
theorem wi_296_30 : ri (rt_P sc fm) 296 30 (.ior) (31) := ri_of (by decide +kernel) rfl
theorem wi_296_31 : ri (rt_P sc fm) 296 31 (.istore_n 2) (32) := ri_of (by decide +kernel) rfl
theorem wi_296_32 : ri (rt_P sc fm) 296 32 (.iinc 3 1) (35) := ri_of (by decide +kernel) rfl
theorem wi_296_35 : ri (rt_P sc fm) 296 35 (.goto (-26)) (38) := ri_of (by decide +kernel) rfl
theorem wi_296_38 : ri (rt_P sc fm) 296 38 (.iload_n 2) (39) := ri_of (by decide +kernel) rfl
theorem wi_296_39 : ri (rt_P sc fm) 296 39 (.i2l) (40) := ri_of (by decide +kernel) rfl
theorem wi_296_40 : ri (rt_P sc fm) 296 40 (.lreturn) (41) := ri_of (by decide +kernel) rfl
theorem wi_296_41 : ri (rt_P sc fm) 296 41 (.iload_n 1) (42) := ri_of (by decide +kernel) rfl
theorem wi_296_42 : ri (rt_P sc fm) 296 42 (.iconst 2) (43) := ri_of (by decide +kernel) rfl
theorem wi_296_43 : ri (rt_P sc fm) 296 43 (.if_icmp .ne 10) (46) := ri_of (by decide +kernel) rfl
theorem wi_296_46 : ri (rt_P sc fm) 296 46 (.aload_n 0) (47) := ri_of (by decide +kernel) rfl
theorem wi_296_47 : ri (rt_P sc fm) 296 47 (.invokevirtual 505) (50) := ri_of (by decide +kernel) rfl
theorem wi_296_5 : ri (rt_P sc fm) 296 5 (.iconst 0) (6) := ri_of (by decide +kernel) rfl
theorem wi_296_50 : ri (rt_P sc fm) 296 50 (.goto 7) (53) := ri_of (by decide +kernel) rfl
theorem wi_296_53 : ri (rt_P sc fm) 296 53 (.aload_n 0) (54) := ri_of (by decide +kernel) rfl
theorem wi_296_54 : ri (rt_P sc fm) 296 54 (.invokevirtual 493) (57) := ri_of (by decide +kernel) rfl
theorem wi_296_57 : ri (rt_P sc fm) 296 57 (.lreturn) (58) := ri_of (by decide +kernel) rfl
theorem wi_296_6 : ri (rt_P sc fm) 296 6 (.istore_n 2) (7) := ri_of (by decide +kernel) rfl
theorem wi_296_7 : ri (rt_P sc fm) 296 7 (.iconst 0) (8) := ri_of (by decide +kernel) rfl
theorem wi_296_8 : ri (rt_P sc fm) 296 8 (.istore_n 3) (9) := ri_of (by decide +kernel) rfl
theorem wi_296_9 : ri (rt_P sc fm) 296 9 (.iload_n 3) (10) := ri_of (by decide +kernel) rfl
theorem wm_295 : rx_ml (rt_P sc fm) 295 = 6 := (by decide +kernel : rt_ml 295 = 6)
theorem wm_297 : rx_ml (rt_P sc fm) 297 = 6 := (by decide +kernel : rt_ml 297 = 6)
theorem wr_296 : rx_rt (rt_P sc fm) 296 = (some FieldType.long) := (by decide +kernel : rt_rt 296 = (some FieldType.long))
/-- MarkHouse$Reader.fileValue(I)J -/
def d_296 (n : Nat) (a1 : Int32) (c : cS) : Option (Int64 × cS) :=
  if a1 = 1 then
    Option.bind (whl (R := (Int32 × cS)) (fun s6 : Int32 × Int32 × cS =>
      if 4 ≤ s6.2.1 then
        some (.inr (s6.1, s6.2.2))
      else
        Option.bind (d_293 n 0 255 s6.2.2) (fun r7 =>
        lt (((s6.1 <<< (8 &&& 31)) ||| (r7.1 &&& 255)) : Int32) (fun v9 =>
        lt (s6.2.1 + 1 : Int32) (fun v12 =>
        some (.inl (v9, v12, r7.2)))))) n (0, 0, c))
    (fun x14 : Int32 × cS =>
      some ((x14.1 : Int32).toInt64, x14.2))
  else
    jn (fun p1 : Int64 × cS =>
      some (p1.1, p1.2))
    (fun j57 =>
    if a1 = 2 then
      Option.bind (d_297 n c) (fun r3 =>
      j57 (r3.1, r3.2))
    else
      Option.bind (d_295 n c) (fun r2 =>
      j57 (r2.1, r2.2)))
theorem sp_296 {F Lo n : Nat} {a1 : Int32} {c y : cS} {w : cW} {K : Int64 × cS → Prop} {Q : ((Option Value) ⊕ String) → List va_E → Prop} (hw : rOK fm w) (hF : 2 ≤ F) (hLo : 48 ≤ Lo)  (h : wp (d_296 n a1 c) K) (hQ : ∀ r, K r → Q (.inl (some (.long r.1))) (hq true r.2 y w)) : rs (rt_P sc fm) 296 F Lo 0 [(0, .ref 145), (1, .int a1)] [] (hq true c y w) Q := by
  unfold d_296 at h
  obtain ⟨lv, elv⟩ : ∃ lv : rx_L, lv = [(0, .ref 145), (1, .int a1)] := ⟨_, rfl⟩
  rw [← elv]
  have l0 : rx_ld lv 0 = some (.ref 145) := by rw [elv]; rfl
  have l1 : rx_ld lv 1 = some (.int a1) := by rw [elv]; rfl
  refine rs_ildn wi_296_0 l1 ?_
  refine rs_pure wi_296_1 rfl ?_
  refine rs_topi (v := 1) (by decide) ?_
  refine rs_icne (tg := 41) wi_296_2 ⟨by decide, by decide⟩ (fun q => ?_) (fun q => ?_)
  ·
    have h := wp_neg h q
    refine rs_ildn wi_296_41 l1 ?_
    refine rs_pure wi_296_42 rfl ?_
    refine rs_topi (v := 2) (by decide) ?_
    refine wp_jn (B := fun p1 : Int64 × cS => ∀ lv, rs (rt_P sc fm) 296 F Lo 57 lv [.long p1.1] (hq true p1.2 y w) Q) h (fun p1 h lv => ?_) (fun j57 hj57 h => ?_)
    ·
      exact rs_lret wi_296_57 wr_296 (hQ (p1.1, p1.2) h)
    refine rs_icne (tg := 53) wi_296_43 ⟨by decide, by decide⟩ (fun q => ?_) (fun q => ?_)
    ·
      have h := wp_neg h q
      refine rs_aldn wi_296_53 l0 ?_
      refine rs_V wi_296_54 wc_296_493 rfl (dq_isa tf_145_0 wa_10_295) (Nat.le_trans (by decide) hF) (ml_le wm_295 (Nat.le_trans (by decide) hLo)) rfl (sp_295 hw (Nat.le_trans (by decide : 1 ≤ 2 - 1) (Nat.sub_le_sub_right hF 1)) (ml_sub wm_295 (Nat.le_trans (by decide : 23 ≤ 48 - 25) (Nat.sub_le_sub_right hLo 25))) (wp_bind h) (fun r2 h => rs_back1 ?_))
      exact hj57 _ h _
    ·
      have h := wp_pos h q
      refine rs_aldn wi_296_46 l0 ?_
      refine rs_V wi_296_47 wc_296_505 rfl (dq_isa tf_145_0 wa_10_297) (Nat.le_trans (by decide) hF) (ml_le wm_297 (Nat.le_trans (by decide) hLo)) rfl (sp_297 hw (Nat.le_trans (by decide : 1 ≤ 2 - 1) (Nat.sub_le_sub_right hF 1)) (ml_sub wm_297 (Nat.le_trans (by decide : 23 ≤ 48 - 25) (Nat.sub_le_sub_right hLo 25))) (wp_bind h) (fun r3 h => rs_back1 ?_))
      refine rs_goto (tg := 57) wi_296_50 ⟨by decide, by decide⟩ ?_
      exact hj57 _ h _
  ·
    have h := wp_pos h q
    refine rs_pure wi_296_5 rfl ?_
    refine rs_topi (v := 0) (by decide) ?_
    refine dl_istn wi_296_6 rfl (fun lv l2 t4 => ?_)
    have l0 := t4 _ _ (by decide) (Or.inl rfl) l0
    refine rs_pure wi_296_7 rfl ?_
    refine rs_topi (v := 0) (by decide) ?_
    refine dl_istn wi_296_8 rfl (fun lv l3 t5 => ?_)
    have l0 := t5 _ _ (by decide) (Or.inl rfl) l0
    have l2 := t5 _ _ (by decide) (Or.inl rfl) l2
    refine whl_ex (A := fun s6 : Int32 × Int32 × cS => ∀ lv, rx_ld lv 0 = some (.ref 145) → rx_ld lv 2 = some (.int s6.1) → rx_ld lv 3 = some (.int s6.2.1) → rs (rt_P sc fm) 296 F Lo 9 lv [] (hq true s6.2.2 y w) Q) (B := (fun x14 : Int32 × cS => ∀ lv, rx_ld lv 2 = some (.int x14.1) → rs (rt_P sc fm) 296 F Lo 38 lv [] (hq true x14.2 y w) Q)) ?_ ?_ _ _ (wp_bind h) _ l0 l2 l3
    · intro s6 h lv l0 l2 l3
      refine rs_ildn wi_296_9 l3 ?_
      refine rs_pure wi_296_10 rfl ?_
      refine rs_topi (v := 4) (by decide) ?_
      refine rs_icge (tg := 38) wi_296_11 ⟨by decide, by decide⟩ (fun q => ?_) (fun q => ?_)
      ·
        have h := wp_pos h q
        exact h _ l2
      ·
        have h := wp_neg h q
        refine rs_ildn wi_296_14 l2 ?_
        refine rs_pure wi_296_15 rfl ?_
        refine rs_topi (v := 8) (by decide) ?_
        refine rs_pure wi_296_17 rfl ?_
        refine rs_aldn wi_296_18 l0 ?_
        refine rs_pure wi_296_19 rfl ?_
        refine rs_topi (v := 0) (by decide) ?_
        refine rs_pure wi_296_20 rfl ?_
        refine rs_topi (v := 255) (by decide) ?_
        refine rs_V wi_296_23 wc_296_483 rfl (dq_isa tf_145_0 wa_10_293) (Nat.le_trans (by decide) hF) (ml_le wm_293 (Nat.le_trans (by decide) hLo)) rfl (sp_293 hw (Nat.le_trans (by decide : 0 ≤ 2 - 1) (Nat.sub_le_sub_right hF 1)) (ml_sub wm_293 (Nat.le_trans (by decide : 0 ≤ 48 - 23) (Nat.sub_le_sub_right hLo 23))) (wp_bind h) (fun r7 h => rs_back1 ?_))
        refine rs_pure wi_296_26 rfl ?_
        refine rs_topi (v := 255) (by decide) ?_
        refine rs_pure wi_296_29 rfl ?_
        refine rs_pure wi_296_30 rfl ?_
        obtain ⟨v9, e10, h⟩ := wp_lt h
        refine rs_topi e10 ?_
        refine dl_istn wi_296_31 rfl (fun lv l2 t8 => ?_)
        have l0 := t8 _ _ (by decide) (Or.inl rfl) l0
        have l3 := t8 _ _ (by decide) (Or.inl rfl) l3
        obtain ⟨v12, e13, h⟩ := wp_lt h
        refine dl_inc wi_296_32 l3 rfl e13 (fun lv l3 t11 => ?_)
        have l0 := t11 _ _ (by decide) (Or.inl rfl) l0
        have l2 := t11 _ _ (by decide) (Or.inl rfl) l2
        refine rs_goto (tg := 9) wi_296_35 ⟨by decide, by decide⟩ ?_
        exact h _ l0 l2 l3
    ·
      intro x14 h lv l2
      refine rs_ildn wi_296_38 l2 ?_
      refine rs_pure wi_296_39 rfl ?_
      exact rs_lret wi_296_40 wr_296 (hQ ((x14.1 : Int32).toInt64, x14.2) h)
theorem wa_10_296 : rz_cn 10 (rx_yn (rt_P sc fm) 296).cls = true := (by decide +kernel : rz_cn 10 (rt_yn 296).cls = true)
theorem wc_294_328 : rx_ct (rt_P sc fm) 294 328 = some (0, 225, 4) := (by decide +kernel : rt_ct 294 328 = some (0, 225, 4))
theorem wc_294_350 : rx_ct (rt_P sc fm) 294 350 = some (0, 224, 2) := (by decide +kernel : rt_ct 294 350 = some (0, 224, 2))
theorem wc_294_483 : rx_ct (rt_P sc fm) 294 483 = some (0, 293, 2) := (by decide +kernel : rt_ct 294 483 = some (0, 293, 2))
theorem wc_294_493 : rx_ct (rt_P sc fm) 294 493 = some (0, 295, 0) := (by decide +kernel : rt_ct 294 493 = some (0, 295, 0))
theorem wc_294_496 : rx_ct (rt_P sc fm) 294 496 = some (0, 296, 1) := (by decide +kernel : rt_ct 294 496 = some (0, 296, 1))
theorem wf_294_23 : rx_ft (rt_P sc fm) 294 23 = some (10, 3) := (by decide +kernel : rt_ft 294 23 = some (10, 3))
theorem wf_294_353 : rx_ft (rt_P sc fm) 294 353 = some (7, 2) := (by decide +kernel : rt_ft 294 353 = some (7, 2))
theorem wf_294_474 : rx_ft (rt_P sc fm) 294 474 = some (10, 11) := (by decide +kernel : rt_ft 294 474 = some (10, 11))
theorem wf_294_477 : rx_ft (rt_P sc fm) 294 477 = some (10, 10) := (by decide +kernel : rt_ft 294 477 = some (10, 10))
theorem wf_294_480 : rx_ft (rt_P sc fm) 294 480 = some (10, 6) := (by decide +kernel : rt_ft 294 480 = some (10, 6))
theorem wf_294_489 : rx_ft (rt_P sc fm) 294 489 = some (3, 0) := (by decide +kernel : rt_ft 294 489 = some (3, 0))
theorem wf_294_9 : rx_ft (rt_P sc fm) 294 9 = some (10, 0) := (by decide +kernel : rt_ft 294 9 = some (10, 0))
theorem wi_294_0 : ri (rt_P sc fm) 294 0 (.aload_n 0) (1) := ri_of (by decide +kernel) rfl
theorem wi_294_1 : ri (rt_P sc fm) 294 1 (.invokevirtual 493) (4) := ri_of (by decide +kernel) rfl
theorem wi_294_10 : ri (rt_P sc fm) 294 10 (.getfield 474) (13) := ri_of (by decide +kernel) rfl
theorem wi_294_100 : ri (rt_P sc fm) 294 100 (.aload_n 0) (101) := ri_of (by decide +kernel) rfl
theorem wi_294_101 : ri (rt_P sc fm) 294 101 (.getfield 23) (104) := ri_of (by decide +kernel) rfl
theorem wi_294_104 : ri (rt_P sc fm) 294 104 (.getfield 353) (107) := ri_of (by decide +kernel) rfl
theorem wi_294_107 : ri (rt_P sc fm) 294 107 (.iload 6) (109) := ri_of (by decide +kernel) rfl
theorem wi_294_109 : ri (rt_P sc fm) 294 109 (.iconst (-1)) (110) := ri_of (by decide +kernel) rfl
theorem wi_294_110 : ri (rt_P sc fm) 294 110 (.iastore) (111) := ri_of (by decide +kernel) rfl
theorem wi_294_111 : ri (rt_P sc fm) 294 111 (.iconst 0) (112) := ri_of (by decide +kernel) rfl
theorem wi_294_112 : ri (rt_P sc fm) 294 112 (.istore 7) (114) := ri_of (by decide +kernel) rfl
theorem wi_294_114 : ri (rt_P sc fm) 294 114 (.iload 7) (116) := ri_of (by decide +kernel) rfl
theorem wi_294_116 : ri (rt_P sc fm) 294 116 (.iload 5) (118) := ri_of (by decide +kernel) rfl
theorem wi_294_118 : ri (rt_P sc fm) 294 118 (.if_icmp .ge 63) (121) := ri_of (by decide +kernel) rfl
theorem wi_294_121 : ri (rt_P sc fm) 294 121 (.iload 4) (123) := ri_of (by decide +kernel) rfl
theorem wi_294_123 : ri (rt_P sc fm) 294 123 (.ifCond .ne 58) (126) := ri_of (by decide +kernel) rfl
theorem wi_294_126 : ri (rt_P sc fm) 294 126 (.aload_n 0) (127) := ri_of (by decide +kernel) rfl
theorem wi_294_127 : ri (rt_P sc fm) 294 127 (.getfield 480) (130) := ri_of (by decide +kernel) rfl
theorem wi_294_13 : ri (rt_P sc fm) 294 13 (.if_icmp .ge 29) (16) := ri_of (by decide +kernel) rfl
theorem wi_294_130 : ri (rt_P sc fm) 294 130 (.ifCond .ge 51) (133) := ri_of (by decide +kernel) rfl
theorem wi_294_133 : ri (rt_P sc fm) 294 133 (.aload_n 0) (134) := ri_of (by decide +kernel) rfl
theorem wi_294_134 : ri (rt_P sc fm) 294 134 (.invokevirtual 493) (137) := ri_of (by decide +kernel) rfl
theorem wi_294_137 : ri (rt_P sc fm) 294 137 (.lstore 8) (139) := ri_of (by decide +kernel) rfl
theorem wi_294_139 : ri (rt_P sc fm) 294 139 (.aload_n 0) (140) := ri_of (by decide +kernel) rfl
theorem wi_294_140 : ri (rt_P sc fm) 294 140 (.iconst 1) (141) := ri_of (by decide +kernel) rfl
theorem wi_294_141 : ri (rt_P sc fm) 294 141 (.iconst 3) (142) := ri_of (by decide +kernel) rfl
theorem wi_294_142 : ri (rt_P sc fm) 294 142 (.invokevirtual 483) (145) := ri_of (by decide +kernel) rfl
theorem wi_294_145 : ri (rt_P sc fm) 294 145 (.istore 10) (147) := ri_of (by decide +kernel) rfl
theorem wi_294_147 : ri (rt_P sc fm) 294 147 (.aload_n 0) (148) := ri_of (by decide +kernel) rfl
theorem wi_294_148 : ri (rt_P sc fm) 294 148 (.iload 10) (150) := ri_of (by decide +kernel) rfl
theorem wi_294_150 : ri (rt_P sc fm) 294 150 (.invokevirtual 496) (153) := ri_of (by decide +kernel) rfl
theorem wi_294_153 : ri (rt_P sc fm) 294 153 (.lstore 11) (155) := ri_of (by decide +kernel) rfl
theorem wi_294_155 : ri (rt_P sc fm) 294 155 (.iload 6) (157) := ri_of (by decide +kernel) rfl
theorem wi_294_157 : ri (rt_P sc fm) 294 157 (.ifCond .lt 18) (160) := ri_of (by decide +kernel) rfl
theorem wi_294_16 : ri (rt_P sc fm) 294 16 (.aload_n 0) (17) := ri_of (by decide +kernel) rfl
theorem wi_294_160 : ri (rt_P sc fm) 294 160 (.aload_n 0) (161) := ri_of (by decide +kernel) rfl
theorem wi_294_161 : ri (rt_P sc fm) 294 161 (.getfield 23) (164) := ri_of (by decide +kernel) rfl
theorem wi_294_164 : ri (rt_P sc fm) 294 164 (.iload 6) (166) := ri_of (by decide +kernel) rfl
theorem wi_294_166 : ri (rt_P sc fm) 294 166 (.lload 8) (168) := ri_of (by decide +kernel) rfl
theorem wi_294_168 : ri (rt_P sc fm) 294 168 (.iload 10) (170) := ri_of (by decide +kernel) rfl
theorem wi_294_17 : ri (rt_P sc fm) 294 17 (.getfield 9) (20) := ri_of (by decide +kernel) rfl
theorem wi_294_170 : ri (rt_P sc fm) 294 170 (.lload 11) (172) := ri_of (by decide +kernel) rfl
theorem wi_294_172 : ri (rt_P sc fm) 294 172 (.invokevirtual 328) (175) := ri_of (by decide +kernel) rfl
theorem wi_294_175 : ri (rt_P sc fm) 294 175 (.iinc 7 1) (178) := ri_of (by decide +kernel) rfl
theorem wi_294_178 : ri (rt_P sc fm) 294 178 (.goto (-64)) (181) := ri_of (by decide +kernel) rfl
theorem wi_294_181 : ri (rt_P sc fm) 294 181 (.return_) (182) := ri_of (by decide +kernel) rfl
theorem wi_294_20 : ri (rt_P sc fm) 294 20 (.getfield 489) (23) := ri_of (by decide +kernel) rfl
theorem wi_294_23 : ri (rt_P sc fm) 294 23 (.aload_n 0) (24) := ri_of (by decide +kernel) rfl
theorem wi_294_24 : ri (rt_P sc fm) 294 24 (.getfield 477) (27) := ri_of (by decide +kernel) rfl
theorem wi_294_27 : ri (rt_P sc fm) 294 27 (.baload) (28) := ri_of (by decide +kernel) rfl
theorem wi_294_28 : ri (rt_P sc fm) 294 28 (.sipush 255) (31) := ri_of (by decide +kernel) rfl
theorem wi_294_31 : ri (rt_P sc fm) 294 31 (.iand) (32) := ri_of (by decide +kernel) rfl
theorem wi_294_32 : ri (rt_P sc fm) 294 32 (.sipush 255) (35) := ri_of (by decide +kernel) rfl
theorem wi_294_35 : ri (rt_P sc fm) 294 35 (.if_icmp .ne 7) (38) := ri_of (by decide +kernel) rfl
theorem wi_294_38 : ri (rt_P sc fm) 294 38 (.iconst 1) (39) := ri_of (by decide +kernel) rfl
theorem wi_294_39 : ri (rt_P sc fm) 294 39 (.goto 4) (42) := ri_of (by decide +kernel) rfl
theorem wi_294_4 : ri (rt_P sc fm) 294 4 (.lstore_n 2) (5) := ri_of (by decide +kernel) rfl
theorem wi_294_42 : ri (rt_P sc fm) 294 42 (.iconst 0) (43) := ri_of (by decide +kernel) rfl
theorem wi_294_43 : ri (rt_P sc fm) 294 43 (.istore 4) (45) := ri_of (by decide +kernel) rfl
theorem wi_294_45 : ri (rt_P sc fm) 294 45 (.iload 4) (47) := ri_of (by decide +kernel) rfl
theorem wi_294_47 : ri (rt_P sc fm) 294 47 (.ifCond .eq 16) (50) := ri_of (by decide +kernel) rfl
theorem wi_294_5 : ri (rt_P sc fm) 294 5 (.aload_n 0) (6) := ri_of (by decide +kernel) rfl
theorem wi_294_50 : ri (rt_P sc fm) 294 50 (.aload_n 0) (51) := ri_of (by decide +kernel) rfl
theorem wi_294_51 : ri (rt_P sc fm) 294 51 (.sipush 255) (54) := ri_of (by decide +kernel) rfl
theorem wi_294_54 : ri (rt_P sc fm) 294 54 (.sipush 255) (57) := ri_of (by decide +kernel) rfl
theorem wi_294_57 : ri (rt_P sc fm) 294 57 (.invokevirtual 483) (60) := ri_of (by decide +kernel) rfl
theorem wi_294_6 : ri (rt_P sc fm) 294 6 (.getfield 477) (9) := ri_of (by decide +kernel) rfl
theorem wi_294_60 : ri (rt_P sc fm) 294 60 (.goto 9) (63) := ri_of (by decide +kernel) rfl
theorem wi_294_63 : ri (rt_P sc fm) 294 63 (.aload_n 0) (64) := ri_of (by decide +kernel) rfl
theorem wi_294_64 : ri (rt_P sc fm) 294 64 (.iconst 0) (65) := ri_of (by decide +kernel) rfl
theorem wi_294_65 : ri (rt_P sc fm) 294 65 (.iconst 4) (66) := ri_of (by decide +kernel) rfl
theorem wi_294_66 : ri (rt_P sc fm) 294 66 (.invokevirtual 483) (69) := ri_of (by decide +kernel) rfl
theorem wi_294_69 : ri (rt_P sc fm) 294 69 (.istore 5) (71) := ri_of (by decide +kernel) rfl
theorem wi_294_71 : ri (rt_P sc fm) 294 71 (.iload_n 1) (72) := ri_of (by decide +kernel) rfl
theorem wi_294_72 : ri (rt_P sc fm) 294 72 (.ifCond .ge 7) (75) := ri_of (by decide +kernel) rfl
theorem wi_294_75 : ri (rt_P sc fm) 294 75 (.iconst (-1)) (76) := ri_of (by decide +kernel) rfl
theorem wi_294_76 : ri (rt_P sc fm) 294 76 (.goto 12) (79) := ri_of (by decide +kernel) rfl
theorem wi_294_79 : ri (rt_P sc fm) 294 79 (.aload_n 0) (80) := ri_of (by decide +kernel) rfl
theorem wi_294_80 : ri (rt_P sc fm) 294 80 (.getfield 23) (83) := ri_of (by decide +kernel) rfl
theorem wi_294_83 : ri (rt_P sc fm) 294 83 (.iload_n 1) (84) := ri_of (by decide +kernel) rfl
theorem wi_294_84 : ri (rt_P sc fm) 294 84 (.lload_n 2) (85) := ri_of (by decide +kernel) rfl
theorem wi_294_85 : ri (rt_P sc fm) 294 85 (.invokevirtual 350) (88) := ri_of (by decide +kernel) rfl
theorem wi_294_88 : ri (rt_P sc fm) 294 88 (.istore 6) (90) := ri_of (by decide +kernel) rfl
theorem wi_294_9 : ri (rt_P sc fm) 294 9 (.aload_n 0) (10) := ri_of (by decide +kernel) rfl
theorem wi_294_90 : ri (rt_P sc fm) 294 90 (.iload 6) (92) := ri_of (by decide +kernel) rfl
theorem wi_294_92 : ri (rt_P sc fm) 294 92 (.ifCond .lt 19) (95) := ri_of (by decide +kernel) rfl
theorem wi_294_95 : ri (rt_P sc fm) 294 95 (.iload 4) (97) := ri_of (by decide +kernel) rfl
theorem wi_294_97 : ri (rt_P sc fm) 294 97 (.ifCond .eq 14) (100) := ri_of (by decide +kernel) rfl
theorem wm_296 : rx_ml (rt_P sc fm) 296 = 4 := (by decide +kernel : rt_ml 296 = 4)
theorem wr_294 : rx_rt (rt_P sc fm) 294 = none := (by decide +kernel : rt_rt 294 = none)
/-- MarkHouse$Reader.readFileMark(I)V -/
def d_294 (n : Nat) (a1 : Int32) (c : cS) : Option (cS) :=
  Option.bind (d_295 n c) (fun r1 =>
  jn (fun p3 : Int32 =>
    jn (fun p5 : Int32 × cS =>
      jn (fun p7 : Int32 × cS =>
        jn (fun p9 : cS =>
          Option.bind (whl (R := (cS)) (fun s11 : Int32 × cS =>
            if p5.1 ≤ s11.1 then
              some (.inr s11.2)
            else
              if p3 = 0 then
                if 0 ≤ (s11.2.1 145 6) then
                  some (.inr s11.2)
                else
                  Option.bind (d_295 n s11.2) (fun r12 =>
                  Option.bind (d_293 n 1 3 r12.2) (fun r14 =>
                  Option.bind (d_296 n r14.1 r14.2) (fun r16 =>
                  jn (fun p18 : cS =>
                    lt (s11.1 + 1 : Int32) (fun v20 =>
                    some (.inl (v20, p18))))
                  (fun j175 =>
                  if p7.1 < 0 then
                    j175 r16.2
                  else
                    Option.bind (d_225 n p7.1 r12.1 r14.1 r16.1 r16.2) (fun r22 =>
                    j175 r22)))))
              else
                some (.inr s11.2)) n (0, p9))
          (fun x23 : cS =>
            some x23))
        (fun j111 =>
        if p7.1 < 0 then
          j111 p7.2
        else
          if p3 = 0 then
            j111 p7.2
          else
            if ib p7.1 4096 then
            lt (pI p7.2 136 (ix p7.1) (-1)) (fun c25 =>
            j111 c25)
            else none))
      (fun j88 =>
      if 0 ≤ a1 then
        Option.bind (d_224 n a1 r1.1 p5.2) (fun r27 =>
        j88 (r27.1, r27.2))
      else
        j88 ((-1), p5.2)))
    (fun j69 =>
    if p3 = 0 then
      Option.bind (d_293 n 0 4 r1.2) (fun r28 =>
      j69 (r28.1, r28.2))
    else
      Option.bind (d_293 n 255 255 r1.2) (fun r29 =>
      j69 (r29.1, r29.2))))
  (fun j43 =>
  jn (fun p30 : Unit =>
    j43 0)
  (fun j42 =>
  if (r1.2.1 145 11) ≤ (r1.2.1 145 10) then
    j42 ()
  else
    if ib (r1.2.1 145 10) 4000 then
    if ((r1.2.1 2 (ix (r1.2.1 145 10))) &&& 255) = 255 then
      j43 1
    else
      j42 ()
    else none)))
theorem sp_294 {F Lo n : Nat} {a1 : Int32} {c y : cS} {w : cW} {K : cS → Prop} {Q : ((Option Value) ⊕ String) → List va_E → Prop} (hw : rOK fm w) (hF : 3 ≤ F) (hLo : 71 ≤ Lo)  (h : wp (d_294 n a1 c) K) (hQ : ∀ r, K r → Q (.inl none) (hq true r y w)) : rs (rt_P sc fm) 294 F Lo 0 [(0, .ref 145), (1, .int a1)] [] (hq true c y w) Q := by
  unfold d_294 at h
  obtain ⟨lv, elv⟩ : ∃ lv : rx_L, lv = [(0, .ref 145), (1, .int a1)] := ⟨_, rfl⟩
  rw [← elv]
  have l0 : rx_ld lv 0 = some (.ref 145) := by rw [elv]; rfl
  have l1 : rx_ld lv 1 = some (.int a1) := by rw [elv]; rfl
  refine rs_aldn wi_294_0 l0 ?_
  refine rs_V wi_294_1 wc_294_493 rfl (dq_isa tf_145_0 wa_10_295) (Nat.le_trans (by decide) hF) (ml_le wm_295 (Nat.le_trans (by decide) hLo)) rfl (sp_295 hw (Nat.le_trans (by decide : 1 ≤ 3 - 1) (Nat.sub_le_sub_right hF 1)) (ml_sub wm_295 (Nat.le_trans (by decide : 23 ≤ 71 - 25) (Nat.sub_le_sub_right hLo 25))) (wp_bind h) (fun r1 h => rs_back1 ?_))
  refine dl_lstn wi_294_4 rfl (fun lv l2 t2 => ?_)
  have l0 := t2 _ _ (by decide) (by decide) (Or.inl rfl) l0
  have l1 := t2 _ _ (by decide) (by decide) (Or.inl rfl) l1
  refine rs_aldn wi_294_5 l0 ?_
  refine dq_gi wi_294_6 wf_294_477 tf_145_10 ?_
  refine rs_aldn wi_294_9 l0 ?_
  refine dq_gi wi_294_10 wf_294_474 tf_145_11 ?_
  refine wp_jn (B := fun p3 : Int32 => ∀ lv, rx_ld lv 0 = some (.ref 145) → rx_ld lv 1 = some (.int a1) → rx_ld lv 2 = some (.long r1.1) → rs (rt_P sc fm) 294 F Lo 43 lv [.int p3] (hq true r1.2 y w) Q) h (fun p3 h lv l0 l1 l2 => ?_) (fun j43 hj43 h => ?_)
  ·
    refine dl_ist wi_294_43 rfl (fun lv l4 t4 => ?_)
    have l0 := t4 _ _ (by decide) (Or.inl rfl) l0
    have l1 := t4 _ _ (by decide) (Or.inl rfl) l1
    have l2 := t4 _ _ (by decide) (Or.inr (by decide)) l2
    refine rs_ild wi_294_45 l4 ?_
    refine wp_jn (B := fun p5 : Int32 × cS => ∀ lv, rx_ld lv 0 = some (.ref 145) → rx_ld lv 1 = some (.int a1) → rx_ld lv 2 = some (.long r1.1) → rx_ld lv 4 = some (.int p3) → rs (rt_P sc fm) 294 F Lo 69 lv [.int p5.1] (hq true p5.2 y w) Q) h (fun p5 h lv l0 l1 l2 l4 => ?_) (fun j69 hj69 h => ?_)
    ·
      refine dl_ist wi_294_69 rfl (fun lv l5 t6 => ?_)
      have l0 := t6 _ _ (by decide) (Or.inl rfl) l0
      have l1 := t6 _ _ (by decide) (Or.inl rfl) l1
      have l2 := t6 _ _ (by decide) (Or.inr (by decide)) l2
      have l4 := t6 _ _ (by decide) (Or.inl rfl) l4
      refine rs_ildn wi_294_71 l1 ?_
      refine wp_jn (B := fun p7 : Int32 × cS => ∀ lv, rx_ld lv 0 = some (.ref 145) → rx_ld lv 4 = some (.int p3) → rx_ld lv 5 = some (.int p5.1) → rs (rt_P sc fm) 294 F Lo 88 lv [.int p7.1] (hq true p7.2 y w) Q) h (fun p7 h lv l0 l4 l5 => ?_) (fun j88 hj88 h => ?_)
      ·
        refine dl_ist wi_294_88 rfl (fun lv l6 t8 => ?_)
        have l0 := t8 _ _ (by decide) (Or.inl rfl) l0
        have l4 := t8 _ _ (by decide) (Or.inl rfl) l4
        have l5 := t8 _ _ (by decide) (Or.inl rfl) l5
        refine rs_ild wi_294_90 l6 ?_
        refine wp_jn (B := fun p9 : cS => ∀ lv, rx_ld lv 0 = some (.ref 145) → rx_ld lv 4 = some (.int p3) → rx_ld lv 5 = some (.int p5.1) → rx_ld lv 6 = some (.int p7.1) → rs (rt_P sc fm) 294 F Lo 111 lv [] (hq true p9 y w) Q) h (fun p9 h lv l0 l4 l5 l6 => ?_) (fun j111 hj111 h => ?_)
        ·
          refine rs_pure wi_294_111 rfl ?_
          refine rs_topi (v := 0) (by decide) ?_
          refine dl_ist wi_294_112 rfl (fun lv l7 t10 => ?_)
          have l0 := t10 _ _ (by decide) (Or.inl rfl) l0
          have l4 := t10 _ _ (by decide) (Or.inl rfl) l4
          have l5 := t10 _ _ (by decide) (Or.inl rfl) l5
          have l6 := t10 _ _ (by decide) (Or.inl rfl) l6
          refine whl_ex (A := fun s11 : Int32 × cS => ∀ lv, rx_ld lv 0 = some (.ref 145) → rx_ld lv 4 = some (.int p3) → rx_ld lv 5 = some (.int p5.1) → rx_ld lv 6 = some (.int p7.1) → rx_ld lv 7 = some (.int s11.1) → rs (rt_P sc fm) 294 F Lo 114 lv [] (hq true s11.2 y w) Q) (B := (fun x23 : cS => ∀ lv, rs (rt_P sc fm) 294 F Lo 181 lv [] (hq true x23 y w) Q)) ?_ ?_ _ _ (wp_bind h) _ l0 l4 l5 l6 l7
          · intro s11 h lv l0 l4 l5 l6 l7
            refine rs_ild wi_294_114 l7 ?_
            refine rs_ild wi_294_116 l5 ?_
            refine rs_icge (tg := 181) wi_294_118 ⟨by decide, by decide⟩ (fun q => ?_) (fun q => ?_)
            ·
              have h := wp_pos h q
              exact h _
            ·
              have h := wp_neg h q
              refine rs_ild wi_294_121 l4 ?_
              refine rs_ifne (tg := 181) wi_294_123 ⟨by decide, by decide⟩ (fun q => ?_) (fun q => ?_)
              ·
                have h := wp_neg h q
                exact h _
              ·
                have h := wp_pos h q
                refine rs_aldn wi_294_126 l0 ?_
                refine dq_gi wi_294_127 wf_294_480 tf_145_6 ?_
                refine rs_ifge (tg := 181) wi_294_130 ⟨by decide, by decide⟩ (fun q => ?_) (fun q => ?_)
                ·
                  have h := wp_pos h q
                  exact h _
                ·
                  have h := wp_neg h q
                  refine rs_aldn wi_294_133 l0 ?_
                  refine rs_V wi_294_134 wc_294_493 rfl (dq_isa tf_145_0 wa_10_295) (Nat.le_trans (by decide) hF) (ml_le wm_295 (Nat.le_trans (by decide) hLo)) rfl (sp_295 hw (Nat.le_trans (by decide : 1 ≤ 3 - 1) (Nat.sub_le_sub_right hF 1)) (ml_sub wm_295 (Nat.le_trans (by decide : 23 ≤ 71 - 25) (Nat.sub_le_sub_right hLo 25))) (wp_bind h) (fun r12 h => rs_back1 ?_))
                  refine dl_lst wi_294_137 rfl (fun lv l8 t13 => ?_)
                  have l0 := t13 _ _ (by decide) (by decide) (Or.inl rfl) l0
                  have l4 := t13 _ _ (by decide) (by decide) (Or.inl rfl) l4
                  have l5 := t13 _ _ (by decide) (by decide) (Or.inl rfl) l5
                  have l6 := t13 _ _ (by decide) (by decide) (Or.inl rfl) l6
                  have l7 := t13 _ _ (by decide) (by decide) (Or.inl rfl) l7
                  refine rs_aldn wi_294_139 l0 ?_
                  refine rs_pure wi_294_140 rfl ?_
                  refine rs_topi (v := 1) (by decide) ?_
                  refine rs_pure wi_294_141 rfl ?_
                  refine rs_topi (v := 3) (by decide) ?_
                  refine rs_V wi_294_142 wc_294_483 rfl (dq_isa tf_145_0 wa_10_293) (Nat.le_trans (by decide) hF) (ml_le wm_293 (Nat.le_trans (by decide) hLo)) rfl (sp_293 hw (Nat.le_trans (by decide : 0 ≤ 3 - 1) (Nat.sub_le_sub_right hF 1)) (ml_sub wm_293 (Nat.le_trans (by decide : 0 ≤ 71 - 23) (Nat.sub_le_sub_right hLo 23))) (wp_bind h) (fun r14 h => rs_back1 ?_))
                  refine dl_ist wi_294_145 rfl (fun lv l10 t15 => ?_)
                  have l0 := t15 _ _ (by decide) (Or.inl rfl) l0
                  have l4 := t15 _ _ (by decide) (Or.inl rfl) l4
                  have l5 := t15 _ _ (by decide) (Or.inl rfl) l5
                  have l6 := t15 _ _ (by decide) (Or.inl rfl) l6
                  have l7 := t15 _ _ (by decide) (Or.inl rfl) l7
                  have l8 := t15 _ _ (by decide) (Or.inr (by decide)) l8
                  refine rs_aldn wi_294_147 l0 ?_
                  refine rs_ild wi_294_148 l10 ?_
                  refine rs_V wi_294_150 wc_294_496 rfl (dq_isa tf_145_0 wa_10_296) (Nat.le_trans (by decide) hF) (ml_le wm_296 (Nat.le_trans (by decide) hLo)) rfl (sp_296 hw (Nat.le_trans (by decide : 2 ≤ 3 - 1) (Nat.sub_le_sub_right hF 1)) (ml_sub wm_296 (Nat.le_trans (by decide : 48 ≤ 71 - 23) (Nat.sub_le_sub_right hLo 23))) (wp_bind h) (fun r16 h => rs_back1 ?_))
                  refine dl_lst wi_294_153 rfl (fun lv l11 t17 => ?_)
                  have l0 := t17 _ _ (by decide) (by decide) (Or.inl rfl) l0
                  have l4 := t17 _ _ (by decide) (by decide) (Or.inl rfl) l4
                  have l5 := t17 _ _ (by decide) (by decide) (Or.inl rfl) l5
                  have l6 := t17 _ _ (by decide) (by decide) (Or.inl rfl) l6
                  have l7 := t17 _ _ (by decide) (by decide) (Or.inl rfl) l7
                  have l8 := t17 _ _ (by decide) (by decide) (Or.inr (by decide)) l8
                  have l10 := t17 _ _ (by decide) (by decide) (Or.inl rfl) l10
                  refine rs_ild wi_294_155 l6 ?_
                  refine wp_jn (B := fun p18 : cS => ∀ lv, rx_ld lv 0 = some (.ref 145) → rx_ld lv 4 = some (.int p3) → rx_ld lv 5 = some (.int p5.1) → rx_ld lv 6 = some (.int p7.1) → rx_ld lv 7 = some (.int s11.1) → rs (rt_P sc fm) 294 F Lo 175 lv [] (hq true p18 y w) Q) h (fun p18 h lv l0 l4 l5 l6 l7 => ?_) (fun j175 hj175 h => ?_)
                  ·
                    obtain ⟨v20, e21, h⟩ := wp_lt h
                    refine dl_inc wi_294_175 l7 rfl e21 (fun lv l7 t19 => ?_)
                    have l0 := t19 _ _ (by decide) (Or.inl rfl) l0
                    have l4 := t19 _ _ (by decide) (Or.inl rfl) l4
                    have l5 := t19 _ _ (by decide) (Or.inl rfl) l5
                    have l6 := t19 _ _ (by decide) (Or.inl rfl) l6
                    refine rs_goto (tg := 114) wi_294_178 ⟨by decide, by decide⟩ ?_
                    exact h _ l0 l4 l5 l6 l7
                  refine rs_iflt (tg := 175) wi_294_157 ⟨by decide, by decide⟩ (fun q => ?_) (fun q => ?_)
                  ·
                    have h := wp_pos h q
                    exact hj175 _ h _ l0 l4 l5 l6 l7
                  ·
                    have h := wp_neg h q
                    refine rs_aldn wi_294_160 l0 ?_
                    refine dq_gr wi_294_161 wf_294_23 tf_145_3 ?_
                    refine rs_ild wi_294_164 l6 ?_
                    refine rs_lld wi_294_166 l8 ?_
                    refine rs_ild wi_294_168 l10 ?_
                    refine rs_lld wi_294_170 l11 ?_
                    refine rs_V wi_294_172 wc_294_328 rfl (dq_isa tf_133_0 wa_7_225) (Nat.le_trans (by decide) hF) (ml_le wm_225 (Nat.le_trans (by decide) hLo)) rfl (sp_225 hw (Nat.le_trans (by decide : 0 ≤ 3 - 1) (Nat.sub_le_sub_right hF 1)) (ml_sub wm_225 (Nat.le_trans (by decide : 0 ≤ 71 - 27) (Nat.sub_le_sub_right hLo 27))) (wp_bind h) (fun r22 h => rs_back0 ?_))
                    exact hj175 _ h _ l0 l4 l5 l6 l7
          ·
            intro x23 h lv
            exact rs_vret wi_294_181 wr_294 (hQ x23 h)
        refine rs_iflt (tg := 111) wi_294_92 ⟨by decide, by decide⟩ (fun q => ?_) (fun q => ?_)
        ·
          have h := wp_pos h q
          exact hj111 _ h _ l0 l4 l5 l6
        ·
          have h := wp_neg h q
          refine rs_ild wi_294_95 l4 ?_
          refine rs_ifeq (tg := 111) wi_294_97 ⟨by decide, by decide⟩ (fun q => ?_) (fun q => ?_)
          ·
            have h := wp_pos h q
            exact hj111 _ h _ l0 l4 l5 l6
          ·
            have h := wp_neg h q
            refine rs_aldn wi_294_100 l0 ?_
            refine dq_gr wi_294_101 wf_294_23 tf_145_3 ?_
            refine dq_gr wi_294_104 wf_294_353 tf_133_2 ?_
            refine rs_ild wi_294_107 l6 ?_
            refine rs_pure wi_294_109 rfl ?_
            refine rs_topi (v := (-1)) (by decide) ?_
            obtain ⟨g24, h⟩ := wp_gd h
            obtain ⟨c25, e26, h⟩ := wp_lt h
            refine dq_iast wi_294_110 t_136 g24 e26 ?_
            exact hj111 _ h _ l0 l4 l5 l6
      refine rs_ifge (tg := 79) wi_294_72 ⟨by decide, by decide⟩ (fun q => ?_) (fun q => ?_)
      ·
        have h := wp_pos h q
        refine rs_aldn wi_294_79 l0 ?_
        refine dq_gr wi_294_80 wf_294_23 tf_145_3 ?_
        refine rs_ildn wi_294_83 l1 ?_
        refine rs_lldn wi_294_84 l2 ?_
        refine rs_V wi_294_85 wc_294_350 rfl (dq_isa tf_133_0 wa_7_224) (Nat.le_trans (by decide) hF) (ml_le wm_224 (Nat.le_trans (by decide) hLo)) rfl (sp_224 hw (Nat.le_trans (by decide : 0 ≤ 3 - 1) (Nat.sub_le_sub_right hF 1)) (ml_sub wm_224 (Nat.le_trans (by decide : 0 ≤ 71 - 24) (Nat.sub_le_sub_right hLo 24))) (wp_bind h) (fun r27 h => rs_back1 ?_))
        exact hj88 _ h _ l0 l4 l5
      ·
        have h := wp_neg h q
        refine rs_pure wi_294_75 rfl ?_
        refine rs_topi (v := (-1)) (by decide) ?_
        refine rs_goto (tg := 88) wi_294_76 ⟨by decide, by decide⟩ ?_
        exact hj88 _ h _ l0 l4 l5
    refine rs_ifeq (tg := 63) wi_294_47 ⟨by decide, by decide⟩ (fun q => ?_) (fun q => ?_)
    ·
      have h := wp_pos h q
      refine rs_aldn wi_294_63 l0 ?_
      refine rs_pure wi_294_64 rfl ?_
      refine rs_topi (v := 0) (by decide) ?_
      refine rs_pure wi_294_65 rfl ?_
      refine rs_topi (v := 4) (by decide) ?_
      refine rs_V wi_294_66 wc_294_483 rfl (dq_isa tf_145_0 wa_10_293) (Nat.le_trans (by decide) hF) (ml_le wm_293 (Nat.le_trans (by decide) hLo)) rfl (sp_293 hw (Nat.le_trans (by decide : 0 ≤ 3 - 1) (Nat.sub_le_sub_right hF 1)) (ml_sub wm_293 (Nat.le_trans (by decide : 0 ≤ 71 - 23) (Nat.sub_le_sub_right hLo 23))) (wp_bind h) (fun r28 h => rs_back1 ?_))
      exact hj69 _ h _ l0 l1 l2 l4
    ·
      have h := wp_neg h q
      refine rs_aldn wi_294_50 l0 ?_
      refine rs_pure wi_294_51 rfl ?_
      refine rs_topi (v := 255) (by decide) ?_
      refine rs_pure wi_294_54 rfl ?_
      refine rs_topi (v := 255) (by decide) ?_
      refine rs_V wi_294_57 wc_294_483 rfl (dq_isa tf_145_0 wa_10_293) (Nat.le_trans (by decide) hF) (ml_le wm_293 (Nat.le_trans (by decide) hLo)) rfl (sp_293 hw (Nat.le_trans (by decide : 0 ≤ 3 - 1) (Nat.sub_le_sub_right hF 1)) (ml_sub wm_293 (Nat.le_trans (by decide : 0 ≤ 71 - 23) (Nat.sub_le_sub_right hLo 23))) (wp_bind h) (fun r29 h => rs_back1 ?_))
      refine rs_goto (tg := 69) wi_294_60 ⟨by decide, by decide⟩ ?_
      exact hj69 _ h _ l0 l1 l2 l4
  refine wp_jn (B := fun p30 : Unit => ∀ lv, rx_ld lv 0 = some (.ref 145) → rx_ld lv 1 = some (.int a1) → rx_ld lv 2 = some (.long r1.1) → rs (rt_P sc fm) 294 F Lo 42 lv [] (hq true r1.2 y w) Q) h (fun p30 h lv l0 l1 l2 => ?_) (fun j42 hj42 h => ?_)
  ·
    refine rs_pure wi_294_42 rfl ?_
    refine rs_topi (v := 0) (by decide) ?_
    exact hj43 _ h _ l0 l1 l2
  refine rs_icge (tg := 42) wi_294_13 ⟨by decide, by decide⟩ (fun q => ?_) (fun q => ?_)
  ·
    have h := wp_pos h q
    exact hj42 _ h _ l0 l1 l2
  ·
    have h := wp_neg h q
    refine rs_aldn wi_294_16 l0 ?_
    refine dq_gr wi_294_17 wf_294_9 tf_145_0 ?_
    refine dq_gr wi_294_20 wf_294_489 tf_1_0 ?_
    refine rs_aldn wi_294_23 l0 ?_
    refine dq_gi wi_294_24 wf_294_477 tf_145_10 ?_
    obtain ⟨g31, h⟩ := wp_gd h
    refine dq_bald wi_294_27 t_2 g31 ?_
    refine rs_pure wi_294_28 rfl ?_
    refine rs_topi (v := 255) (by decide) ?_
    refine rs_pure wi_294_31 rfl ?_
    refine rs_pure wi_294_32 rfl ?_
    refine rs_topi (v := 255) (by decide) ?_
    refine rs_icne (tg := 42) wi_294_35 ⟨by decide, by decide⟩ (fun q => ?_) (fun q => ?_)
    ·
      have h := wp_neg h q
      exact hj42 _ h _ l0 l1 l2
    ·
      have h := wp_pos h q
      refine rs_pure wi_294_38 rfl ?_
      refine rs_topi (v := 1) (by decide) ?_
      refine rs_goto (tg := 43) wi_294_39 ⟨by decide, by decide⟩ ?_
      exact hj43 _ h _ l0 l1 l2
theorem wa_10_294 : rz_cn 10 (rx_yn (rt_P sc fm) 294).cls = true := (by decide +kernel : rz_cn 10 (rt_yn 294).cls = true)
theorem wc_292_483 : rx_ct (rt_P sc fm) 292 483 = some (0, 293, 2) := (by decide +kernel : rt_ct 292 483 = some (0, 293, 2))
theorem wc_292_486 : rx_ct (rt_P sc fm) 292 486 = some (0, 294, 1) := (by decide +kernel : rt_ct 292 486 = some (0, 294, 1))
theorem wf_292_474 : rx_ft (rt_P sc fm) 292 474 = some (10, 11) := (by decide +kernel : rt_ft 292 474 = some (10, 11))
theorem wf_292_477 : rx_ft (rt_P sc fm) 292 477 = some (10, 10) := (by decide +kernel : rt_ft 292 477 = some (10, 10))
theorem wf_292_480 : rx_ft (rt_P sc fm) 292 480 = some (10, 6) := (by decide +kernel : rt_ft 292 480 = some (10, 6))
theorem wi_292_0 : ri (rt_P sc fm) 292 0 (.aload_n 0) (1) := ri_of (by decide +kernel) rfl
theorem wi_292_1 : ri (rt_P sc fm) 292 1 (.iload_n 1) (2) := ri_of (by decide +kernel) rfl
theorem wi_292_10 : ri (rt_P sc fm) 292 10 (.aload_n 0) (11) := ri_of (by decide +kernel) rfl
theorem wi_292_11 : ri (rt_P sc fm) 292 11 (.iconst (-1)) (12) := ri_of (by decide +kernel) rfl
theorem wi_292_12 : ri (rt_P sc fm) 292 12 (.putfield 480) (15) := ri_of (by decide +kernel) rfl
theorem wi_292_15 : ri (rt_P sc fm) 292 15 (.aload_n 0) (16) := ri_of (by decide +kernel) rfl
theorem wi_292_16 : ri (rt_P sc fm) 292 16 (.iconst 0) (17) := ri_of (by decide +kernel) rfl
theorem wi_292_17 : ri (rt_P sc fm) 292 17 (.bipush 20) (19) := ri_of (by decide +kernel) rfl
theorem wi_292_19 : ri (rt_P sc fm) 292 19 (.invokevirtual 483) (22) := ri_of (by decide +kernel) rfl
theorem wi_292_2 : ri (rt_P sc fm) 292 2 (.putfield 474) (5) := ri_of (by decide +kernel) rfl
theorem wi_292_22 : ri (rt_P sc fm) 292 22 (.istore_n 3) (23) := ri_of (by decide +kernel) rfl
theorem wi_292_23 : ri (rt_P sc fm) 292 23 (.iconst 0) (24) := ri_of (by decide +kernel) rfl
theorem wi_292_24 : ri (rt_P sc fm) 292 24 (.istore 4) (26) := ri_of (by decide +kernel) rfl
theorem wi_292_26 : ri (rt_P sc fm) 292 26 (.iload 4) (28) := ri_of (by decide +kernel) rfl
theorem wi_292_28 : ri (rt_P sc fm) 292 28 (.iload_n 3) (29) := ri_of (by decide +kernel) rfl
theorem wi_292_29 : ri (rt_P sc fm) 292 29 (.if_icmp .ge 21) (32) := ri_of (by decide +kernel) rfl
theorem wi_292_32 : ri (rt_P sc fm) 292 32 (.aload_n 0) (33) := ri_of (by decide +kernel) rfl
theorem wi_292_33 : ri (rt_P sc fm) 292 33 (.getfield 480) (36) := ri_of (by decide +kernel) rfl
theorem wi_292_36 : ri (rt_P sc fm) 292 36 (.ifCond .ge 14) (39) := ri_of (by decide +kernel) rfl
theorem wi_292_39 : ri (rt_P sc fm) 292 39 (.aload_n 0) (40) := ri_of (by decide +kernel) rfl
theorem wi_292_40 : ri (rt_P sc fm) 292 40 (.iload_n 2) (41) := ri_of (by decide +kernel) rfl
theorem wi_292_41 : ri (rt_P sc fm) 292 41 (.invokevirtual 486) (44) := ri_of (by decide +kernel) rfl
theorem wi_292_44 : ri (rt_P sc fm) 292 44 (.iinc 4 1) (47) := ri_of (by decide +kernel) rfl
theorem wi_292_47 : ri (rt_P sc fm) 292 47 (.goto (-21)) (50) := ri_of (by decide +kernel) rfl
theorem wi_292_5 : ri (rt_P sc fm) 292 5 (.aload_n 0) (6) := ri_of (by decide +kernel) rfl
theorem wi_292_50 : ri (rt_P sc fm) 292 50 (.aload_n 0) (51) := ri_of (by decide +kernel) rfl
theorem wi_292_51 : ri (rt_P sc fm) 292 51 (.getfield 480) (54) := ri_of (by decide +kernel) rfl
theorem wi_292_54 : ri (rt_P sc fm) 292 54 (.ifCond .ge 22) (57) := ri_of (by decide +kernel) rfl
theorem wi_292_57 : ri (rt_P sc fm) 292 57 (.aload_n 0) (58) := ri_of (by decide +kernel) rfl
theorem wi_292_58 : ri (rt_P sc fm) 292 58 (.getfield 477) (61) := ri_of (by decide +kernel) rfl
theorem wi_292_6 : ri (rt_P sc fm) 292 6 (.iconst 0) (7) := ri_of (by decide +kernel) rfl
theorem wi_292_61 : ri (rt_P sc fm) 292 61 (.aload_n 0) (62) := ri_of (by decide +kernel) rfl
theorem wi_292_62 : ri (rt_P sc fm) 292 62 (.getfield 474) (65) := ri_of (by decide +kernel) rfl
theorem wi_292_65 : ri (rt_P sc fm) 292 65 (.if_icmp .ge 11) (68) := ri_of (by decide +kernel) rfl
theorem wi_292_68 : ri (rt_P sc fm) 292 68 (.aload_n 0) (69) := ri_of (by decide +kernel) rfl
theorem wi_292_69 : ri (rt_P sc fm) 292 69 (.aload_n 0) (70) := ri_of (by decide +kernel) rfl
theorem wi_292_7 : ri (rt_P sc fm) 292 7 (.putfield 477) (10) := ri_of (by decide +kernel) rfl
theorem wi_292_70 : ri (rt_P sc fm) 292 70 (.getfield 477) (73) := ri_of (by decide +kernel) rfl
theorem wi_292_73 : ri (rt_P sc fm) 292 73 (.putfield 480) (76) := ri_of (by decide +kernel) rfl
theorem wi_292_76 : ri (rt_P sc fm) 292 76 (.return_) (77) := ri_of (by decide +kernel) rfl
theorem wm_294 : rx_ml (rt_P sc fm) 294 = 13 := (by decide +kernel : rt_ml 294 = 13)
theorem wp_292_474 : rx_pt (rt_P sc fm) 292 474 = some (10, 11, .int) := (by decide +kernel : rt_pt 292 474 = some (10, 11, .int))
theorem wp_292_477 : rx_pt (rt_P sc fm) 292 477 = some (10, 10, .int) := (by decide +kernel : rt_pt 292 477 = some (10, 10, .int))
theorem wp_292_480 : rx_pt (rt_P sc fm) 292 480 = some (10, 6, .int) := (by decide +kernel : rt_pt 292 480 = some (10, 6, .int))
theorem wr_292 : rx_rt (rt_P sc fm) 292 = none := (by decide +kernel : rt_rt 292 = none)
/-- MarkHouse$Reader.readFile(II)V -/
def d_292 (n : Nat) (a1 : Int32) (a2 : Int32) (c : cS) : Option (cS) :=
  lt (pI c 145 11 a1) (fun c1 =>
  lt (pI c1 145 10 0) (fun c3 =>
  lt (pI c3 145 6 (-1)) (fun c5 =>
  Option.bind (d_293 n 0 20 c5) (fun r7 =>
  Option.bind (whl (R := (cS)) (fun s10 : Int32 × cS =>
    if r7.1 ≤ s10.1 then
      some (.inr s10.2)
    else
      if 0 ≤ (s10.2.1 145 6) then
        some (.inr s10.2)
      else
        Option.bind (d_294 n a2 s10.2) (fun r11 =>
        lt (s10.1 + 1 : Int32) (fun v13 =>
        some (.inl (v13, r11))))) n (0, r7.2))
  (fun x15 : cS =>
    jn (fun p16 : cS =>
      some p16)
    (fun j76 =>
    if 0 ≤ (x15.1 145 6) then
      j76 x15
    else
      if (x15.1 145 11) ≤ (x15.1 145 10) then
        j76 x15
      else
        lt (pI x15 145 6 (x15.1 145 10)) (fun c17 =>
        j76 c17)))))))
theorem sp_292 {F Lo n : Nat} {a1 : Int32} {a2 : Int32} {c y : cS} {w : cW} {K : cS → Prop} {Q : ((Option Value) ⊕ String) → List va_E → Prop} (hw : rOK fm w) (hF : 4 ≤ F) (hLo : 103 ≤ Lo)  (h : wp (d_292 n a1 a2 c) K) (hQ : ∀ r, K r → Q (.inl none) (hq true r y w)) : rs (rt_P sc fm) 292 F Lo 0 [(0, .ref 145), (1, .int a1), (2, .int a2)] [] (hq true c y w) Q := by
  unfold d_292 at h
  obtain ⟨lv, elv⟩ : ∃ lv : rx_L, lv = [(0, .ref 145), (1, .int a1), (2, .int a2)] := ⟨_, rfl⟩
  rw [← elv]
  have l0 : rx_ld lv 0 = some (.ref 145) := by rw [elv]; rfl
  have l1 : rx_ld lv 1 = some (.int a1) := by rw [elv]; rfl
  have l2 : rx_ld lv 2 = some (.int a2) := by rw [elv]; rfl
  refine rs_aldn wi_292_0 l0 ?_
  refine rs_ildn wi_292_1 l1 ?_
  obtain ⟨c1, e2, h⟩ := wp_lt h
  refine dq_pi wi_292_2 wp_292_474 tf_145_11 rfl rfl e2 ?_
  refine rs_aldn wi_292_5 l0 ?_
  refine rs_pure wi_292_6 rfl ?_
  refine rs_topi (v := 0) (by decide) ?_
  obtain ⟨c3, e4, h⟩ := wp_lt h
  refine dq_pi wi_292_7 wp_292_477 tf_145_10 rfl rfl e4 ?_
  refine rs_aldn wi_292_10 l0 ?_
  refine rs_pure wi_292_11 rfl ?_
  refine rs_topi (v := (-1)) (by decide) ?_
  obtain ⟨c5, e6, h⟩ := wp_lt h
  refine dq_pi wi_292_12 wp_292_480 tf_145_6 rfl rfl e6 ?_
  refine rs_aldn wi_292_15 l0 ?_
  refine rs_pure wi_292_16 rfl ?_
  refine rs_topi (v := 0) (by decide) ?_
  refine rs_pure wi_292_17 rfl ?_
  refine rs_topi (v := 20) (by decide) ?_
  refine rs_V wi_292_19 wc_292_483 rfl (dq_isa tf_145_0 wa_10_293) (Nat.le_trans (by decide) hF) (ml_le wm_293 (Nat.le_trans (by decide) hLo)) rfl (sp_293 hw (Nat.le_trans (by decide : 0 ≤ 4 - 1) (Nat.sub_le_sub_right hF 1)) (ml_sub wm_293 (Nat.le_trans (by decide : 0 ≤ 103 - 23) (Nat.sub_le_sub_right hLo 23))) (wp_bind h) (fun r7 h => rs_back1 ?_))
  refine dl_istn wi_292_22 rfl (fun lv l3 t8 => ?_)
  have l0 := t8 _ _ (by decide) (Or.inl rfl) l0
  have l2 := t8 _ _ (by decide) (Or.inl rfl) l2
  refine rs_pure wi_292_23 rfl ?_
  refine rs_topi (v := 0) (by decide) ?_
  refine dl_ist wi_292_24 rfl (fun lv l4 t9 => ?_)
  have l0 := t9 _ _ (by decide) (Or.inl rfl) l0
  have l2 := t9 _ _ (by decide) (Or.inl rfl) l2
  have l3 := t9 _ _ (by decide) (Or.inl rfl) l3
  refine whl_ex (A := fun s10 : Int32 × cS => ∀ lv, rx_ld lv 0 = some (.ref 145) → rx_ld lv 2 = some (.int a2) → rx_ld lv 3 = some (.int r7.1) → rx_ld lv 4 = some (.int s10.1) → rs (rt_P sc fm) 292 F Lo 26 lv [] (hq true s10.2 y w) Q) (B := (fun x15 : cS => ∀ lv, rx_ld lv 0 = some (.ref 145) → rs (rt_P sc fm) 292 F Lo 50 lv [] (hq true x15 y w) Q)) ?_ ?_ _ _ (wp_bind h) _ l0 l2 l3 l4
  · intro s10 h lv l0 l2 l3 l4
    refine rs_ild wi_292_26 l4 ?_
    refine rs_ildn wi_292_28 l3 ?_
    refine rs_icge (tg := 50) wi_292_29 ⟨by decide, by decide⟩ (fun q => ?_) (fun q => ?_)
    ·
      have h := wp_pos h q
      exact h _ l0
    ·
      have h := wp_neg h q
      refine rs_aldn wi_292_32 l0 ?_
      refine dq_gi wi_292_33 wf_292_480 tf_145_6 ?_
      refine rs_ifge (tg := 50) wi_292_36 ⟨by decide, by decide⟩ (fun q => ?_) (fun q => ?_)
      ·
        have h := wp_pos h q
        exact h _ l0
      ·
        have h := wp_neg h q
        refine rs_aldn wi_292_39 l0 ?_
        refine rs_ildn wi_292_40 l2 ?_
        refine rs_V wi_292_41 wc_292_486 rfl (dq_isa tf_145_0 wa_10_294) (Nat.le_trans (by decide) hF) (ml_le wm_294 (Nat.le_trans (by decide) hLo)) rfl (sp_294 hw (Nat.le_trans (by decide : 3 ≤ 4 - 1) (Nat.sub_le_sub_right hF 1)) (ml_sub wm_294 (Nat.le_trans (by decide : 71 ≤ 103 - 32) (Nat.sub_le_sub_right hLo 32))) (wp_bind h) (fun r11 h => rs_back0 ?_))
        obtain ⟨v13, e14, h⟩ := wp_lt h
        refine dl_inc wi_292_44 l4 rfl e14 (fun lv l4 t12 => ?_)
        have l0 := t12 _ _ (by decide) (Or.inl rfl) l0
        have l2 := t12 _ _ (by decide) (Or.inl rfl) l2
        have l3 := t12 _ _ (by decide) (Or.inl rfl) l3
        refine rs_goto (tg := 26) wi_292_47 ⟨by decide, by decide⟩ ?_
        exact h _ l0 l2 l3 l4
  ·
    intro x15 h lv l0
    refine rs_aldn wi_292_50 l0 ?_
    refine dq_gi wi_292_51 wf_292_480 tf_145_6 ?_
    refine wp_jn (B := fun p16 : cS => ∀ lv, rs (rt_P sc fm) 292 F Lo 76 lv [] (hq true p16 y w) Q) h (fun p16 h lv => ?_) (fun j76 hj76 h => ?_)
    ·
      exact rs_vret wi_292_76 wr_292 (hQ p16 h)
    refine rs_ifge (tg := 76) wi_292_54 ⟨by decide, by decide⟩ (fun q => ?_) (fun q => ?_)
    ·
      have h := wp_pos h q
      exact hj76 _ h _
    ·
      have h := wp_neg h q
      refine rs_aldn wi_292_57 l0 ?_
      refine dq_gi wi_292_58 wf_292_477 tf_145_10 ?_
      refine rs_aldn wi_292_61 l0 ?_
      refine dq_gi wi_292_62 wf_292_474 tf_145_11 ?_
      refine rs_icge (tg := 76) wi_292_65 ⟨by decide, by decide⟩ (fun q => ?_) (fun q => ?_)
      ·
        have h := wp_pos h q
        exact hj76 _ h _
      ·
        have h := wp_neg h q
        refine rs_aldn wi_292_68 l0 ?_
        refine rs_aldn wi_292_69 l0 ?_
        refine dq_gi wi_292_70 wf_292_477 tf_145_10 ?_
        obtain ⟨c17, e18, h⟩ := wp_lt h
        refine dq_pi wi_292_73 wp_292_480 tf_145_6 rfl rfl e18 ?_
        exact hj76 _ h _
theorem wf_223_45 : rx_ft (rt_P sc fm) 223 45 = some (7, 10) := (by decide +kernel : rt_ft 223 45 = some (7, 10))
theorem wf_223_55 : rx_ft (rt_P sc fm) 223 55 = some (7, 13) := (by decide +kernel : rt_ft 223 55 = some (7, 13))
theorem wi_223_0 : ri (rt_P sc fm) 223 0 (.sipush 4096) (3) := ri_of (by decide +kernel) rfl
theorem wi_223_12 : ri (rt_P sc fm) 223 12 (.iload_n 1) (13) := ri_of (by decide +kernel) rfl
theorem wi_223_13 : ri (rt_P sc fm) 223 13 (.iaload) (14) := ri_of (by decide +kernel) rfl
theorem wi_223_14 : ri (rt_P sc fm) 223 14 (.iadd) (15) := ri_of (by decide +kernel) rfl
theorem wi_223_15 : ri (rt_P sc fm) 223 15 (.ireturn) (16) := ri_of (by decide +kernel) rfl
theorem wi_223_3 : ri (rt_P sc fm) 223 3 (.aload_n 0) (4) := ri_of (by decide +kernel) rfl
theorem wi_223_4 : ri (rt_P sc fm) 223 4 (.getfield 55) (7) := ri_of (by decide +kernel) rfl
theorem wi_223_7 : ri (rt_P sc fm) 223 7 (.isub) (8) := ri_of (by decide +kernel) rfl
theorem wi_223_8 : ri (rt_P sc fm) 223 8 (.aload_n 0) (9) := ri_of (by decide +kernel) rfl
theorem wi_223_9 : ri (rt_P sc fm) 223 9 (.getfield 45) (12) := ri_of (by decide +kernel) rfl
theorem wr_223 : rx_rt (rt_P sc fm) 223 = (some FieldType.int) := (by decide +kernel : rt_rt 223 = (some FieldType.int))
/-- MarkHouse$Marks.roomWithout(I)I -/
def d_223 (n : Nat) (a1 : Int32) (c : cS) : Option (Int32) :=
  if ib a1 2242 then
  some ((4096 - (c.1 133 13)) + (c.1 144 (ix a1)))
  else none
theorem sp_223 {F Lo n : Nat} {a1 : Int32} {c y : cS} {w : cW} {K : Int32 → Prop} {Q : ((Option Value) ⊕ String) → List va_E → Prop} (hw : rOK fm w) (hF : 0 ≤ F) (hLo : 0 ≤ Lo)  (h : wp (d_223 n a1 c) K) (hQ : ∀ r, K r → Q (.inl (some (.int r))) (hq true c y w)) : rs (rt_P sc fm) 223 F Lo 0 [(0, .ref 133), (1, .int a1)] [] (hq true c y w) Q := by
  unfold d_223 at h
  obtain ⟨lv, elv⟩ : ∃ lv : rx_L, lv = [(0, .ref 133), (1, .int a1)] := ⟨_, rfl⟩
  rw [← elv]
  have l0 : rx_ld lv 0 = some (.ref 133) := by rw [elv]; rfl
  have l1 : rx_ld lv 1 = some (.int a1) := by rw [elv]; rfl
  refine rs_pure wi_223_0 rfl ?_
  refine rs_topi (v := 4096) (by decide) ?_
  refine rs_aldn wi_223_3 l0 ?_
  refine dq_gi wi_223_4 wf_223_55 tf_133_13 ?_
  refine rs_pure wi_223_7 rfl ?_
  refine rs_aldn wi_223_8 l0 ?_
  refine dq_gr wi_223_9 wf_223_45 tf_133_10 ?_
  refine rs_ildn wi_223_12 l1 ?_
  obtain ⟨g1, h⟩ := wp_gd h
  refine dq_iald wi_223_13 t_144 g1 ?_
  refine rs_pure wi_223_14 rfl ?_
  exact rs_iret wi_223_15 wr_223 rfl (hQ ((4096 - (c.1 133 13)) + (c.1 144 (ix a1))) h)
theorem wf_222_26 : rx_ft (rt_P sc fm) 222 26 = some (7, 4) := (by decide +kernel : rt_ft 222 26 = some (7, 4))
theorem wf_222_39 : rx_ft (rt_P sc fm) 222 39 = some (7, 8) := (by decide +kernel : rt_ft 222 39 = some (7, 8))
theorem wf_222_42 : rx_ft (rt_P sc fm) 222 42 = some (7, 9) := (by decide +kernel : rt_ft 222 42 = some (7, 9))
theorem wf_222_45 : rx_ft (rt_P sc fm) 222 45 = some (7, 10) := (by decide +kernel : rt_ft 222 45 = some (7, 10))
theorem wf_222_48 : rx_ft (rt_P sc fm) 222 48 = some (7, 12) := (by decide +kernel : rt_ft 222 48 = some (7, 12))
theorem wf_222_55 : rx_ft (rt_P sc fm) 222 55 = some (7, 13) := (by decide +kernel : rt_ft 222 55 = some (7, 13))
theorem wi_222_0 : ri (rt_P sc fm) 222 0 (.aload_n 0) (1) := ri_of (by decide +kernel) rfl
theorem wi_222_1 : ri (rt_P sc fm) 222 1 (.getfield 45) (4) := ri_of (by decide +kernel) rfl
theorem wi_222_10 : ri (rt_P sc fm) 222 10 (.getfield 26) (13) := ri_of (by decide +kernel) rfl
theorem wi_222_13 : ri (rt_P sc fm) 222 13 (.aload_n 0) (14) := ri_of (by decide +kernel) rfl
theorem wi_222_14 : ri (rt_P sc fm) 222 14 (.getfield 42) (17) := ri_of (by decide +kernel) rfl
theorem wi_222_17 : ri (rt_P sc fm) 222 17 (.iload_n 1) (18) := ri_of (by decide +kernel) rfl
theorem wi_222_18 : ri (rt_P sc fm) 222 18 (.iaload) (19) := ri_of (by decide +kernel) rfl
theorem wi_222_19 : ri (rt_P sc fm) 222 19 (.aload_n 0) (20) := ri_of (by decide +kernel) rfl
theorem wi_222_20 : ri (rt_P sc fm) 222 20 (.getfield 48) (23) := ri_of (by decide +kernel) rfl
theorem wi_222_23 : ri (rt_P sc fm) 222 23 (.iastore) (24) := ri_of (by decide +kernel) rfl
theorem wi_222_24 : ri (rt_P sc fm) 222 24 (.aload_n 0) (25) := ri_of (by decide +kernel) rfl
theorem wi_222_25 : ri (rt_P sc fm) 222 25 (.aload_n 0) (26) := ri_of (by decide +kernel) rfl
theorem wi_222_26 : ri (rt_P sc fm) 222 26 (.getfield 39) (29) := ri_of (by decide +kernel) rfl
theorem wi_222_29 : ri (rt_P sc fm) 222 29 (.iload_n 1) (30) := ri_of (by decide +kernel) rfl
theorem wi_222_30 : ri (rt_P sc fm) 222 30 (.iaload) (31) := ri_of (by decide +kernel) rfl
theorem wi_222_31 : ri (rt_P sc fm) 222 31 (.putfield 48) (34) := ri_of (by decide +kernel) rfl
theorem wi_222_34 : ri (rt_P sc fm) 222 34 (.aload_n 0) (35) := ri_of (by decide +kernel) rfl
theorem wi_222_35 : ri (rt_P sc fm) 222 35 (.dup) (36) := ri_of (by decide +kernel) rfl
theorem wi_222_36 : ri (rt_P sc fm) 222 36 (.getfield 55) (39) := ri_of (by decide +kernel) rfl
theorem wi_222_39 : ri (rt_P sc fm) 222 39 (.aload_n 0) (40) := ri_of (by decide +kernel) rfl
theorem wi_222_4 : ri (rt_P sc fm) 222 4 (.iload_n 1) (5) := ri_of (by decide +kernel) rfl
theorem wi_222_40 : ri (rt_P sc fm) 222 40 (.getfield 45) (43) := ri_of (by decide +kernel) rfl
theorem wi_222_43 : ri (rt_P sc fm) 222 43 (.iload_n 1) (44) := ri_of (by decide +kernel) rfl
theorem wi_222_44 : ri (rt_P sc fm) 222 44 (.iaload) (45) := ri_of (by decide +kernel) rfl
theorem wi_222_45 : ri (rt_P sc fm) 222 45 (.isub) (46) := ri_of (by decide +kernel) rfl
theorem wi_222_46 : ri (rt_P sc fm) 222 46 (.putfield 55) (49) := ri_of (by decide +kernel) rfl
theorem wi_222_49 : ri (rt_P sc fm) 222 49 (.aload_n 0) (50) := ri_of (by decide +kernel) rfl
theorem wi_222_5 : ri (rt_P sc fm) 222 5 (.iaload) (6) := ri_of (by decide +kernel) rfl
theorem wi_222_50 : ri (rt_P sc fm) 222 50 (.getfield 45) (53) := ri_of (by decide +kernel) rfl
theorem wi_222_53 : ri (rt_P sc fm) 222 53 (.iload_n 1) (54) := ri_of (by decide +kernel) rfl
theorem wi_222_54 : ri (rt_P sc fm) 222 54 (.iconst 0) (55) := ri_of (by decide +kernel) rfl
theorem wi_222_55 : ri (rt_P sc fm) 222 55 (.iastore) (56) := ri_of (by decide +kernel) rfl
theorem wi_222_56 : ri (rt_P sc fm) 222 56 (.return_) (57) := ri_of (by decide +kernel) rfl
theorem wi_222_6 : ri (rt_P sc fm) 222 6 (.ifCond .le 50) (9) := ri_of (by decide +kernel) rfl
theorem wi_222_9 : ri (rt_P sc fm) 222 9 (.aload_n 0) (10) := ri_of (by decide +kernel) rfl
theorem wp_222_48 : rx_pt (rt_P sc fm) 222 48 = some (7, 12, .int) := (by decide +kernel : rt_pt 222 48 = some (7, 12, .int))
theorem wp_222_55 : rx_pt (rt_P sc fm) 222 55 = some (7, 13, .int) := (by decide +kernel : rt_pt 222 55 = some (7, 13, .int))
theorem wr_222 : rx_rt (rt_P sc fm) 222 = none := (by decide +kernel : rt_rt 222 = none)
/-- MarkHouse$Marks.clearRow(I)V -/
def d_222 (n : Nat) (a1 : Int32) (c : cS) : Option (cS) :=
  if ib a1 2242 then
  jn (fun p2 : cS =>
    some p2)
  (fun j56 =>
  if (c.1 144 (ix a1)) ≤ 0 then
    j56 c
  else
    if ib a1 2242 then
    if ib (c.1 143 (ix a1)) 4096 then
    lt (pI c 138 (ix (c.1 143 (ix a1))) (c.1 133 12)) (fun c5 =>
    if ib a1 2242 then
    lt (pI c5 133 12 (c5.1 142 (ix a1))) (fun c8 =>
    if ib a1 2242 then
    lt (pI c8 133 13 ((c8.1 133 13) - (c8.1 144 (ix a1)))) (fun c11 =>
    if ib a1 2242 then
    lt (pI c11 144 (ix a1) 0) (fun c14 =>
    j56 c14)
    else none)
    else none)
    else none)
    else none
    else none)
  else none
theorem sp_222 {F Lo n : Nat} {a1 : Int32} {c y : cS} {w : cW} {K : cS → Prop} {Q : ((Option Value) ⊕ String) → List va_E → Prop} (hw : rOK fm w) (hF : 0 ≤ F) (hLo : 0 ≤ Lo)  (h : wp (d_222 n a1 c) K) (hQ : ∀ r, K r → Q (.inl none) (hq true r y w)) : rs (rt_P sc fm) 222 F Lo 0 [(0, .ref 133), (1, .int a1)] [] (hq true c y w) Q := by
  unfold d_222 at h
  obtain ⟨lv, elv⟩ : ∃ lv : rx_L, lv = [(0, .ref 133), (1, .int a1)] := ⟨_, rfl⟩
  rw [← elv]
  have l0 : rx_ld lv 0 = some (.ref 133) := by rw [elv]; rfl
  have l1 : rx_ld lv 1 = some (.int a1) := by rw [elv]; rfl
  refine rs_aldn wi_222_0 l0 ?_
  refine dq_gr wi_222_1 wf_222_45 tf_133_10 ?_
  refine rs_ildn wi_222_4 l1 ?_
  obtain ⟨g1, h⟩ := wp_gd h
  refine dq_iald wi_222_5 t_144 g1 ?_
  refine wp_jn (B := fun p2 : cS => ∀ lv, rs (rt_P sc fm) 222 F Lo 56 lv [] (hq true p2 y w) Q) h (fun p2 h lv => ?_) (fun j56 hj56 h => ?_)
  ·
    exact rs_vret wi_222_56 wr_222 (hQ p2 h)
  refine rs_ifle (tg := 56) wi_222_6 ⟨by decide, by decide⟩ (fun q => ?_) (fun q => ?_)
  ·
    have h := wp_pos h q
    exact hj56 _ h _
  ·
    have h := wp_neg h q
    refine rs_aldn wi_222_9 l0 ?_
    refine dq_gr wi_222_10 wf_222_26 tf_133_4 ?_
    refine rs_aldn wi_222_13 l0 ?_
    refine dq_gr wi_222_14 wf_222_42 tf_133_9 ?_
    refine rs_ildn wi_222_17 l1 ?_
    obtain ⟨g3, h⟩ := wp_gd h
    refine dq_iald wi_222_18 t_143 g3 ?_
    refine rs_aldn wi_222_19 l0 ?_
    refine dq_gi wi_222_20 wf_222_48 tf_133_12 ?_
    obtain ⟨g4, h⟩ := wp_gd h
    obtain ⟨c5, e6, h⟩ := wp_lt h
    refine dq_iast wi_222_23 t_138 g4 e6 ?_
    refine rs_aldn wi_222_24 l0 ?_
    refine rs_aldn wi_222_25 l0 ?_
    refine dq_gr wi_222_26 wf_222_39 tf_133_8 ?_
    refine rs_ildn wi_222_29 l1 ?_
    obtain ⟨g7, h⟩ := wp_gd h
    refine dq_iald wi_222_30 t_142 g7 ?_
    obtain ⟨c8, e9, h⟩ := wp_lt h
    refine dq_pi wi_222_31 wp_222_48 tf_133_12 rfl rfl e9 ?_
    refine rs_aldn wi_222_34 l0 ?_
    refine rs_pure wi_222_35 rfl ?_
    refine dq_gi wi_222_36 wf_222_55 tf_133_13 ?_
    refine rs_aldn wi_222_39 l0 ?_
    refine dq_gr wi_222_40 wf_222_45 tf_133_10 ?_
    refine rs_ildn wi_222_43 l1 ?_
    obtain ⟨g10, h⟩ := wp_gd h
    refine dq_iald wi_222_44 t_144 g10 ?_
    refine rs_pure wi_222_45 rfl ?_
    obtain ⟨c11, e12, h⟩ := wp_lt h
    refine dq_pi wi_222_46 wp_222_55 tf_133_13 rfl rfl e12 ?_
    refine rs_aldn wi_222_49 l0 ?_
    refine dq_gr wi_222_50 wf_222_45 tf_133_10 ?_
    refine rs_ildn wi_222_53 l1 ?_
    refine rs_pure wi_222_54 rfl ?_
    refine rs_topi (v := 0) (by decide) ?_
    obtain ⟨g13, h⟩ := wp_gd h
    obtain ⟨c14, e15, h⟩ := wp_lt h
    refine dq_iast wi_222_55 t_144 g13 e15 ?_
    exact hj56 _ h _
theorem tf_146_2 : fo true 146 4 2 (.ref 133) := ⟨_, rfl, rfl, by decide, by decide⟩
theorem wf_179_29 : rx_ft (rt_P sc fm) 179 29 = some (4, 2) := (by decide +kernel : rt_ft 179 29 = some (4, 2))
theorem wf_179_59 : rx_ft (rt_P sc fm) 179 59 = some (7, 8) := (by decide +kernel : rt_ft 179 59 = some (7, 8))
theorem wf_179_64 : rx_ft (rt_P sc fm) 179 64 = some (7, 10) := (by decide +kernel : rt_ft 179 64 = some (7, 10))
theorem wf_179_67 : rx_ft (rt_P sc fm) 179 67 = some (7, 1) := (by decide +kernel : rt_ft 179 67 = some (7, 1))
theorem wf_179_78 : rx_ft (rt_P sc fm) 179 78 = some (7, 4) := (by decide +kernel : rt_ft 179 78 = some (7, 4))
theorem wi_179_0 : ri (rt_P sc fm) 179 0 (.iconst 0) (1) := ri_of (by decide +kernel) rfl
theorem wi_179_1 : ri (rt_P sc fm) 179 1 (.istore_n 3) (2) := ri_of (by decide +kernel) rfl
theorem wi_179_10 : ri (rt_P sc fm) 179 10 (.iaload) (11) := ri_of (by decide +kernel) rfl
theorem wi_179_11 : ri (rt_P sc fm) 179 11 (.istore 4) (13) := ri_of (by decide +kernel) rfl
theorem wi_179_13 : ri (rt_P sc fm) 179 13 (.iconst 0) (14) := ri_of (by decide +kernel) rfl
theorem wi_179_14 : ri (rt_P sc fm) 179 14 (.istore 5) (16) := ri_of (by decide +kernel) rfl
theorem wi_179_16 : ri (rt_P sc fm) 179 16 (.iload 5) (18) := ri_of (by decide +kernel) rfl
theorem wi_179_18 : ri (rt_P sc fm) 179 18 (.aload_n 0) (19) := ri_of (by decide +kernel) rfl
theorem wi_179_19 : ri (rt_P sc fm) 179 19 (.getfield 29) (22) := ri_of (by decide +kernel) rfl
theorem wi_179_2 : ri (rt_P sc fm) 179 2 (.aload_n 0) (3) := ri_of (by decide +kernel) rfl
theorem wi_179_22 : ri (rt_P sc fm) 179 22 (.getfield 64) (25) := ri_of (by decide +kernel) rfl
theorem wi_179_25 : ri (rt_P sc fm) 179 25 (.iload_n 1) (26) := ri_of (by decide +kernel) rfl
theorem wi_179_26 : ri (rt_P sc fm) 179 26 (.iaload) (27) := ri_of (by decide +kernel) rfl
theorem wi_179_27 : ri (rt_P sc fm) 179 27 (.if_icmp .ge 43) (30) := ri_of (by decide +kernel) rfl
theorem wi_179_3 : ri (rt_P sc fm) 179 3 (.getfield 29) (6) := ri_of (by decide +kernel) rfl
theorem wi_179_30 : ri (rt_P sc fm) 179 30 (.iload_n 3) (31) := ri_of (by decide +kernel) rfl
theorem wi_179_31 : ri (rt_P sc fm) 179 31 (.aload_n 0) (32) := ri_of (by decide +kernel) rfl
theorem wi_179_32 : ri (rt_P sc fm) 179 32 (.getfield 29) (35) := ri_of (by decide +kernel) rfl
theorem wi_179_35 : ri (rt_P sc fm) 179 35 (.getfield 67) (38) := ri_of (by decide +kernel) rfl
theorem wi_179_38 : ri (rt_P sc fm) 179 38 (.iload 4) (40) := ri_of (by decide +kernel) rfl
theorem wi_179_40 : ri (rt_P sc fm) 179 40 (.iaload) (41) := ri_of (by decide +kernel) rfl
theorem wi_179_41 : ri (rt_P sc fm) 179 41 (.iload_n 2) (42) := ri_of (by decide +kernel) rfl
theorem wi_179_42 : ri (rt_P sc fm) 179 42 (.if_icmp .ne 7) (45) := ri_of (by decide +kernel) rfl
theorem wi_179_45 : ri (rt_P sc fm) 179 45 (.iconst 1) (46) := ri_of (by decide +kernel) rfl
theorem wi_179_46 : ri (rt_P sc fm) 179 46 (.goto 4) (49) := ri_of (by decide +kernel) rfl
theorem wi_179_49 : ri (rt_P sc fm) 179 49 (.iconst 0) (50) := ri_of (by decide +kernel) rfl
theorem wi_179_50 : ri (rt_P sc fm) 179 50 (.iadd) (51) := ri_of (by decide +kernel) rfl
theorem wi_179_51 : ri (rt_P sc fm) 179 51 (.istore_n 3) (52) := ri_of (by decide +kernel) rfl
theorem wi_179_52 : ri (rt_P sc fm) 179 52 (.aload_n 0) (53) := ri_of (by decide +kernel) rfl
theorem wi_179_53 : ri (rt_P sc fm) 179 53 (.getfield 29) (56) := ri_of (by decide +kernel) rfl
theorem wi_179_56 : ri (rt_P sc fm) 179 56 (.getfield 78) (59) := ri_of (by decide +kernel) rfl
theorem wi_179_59 : ri (rt_P sc fm) 179 59 (.iload 4) (61) := ri_of (by decide +kernel) rfl
theorem wi_179_6 : ri (rt_P sc fm) 179 6 (.getfield 59) (9) := ri_of (by decide +kernel) rfl
theorem wi_179_61 : ri (rt_P sc fm) 179 61 (.iaload) (62) := ri_of (by decide +kernel) rfl
theorem wi_179_62 : ri (rt_P sc fm) 179 62 (.istore 4) (64) := ri_of (by decide +kernel) rfl
theorem wi_179_64 : ri (rt_P sc fm) 179 64 (.iinc 5 1) (67) := ri_of (by decide +kernel) rfl
theorem wi_179_67 : ri (rt_P sc fm) 179 67 (.goto (-51)) (70) := ri_of (by decide +kernel) rfl
theorem wi_179_70 : ri (rt_P sc fm) 179 70 (.iload_n 3) (71) := ri_of (by decide +kernel) rfl
theorem wi_179_71 : ri (rt_P sc fm) 179 71 (.ireturn) (72) := ri_of (by decide +kernel) rfl
theorem wi_179_9 : ri (rt_P sc fm) 179 9 (.iload_n 1) (10) := ri_of (by decide +kernel) rfl
theorem wr_179 : rx_rt (rt_P sc fm) 179 = (some FieldType.int) := (by decide +kernel : rt_rt 179 = (some FieldType.int))
/-- MarkHouse$Effects.howMany(II)I -/
def d_179 (n : Nat) (a1 : Int32) (a2 : Int32) (c : cS) : Option (Int32) :=
  if ib a1 2242 then
  lt ((c.1 142 (ix a1)) : Int32) (fun v4 =>
  Option.bind (whl (R := (Int32)) (fun s7 : Int32 × Int32 × Int32 =>
    if ib a1 2242 then
    if (c.1 144 (ix a1)) ≤ s7.2.2 then
      some (.inr s7.1)
    else
      if ib s7.2.1 4096 then
      jn (fun p10 : Int32 =>
        lt ((s7.1 + p10) : Int32) (fun v12 =>
        if ib s7.2.1 4096 then
        lt ((c.1 138 (ix s7.2.1)) : Int32) (fun v16 =>
        lt (s7.2.2 + 1 : Int32) (fun v19 =>
        some (.inl (v12, v16, v19))))
        else none))
      (fun j50 =>
      if (c.1 135 (ix s7.2.1)) = a2 then
        j50 1
      else
        j50 0)
      else none
    else none) n (0, v4, 0))
  (fun x21 : Int32 =>
    some x21))
  else none
theorem sp_179 {F Lo n : Nat} {a1 : Int32} {a2 : Int32} {c y : cS} {w : cW} {K : Int32 → Prop} {Q : ((Option Value) ⊕ String) → List va_E → Prop} (hw : rOK fm w) (hF : 0 ≤ F) (hLo : 0 ≤ Lo)  (h : wp (d_179 n a1 a2 c) K) (hQ : ∀ r, K r → Q (.inl (some (.int r))) (hq true c y w)) : rs (rt_P sc fm) 179 F Lo 0 [(0, .ref 146), (1, .int a1), (2, .int a2)] [] (hq true c y w) Q := by
  unfold d_179 at h
  obtain ⟨lv, elv⟩ : ∃ lv : rx_L, lv = [(0, .ref 146), (1, .int a1), (2, .int a2)] := ⟨_, rfl⟩
  rw [← elv]
  have l0 : rx_ld lv 0 = some (.ref 146) := by rw [elv]; rfl
  have l1 : rx_ld lv 1 = some (.int a1) := by rw [elv]; rfl
  have l2 : rx_ld lv 2 = some (.int a2) := by rw [elv]; rfl
  refine rs_pure wi_179_0 rfl ?_
  refine rs_topi (v := 0) (by decide) ?_
  refine dl_istn wi_179_1 rfl (fun lv l3 t1 => ?_)
  have l0 := t1 _ _ (by decide) (Or.inl rfl) l0
  have l1 := t1 _ _ (by decide) (Or.inl rfl) l1
  have l2 := t1 _ _ (by decide) (Or.inl rfl) l2
  refine rs_aldn wi_179_2 l0 ?_
  refine dq_gr wi_179_3 wf_179_29 tf_146_2 ?_
  refine dq_gr wi_179_6 wf_179_59 tf_133_8 ?_
  refine rs_ildn wi_179_9 l1 ?_
  obtain ⟨g2, h⟩ := wp_gd h
  refine dq_iald wi_179_10 t_142 g2 ?_
  obtain ⟨v4, e5, h⟩ := wp_lt h
  refine rs_topi e5 ?_
  refine dl_ist wi_179_11 rfl (fun lv l4 t3 => ?_)
  have l0 := t3 _ _ (by decide) (Or.inl rfl) l0
  have l1 := t3 _ _ (by decide) (Or.inl rfl) l1
  have l2 := t3 _ _ (by decide) (Or.inl rfl) l2
  have l3 := t3 _ _ (by decide) (Or.inl rfl) l3
  refine rs_pure wi_179_13 rfl ?_
  refine rs_topi (v := 0) (by decide) ?_
  refine dl_ist wi_179_14 rfl (fun lv l5 t6 => ?_)
  have l0 := t6 _ _ (by decide) (Or.inl rfl) l0
  have l1 := t6 _ _ (by decide) (Or.inl rfl) l1
  have l2 := t6 _ _ (by decide) (Or.inl rfl) l2
  have l3 := t6 _ _ (by decide) (Or.inl rfl) l3
  have l4 := t6 _ _ (by decide) (Or.inl rfl) l4
  refine whl_ex (A := fun s7 : Int32 × Int32 × Int32 => ∀ lv, rx_ld lv 0 = some (.ref 146) → rx_ld lv 1 = some (.int a1) → rx_ld lv 2 = some (.int a2) → rx_ld lv 3 = some (.int s7.1) → rx_ld lv 4 = some (.int s7.2.1) → rx_ld lv 5 = some (.int s7.2.2) → rs (rt_P sc fm) 179 F Lo 16 lv [] (hq true c y w) Q) (B := (fun x21 : Int32 => ∀ lv, rx_ld lv 3 = some (.int x21) → rs (rt_P sc fm) 179 F Lo 70 lv [] (hq true c y w) Q)) ?_ ?_ _ _ (wp_bind h) _ l0 l1 l2 l3 l4 l5
  · intro s7 h lv l0 l1 l2 l3 l4 l5
    refine rs_ild wi_179_16 l5 ?_
    refine rs_aldn wi_179_18 l0 ?_
    refine dq_gr wi_179_19 wf_179_29 tf_146_2 ?_
    refine dq_gr wi_179_22 wf_179_64 tf_133_10 ?_
    refine rs_ildn wi_179_25 l1 ?_
    obtain ⟨g8, h⟩ := wp_gd h
    refine dq_iald wi_179_26 t_144 g8 ?_
    refine rs_icge (tg := 70) wi_179_27 ⟨by decide, by decide⟩ (fun q => ?_) (fun q => ?_)
    ·
      have h := wp_pos h q
      exact h _ l3
    ·
      have h := wp_neg h q
      refine rs_ildn wi_179_30 l3 ?_
      refine rs_aldn wi_179_31 l0 ?_
      refine dq_gr wi_179_32 wf_179_29 tf_146_2 ?_
      refine dq_gr wi_179_35 wf_179_67 tf_133_1 ?_
      refine rs_ild wi_179_38 l4 ?_
      obtain ⟨g9, h⟩ := wp_gd h
      refine dq_iald wi_179_40 t_135 g9 ?_
      refine rs_ildn wi_179_41 l2 ?_
      refine wp_jn (B := fun p10 : Int32 => ∀ lv, rx_ld lv 0 = some (.ref 146) → rx_ld lv 1 = some (.int a1) → rx_ld lv 2 = some (.int a2) → rx_ld lv 4 = some (.int s7.2.1) → rx_ld lv 5 = some (.int s7.2.2) → rs (rt_P sc fm) 179 F Lo 50 lv [.int p10, .int s7.1] (hq true c y w) Q) h (fun p10 h lv l0 l1 l2 l4 l5 => ?_) (fun j50 hj50 h => ?_)
      ·
        refine rs_pure wi_179_50 rfl ?_
        obtain ⟨v12, e13, h⟩ := wp_lt h
        refine rs_topi e13 ?_
        refine dl_istn wi_179_51 rfl (fun lv l3 t11 => ?_)
        have l0 := t11 _ _ (by decide) (Or.inl rfl) l0
        have l1 := t11 _ _ (by decide) (Or.inl rfl) l1
        have l2 := t11 _ _ (by decide) (Or.inl rfl) l2
        have l4 := t11 _ _ (by decide) (Or.inl rfl) l4
        have l5 := t11 _ _ (by decide) (Or.inl rfl) l5
        refine rs_aldn wi_179_52 l0 ?_
        refine dq_gr wi_179_53 wf_179_29 tf_146_2 ?_
        refine dq_gr wi_179_56 wf_179_78 tf_133_4 ?_
        refine rs_ild wi_179_59 l4 ?_
        obtain ⟨g14, h⟩ := wp_gd h
        refine dq_iald wi_179_61 t_138 g14 ?_
        obtain ⟨v16, e17, h⟩ := wp_lt h
        refine rs_topi e17 ?_
        refine dl_ist wi_179_62 rfl (fun lv l4 t15 => ?_)
        have l0 := t15 _ _ (by decide) (Or.inl rfl) l0
        have l1 := t15 _ _ (by decide) (Or.inl rfl) l1
        have l2 := t15 _ _ (by decide) (Or.inl rfl) l2
        have l3 := t15 _ _ (by decide) (Or.inl rfl) l3
        have l5 := t15 _ _ (by decide) (Or.inl rfl) l5
        obtain ⟨v19, e20, h⟩ := wp_lt h
        refine dl_inc wi_179_64 l5 rfl e20 (fun lv l5 t18 => ?_)
        have l0 := t18 _ _ (by decide) (Or.inl rfl) l0
        have l1 := t18 _ _ (by decide) (Or.inl rfl) l1
        have l2 := t18 _ _ (by decide) (Or.inl rfl) l2
        have l3 := t18 _ _ (by decide) (Or.inl rfl) l3
        have l4 := t18 _ _ (by decide) (Or.inl rfl) l4
        refine rs_goto (tg := 16) wi_179_67 ⟨by decide, by decide⟩ ?_
        exact h _ l0 l1 l2 l3 l4 l5
      refine rs_icne (tg := 49) wi_179_42 ⟨by decide, by decide⟩ (fun q => ?_) (fun q => ?_)
      ·
        have h := wp_neg h q
        refine rs_pure wi_179_49 rfl ?_
        refine rs_topi (v := 0) (by decide) ?_
        exact hj50 _ h _ l0 l1 l2 l4 l5
      ·
        have h := wp_pos h q
        refine rs_pure wi_179_45 rfl ?_
        refine rs_topi (v := 1) (by decide) ?_
        refine rs_goto (tg := 50) wi_179_46 ⟨by decide, by decide⟩ ?_
        exact hj50 _ h _ l0 l1 l2 l4 l5
  ·
    intro x21 h lv l3
    refine rs_ildn wi_179_70 l3 ?_
    exact rs_iret wi_179_71 wr_179 rfl (hQ x21 h)
theorem wa_4_179 : rz_cn 4 (rx_yn (rt_P sc fm) 179).cls = true := (by decide +kernel : rz_cn 4 (rt_yn 179).cls = true)
theorem wc_178_74 : rx_ct (rt_P sc fm) 178 74 = some (0, 246, 1) := (by decide +kernel : rt_ct 178 74 = some (0, 246, 1))
theorem wc_178_85 : rx_ct (rt_P sc fm) 178 85 = some (0, 250, 2) := (by decide +kernel : rt_ct 178 85 = some (0, 250, 2))
theorem wc_178_89 : rx_ct (rt_P sc fm) 178 89 = some (0, 251, 1) := (by decide +kernel : rt_ct 178 89 = some (0, 251, 1))
theorem wc_178_93 : rx_ct (rt_P sc fm) 178 93 = some (0, 179, 2) := (by decide +kernel : rt_ct 178 93 = some (0, 179, 2))
theorem wf_178_21 : rx_ft (rt_P sc fm) 178 21 = some (4, 0) := (by decide +kernel : rt_ft 178 21 = some (4, 0))
theorem wf_178_29 : rx_ft (rt_P sc fm) 178 29 = some (4, 2) := (by decide +kernel : rt_ft 178 29 = some (4, 2))
theorem wf_178_59 : rx_ft (rt_P sc fm) 178 59 = some (7, 8) := (by decide +kernel : rt_ft 178 59 = some (7, 8))
theorem wf_178_64 : rx_ft (rt_P sc fm) 178 64 = some (7, 10) := (by decide +kernel : rt_ft 178 64 = some (7, 10))
theorem wf_178_67 : rx_ft (rt_P sc fm) 178 67 = some (7, 1) := (by decide +kernel : rt_ft 178 67 = some (7, 1))
theorem wf_178_70 : rx_ft (rt_P sc fm) 178 70 = some (7, 0) := (by decide +kernel : rt_ft 178 70 = some (7, 0))
theorem wf_178_78 : rx_ft (rt_P sc fm) 178 78 = some (7, 4) := (by decide +kernel : rt_ft 178 78 = some (7, 4))
theorem wf_178_81 : rx_ft (rt_P sc fm) 178 81 = some (7, 3) := (by decide +kernel : rt_ft 178 81 = some (7, 3))
theorem wi_178_0 : ri (rt_P sc fm) 178 0 (.aload_n 0) (1) := ri_of (by decide +kernel) rfl
theorem wi_178_1 : ri (rt_P sc fm) 178 1 (.iconst 1) (2) := ri_of (by decide +kernel) rfl
theorem wi_178_100 : ri (rt_P sc fm) 178 100 (.aload_n 0) (101) := ri_of (by decide +kernel) rfl
theorem wi_178_101 : ri (rt_P sc fm) 178 101 (.getfield 29) (104) := ri_of (by decide +kernel) rfl
theorem wi_178_104 : ri (rt_P sc fm) 178 104 (.getfield 67) (107) := ri_of (by decide +kernel) rfl
theorem wi_178_107 : ri (rt_P sc fm) 178 107 (.iload_n 3) (108) := ri_of (by decide +kernel) rfl
theorem wi_178_108 : ri (rt_P sc fm) 178 108 (.iaload) (109) := ri_of (by decide +kernel) rfl
theorem wi_178_109 : ri (rt_P sc fm) 178 109 (.istore 5) (111) := ri_of (by decide +kernel) rfl
theorem wi_178_111 : ri (rt_P sc fm) 178 111 (.aload_n 0) (112) := ri_of (by decide +kernel) rfl
theorem wi_178_112 : ri (rt_P sc fm) 178 112 (.getfield 29) (115) := ri_of (by decide +kernel) rfl
theorem wi_178_115 : ri (rt_P sc fm) 178 115 (.getfield 81) (118) := ri_of (by decide +kernel) rfl
theorem wi_178_118 : ri (rt_P sc fm) 178 118 (.iload_n 3) (119) := ri_of (by decide +kernel) rfl
theorem wi_178_119 : ri (rt_P sc fm) 178 119 (.iload 5) (121) := ri_of (by decide +kernel) rfl
theorem wi_178_12 : ri (rt_P sc fm) 178 12 (.iload_n 1) (13) := ri_of (by decide +kernel) rfl
theorem wi_178_121 : ri (rt_P sc fm) 178 121 (.ifCond .lt 43) (124) := ri_of (by decide +kernel) rfl
theorem wi_178_124 : ri (rt_P sc fm) 178 124 (.aload_n 0) (125) := ri_of (by decide +kernel) rfl
theorem wi_178_125 : ri (rt_P sc fm) 178 125 (.getfield 21) (128) := ri_of (by decide +kernel) rfl
theorem wi_178_128 : ri (rt_P sc fm) 178 128 (.iload 5) (130) := ri_of (by decide +kernel) rfl
theorem wi_178_13 : ri (rt_P sc fm) 178 13 (.iaload) (14) := ri_of (by decide +kernel) rfl
theorem wi_178_130 : ri (rt_P sc fm) 178 130 (.iload_n 2) (131) := ri_of (by decide +kernel) rfl
theorem wi_178_131 : ri (rt_P sc fm) 178 131 (.invokevirtual 85) (134) := ri_of (by decide +kernel) rfl
theorem wi_178_134 : ri (rt_P sc fm) 178 134 (.ifCond .eq 30) (137) := ri_of (by decide +kernel) rfl
theorem wi_178_137 : ri (rt_P sc fm) 178 137 (.aload_n 0) (138) := ri_of (by decide +kernel) rfl
theorem wi_178_138 : ri (rt_P sc fm) 178 138 (.getfield 21) (141) := ri_of (by decide +kernel) rfl
theorem wi_178_14 : ri (rt_P sc fm) 178 14 (.istore_n 3) (15) := ri_of (by decide +kernel) rfl
theorem wi_178_141 : ri (rt_P sc fm) 178 141 (.iload 5) (143) := ri_of (by decide +kernel) rfl
theorem wi_178_143 : ri (rt_P sc fm) 178 143 (.invokevirtual 89) (146) := ri_of (by decide +kernel) rfl
theorem wi_178_146 : ri (rt_P sc fm) 178 146 (.ifCond .ne 14) (149) := ri_of (by decide +kernel) rfl
theorem wi_178_149 : ri (rt_P sc fm) 178 149 (.aload_n 0) (150) := ri_of (by decide +kernel) rfl
theorem wi_178_15 : ri (rt_P sc fm) 178 15 (.iconst 0) (16) := ri_of (by decide +kernel) rfl
theorem wi_178_150 : ri (rt_P sc fm) 178 150 (.iload_n 1) (151) := ri_of (by decide +kernel) rfl
theorem wi_178_151 : ri (rt_P sc fm) 178 151 (.iload 5) (153) := ri_of (by decide +kernel) rfl
theorem wi_178_153 : ri (rt_P sc fm) 178 153 (.invokevirtual 93) (156) := ri_of (by decide +kernel) rfl
theorem wi_178_156 : ri (rt_P sc fm) 178 156 (.iconst 1) (157) := ri_of (by decide +kernel) rfl
theorem wi_178_157 : ri (rt_P sc fm) 178 157 (.if_icmp .ne 7) (160) := ri_of (by decide +kernel) rfl
theorem wi_178_16 : ri (rt_P sc fm) 178 16 (.istore 4) (18) := ri_of (by decide +kernel) rfl
theorem wi_178_160 : ri (rt_P sc fm) 178 160 (.iconst 1) (161) := ri_of (by decide +kernel) rfl
theorem wi_178_161 : ri (rt_P sc fm) 178 161 (.goto 4) (164) := ri_of (by decide +kernel) rfl
theorem wi_178_164 : ri (rt_P sc fm) 178 164 (.iconst 0) (165) := ri_of (by decide +kernel) rfl
theorem wi_178_165 : ri (rt_P sc fm) 178 165 (.bastore) (166) := ri_of (by decide +kernel) rfl
theorem wi_178_166 : ri (rt_P sc fm) 178 166 (.aload_n 0) (167) := ri_of (by decide +kernel) rfl
theorem wi_178_167 : ri (rt_P sc fm) 178 167 (.getfield 29) (170) := ri_of (by decide +kernel) rfl
theorem wi_178_170 : ri (rt_P sc fm) 178 170 (.getfield 78) (173) := ri_of (by decide +kernel) rfl
theorem wi_178_173 : ri (rt_P sc fm) 178 173 (.iload_n 3) (174) := ri_of (by decide +kernel) rfl
theorem wi_178_174 : ri (rt_P sc fm) 178 174 (.iaload) (175) := ri_of (by decide +kernel) rfl
theorem wi_178_175 : ri (rt_P sc fm) 178 175 (.istore_n 3) (176) := ri_of (by decide +kernel) rfl
theorem wi_178_176 : ri (rt_P sc fm) 178 176 (.iinc 4 1) (179) := ri_of (by decide +kernel) rfl
theorem wi_178_179 : ri (rt_P sc fm) 178 179 (.goto (-93)) (182) := ri_of (by decide +kernel) rfl
theorem wi_178_18 : ri (rt_P sc fm) 178 18 (.iload 4) (20) := ri_of (by decide +kernel) rfl
theorem wi_178_182 : ri (rt_P sc fm) 178 182 (.return_) (183) := ri_of (by decide +kernel) rfl
theorem wi_178_2 : ri (rt_P sc fm) 178 2 (.putfield 33) (5) := ri_of (by decide +kernel) rfl
theorem wi_178_20 : ri (rt_P sc fm) 178 20 (.aload_n 0) (21) := ri_of (by decide +kernel) rfl
theorem wi_178_21 : ri (rt_P sc fm) 178 21 (.getfield 29) (24) := ri_of (by decide +kernel) rfl
theorem wi_178_24 : ri (rt_P sc fm) 178 24 (.getfield 64) (27) := ri_of (by decide +kernel) rfl
theorem wi_178_27 : ri (rt_P sc fm) 178 27 (.iload_n 1) (28) := ri_of (by decide +kernel) rfl
theorem wi_178_28 : ri (rt_P sc fm) 178 28 (.iaload) (29) := ri_of (by decide +kernel) rfl
theorem wi_178_29 : ri (rt_P sc fm) 178 29 (.if_icmp .ge 44) (32) := ri_of (by decide +kernel) rfl
theorem wi_178_32 : ri (rt_P sc fm) 178 32 (.aload_n 0) (33) := ri_of (by decide +kernel) rfl
theorem wi_178_33 : ri (rt_P sc fm) 178 33 (.getfield 29) (36) := ri_of (by decide +kernel) rfl
theorem wi_178_36 : ri (rt_P sc fm) 178 36 (.getfield 67) (39) := ri_of (by decide +kernel) rfl
theorem wi_178_39 : ri (rt_P sc fm) 178 39 (.iload_n 3) (40) := ri_of (by decide +kernel) rfl
theorem wi_178_40 : ri (rt_P sc fm) 178 40 (.aload_n 0) (41) := ri_of (by decide +kernel) rfl
theorem wi_178_41 : ri (rt_P sc fm) 178 41 (.getfield 21) (44) := ri_of (by decide +kernel) rfl
theorem wi_178_44 : ri (rt_P sc fm) 178 44 (.aload_n 0) (45) := ri_of (by decide +kernel) rfl
theorem wi_178_45 : ri (rt_P sc fm) 178 45 (.getfield 29) (48) := ri_of (by decide +kernel) rfl
theorem wi_178_48 : ri (rt_P sc fm) 178 48 (.getfield 70) (51) := ri_of (by decide +kernel) rfl
theorem wi_178_5 : ri (rt_P sc fm) 178 5 (.aload_n 0) (6) := ri_of (by decide +kernel) rfl
theorem wi_178_51 : ri (rt_P sc fm) 178 51 (.iload_n 3) (52) := ri_of (by decide +kernel) rfl
theorem wi_178_52 : ri (rt_P sc fm) 178 52 (.laload) (53) := ri_of (by decide +kernel) rfl
theorem wi_178_53 : ri (rt_P sc fm) 178 53 (.invokevirtual 74) (56) := ri_of (by decide +kernel) rfl
theorem wi_178_56 : ri (rt_P sc fm) 178 56 (.iastore) (57) := ri_of (by decide +kernel) rfl
theorem wi_178_57 : ri (rt_P sc fm) 178 57 (.aload_n 0) (58) := ri_of (by decide +kernel) rfl
theorem wi_178_58 : ri (rt_P sc fm) 178 58 (.getfield 29) (61) := ri_of (by decide +kernel) rfl
theorem wi_178_6 : ri (rt_P sc fm) 178 6 (.getfield 29) (9) := ri_of (by decide +kernel) rfl
theorem wi_178_61 : ri (rt_P sc fm) 178 61 (.getfield 78) (64) := ri_of (by decide +kernel) rfl
theorem wi_178_64 : ri (rt_P sc fm) 178 64 (.iload_n 3) (65) := ri_of (by decide +kernel) rfl
theorem wi_178_65 : ri (rt_P sc fm) 178 65 (.iaload) (66) := ri_of (by decide +kernel) rfl
theorem wi_178_66 : ri (rt_P sc fm) 178 66 (.istore_n 3) (67) := ri_of (by decide +kernel) rfl
theorem wi_178_67 : ri (rt_P sc fm) 178 67 (.iinc 4 1) (70) := ri_of (by decide +kernel) rfl
theorem wi_178_70 : ri (rt_P sc fm) 178 70 (.goto (-52)) (73) := ri_of (by decide +kernel) rfl
theorem wi_178_73 : ri (rt_P sc fm) 178 73 (.aload_n 0) (74) := ri_of (by decide +kernel) rfl
theorem wi_178_74 : ri (rt_P sc fm) 178 74 (.getfield 29) (77) := ri_of (by decide +kernel) rfl
theorem wi_178_77 : ri (rt_P sc fm) 178 77 (.getfield 59) (80) := ri_of (by decide +kernel) rfl
theorem wi_178_80 : ri (rt_P sc fm) 178 80 (.iload_n 1) (81) := ri_of (by decide +kernel) rfl
theorem wi_178_81 : ri (rt_P sc fm) 178 81 (.iaload) (82) := ri_of (by decide +kernel) rfl
theorem wi_178_82 : ri (rt_P sc fm) 178 82 (.istore_n 3) (83) := ri_of (by decide +kernel) rfl
theorem wi_178_83 : ri (rt_P sc fm) 178 83 (.iconst 0) (84) := ri_of (by decide +kernel) rfl
theorem wi_178_84 : ri (rt_P sc fm) 178 84 (.istore 4) (86) := ri_of (by decide +kernel) rfl
theorem wi_178_86 : ri (rt_P sc fm) 178 86 (.iload 4) (88) := ri_of (by decide +kernel) rfl
theorem wi_178_88 : ri (rt_P sc fm) 178 88 (.aload_n 0) (89) := ri_of (by decide +kernel) rfl
theorem wi_178_89 : ri (rt_P sc fm) 178 89 (.getfield 29) (92) := ri_of (by decide +kernel) rfl
theorem wi_178_9 : ri (rt_P sc fm) 178 9 (.getfield 59) (12) := ri_of (by decide +kernel) rfl
theorem wi_178_92 : ri (rt_P sc fm) 178 92 (.getfield 64) (95) := ri_of (by decide +kernel) rfl
theorem wi_178_95 : ri (rt_P sc fm) 178 95 (.iload_n 1) (96) := ri_of (by decide +kernel) rfl
theorem wi_178_96 : ri (rt_P sc fm) 178 96 (.iaload) (97) := ri_of (by decide +kernel) rfl
theorem wi_178_97 : ri (rt_P sc fm) 178 97 (.if_icmp .ge 85) (100) := ri_of (by decide +kernel) rfl
theorem wm_179 : rx_ml (rt_P sc fm) 179 = 6 := (by decide +kernel : rt_ml 179 = 6)
theorem wp_178_33 : rx_pt (rt_P sc fm) 178 33 = some (4, 8, .boolean) := (by decide +kernel : rt_pt 178 33 = some (4, 8, .boolean))
theorem wr_178 : rx_rt (rt_P sc fm) 178 = none := (by decide +kernel : rt_rt 178 = none)
/-- MarkHouse$Effects.settleRow(II)V -/
def d_178 (n : Nat) (a1 : Int32) (a2 : Int32) (c : cS) : Option (cS) :=
  lt (pI c 146 8 1) (fun c1 =>
  if ib a1 2242 then
  lt ((c1.1 142 (ix a1)) : Int32) (fun v5 =>
  Option.bind (whl (R := (cS)) (fun s8 : Int32 × Int32 × cS =>
    if ib a1 2242 then
    if (s8.2.2.1 144 (ix a1)) ≤ s8.2.1 then
      some (.inr s8.2.2)
    else
      if ib s8.1 4096 then
      Option.bind (d_246 n (s8.2.2.2 134 (ix s8.1)) s8.2.2) (fun v11 =>
      if ib s8.1 4096 then
      lt (pI s8.2.2 135 (ix s8.1) v11) (fun c13 =>
      if ib s8.1 4096 then
      lt ((c13.1 138 (ix s8.1)) : Int32) (fun v17 =>
      lt (s8.2.1 + 1 : Int32) (fun v20 =>
      some (.inl (v17, v20, c13))))
      else none)
      else none)
      else none
    else none) n (v5, 0, c1))
  (fun x22 : cS =>
    if ib a1 2242 then
    lt ((x22.1 142 (ix a1)) : Int32) (fun v25 =>
    Option.bind (whl (R := (cS)) (fun s28 : Int32 × Int32 × cS =>
      if ib a1 2242 then
      if (s28.2.2.1 144 (ix a1)) ≤ s28.2.1 then
        some (.inr s28.2.2)
      else
        if ib s28.1 4096 then
        lt ((s28.2.2.1 135 (ix s28.1)) : Int32) (fun v32 =>
        jn (fun p34 : Int32 =>
          if ib s28.1 4096 then
          lt (pI s28.2.2 137 (ix s28.1) (vp_nar .boolean p34)) (fun c36 =>
          if ib s28.1 4096 then
          lt ((c36.1 138 (ix s28.1)) : Int32) (fun v40 =>
          lt (s28.2.1 + 1 : Int32) (fun v43 =>
          some (.inl (v40, v43, c36))))
          else none)
          else none)
        (fun j165 =>
        jn (fun p45 : Unit =>
          j165 0)
        (fun j164 =>
        if v32 < 0 then
          j164 ()
        else
          Option.bind (d_250 n v32 a2 s28.2.2) (fun v46 =>
          if v46 = 0 then
            j164 ()
          else
            Option.bind (d_251 n v32 s28.2.2) (fun v47 =>
            jn (fun p48 : Unit =>
              j165 1)
            (fun j160 =>
            if v47 = 0 then
              Option.bind (d_179 n a1 v32 s28.2.2) (fun v49 =>
              if v49 = 1 then
                j160 ()
              else
                j164 ())
            else
              j160 ()))))))
        else none
      else none) n (v25, 0, x22))
    (fun x50 : cS =>
      some x50))
    else none))
  else none)
theorem sp_178 {F Lo n : Nat} {a1 : Int32} {a2 : Int32} {c y : cS} {w : cW} {K : cS → Prop} {Q : ((Option Value) ⊕ String) → List va_E → Prop} (hw : rOK fm w) (hF : 2 ≤ F) (hLo : 46 ≤ Lo)  (h : wp (d_178 n a1 a2 c) K) (hQ : ∀ r, K r → Q (.inl none) (hq true r y w)) : rs (rt_P sc fm) 178 F Lo 0 [(0, .ref 146), (1, .int a1), (2, .int a2)] [] (hq true c y w) Q := by
  unfold d_178 at h
  obtain ⟨lv, elv⟩ : ∃ lv : rx_L, lv = [(0, .ref 146), (1, .int a1), (2, .int a2)] := ⟨_, rfl⟩
  rw [← elv]
  have l0 : rx_ld lv 0 = some (.ref 146) := by rw [elv]; rfl
  have l1 : rx_ld lv 1 = some (.int a1) := by rw [elv]; rfl
  have l2 : rx_ld lv 2 = some (.int a2) := by rw [elv]; rfl
  refine rs_aldn wi_178_0 l0 ?_
  refine rs_pure wi_178_1 rfl ?_
  refine rs_topi (v := 1) (by decide) ?_
  obtain ⟨c1, e2, h⟩ := wp_lt h
  refine dq_pi wi_178_2 wp_178_33 tf_146_8 (nb_n (by decide)) (nb_f (by decide)) e2 ?_
  refine rs_aldn wi_178_5 l0 ?_
  refine dq_gr wi_178_6 wf_178_29 tf_146_2 ?_
  refine dq_gr wi_178_9 wf_178_59 tf_133_8 ?_
  refine rs_ildn wi_178_12 l1 ?_
  obtain ⟨g3, h⟩ := wp_gd h
  refine dq_iald wi_178_13 t_142 g3 ?_
  obtain ⟨v5, e6, h⟩ := wp_lt h
  refine rs_topi e6 ?_
  refine dl_istn wi_178_14 rfl (fun lv l3 t4 => ?_)
  have l0 := t4 _ _ (by decide) (Or.inl rfl) l0
  have l1 := t4 _ _ (by decide) (Or.inl rfl) l1
  have l2 := t4 _ _ (by decide) (Or.inl rfl) l2
  refine rs_pure wi_178_15 rfl ?_
  refine rs_topi (v := 0) (by decide) ?_
  refine dl_ist wi_178_16 rfl (fun lv l4 t7 => ?_)
  have l0 := t7 _ _ (by decide) (Or.inl rfl) l0
  have l1 := t7 _ _ (by decide) (Or.inl rfl) l1
  have l2 := t7 _ _ (by decide) (Or.inl rfl) l2
  have l3 := t7 _ _ (by decide) (Or.inl rfl) l3
  refine whl_ex (A := fun s8 : Int32 × Int32 × cS => ∀ lv, rx_ld lv 0 = some (.ref 146) → rx_ld lv 1 = some (.int a1) → rx_ld lv 2 = some (.int a2) → rx_ld lv 3 = some (.int s8.1) → rx_ld lv 4 = some (.int s8.2.1) → rs (rt_P sc fm) 178 F Lo 18 lv [] (hq true s8.2.2 y w) Q) (B := (fun x22 : cS => ∀ lv, rx_ld lv 0 = some (.ref 146) → rx_ld lv 1 = some (.int a1) → rx_ld lv 2 = some (.int a2) → rs (rt_P sc fm) 178 F Lo 73 lv [] (hq true x22 y w) Q)) ?_ ?_ _ _ (wp_bind h) _ l0 l1 l2 l3 l4
  · intro s8 h lv l0 l1 l2 l3 l4
    refine rs_ild wi_178_18 l4 ?_
    refine rs_aldn wi_178_20 l0 ?_
    refine dq_gr wi_178_21 wf_178_29 tf_146_2 ?_
    refine dq_gr wi_178_24 wf_178_64 tf_133_10 ?_
    refine rs_ildn wi_178_27 l1 ?_
    obtain ⟨g9, h⟩ := wp_gd h
    refine dq_iald wi_178_28 t_144 g9 ?_
    refine rs_icge (tg := 73) wi_178_29 ⟨by decide, by decide⟩ (fun q => ?_) (fun q => ?_)
    ·
      have h := wp_pos h q
      exact h _ l0 l1 l2
    ·
      have h := wp_neg h q
      refine rs_aldn wi_178_32 l0 ?_
      refine dq_gr wi_178_33 wf_178_29 tf_146_2 ?_
      refine dq_gr wi_178_36 wf_178_67 tf_133_1 ?_
      refine rs_ildn wi_178_39 l3 ?_
      refine rs_aldn wi_178_40 l0 ?_
      refine dq_gr wi_178_41 wf_178_21 tf_146_0 ?_
      refine rs_aldn wi_178_44 l0 ?_
      refine dq_gr wi_178_45 wf_178_29 tf_146_2 ?_
      refine dq_gr wi_178_48 wf_178_70 tf_133_0 ?_
      refine rs_ildn wi_178_51 l3 ?_
      obtain ⟨g10, h⟩ := wp_gd h
      refine dq_lald wi_178_52 t_134 g10 ?_
      refine rs_V wi_178_53 wc_178_74 rfl (dq_isa tf_7_0 wa_9_246) (Nat.le_trans (by decide) hF) (ml_le wm_246 (Nat.le_trans (by decide) hLo)) rfl (sp_246 hw (Nat.le_trans (by decide : 1 ≤ 2 - 1) (Nat.sub_le_sub_right hF 1)) (ml_sub wm_246 (Nat.le_trans (by decide : 23 ≤ 46 - 23) (Nat.sub_le_sub_right hLo 23))) (wp_bind h) (fun v11 h => rs_back1 ?_))
      obtain ⟨g12, h⟩ := wp_gd h
      obtain ⟨c13, e14, h⟩ := wp_lt h
      refine dq_iast wi_178_56 t_135 g12 e14 ?_
      refine rs_aldn wi_178_57 l0 ?_
      refine dq_gr wi_178_58 wf_178_29 tf_146_2 ?_
      refine dq_gr wi_178_61 wf_178_78 tf_133_4 ?_
      refine rs_ildn wi_178_64 l3 ?_
      obtain ⟨g15, h⟩ := wp_gd h
      refine dq_iald wi_178_65 t_138 g15 ?_
      obtain ⟨v17, e18, h⟩ := wp_lt h
      refine rs_topi e18 ?_
      refine dl_istn wi_178_66 rfl (fun lv l3 t16 => ?_)
      have l0 := t16 _ _ (by decide) (Or.inl rfl) l0
      have l1 := t16 _ _ (by decide) (Or.inl rfl) l1
      have l2 := t16 _ _ (by decide) (Or.inl rfl) l2
      have l4 := t16 _ _ (by decide) (Or.inl rfl) l4
      obtain ⟨v20, e21, h⟩ := wp_lt h
      refine dl_inc wi_178_67 l4 rfl e21 (fun lv l4 t19 => ?_)
      have l0 := t19 _ _ (by decide) (Or.inl rfl) l0
      have l1 := t19 _ _ (by decide) (Or.inl rfl) l1
      have l2 := t19 _ _ (by decide) (Or.inl rfl) l2
      have l3 := t19 _ _ (by decide) (Or.inl rfl) l3
      refine rs_goto (tg := 18) wi_178_70 ⟨by decide, by decide⟩ ?_
      exact h _ l0 l1 l2 l3 l4
  ·
    intro x22 h lv l0 l1 l2
    refine rs_aldn wi_178_73 l0 ?_
    refine dq_gr wi_178_74 wf_178_29 tf_146_2 ?_
    refine dq_gr wi_178_77 wf_178_59 tf_133_8 ?_
    refine rs_ildn wi_178_80 l1 ?_
    obtain ⟨g23, h⟩ := wp_gd h
    refine dq_iald wi_178_81 t_142 g23 ?_
    obtain ⟨v25, e26, h⟩ := wp_lt h
    refine rs_topi e26 ?_
    refine dl_istn wi_178_82 rfl (fun lv l3 t24 => ?_)
    have l0 := t24 _ _ (by decide) (Or.inl rfl) l0
    have l1 := t24 _ _ (by decide) (Or.inl rfl) l1
    have l2 := t24 _ _ (by decide) (Or.inl rfl) l2
    refine rs_pure wi_178_83 rfl ?_
    refine rs_topi (v := 0) (by decide) ?_
    refine dl_ist wi_178_84 rfl (fun lv l4 t27 => ?_)
    have l0 := t27 _ _ (by decide) (Or.inl rfl) l0
    have l1 := t27 _ _ (by decide) (Or.inl rfl) l1
    have l2 := t27 _ _ (by decide) (Or.inl rfl) l2
    have l3 := t27 _ _ (by decide) (Or.inl rfl) l3
    refine whl_ex (A := fun s28 : Int32 × Int32 × cS => ∀ lv, rx_ld lv 0 = some (.ref 146) → rx_ld lv 1 = some (.int a1) → rx_ld lv 2 = some (.int a2) → rx_ld lv 3 = some (.int s28.1) → rx_ld lv 4 = some (.int s28.2.1) → rs (rt_P sc fm) 178 F Lo 86 lv [] (hq true s28.2.2 y w) Q) (B := (fun x50 : cS => ∀ lv, rs (rt_P sc fm) 178 F Lo 182 lv [] (hq true x50 y w) Q)) ?_ ?_ _ _ (wp_bind h) _ l0 l1 l2 l3 l4
    · intro s28 h lv l0 l1 l2 l3 l4
      refine rs_ild wi_178_86 l4 ?_
      refine rs_aldn wi_178_88 l0 ?_
      refine dq_gr wi_178_89 wf_178_29 tf_146_2 ?_
      refine dq_gr wi_178_92 wf_178_64 tf_133_10 ?_
      refine rs_ildn wi_178_95 l1 ?_
      obtain ⟨g29, h⟩ := wp_gd h
      refine dq_iald wi_178_96 t_144 g29 ?_
      refine rs_icge (tg := 182) wi_178_97 ⟨by decide, by decide⟩ (fun q => ?_) (fun q => ?_)
      ·
        have h := wp_pos h q
        exact h _
      ·
        have h := wp_neg h q
        refine rs_aldn wi_178_100 l0 ?_
        refine dq_gr wi_178_101 wf_178_29 tf_146_2 ?_
        refine dq_gr wi_178_104 wf_178_67 tf_133_1 ?_
        refine rs_ildn wi_178_107 l3 ?_
        obtain ⟨g30, h⟩ := wp_gd h
        refine dq_iald wi_178_108 t_135 g30 ?_
        obtain ⟨v32, e33, h⟩ := wp_lt h
        refine rs_topi e33 ?_
        refine dl_ist wi_178_109 rfl (fun lv l5 t31 => ?_)
        have l0 := t31 _ _ (by decide) (Or.inl rfl) l0
        have l1 := t31 _ _ (by decide) (Or.inl rfl) l1
        have l2 := t31 _ _ (by decide) (Or.inl rfl) l2
        have l3 := t31 _ _ (by decide) (Or.inl rfl) l3
        have l4 := t31 _ _ (by decide) (Or.inl rfl) l4
        refine rs_aldn wi_178_111 l0 ?_
        refine dq_gr wi_178_112 wf_178_29 tf_146_2 ?_
        refine dq_gr wi_178_115 wf_178_81 tf_133_3 ?_
        refine rs_ildn wi_178_118 l3 ?_
        refine rs_ild wi_178_119 l5 ?_
        refine wp_jn (B := fun p34 : Int32 => ∀ lv, rx_ld lv 0 = some (.ref 146) → rx_ld lv 1 = some (.int a1) → rx_ld lv 2 = some (.int a2) → rx_ld lv 3 = some (.int s28.1) → rx_ld lv 4 = some (.int s28.2.1) → rs (rt_P sc fm) 178 F Lo 165 lv [.int p34, .int s28.1, .ref 137] (hq true s28.2.2 y w) Q) h (fun p34 h lv l0 l1 l2 l3 l4 => ?_) (fun j165 hj165 h => ?_)
        ·
          obtain ⟨g35, h⟩ := wp_gd h
          obtain ⟨c36, e37, h⟩ := wp_lt h
          refine dq_zast wi_178_165 t_137 g35 e37 ?_
          refine rs_aldn wi_178_166 l0 ?_
          refine dq_gr wi_178_167 wf_178_29 tf_146_2 ?_
          refine dq_gr wi_178_170 wf_178_78 tf_133_4 ?_
          refine rs_ildn wi_178_173 l3 ?_
          obtain ⟨g38, h⟩ := wp_gd h
          refine dq_iald wi_178_174 t_138 g38 ?_
          obtain ⟨v40, e41, h⟩ := wp_lt h
          refine rs_topi e41 ?_
          refine dl_istn wi_178_175 rfl (fun lv l3 t39 => ?_)
          have l0 := t39 _ _ (by decide) (Or.inl rfl) l0
          have l1 := t39 _ _ (by decide) (Or.inl rfl) l1
          have l2 := t39 _ _ (by decide) (Or.inl rfl) l2
          have l4 := t39 _ _ (by decide) (Or.inl rfl) l4
          obtain ⟨v43, e44, h⟩ := wp_lt h
          refine dl_inc wi_178_176 l4 rfl e44 (fun lv l4 t42 => ?_)
          have l0 := t42 _ _ (by decide) (Or.inl rfl) l0
          have l1 := t42 _ _ (by decide) (Or.inl rfl) l1
          have l2 := t42 _ _ (by decide) (Or.inl rfl) l2
          have l3 := t42 _ _ (by decide) (Or.inl rfl) l3
          refine rs_goto (tg := 86) wi_178_179 ⟨by decide, by decide⟩ ?_
          exact h _ l0 l1 l2 l3 l4
        refine wp_jn (B := fun p45 : Unit => ∀ lv, rx_ld lv 0 = some (.ref 146) → rx_ld lv 1 = some (.int a1) → rx_ld lv 2 = some (.int a2) → rx_ld lv 3 = some (.int s28.1) → rx_ld lv 4 = some (.int s28.2.1) → rs (rt_P sc fm) 178 F Lo 164 lv [.int s28.1, .ref 137] (hq true s28.2.2 y w) Q) h (fun p45 h lv l0 l1 l2 l3 l4 => ?_) (fun j164 hj164 h => ?_)
        ·
          refine rs_pure wi_178_164 rfl ?_
          refine rs_topi (v := 0) (by decide) ?_
          exact hj165 _ h _ l0 l1 l2 l3 l4
        refine rs_iflt (tg := 164) wi_178_121 ⟨by decide, by decide⟩ (fun q => ?_) (fun q => ?_)
        ·
          have h := wp_pos h q
          exact hj164 _ h _ l0 l1 l2 l3 l4
        ·
          have h := wp_neg h q
          refine rs_aldn wi_178_124 l0 ?_
          refine dq_gr wi_178_125 wf_178_21 tf_146_0 ?_
          refine rs_ild wi_178_128 l5 ?_
          refine rs_ildn wi_178_130 l2 ?_
          refine rs_V wi_178_131 wc_178_85 rfl (dq_isa tf_7_0 wa_9_250) (Nat.le_trans (by decide) hF) (ml_le wm_250 (Nat.le_trans (by decide) hLo)) rfl (sp_250 hw (Nat.le_trans (by decide : 0 ≤ 2 - 1) (Nat.sub_le_sub_right hF 1)) (ml_sub wm_250 (Nat.le_trans (by decide : 0 ≤ 46 - 22) (Nat.sub_le_sub_right hLo 22))) (wp_bind h) (fun v46 h => rs_back1 ?_))
          refine rs_ifeq (tg := 164) wi_178_134 ⟨by decide, by decide⟩ (fun q => ?_) (fun q => ?_)
          ·
            have h := wp_pos h q
            exact hj164 _ h _ l0 l1 l2 l3 l4
          ·
            have h := wp_neg h q
            refine rs_aldn wi_178_137 l0 ?_
            refine dq_gr wi_178_138 wf_178_21 tf_146_0 ?_
            refine rs_ild wi_178_141 l5 ?_
            refine rs_V wi_178_143 wc_178_89 rfl (dq_isa tf_7_0 wa_9_251) (Nat.le_trans (by decide) hF) (ml_le wm_251 (Nat.le_trans (by decide) hLo)) rfl (sp_251 hw (Nat.le_trans (by decide : 0 ≤ 2 - 1) (Nat.sub_le_sub_right hF 1)) (ml_sub wm_251 (Nat.le_trans (by decide : 0 ≤ 46 - 21) (Nat.sub_le_sub_right hLo 21))) (wp_bind h) (fun v47 h => rs_back1 ?_))
            refine wp_jn (B := fun p48 : Unit => ∀ lv, rx_ld lv 0 = some (.ref 146) → rx_ld lv 1 = some (.int a1) → rx_ld lv 2 = some (.int a2) → rx_ld lv 3 = some (.int s28.1) → rx_ld lv 4 = some (.int s28.2.1) → rs (rt_P sc fm) 178 F Lo 160 lv [.int s28.1, .ref 137] (hq true s28.2.2 y w) Q) h (fun p48 h lv l0 l1 l2 l3 l4 => ?_) (fun j160 hj160 h => ?_)
            ·
              refine rs_pure wi_178_160 rfl ?_
              refine rs_topi (v := 1) (by decide) ?_
              refine rs_goto (tg := 165) wi_178_161 ⟨by decide, by decide⟩ ?_
              exact hj165 _ h _ l0 l1 l2 l3 l4
            refine rs_ifne (tg := 160) wi_178_146 ⟨by decide, by decide⟩ (fun q => ?_) (fun q => ?_)
            ·
              have h := wp_neg h q
              exact hj160 _ h _ l0 l1 l2 l3 l4
            ·
              have h := wp_pos h q
              refine rs_aldn wi_178_149 l0 ?_
              refine rs_ildn wi_178_150 l1 ?_
              refine rs_ild wi_178_151 l5 ?_
              refine rs_V wi_178_153 wc_178_93 rfl (dq_isa tf_146_0 wa_4_179) (Nat.le_trans (by decide) hF) (ml_le wm_179 (Nat.le_trans (by decide) hLo)) rfl (sp_179 hw (Nat.le_trans (by decide : 0 ≤ 2 - 1) (Nat.sub_le_sub_right hF 1)) (ml_sub wm_179 (Nat.le_trans (by decide : 0 ≤ 46 - 25) (Nat.sub_le_sub_right hLo 25))) (wp_bind h) (fun v49 h => rs_back1 ?_))
              refine rs_pure wi_178_156 rfl ?_
              refine rs_topi (v := 1) (by decide) ?_
              refine rs_icne (tg := 164) wi_178_157 ⟨by decide, by decide⟩ (fun q => ?_) (fun q => ?_)
              ·
                have h := wp_neg h q
                exact hj164 _ h _ l0 l1 l2 l3 l4
              ·
                have h := wp_pos h q
                exact hj160 _ h _ l0 l1 l2 l3 l4
    ·
      intro x50 h lv
      exact rs_vret wi_178_182 wr_178 (hQ x50 h)
end D47
