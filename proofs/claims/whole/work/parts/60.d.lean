/-! THE CODE AS PURE PROGRAMS, 19: by wip/whole/dc.py -/
section D60
variable {sc : Nat × (Nat → Int32)} {fm : Value}
set_option maxRecDepth 100000 in
theorem wc_469_535 : rx_ct (rt_P sc fm) 469 535 = some (0, 387, 3) := (by decide +kernel : rt_ct 469 535 = some (0, 387, 3))
set_option maxRecDepth 100000 in
theorem wc_469_661 : rx_ct (rt_P sc fm) 469 661 = some (1, 422, 1) := (by decide +kernel : rt_ct 469 661 = some (1, 422, 1))
set_option maxRecDepth 100000 in
theorem wc_469_832 : rx_ct (rt_P sc fm) 469 832 = some (0, 449, 2) := (by decide +kernel : rt_ct 469 832 = some (0, 449, 2))
set_option maxRecDepth 100000 in
theorem wc_469_853 : rx_ct (rt_P sc fm) 469 853 = some (0, 457, 1) := (by decide +kernel : rt_ct 469 853 = some (0, 457, 1))
set_option maxRecDepth 100000 in
theorem wc_469_865 : rx_ct (rt_P sc fm) 469 865 = some (0, 459, 2) := (by decide +kernel : rt_ct 469 865 = some (0, 459, 2))
set_option maxRecDepth 100000 in
theorem wc_469_868 : rx_ct (rt_P sc fm) 469 868 = some (0, 458, 3) := (by decide +kernel : rt_ct 469 868 = some (0, 458, 3))
set_option maxRecDepth 100000 in
theorem wf_469_317 : rx_ft (rt_P sc fm) 469 317 = some (15, 114) := (by decide +kernel : rt_ft 469 317 = some (15, 114))
set_option maxRecDepth 100000 in
theorem wf_469_320 : rx_ft (rt_P sc fm) 469 320 = some (15, 115) := (by decide +kernel : rt_ft 469 320 = some (15, 115))
set_option maxRecDepth 100000 in
theorem wf_469_323 : rx_ft (rt_P sc fm) 469 323 = some (15, 116) := (by decide +kernel : rt_ft 469 323 = some (15, 116))
set_option maxRecDepth 100000 in
theorem wf_469_329 : rx_ft (rt_P sc fm) 469 329 = some (15, 118) := (by decide +kernel : rt_ft 469 329 = some (15, 118))
set_option maxRecDepth 100000 in
theorem wf_469_447 : rx_ft (rt_P sc fm) 469 447 = some (15, 15) := (by decide +kernel : rt_ft 469 447 = some (15, 15))
set_option maxRecDepth 100000 in
theorem wf_469_928 : rx_ft (rt_P sc fm) 469 928 = some (15, 124) := (by decide +kernel : rt_ft 469 928 = some (15, 124))
theorem wi_469_0 : ri (rt_P sc fm) 469 0 (.aload_n 0) (1) := ri_of (by decide +kernel) rfl
theorem wi_469_1 : ri (rt_P sc fm) 469 1 (.getfield 928) (4) := ri_of (by decide +kernel) rfl
theorem wi_469_101 : ri (rt_P sc fm) 469 101 (.goto 57) (104) := ri_of (by decide +kernel) rfl
theorem wi_469_104 : ri (rt_P sc fm) 469 104 (.aload_n 0) (105) := ri_of (by decide +kernel) rfl
theorem wi_469_105 : ri (rt_P sc fm) 469 105 (.dup) (106) := ri_of (by decide +kernel) rfl
theorem wi_469_106 : ri (rt_P sc fm) 469 106 (.getfield 928) (109) := ri_of (by decide +kernel) rfl
theorem wi_469_109 : ri (rt_P sc fm) 469 109 (.iconst 1) (110) := ri_of (by decide +kernel) rfl
theorem wi_469_11 : ri (rt_P sc fm) 469 11 (.iconst 0) (12) := ri_of (by decide +kernel) rfl
theorem wi_469_110 : ri (rt_P sc fm) 469 110 (.iadd) (111) := ri_of (by decide +kernel) rfl
theorem wi_469_111 : ri (rt_P sc fm) 469 111 (.putfield 928) (114) := ri_of (by decide +kernel) rfl
theorem wi_469_114 : ri (rt_P sc fm) 469 114 (.iload_n 3) (115) := ri_of (by decide +kernel) rfl
theorem wi_469_115 : ri (rt_P sc fm) 469 115 (.ifCond .eq 43) (118) := ri_of (by decide +kernel) rfl
theorem wi_469_118 : ri (rt_P sc fm) 469 118 (.aload_n 0) (119) := ri_of (by decide +kernel) rfl
theorem wi_469_119 : ri (rt_P sc fm) 469 119 (.getfield 928) (122) := ri_of (by decide +kernel) rfl
theorem wi_469_12 : ri (rt_P sc fm) 469 12 (.istore_n 3) (13) := ri_of (by decide +kernel) rfl
theorem wi_469_122 : ri (rt_P sc fm) 469 122 (.iconst 1) (123) := ri_of (by decide +kernel) rfl
theorem wi_469_123 : ri (rt_P sc fm) 469 123 (.if_icmp .le 6) (126) := ri_of (by decide +kernel) rfl
theorem wi_469_126 : ri (rt_P sc fm) 469 126 (.goto 32) (129) := ri_of (by decide +kernel) rfl
theorem wi_469_129 : ri (rt_P sc fm) 469 129 (.aload_n 0) (130) := ri_of (by decide +kernel) rfl
theorem wi_469_13 : ri (rt_P sc fm) 469 13 (.iconst 0) (14) := ri_of (by decide +kernel) rfl
theorem wi_469_130 : ri (rt_P sc fm) 469 130 (.aload_n 0) (131) := ri_of (by decide +kernel) rfl
theorem wi_469_131 : ri (rt_P sc fm) 469 131 (.getfield 317) (134) := ri_of (by decide +kernel) rfl
theorem wi_469_134 : ri (rt_P sc fm) 469 134 (.iload_n 1) (135) := ri_of (by decide +kernel) rfl
theorem wi_469_135 : ri (rt_P sc fm) 469 135 (.iaload) (136) := ri_of (by decide +kernel) rfl
theorem wi_469_136 : ri (rt_P sc fm) 469 136 (.invokestatic 661) (139) := ri_of (by decide +kernel) rfl
theorem wi_469_139 : ri (rt_P sc fm) 469 139 (.putfield 931) (142) := ri_of (by decide +kernel) rfl
theorem wi_469_14 : ri (rt_P sc fm) 469 14 (.istore 4) (16) := ri_of (by decide +kernel) rfl
theorem wi_469_142 : ri (rt_P sc fm) 469 142 (.aload_n 0) (143) := ri_of (by decide +kernel) rfl
theorem wi_469_143 : ri (rt_P sc fm) 469 143 (.aload_n 0) (144) := ri_of (by decide +kernel) rfl
theorem wi_469_144 : ri (rt_P sc fm) 469 144 (.getfield 320) (147) := ri_of (by decide +kernel) rfl
theorem wi_469_147 : ri (rt_P sc fm) 469 147 (.iload_n 1) (148) := ri_of (by decide +kernel) rfl
theorem wi_469_148 : ri (rt_P sc fm) 469 148 (.iaload) (149) := ri_of (by decide +kernel) rfl
theorem wi_469_149 : ri (rt_P sc fm) 469 149 (.putfield 934) (152) := ri_of (by decide +kernel) rfl
theorem wi_469_152 : ri (rt_P sc fm) 469 152 (.aload_n 0) (153) := ri_of (by decide +kernel) rfl
theorem wi_469_153 : ri (rt_P sc fm) 469 153 (.iload 4) (155) := ri_of (by decide +kernel) rfl
theorem wi_469_155 : ri (rt_P sc fm) 469 155 (.putfield 937) (158) := ri_of (by decide +kernel) rfl
theorem wi_469_158 : ri (rt_P sc fm) 469 158 (.iinc 5 1) (161) := ri_of (by decide +kernel) rfl
theorem wi_469_16 : ri (rt_P sc fm) 469 16 (.iload 4) (18) := ri_of (by decide +kernel) rfl
theorem wi_469_161 : ri (rt_P sc fm) 469 161 (.goto (-133)) (164) := ri_of (by decide +kernel) rfl
theorem wi_469_164 : ri (rt_P sc fm) 469 164 (.iinc 4 1) (167) := ri_of (by decide +kernel) rfl
theorem wi_469_167 : ri (rt_P sc fm) 469 167 (.goto (-151)) (170) := ri_of (by decide +kernel) rfl
theorem wi_469_170 : ri (rt_P sc fm) 469 170 (.return_) (171) := ri_of (by decide +kernel) rfl
theorem wi_469_18 : ri (rt_P sc fm) 469 18 (.aload_n 0) (19) := ri_of (by decide +kernel) rfl
theorem wi_469_19 : ri (rt_P sc fm) 469 19 (.getfield 447) (22) := ri_of (by decide +kernel) rfl
theorem wi_469_22 : ri (rt_P sc fm) 469 22 (.if_icmp .ge 148) (25) := ri_of (by decide +kernel) rfl
theorem wi_469_25 : ri (rt_P sc fm) 469 25 (.iconst 0) (26) := ri_of (by decide +kernel) rfl
theorem wi_469_26 : ri (rt_P sc fm) 469 26 (.istore 5) (28) := ri_of (by decide +kernel) rfl
theorem wi_469_28 : ri (rt_P sc fm) 469 28 (.iload 5) (30) := ri_of (by decide +kernel) rfl
theorem wi_469_30 : ri (rt_P sc fm) 469 30 (.aload_n 0) (31) := ri_of (by decide +kernel) rfl
theorem wi_469_31 : ri (rt_P sc fm) 469 31 (.iload_n 2) (32) := ri_of (by decide +kernel) rfl
theorem wi_469_32 : ri (rt_P sc fm) 469 32 (.invokevirtual 853) (35) := ri_of (by decide +kernel) rfl
theorem wi_469_35 : ri (rt_P sc fm) 469 35 (.if_icmp .ge 129) (38) := ri_of (by decide +kernel) rfl
theorem wi_469_38 : ri (rt_P sc fm) 469 38 (.aload_n 0) (39) := ri_of (by decide +kernel) rfl
theorem wi_469_39 : ri (rt_P sc fm) 469 39 (.aload_n 0) (40) := ri_of (by decide +kernel) rfl
theorem wi_469_4 : ri (rt_P sc fm) 469 4 (.ifCond .ne 7) (7) := ri_of (by decide +kernel) rfl
theorem wi_469_40 : ri (rt_P sc fm) 469 40 (.aload_n 0) (41) := ri_of (by decide +kernel) rfl
theorem wi_469_41 : ri (rt_P sc fm) 469 41 (.getfield 317) (44) := ri_of (by decide +kernel) rfl
theorem wi_469_44 : ri (rt_P sc fm) 469 44 (.iload_n 1) (45) := ri_of (by decide +kernel) rfl
theorem wi_469_45 : ri (rt_P sc fm) 469 45 (.iaload) (46) := ri_of (by decide +kernel) rfl
theorem wi_469_46 : ri (rt_P sc fm) 469 46 (.iload_n 2) (47) := ri_of (by decide +kernel) rfl
theorem wi_469_47 : ri (rt_P sc fm) 469 47 (.iload 5) (49) := ri_of (by decide +kernel) rfl
theorem wi_469_49 : ri (rt_P sc fm) 469 49 (.invokevirtual 868) (52) := ri_of (by decide +kernel) rfl
theorem wi_469_52 : ri (rt_P sc fm) 469 52 (.iload 4) (54) := ri_of (by decide +kernel) rfl
theorem wi_469_54 : ri (rt_P sc fm) 469 54 (.invokevirtual 832) (57) := ri_of (by decide +kernel) rfl
theorem wi_469_57 : ri (rt_P sc fm) 469 57 (.istore 6) (59) := ri_of (by decide +kernel) rfl
theorem wi_469_59 : ri (rt_P sc fm) 469 59 (.aload_n 0) (60) := ri_of (by decide +kernel) rfl
theorem wi_469_60 : ri (rt_P sc fm) 469 60 (.iload 4) (62) := ri_of (by decide +kernel) rfl
theorem wi_469_62 : ri (rt_P sc fm) 469 62 (.aload_n 0) (63) := ri_of (by decide +kernel) rfl
theorem wi_469_63 : ri (rt_P sc fm) 469 63 (.getfield 329) (66) := ri_of (by decide +kernel) rfl
theorem wi_469_66 : ri (rt_P sc fm) 469 66 (.iconst 4) (67) := ri_of (by decide +kernel) rfl
theorem wi_469_67 : ri (rt_P sc fm) 469 67 (.bipush 16) (69) := ri_of (by decide +kernel) rfl
theorem wi_469_69 : ri (rt_P sc fm) 469 69 (.iload_n 1) (70) := ri_of (by decide +kernel) rfl
theorem wi_469_7 : ri (rt_P sc fm) 469 7 (.iconst 1) (8) := ri_of (by decide +kernel) rfl
theorem wi_469_70 : ri (rt_P sc fm) 469 70 (.imul) (71) := ri_of (by decide +kernel) rfl
theorem wi_469_71 : ri (rt_P sc fm) 469 71 (.aload_n 0) (72) := ri_of (by decide +kernel) rfl
theorem wi_469_72 : ri (rt_P sc fm) 469 72 (.getfield 323) (75) := ri_of (by decide +kernel) rfl
theorem wi_469_75 : ri (rt_P sc fm) 469 75 (.iload_n 1) (76) := ri_of (by decide +kernel) rfl
theorem wi_469_76 : ri (rt_P sc fm) 469 76 (.iaload) (77) := ri_of (by decide +kernel) rfl
theorem wi_469_77 : ri (rt_P sc fm) 469 77 (.iadd) (78) := ri_of (by decide +kernel) rfl
theorem wi_469_78 : ri (rt_P sc fm) 469 78 (.iconst 1) (79) := ri_of (by decide +kernel) rfl
theorem wi_469_79 : ri (rt_P sc fm) 469 79 (.isub) (80) := ri_of (by decide +kernel) rfl
theorem wi_469_8 : ri (rt_P sc fm) 469 8 (.goto 4) (11) := ri_of (by decide +kernel) rfl
theorem wi_469_80 : ri (rt_P sc fm) 469 80 (.aload_n 0) (81) := ri_of (by decide +kernel) rfl
theorem wi_469_81 : ri (rt_P sc fm) 469 81 (.iload_n 2) (82) := ri_of (by decide +kernel) rfl
theorem wi_469_82 : ri (rt_P sc fm) 469 82 (.iload 5) (84) := ri_of (by decide +kernel) rfl
theorem wi_469_84 : ri (rt_P sc fm) 469 84 (.invokevirtual 865) (87) := ri_of (by decide +kernel) rfl
theorem wi_469_87 : ri (rt_P sc fm) 469 87 (.isub) (88) := ri_of (by decide +kernel) rfl
theorem wi_469_88 : ri (rt_P sc fm) 469 88 (.imul) (89) := ri_of (by decide +kernel) rfl
theorem wi_469_89 : ri (rt_P sc fm) 469 89 (.iload 4) (91) := ri_of (by decide +kernel) rfl
theorem wi_469_91 : ri (rt_P sc fm) 469 91 (.iadd) (92) := ri_of (by decide +kernel) rfl
theorem wi_469_92 : ri (rt_P sc fm) 469 92 (.iaload) (93) := ri_of (by decide +kernel) rfl
theorem wi_469_93 : ri (rt_P sc fm) 469 93 (.iload 6) (95) := ri_of (by decide +kernel) rfl
theorem wi_469_95 : ri (rt_P sc fm) 469 95 (.invokevirtual 535) (98) := ri_of (by decide +kernel) rfl
theorem wi_469_98 : ri (rt_P sc fm) 469 98 (.ifCond .eq 6) (101) := ri_of (by decide +kernel) rfl
set_option maxRecDepth 100000 in
theorem wp_469_928 : rx_pt (rt_P sc fm) 469 928 = some (15, 124, .int) := (by decide +kernel : rt_pt 469 928 = some (15, 124, .int))
set_option maxRecDepth 100000 in
theorem wp_469_931 : rx_pt (rt_P sc fm) 469 931 = some (15, 125, .int) := (by decide +kernel : rt_pt 469 931 = some (15, 125, .int))
set_option maxRecDepth 100000 in
theorem wp_469_934 : rx_pt (rt_P sc fm) 469 934 = some (15, 126, .int) := (by decide +kernel : rt_pt 469 934 = some (15, 126, .int))
set_option maxRecDepth 100000 in
theorem wp_469_937 : rx_pt (rt_P sc fm) 469 937 = some (15, 127, .int) := (by decide +kernel : rt_pt 469 937 = some (15, 127, .int))
set_option maxRecDepth 100000 in
theorem wr_469 : rx_rt (rt_P sc fm) 469 = none := (by decide +kernel : rt_rt 469 = none)
/-- MarkHouseModel.leaves(II)V -/
def d_469 (n : Nat) (a1 : Int32) (a2 : Int32) (c : cS) : Option (cS) :=
  jn (fun p1 : Int32 =>
    Option.bind (whl (R := (cS)) (fun s4 : Int32 × cS =>
      if (s4.2.1 174 15) ≤ s4.1 then
        some (.inr s4.2)
      else
        Option.bind (whl (R := (cS)) (fun s6 : Int32 × cS =>
          Option.bind (d_457 n a2 s6.2) (fun v7 =>
          if v7 ≤ s6.1 then
            some (.inr s6.2)
          else
            if ib a1 12 then
            Option.bind (d_458 n (s6.2.1 253 (ix a1)) a2 s6.1 s6.2) (fun v9 =>
            Option.bind (d_449 n v9 s4.1 s6.2) (fun r10 =>
            if ib a1 12 then
            Option.bind (d_459 n a2 s6.1 r10.2) (fun v13 =>
            if ib ((4 * ((((16 * a1) + (r10.2.1 255 (ix a1))) - 1) - v13)) + s4.1) 768 then
            Option.bind (d_387 n s4.1 (r10.2.1 257 (ix ((4 * ((((16 * a1) + (r10.2.1 255 (ix a1))) - 1) - v13)) + s4.1))) r10.1 r10.2) (fun v15 =>
            jn (fun p16 : cS =>
              lt (s6.1 + 1 : Int32) (fun v18 =>
              some (.inl (v18, p16))))
            (fun j158 =>
            if v15 = 0 then
              lt (pI r10.2 174 124 ((r10.2.1 174 124) + 1)) (fun c20 =>
              if p1 = 0 then
                j158 c20
              else
                if (c20.1 174 124) ≤ 1 then
                  if ib a1 12 then
                  Option.bind (d_422 n (c20.1 253 (ix a1))) (fun v23 =>
                  lt (pI c20 174 125 v23) (fun c24 =>
                  if ib a1 12 then
                  lt (pI c24 174 126 (c24.1 254 (ix a1))) (fun c27 =>
                  lt (pI c27 174 127 s4.1) (fun c29 =>
                  j158 c29))
                  else none))
                  else none
                else
                  j158 c20)
            else
              j158 r10.2))
            else none)
            else none))
            else none)) n (0, s4.2))
        (fun x31 : cS =>
          lt (s4.1 + 1 : Int32) (fun v33 =>
          some (.inl (v33, x31))))) n (0, c))
    (fun x35 : cS =>
      some x35))
  (fun j12 =>
  if (c.1 174 124) = 0 then
    j12 1
  else
    j12 0)
set_option maxRecDepth 100000 in
set_option maxHeartbeats 4000000 in
theorem sp_469 {F Lo n : Nat} {a1 : Int32} {a2 : Int32} {c y : cS} {w : cW} {K : cS → Prop} {Q : ((Option Value) ⊕ String) → List va_E → Prop} (hw : rOK fm w) (hF : 5 ≤ F) (hLo : 127 ≤ Lo)  (h : wp (d_469 n a1 a2 c) K) (hQ : ∀ r, K r → Q (.inl none) (hq false r y w)) : rs (rt_P sc fm) 469 F Lo 0 [(0, .ref 174), (1, .int a1), (2, .int a2)] [] (hq false c y w) Q := by
  unfold d_469 at h
  obtain ⟨lv, elv⟩ : ∃ lv : rx_L, lv = [(0, .ref 174), (1, .int a1), (2, .int a2)] := ⟨_, rfl⟩
  rw [← elv]
  have l0 : rx_ld lv 0 = some (.ref 174) := by rw [elv]; rfl
  have l1 : rx_ld lv 1 = some (.int a1) := by rw [elv]; rfl
  have l2 : rx_ld lv 2 = some (.int a2) := by rw [elv]; rfl
  refine rs_aldn wi_469_0 l0 ?_
  refine dq_gi wi_469_1 wf_469_928 tf_174_124 ?_
  refine wp_jn (B := fun p1 : Int32 => ∀ lv, rx_ld lv 0 = some (.ref 174) → rx_ld lv 1 = some (.int a1) → rx_ld lv 2 = some (.int a2) → rs (rt_P sc fm) 469 F Lo 12 lv [.int p1] (hq false c y w) Q) h (fun p1 h lv l0 l1 l2 => ?_) (fun j12 hj12 h => ?_)
  ·
    refine dl_istn wi_469_12 rfl (fun lv l3 t2 => ?_)
    have l0 := t2 _ _ (by decide) (Or.inl rfl) l0
    have l1 := t2 _ _ (by decide) (Or.inl rfl) l1
    have l2 := t2 _ _ (by decide) (Or.inl rfl) l2
    refine rs_pure wi_469_13 rfl ?_
    refine rs_topi (v := 0) (by decide) ?_
    refine dl_ist wi_469_14 rfl (fun lv l4 t3 => ?_)
    have l0 := t3 _ _ (by decide) (Or.inl rfl) l0
    have l1 := t3 _ _ (by decide) (Or.inl rfl) l1
    have l2 := t3 _ _ (by decide) (Or.inl rfl) l2
    have l3 := t3 _ _ (by decide) (Or.inl rfl) l3
    refine whl_ex (A := fun s4 : Int32 × cS => ∀ lv, rx_ld lv 0 = some (.ref 174) → rx_ld lv 1 = some (.int a1) → rx_ld lv 2 = some (.int a2) → rx_ld lv 3 = some (.int p1) → rx_ld lv 4 = some (.int s4.1) → rs (rt_P sc fm) 469 F Lo 16 lv [] (hq false s4.2 y w) Q) (B := (fun x35 : cS => ∀ lv, rs (rt_P sc fm) 469 F Lo 170 lv [] (hq false x35 y w) Q)) ?_ ?_ _ _ (wp_bind h) _ l0 l1 l2 l3 l4
    · intro s4 h lv l0 l1 l2 l3 l4
      refine rs_ild wi_469_16 l4 ?_
      refine rs_aldn wi_469_18 l0 ?_
      refine dq_gi wi_469_19 wf_469_447 tf_174_15 ?_
      refine rs_icge (tg := 170) wi_469_22 ⟨by decide, by decide⟩ (fun q => ?_) (fun q => ?_)
      ·
        have h := wp_pos h q
        exact h _
      ·
        have h := wp_neg h q
        refine rs_pure wi_469_25 rfl ?_
        refine rs_topi (v := 0) (by decide) ?_
        refine dl_ist wi_469_26 rfl (fun lv l5 t5 => ?_)
        have l0 := t5 _ _ (by decide) (Or.inl rfl) l0
        have l1 := t5 _ _ (by decide) (Or.inl rfl) l1
        have l2 := t5 _ _ (by decide) (Or.inl rfl) l2
        have l3 := t5 _ _ (by decide) (Or.inl rfl) l3
        have l4 := t5 _ _ (by decide) (Or.inl rfl) l4
        refine whl_ex (A := fun s6 : Int32 × cS => ∀ lv, rx_ld lv 0 = some (.ref 174) → rx_ld lv 1 = some (.int a1) → rx_ld lv 2 = some (.int a2) → rx_ld lv 3 = some (.int p1) → rx_ld lv 4 = some (.int s4.1) → rx_ld lv 5 = some (.int s6.1) → rs (rt_P sc fm) 469 F Lo 28 lv [] (hq false s6.2 y w) Q) (B := (fun x31 : cS => ∀ lv, rx_ld lv 0 = some (.ref 174) → rx_ld lv 1 = some (.int a1) → rx_ld lv 2 = some (.int a2) → rx_ld lv 3 = some (.int p1) → rx_ld lv 4 = some (.int s4.1) → rs (rt_P sc fm) 469 F Lo 164 lv [] (hq false x31 y w) Q)) ?_ ?_ _ _ (wp_bind h) _ l0 l1 l2 l3 l4 l5
        · intro s6 h lv l0 l1 l2 l3 l4 l5
          refine rs_ild wi_469_28 l5 ?_
          refine rs_aldn wi_469_30 l0 ?_
          refine rs_ildn wi_469_31 l2 ?_
          refine rs_V wi_469_32 wc_469_853 rfl (dq_isa tf_174_0 wa_15_457) (Nat.le_trans (by decide) hF) (ml_le wm_457 (Nat.le_trans (by decide) hLo)) rfl (sp_457 hw (Nat.le_trans (by decide : 0 ≤ 5 - 1) (Nat.sub_le_sub_right hF 1)) (ml_sub wm_457 (Nat.le_trans (by decide : 0 ≤ 127 - 21) (Nat.sub_le_sub_right hLo 21))) (wp_bind h) (fun v7 h => rs_back1 ?_))
          refine rs_icge (tg := 164) wi_469_35 ⟨by decide, by decide⟩ (fun q => ?_) (fun q => ?_)
          ·
            have h := wp_pos h q
            exact h _ l0 l1 l2 l3 l4
          ·
            have h := wp_neg h q
            refine rs_aldn wi_469_38 l0 ?_
            refine rs_aldn wi_469_39 l0 ?_
            refine rs_aldn wi_469_40 l0 ?_
            refine dq_gr wi_469_41 wf_469_317 tf_174_114 ?_
            refine rs_ildn wi_469_44 l1 ?_
            obtain ⟨g8, h⟩ := wp_gd h
            refine dq_iald wi_469_45 t_253 g8 ?_
            refine rs_ildn wi_469_46 l2 ?_
            refine rs_ild wi_469_47 l5 ?_
            refine rs_V wi_469_49 wc_469_868 rfl (dq_isa tf_174_0 wa_15_458) (Nat.le_trans (by decide) hF) (ml_le wm_458 (Nat.le_trans (by decide) hLo)) rfl (sp_458 hw (Nat.le_trans (by decide : 1 ≤ 5 - 1) (Nat.sub_le_sub_right hF 1)) (ml_sub wm_458 (Nat.le_trans (by decide : 21 ≤ 127 - 23) (Nat.sub_le_sub_right hLo 23))) (wp_bind h) (fun v9 h => rs_back1 ?_))
            refine rs_ild wi_469_52 l4 ?_
            refine rs_V wi_469_54 wc_469_832 rfl (dq_isa tf_174_0 wa_15_449) (Nat.le_trans (by decide) hF) (ml_le wm_449 (Nat.le_trans (by decide) hLo)) rfl (sp_449 hw (Nat.le_trans (by decide : 4 ≤ 5 - 1) (Nat.sub_le_sub_right hF 1)) (ml_sub wm_449 (Nat.le_trans (by decide : 105 ≤ 127 - 22) (Nat.sub_le_sub_right hLo 22))) (wp_bind h) (fun r10 h => rs_back1 ?_))
            refine dl_ist wi_469_57 rfl (fun lv l6 t11 => ?_)
            have l0 := t11 _ _ (by decide) (Or.inl rfl) l0
            have l1 := t11 _ _ (by decide) (Or.inl rfl) l1
            have l2 := t11 _ _ (by decide) (Or.inl rfl) l2
            have l3 := t11 _ _ (by decide) (Or.inl rfl) l3
            have l4 := t11 _ _ (by decide) (Or.inl rfl) l4
            have l5 := t11 _ _ (by decide) (Or.inl rfl) l5
            refine rs_aldn wi_469_59 l0 ?_
            refine rs_ild wi_469_60 l4 ?_
            refine rs_aldn wi_469_62 l0 ?_
            refine dq_gr wi_469_63 wf_469_329 tf_174_118 ?_
            refine rs_pure wi_469_66 rfl ?_
            refine rs_topi (v := 4) (by decide) ?_
            refine rs_pure wi_469_67 rfl ?_
            refine rs_topi (v := 16) (by decide) ?_
            refine rs_ildn wi_469_69 l1 ?_
            refine rs_pure wi_469_70 rfl ?_
            refine rs_aldn wi_469_71 l0 ?_
            refine dq_gr wi_469_72 wf_469_323 tf_174_116 ?_
            refine rs_ildn wi_469_75 l1 ?_
            obtain ⟨g12, h⟩ := wp_gd h
            refine dq_iald wi_469_76 t_255 g12 ?_
            refine rs_pure wi_469_77 rfl ?_
            refine rs_pure wi_469_78 rfl ?_
            refine rs_topi (v := 1) (by decide) ?_
            refine rs_pure wi_469_79 rfl ?_
            refine rs_aldn wi_469_80 l0 ?_
            refine rs_ildn wi_469_81 l2 ?_
            refine rs_ild wi_469_82 l5 ?_
            refine rs_V wi_469_84 wc_469_865 rfl (dq_isa tf_174_0 wa_15_459) (Nat.le_trans (by decide) hF) (ml_le wm_459 (Nat.le_trans (by decide) hLo)) rfl (sp_459 hw (Nat.le_trans (by decide : 1 ≤ 5 - 1) (Nat.sub_le_sub_right hF 1)) (ml_sub wm_459 (Nat.le_trans (by decide : 21 ≤ 127 - 22) (Nat.sub_le_sub_right hLo 22))) (wp_bind h) (fun v13 h => rs_back1 ?_))
            refine rs_pure wi_469_87 rfl ?_
            refine rs_pure wi_469_88 rfl ?_
            refine rs_ild wi_469_89 l4 ?_
            refine rs_pure wi_469_91 rfl ?_
            obtain ⟨g14, h⟩ := wp_gd h
            refine dq_iald wi_469_92 t_257 g14 ?_
            refine rs_ild wi_469_93 l6 ?_
            refine rs_V wi_469_95 wc_469_535 rfl (dq_isa tf_174_0 wa_15_387) (Nat.le_trans (by decide) hF) (ml_le wm_387 (Nat.le_trans (by decide) hLo)) rfl (sp_387 hw (Nat.le_trans (by decide : 1 ≤ 5 - 1) (Nat.sub_le_sub_right hF 1)) (ml_sub wm_387 (Nat.le_trans (by decide : 23 ≤ 127 - 23) (Nat.sub_le_sub_right hLo 23))) (wp_bind h) (fun v15 h => rs_back1 ?_))
            refine wp_jn (B := fun p16 : cS => ∀ lv, rx_ld lv 0 = some (.ref 174) → rx_ld lv 1 = some (.int a1) → rx_ld lv 2 = some (.int a2) → rx_ld lv 3 = some (.int p1) → rx_ld lv 4 = some (.int s4.1) → rx_ld lv 5 = some (.int s6.1) → rs (rt_P sc fm) 469 F Lo 158 lv [] (hq false p16 y w) Q) h (fun p16 h lv l0 l1 l2 l3 l4 l5 => ?_) (fun j158 hj158 h => ?_)
            ·
              obtain ⟨v18, e19, h⟩ := wp_lt h
              refine dl_inc wi_469_158 l5 rfl e19 (fun lv l5 t17 => ?_)
              have l0 := t17 _ _ (by decide) (Or.inl rfl) l0
              have l1 := t17 _ _ (by decide) (Or.inl rfl) l1
              have l2 := t17 _ _ (by decide) (Or.inl rfl) l2
              have l3 := t17 _ _ (by decide) (Or.inl rfl) l3
              have l4 := t17 _ _ (by decide) (Or.inl rfl) l4
              refine rs_goto (tg := 28) wi_469_161 ⟨by decide, by decide⟩ ?_
              exact h _ l0 l1 l2 l3 l4 l5
            refine rs_ifeq (tg := 104) wi_469_98 ⟨by decide, by decide⟩ (fun q => ?_) (fun q => ?_)
            ·
              have h := wp_pos h q
              refine rs_aldn wi_469_104 l0 ?_
              refine rs_pure wi_469_105 rfl ?_
              refine dq_gi wi_469_106 wf_469_928 tf_174_124 ?_
              refine rs_pure wi_469_109 rfl ?_
              refine rs_topi (v := 1) (by decide) ?_
              refine rs_pure wi_469_110 rfl ?_
              obtain ⟨c20, e21, h⟩ := wp_lt h
              refine dq_pi wi_469_111 wp_469_928 tf_174_124 rfl rfl e21 ?_
              refine rs_ildn wi_469_114 l3 ?_
              refine rs_ifeq (tg := 158) wi_469_115 ⟨by decide, by decide⟩ (fun q => ?_) (fun q => ?_)
              ·
                have h := wp_pos h q
                exact hj158 _ h _ l0 l1 l2 l3 l4 l5
              ·
                have h := wp_neg h q
                refine rs_aldn wi_469_118 l0 ?_
                refine dq_gi wi_469_119 wf_469_928 tf_174_124 ?_
                refine rs_pure wi_469_122 rfl ?_
                refine rs_topi (v := 1) (by decide) ?_
                refine rs_icle (tg := 129) wi_469_123 ⟨by decide, by decide⟩ (fun q => ?_) (fun q => ?_)
                ·
                  have h := wp_pos h q
                  refine rs_aldn wi_469_129 l0 ?_
                  refine rs_aldn wi_469_130 l0 ?_
                  refine dq_gr wi_469_131 wf_469_317 tf_174_114 ?_
                  refine rs_ildn wi_469_134 l1 ?_
                  obtain ⟨g22, h⟩ := wp_gd h
                  refine dq_iald wi_469_135 t_253 g22 ?_
                  refine rs_S wi_469_136 wc_469_661 (Or.inl rfl) rfl (Nat.le_trans (by decide) hF) (ml_le wm_422 (Nat.le_trans (by decide) hLo)) rfl (sp_422 (Nat.le_trans (by decide : 0 ≤ 5 - 1) (Nat.sub_le_sub_right hF 1)) (ml_sub wm_422 (Nat.le_trans (by decide : 0 ≤ 127 - 20) (Nat.sub_le_sub_right hLo 20))) (wp_bind h) (fun v23 h => rs_back1 ?_))
                  obtain ⟨c24, e25, h⟩ := wp_lt h
                  refine dq_pi wi_469_139 wp_469_931 tf_174_125 rfl rfl e25 ?_
                  refine rs_aldn wi_469_142 l0 ?_
                  refine rs_aldn wi_469_143 l0 ?_
                  refine dq_gr wi_469_144 wf_469_320 tf_174_115 ?_
                  refine rs_ildn wi_469_147 l1 ?_
                  obtain ⟨g26, h⟩ := wp_gd h
                  refine dq_iald wi_469_148 t_254 g26 ?_
                  obtain ⟨c27, e28, h⟩ := wp_lt h
                  refine dq_pi wi_469_149 wp_469_934 tf_174_126 rfl rfl e28 ?_
                  refine rs_aldn wi_469_152 l0 ?_
                  refine rs_ild wi_469_153 l4 ?_
                  obtain ⟨c29, e30, h⟩ := wp_lt h
                  refine dq_pi wi_469_155 wp_469_937 tf_174_127 rfl rfl e30 ?_
                  exact hj158 _ h _ l0 l1 l2 l3 l4 l5
                ·
                  have h := wp_neg h q
                  refine rs_goto (tg := 158) wi_469_126 ⟨by decide, by decide⟩ ?_
                  exact hj158 _ h _ l0 l1 l2 l3 l4 l5
            ·
              have h := wp_neg h q
              refine rs_goto (tg := 158) wi_469_101 ⟨by decide, by decide⟩ ?_
              exact hj158 _ h _ l0 l1 l2 l3 l4 l5
        ·
          intro x31 h lv l0 l1 l2 l3 l4
          obtain ⟨v33, e34, h⟩ := wp_lt h
          refine dl_inc wi_469_164 l4 rfl e34 (fun lv l4 t32 => ?_)
          have l0 := t32 _ _ (by decide) (Or.inl rfl) l0
          have l1 := t32 _ _ (by decide) (Or.inl rfl) l1
          have l2 := t32 _ _ (by decide) (Or.inl rfl) l2
          have l3 := t32 _ _ (by decide) (Or.inl rfl) l3
          refine rs_goto (tg := 16) wi_469_167 ⟨by decide, by decide⟩ ?_
          exact h _ l0 l1 l2 l3 l4
    ·
      intro x35 h lv
      exact rs_vret wi_469_170 wr_469 (hQ x35 h)
  refine rs_ifne (tg := 11) wi_469_4 ⟨by decide, by decide⟩ (fun q => ?_) (fun q => ?_)
  ·
    have h := wp_neg h q
    refine rs_pure wi_469_11 rfl ?_
    refine rs_topi (v := 0) (by decide) ?_
    exact hj12 _ h _ l0 l1 l2
  ·
    have h := wp_pos h q
    refine rs_pure wi_469_7 rfl ?_
    refine rs_topi (v := 1) (by decide) ?_
    refine rs_goto (tg := 12) wi_469_8 ⟨by decide, by decide⟩ ?_
    exact hj12 _ h _ l0 l1 l2
set_option maxRecDepth 100000 in
theorem wf_467_326 : rx_ft (rt_P sc fm) 467 326 = some (15, 117) := (by decide +kernel : rt_ft 467 326 = some (15, 117))
set_option maxRecDepth 100000 in
theorem wf_467_329 : rx_ft (rt_P sc fm) 467 329 = some (15, 118) := (by decide +kernel : rt_ft 467 329 = some (15, 118))
set_option maxRecDepth 100000 in
theorem wf_467_447 : rx_ft (rt_P sc fm) 467 447 = some (15, 15) := (by decide +kernel : rt_ft 467 447 = some (15, 15))
theorem wi_467_0 : ri (rt_P sc fm) 467 0 (.aload_n 0) (1) := ri_of (by decide +kernel) rfl
theorem wi_467_1 : ri (rt_P sc fm) 467 1 (.getfield 326) (4) := ri_of (by decide +kernel) rfl
theorem wi_467_10 : ri (rt_P sc fm) 467 10 (.iaload) (11) := ri_of (by decide +kernel) rfl
theorem wi_467_11 : ri (rt_P sc fm) 467 11 (.iastore) (12) := ri_of (by decide +kernel) rfl
theorem wi_467_12 : ri (rt_P sc fm) 467 12 (.iconst 0) (13) := ri_of (by decide +kernel) rfl
theorem wi_467_13 : ri (rt_P sc fm) 467 13 (.istore_n 3) (14) := ri_of (by decide +kernel) rfl
theorem wi_467_14 : ri (rt_P sc fm) 467 14 (.iload_n 3) (15) := ri_of (by decide +kernel) rfl
theorem wi_467_15 : ri (rt_P sc fm) 467 15 (.aload_n 0) (16) := ri_of (by decide +kernel) rfl
theorem wi_467_16 : ri (rt_P sc fm) 467 16 (.getfield 447) (19) := ri_of (by decide +kernel) rfl
theorem wi_467_19 : ri (rt_P sc fm) 467 19 (.if_icmp .ge 29) (22) := ri_of (by decide +kernel) rfl
theorem wi_467_22 : ri (rt_P sc fm) 467 22 (.aload_n 0) (23) := ri_of (by decide +kernel) rfl
theorem wi_467_23 : ri (rt_P sc fm) 467 23 (.getfield 329) (26) := ri_of (by decide +kernel) rfl
theorem wi_467_26 : ri (rt_P sc fm) 467 26 (.iconst 4) (27) := ri_of (by decide +kernel) rfl
theorem wi_467_27 : ri (rt_P sc fm) 467 27 (.iload_n 1) (28) := ri_of (by decide +kernel) rfl
theorem wi_467_28 : ri (rt_P sc fm) 467 28 (.imul) (29) := ri_of (by decide +kernel) rfl
theorem wi_467_29 : ri (rt_P sc fm) 467 29 (.iload_n 3) (30) := ri_of (by decide +kernel) rfl
theorem wi_467_30 : ri (rt_P sc fm) 467 30 (.iadd) (31) := ri_of (by decide +kernel) rfl
theorem wi_467_31 : ri (rt_P sc fm) 467 31 (.aload_n 0) (32) := ri_of (by decide +kernel) rfl
theorem wi_467_32 : ri (rt_P sc fm) 467 32 (.getfield 329) (35) := ri_of (by decide +kernel) rfl
theorem wi_467_35 : ri (rt_P sc fm) 467 35 (.iconst 4) (36) := ri_of (by decide +kernel) rfl
theorem wi_467_36 : ri (rt_P sc fm) 467 36 (.iload_n 2) (37) := ri_of (by decide +kernel) rfl
theorem wi_467_37 : ri (rt_P sc fm) 467 37 (.imul) (38) := ri_of (by decide +kernel) rfl
theorem wi_467_38 : ri (rt_P sc fm) 467 38 (.iload_n 3) (39) := ri_of (by decide +kernel) rfl
theorem wi_467_39 : ri (rt_P sc fm) 467 39 (.iadd) (40) := ri_of (by decide +kernel) rfl
theorem wi_467_4 : ri (rt_P sc fm) 467 4 (.iload_n 1) (5) := ri_of (by decide +kernel) rfl
theorem wi_467_40 : ri (rt_P sc fm) 467 40 (.iaload) (41) := ri_of (by decide +kernel) rfl
theorem wi_467_41 : ri (rt_P sc fm) 467 41 (.iastore) (42) := ri_of (by decide +kernel) rfl
theorem wi_467_42 : ri (rt_P sc fm) 467 42 (.iinc 3 1) (45) := ri_of (by decide +kernel) rfl
theorem wi_467_45 : ri (rt_P sc fm) 467 45 (.goto (-31)) (48) := ri_of (by decide +kernel) rfl
theorem wi_467_48 : ri (rt_P sc fm) 467 48 (.return_) (49) := ri_of (by decide +kernel) rfl
theorem wi_467_5 : ri (rt_P sc fm) 467 5 (.aload_n 0) (6) := ri_of (by decide +kernel) rfl
theorem wi_467_6 : ri (rt_P sc fm) 467 6 (.getfield 326) (9) := ri_of (by decide +kernel) rfl
theorem wi_467_9 : ri (rt_P sc fm) 467 9 (.iload_n 2) (10) := ri_of (by decide +kernel) rfl
set_option maxRecDepth 100000 in
theorem wr_467 : rx_rt (rt_P sc fm) 467 = none := (by decide +kernel : rt_rt 467 = none)
/-- MarkHouseModel.copy(II)V -/
def d_467 (n : Nat) (a1 : Int32) (a2 : Int32) (c : cS) : Option (cS) :=
  if ib a2 192 then
  if ib a1 192 then
  lt (pI c 256 (ix a1) (c.1 256 (ix a2))) (fun c3 =>
  Option.bind (whl (R := (cS)) (fun s6 : Int32 × cS =>
    if (s6.2.1 174 15) ≤ s6.1 then
      some (.inr s6.2)
    else
      if ib ((4 * a2) + s6.1) 768 then
      if ib ((4 * a1) + s6.1) 768 then
      lt (pI s6.2 257 (ix ((4 * a1) + s6.1)) (s6.2.1 257 (ix ((4 * a2) + s6.1)))) (fun c9 =>
      lt (s6.1 + 1 : Int32) (fun v12 =>
      some (.inl (v12, c9))))
      else none
      else none) n (0, c3))
  (fun x14 : cS =>
    some x14))
  else none
  else none
set_option maxRecDepth 100000 in
set_option maxHeartbeats 4000000 in
theorem sp_467 {F Lo n : Nat} {a1 : Int32} {a2 : Int32} {c y : cS} {w : cW} {K : cS → Prop} {Q : ((Option Value) ⊕ String) → List va_E → Prop} (hw : rOK fm w) (hF : 0 ≤ F) (hLo : 0 ≤ Lo)  (h : wp (d_467 n a1 a2 c) K) (hQ : ∀ r, K r → Q (.inl none) (hq false r y w)) : rs (rt_P sc fm) 467 F Lo 0 [(0, .ref 174), (1, .int a1), (2, .int a2)] [] (hq false c y w) Q := by
  unfold d_467 at h
  obtain ⟨lv, elv⟩ : ∃ lv : rx_L, lv = [(0, .ref 174), (1, .int a1), (2, .int a2)] := ⟨_, rfl⟩
  rw [← elv]
  have l0 : rx_ld lv 0 = some (.ref 174) := by rw [elv]; rfl
  have l1 : rx_ld lv 1 = some (.int a1) := by rw [elv]; rfl
  have l2 : rx_ld lv 2 = some (.int a2) := by rw [elv]; rfl
  refine rs_aldn wi_467_0 l0 ?_
  refine dq_gr wi_467_1 wf_467_326 tf_174_117 ?_
  refine rs_ildn wi_467_4 l1 ?_
  refine rs_aldn wi_467_5 l0 ?_
  refine dq_gr wi_467_6 wf_467_326 tf_174_117 ?_
  refine rs_ildn wi_467_9 l2 ?_
  obtain ⟨g1, h⟩ := wp_gd h
  refine dq_iald wi_467_10 t_256 g1 ?_
  obtain ⟨g2, h⟩ := wp_gd h
  obtain ⟨c3, e4, h⟩ := wp_lt h
  refine dq_iast wi_467_11 t_256 g2 e4 ?_
  refine rs_pure wi_467_12 rfl ?_
  refine rs_topi (v := 0) (by decide) ?_
  refine dl_istn wi_467_13 rfl (fun lv l3 t5 => ?_)
  have l0 := t5 _ _ (by decide) (Or.inl rfl) l0
  have l1 := t5 _ _ (by decide) (Or.inl rfl) l1
  have l2 := t5 _ _ (by decide) (Or.inl rfl) l2
  refine whl_ex (A := fun s6 : Int32 × cS => ∀ lv, rx_ld lv 0 = some (.ref 174) → rx_ld lv 1 = some (.int a1) → rx_ld lv 2 = some (.int a2) → rx_ld lv 3 = some (.int s6.1) → rs (rt_P sc fm) 467 F Lo 14 lv [] (hq false s6.2 y w) Q) (B := (fun x14 : cS => ∀ lv, rs (rt_P sc fm) 467 F Lo 48 lv [] (hq false x14 y w) Q)) ?_ ?_ _ _ (wp_bind h) _ l0 l1 l2 l3
  · intro s6 h lv l0 l1 l2 l3
    refine rs_ildn wi_467_14 l3 ?_
    refine rs_aldn wi_467_15 l0 ?_
    refine dq_gi wi_467_16 wf_467_447 tf_174_15 ?_
    refine rs_icge (tg := 48) wi_467_19 ⟨by decide, by decide⟩ (fun q => ?_) (fun q => ?_)
    ·
      have h := wp_pos h q
      exact h _
    ·
      have h := wp_neg h q
      refine rs_aldn wi_467_22 l0 ?_
      refine dq_gr wi_467_23 wf_467_329 tf_174_118 ?_
      refine rs_pure wi_467_26 rfl ?_
      refine rs_topi (v := 4) (by decide) ?_
      refine rs_ildn wi_467_27 l1 ?_
      refine rs_pure wi_467_28 rfl ?_
      refine rs_ildn wi_467_29 l3 ?_
      refine rs_pure wi_467_30 rfl ?_
      refine rs_aldn wi_467_31 l0 ?_
      refine dq_gr wi_467_32 wf_467_329 tf_174_118 ?_
      refine rs_pure wi_467_35 rfl ?_
      refine rs_topi (v := 4) (by decide) ?_
      refine rs_ildn wi_467_36 l2 ?_
      refine rs_pure wi_467_37 rfl ?_
      refine rs_ildn wi_467_38 l3 ?_
      refine rs_pure wi_467_39 rfl ?_
      obtain ⟨g7, h⟩ := wp_gd h
      refine dq_iald wi_467_40 t_257 g7 ?_
      obtain ⟨g8, h⟩ := wp_gd h
      obtain ⟨c9, e10, h⟩ := wp_lt h
      refine dq_iast wi_467_41 t_257 g8 e10 ?_
      obtain ⟨v12, e13, h⟩ := wp_lt h
      refine dl_inc wi_467_42 l3 rfl e13 (fun lv l3 t11 => ?_)
      have l0 := t11 _ _ (by decide) (Or.inl rfl) l0
      have l1 := t11 _ _ (by decide) (Or.inl rfl) l1
      have l2 := t11 _ _ (by decide) (Or.inl rfl) l2
      refine rs_goto (tg := 14) wi_467_45 ⟨by decide, by decide⟩ ?_
      exact h _ l0 l1 l2 l3
  ·
    intro x14 h lv
    exact rs_vret wi_467_48 wr_467 (hQ x14 h)
set_option maxRecDepth 100000 in
theorem wf_471_314 : rx_ft (rt_P sc fm) 471 314 = some (15, 109) := (by decide +kernel : rt_ft 471 314 = some (15, 109))
set_option maxRecDepth 100000 in
theorem wf_471_910 : rx_ft (rt_P sc fm) 471 910 = some (15, 110) := (by decide +kernel : rt_ft 471 910 = some (15, 110))
theorem wi_471_0 : ri (rt_P sc fm) 471 0 (.aload_n 0) (1) := ri_of (by decide +kernel) rfl
theorem wi_471_1 : ri (rt_P sc fm) 471 1 (.getfield 910) (4) := ri_of (by decide +kernel) rfl
theorem wi_471_10 : ri (rt_P sc fm) 471 10 (.getfield 314) (13) := ri_of (by decide +kernel) rfl
theorem wi_471_13 : ri (rt_P sc fm) 471 13 (.iconst 0) (14) := ri_of (by decide +kernel) rfl
theorem wi_471_14 : ri (rt_P sc fm) 471 14 (.iaload) (15) := ri_of (by decide +kernel) rfl
theorem wi_471_15 : ri (rt_P sc fm) 471 15 (.istore_n 1) (16) := ri_of (by decide +kernel) rfl
theorem wi_471_16 : ri (rt_P sc fm) 471 16 (.aload_n 0) (17) := ri_of (by decide +kernel) rfl
theorem wi_471_17 : ri (rt_P sc fm) 471 17 (.dup) (18) := ri_of (by decide +kernel) rfl
theorem wi_471_18 : ri (rt_P sc fm) 471 18 (.getfield 910) (21) := ri_of (by decide +kernel) rfl
theorem wi_471_21 : ri (rt_P sc fm) 471 21 (.iconst 1) (22) := ri_of (by decide +kernel) rfl
theorem wi_471_22 : ri (rt_P sc fm) 471 22 (.isub) (23) := ri_of (by decide +kernel) rfl
theorem wi_471_23 : ri (rt_P sc fm) 471 23 (.putfield 910) (26) := ri_of (by decide +kernel) rfl
theorem wi_471_26 : ri (rt_P sc fm) 471 26 (.iconst 0) (27) := ri_of (by decide +kernel) rfl
theorem wi_471_27 : ri (rt_P sc fm) 471 27 (.istore_n 2) (28) := ri_of (by decide +kernel) rfl
theorem wi_471_28 : ri (rt_P sc fm) 471 28 (.iload_n 2) (29) := ri_of (by decide +kernel) rfl
theorem wi_471_29 : ri (rt_P sc fm) 471 29 (.aload_n 0) (30) := ri_of (by decide +kernel) rfl
theorem wi_471_30 : ri (rt_P sc fm) 471 30 (.getfield 910) (33) := ri_of (by decide +kernel) rfl
theorem wi_471_33 : ri (rt_P sc fm) 471 33 (.if_icmp .ge 23) (36) := ri_of (by decide +kernel) rfl
theorem wi_471_36 : ri (rt_P sc fm) 471 36 (.aload_n 0) (37) := ri_of (by decide +kernel) rfl
theorem wi_471_37 : ri (rt_P sc fm) 471 37 (.getfield 314) (40) := ri_of (by decide +kernel) rfl
theorem wi_471_4 : ri (rt_P sc fm) 471 4 (.ifCond .ne 5) (7) := ri_of (by decide +kernel) rfl
theorem wi_471_40 : ri (rt_P sc fm) 471 40 (.iload_n 2) (41) := ri_of (by decide +kernel) rfl
theorem wi_471_41 : ri (rt_P sc fm) 471 41 (.aload_n 0) (42) := ri_of (by decide +kernel) rfl
theorem wi_471_42 : ri (rt_P sc fm) 471 42 (.getfield 314) (45) := ri_of (by decide +kernel) rfl
theorem wi_471_45 : ri (rt_P sc fm) 471 45 (.iload_n 2) (46) := ri_of (by decide +kernel) rfl
theorem wi_471_46 : ri (rt_P sc fm) 471 46 (.iconst 1) (47) := ri_of (by decide +kernel) rfl
theorem wi_471_47 : ri (rt_P sc fm) 471 47 (.iadd) (48) := ri_of (by decide +kernel) rfl
theorem wi_471_48 : ri (rt_P sc fm) 471 48 (.iaload) (49) := ri_of (by decide +kernel) rfl
theorem wi_471_49 : ri (rt_P sc fm) 471 49 (.iastore) (50) := ri_of (by decide +kernel) rfl
theorem wi_471_50 : ri (rt_P sc fm) 471 50 (.iinc 2 1) (53) := ri_of (by decide +kernel) rfl
theorem wi_471_53 : ri (rt_P sc fm) 471 53 (.goto (-25)) (56) := ri_of (by decide +kernel) rfl
theorem wi_471_56 : ri (rt_P sc fm) 471 56 (.iload_n 1) (57) := ri_of (by decide +kernel) rfl
theorem wi_471_57 : ri (rt_P sc fm) 471 57 (.ireturn) (58) := ri_of (by decide +kernel) rfl
theorem wi_471_7 : ri (rt_P sc fm) 471 7 (.iconst 0) (8) := ri_of (by decide +kernel) rfl
theorem wi_471_8 : ri (rt_P sc fm) 471 8 (.ireturn) (9) := ri_of (by decide +kernel) rfl
theorem wi_471_9 : ri (rt_P sc fm) 471 9 (.aload_n 0) (10) := ri_of (by decide +kernel) rfl
set_option maxRecDepth 100000 in
theorem wp_471_910 : rx_pt (rt_P sc fm) 471 910 = some (15, 110, .int) := (by decide +kernel : rt_pt 471 910 = some (15, 110, .int))
set_option maxRecDepth 100000 in
theorem wr_471 : rx_rt (rt_P sc fm) 471 = (some FieldType.int) := (by decide +kernel : rt_rt 471 = (some FieldType.int))
/-- MarkHouseModel.nextInput()I -/
def d_471 (n : Nat)  (c : cS) : Option (Int32 × cS) :=
  if (c.1 174 110) = 0 then
    some (0, c)
  else
    if ib 0 64 then
    lt ((c.1 252 (ix 0)) : Int32) (fun v3 =>
    lt (pI c 174 110 ((c.1 174 110) - 1)) (fun c5 =>
    Option.bind (whl (R := (cS)) (fun s8 : Int32 × cS =>
      if (s8.2.1 174 110) ≤ s8.1 then
        some (.inr s8.2)
      else
        if ib (s8.1 + 1) 64 then
        if ib s8.1 64 then
        lt (pI s8.2 252 (ix s8.1) (s8.2.1 252 (ix (s8.1 + 1)))) (fun c11 =>
        lt (s8.1 + 1 : Int32) (fun v14 =>
        some (.inl (v14, c11))))
        else none
        else none) n (0, c5))
    (fun x16 : cS =>
      some (v3, x16))))
    else none
set_option maxRecDepth 100000 in
set_option maxHeartbeats 4000000 in
theorem sp_471 {F Lo n : Nat}  {c y : cS} {w : cW} {K : Int32 × cS → Prop} {Q : ((Option Value) ⊕ String) → List va_E → Prop} (hw : rOK fm w) (hF : 0 ≤ F) (hLo : 0 ≤ Lo)  (h : wp (d_471 n  c) K) (hQ : ∀ r, K r → Q (.inl (some (.int r.1))) (hq false r.2 y w)) : rs (rt_P sc fm) 471 F Lo 0 [(0, .ref 174)] [] (hq false c y w) Q := by
  unfold d_471 at h
  obtain ⟨lv, elv⟩ : ∃ lv : rx_L, lv = [(0, .ref 174)] := ⟨_, rfl⟩
  rw [← elv]
  have l0 : rx_ld lv 0 = some (.ref 174) := by rw [elv]; rfl
  refine rs_aldn wi_471_0 l0 ?_
  refine dq_gi wi_471_1 wf_471_910 tf_174_110 ?_
  refine rs_ifne (tg := 9) wi_471_4 ⟨by decide, by decide⟩ (fun q => ?_) (fun q => ?_)
  ·
    have h := wp_neg h q
    refine rs_aldn wi_471_9 l0 ?_
    refine dq_gr wi_471_10 wf_471_314 tf_174_109 ?_
    refine rs_pure wi_471_13 rfl ?_
    refine rs_topi (v := 0) (by decide) ?_
    obtain ⟨g1, h⟩ := wp_gd h
    refine dq_iald wi_471_14 t_252 g1 ?_
    obtain ⟨v3, e4, h⟩ := wp_lt h
    refine rs_topi e4 ?_
    refine dl_istn wi_471_15 rfl (fun lv l1 t2 => ?_)
    have l0 := t2 _ _ (by decide) (Or.inl rfl) l0
    refine rs_aldn wi_471_16 l0 ?_
    refine rs_pure wi_471_17 rfl ?_
    refine dq_gi wi_471_18 wf_471_910 tf_174_110 ?_
    refine rs_pure wi_471_21 rfl ?_
    refine rs_topi (v := 1) (by decide) ?_
    refine rs_pure wi_471_22 rfl ?_
    obtain ⟨c5, e6, h⟩ := wp_lt h
    refine dq_pi wi_471_23 wp_471_910 tf_174_110 rfl rfl e6 ?_
    refine rs_pure wi_471_26 rfl ?_
    refine rs_topi (v := 0) (by decide) ?_
    refine dl_istn wi_471_27 rfl (fun lv l2 t7 => ?_)
    have l0 := t7 _ _ (by decide) (Or.inl rfl) l0
    have l1 := t7 _ _ (by decide) (Or.inl rfl) l1
    refine whl_ex (A := fun s8 : Int32 × cS => ∀ lv, rx_ld lv 0 = some (.ref 174) → rx_ld lv 1 = some (.int v3) → rx_ld lv 2 = some (.int s8.1) → rs (rt_P sc fm) 471 F Lo 28 lv [] (hq false s8.2 y w) Q) (B := (fun x16 : cS => ∀ lv, rx_ld lv 1 = some (.int v3) → rs (rt_P sc fm) 471 F Lo 56 lv [] (hq false x16 y w) Q)) ?_ ?_ _ _ (wp_bind h) _ l0 l1 l2
    · intro s8 h lv l0 l1 l2
      refine rs_ildn wi_471_28 l2 ?_
      refine rs_aldn wi_471_29 l0 ?_
      refine dq_gi wi_471_30 wf_471_910 tf_174_110 ?_
      refine rs_icge (tg := 56) wi_471_33 ⟨by decide, by decide⟩ (fun q => ?_) (fun q => ?_)
      ·
        have h := wp_pos h q
        exact h _ l1
      ·
        have h := wp_neg h q
        refine rs_aldn wi_471_36 l0 ?_
        refine dq_gr wi_471_37 wf_471_314 tf_174_109 ?_
        refine rs_ildn wi_471_40 l2 ?_
        refine rs_aldn wi_471_41 l0 ?_
        refine dq_gr wi_471_42 wf_471_314 tf_174_109 ?_
        refine rs_ildn wi_471_45 l2 ?_
        refine rs_pure wi_471_46 rfl ?_
        refine rs_topi (v := 1) (by decide) ?_
        refine rs_pure wi_471_47 rfl ?_
        obtain ⟨g9, h⟩ := wp_gd h
        refine dq_iald wi_471_48 t_252 g9 ?_
        obtain ⟨g10, h⟩ := wp_gd h
        obtain ⟨c11, e12, h⟩ := wp_lt h
        refine dq_iast wi_471_49 t_252 g10 e12 ?_
        obtain ⟨v14, e15, h⟩ := wp_lt h
        refine dl_inc wi_471_50 l2 rfl e15 (fun lv l2 t13 => ?_)
        have l0 := t13 _ _ (by decide) (Or.inl rfl) l0
        have l1 := t13 _ _ (by decide) (Or.inl rfl) l1
        refine rs_goto (tg := 28) wi_471_53 ⟨by decide, by decide⟩ ?_
        exact h _ l0 l1 l2
    ·
      intro x16 h lv l1
      refine rs_ildn wi_471_56 l1 ?_
      exact rs_iret wi_471_57 wr_471 rfl (hQ (v3, x16) h)
  ·
    have h := wp_pos h q
    refine rs_pure wi_471_7 rfl ?_
    refine rs_topi (v := 0) (by decide) ?_
    exact rs_iret wi_471_8 wr_471 rfl (hQ (0, c) h)
set_option maxRecDepth 100000 in
theorem wa_15_467 : rz_cn 15 (rx_yn (rt_P sc fm) 467).cls = true := (by decide +kernel : rz_cn 15 (rt_yn 467).cls = true)
set_option maxRecDepth 100000 in
theorem wc_472_946 : rx_ct (rt_P sc fm) 472 946 = some (0, 466, 1) := (by decide +kernel : rt_ct 472 946 = some (0, 466, 1))
set_option maxRecDepth 100000 in
theorem wc_472_961 : rx_ct (rt_P sc fm) 472 961 = some (0, 467, 2) := (by decide +kernel : rt_ct 472 961 = some (0, 467, 2))
set_option maxRecDepth 100000 in
theorem wf_472_173 : rx_ft (rt_P sc fm) 472 173 = some (15, 45) := (by decide +kernel : rt_ft 472 173 = some (15, 45))
set_option maxRecDepth 100000 in
theorem wf_472_194 : rx_ft (rt_P sc fm) 472 194 = some (15, 52) := (by decide +kernel : rt_ft 472 194 = some (15, 52))
set_option maxRecDepth 100000 in
theorem wf_472_197 : rx_ft (rt_P sc fm) 472 197 = some (15, 53) := (by decide +kernel : rt_ft 472 197 = some (15, 53))
set_option maxRecDepth 100000 in
theorem wf_472_323 : rx_ft (rt_P sc fm) 472 323 = some (15, 116) := (by decide +kernel : rt_ft 472 323 = some (15, 116))
theorem wi_472_0 : ri (rt_P sc fm) 472 0 (.bipush 8) (2) := ri_of (by decide +kernel) rfl
theorem wi_472_10 : ri (rt_P sc fm) 472 10 (.getfield 197) (13) := ri_of (by decide +kernel) rfl
theorem wi_472_13 : ri (rt_P sc fm) 472 13 (.iload_n 2) (14) := ri_of (by decide +kernel) rfl
theorem wi_472_14 : ri (rt_P sc fm) 472 14 (.iaload) (15) := ri_of (by decide +kernel) rfl
theorem wi_472_15 : ri (rt_P sc fm) 472 15 (.iadd) (16) := ri_of (by decide +kernel) rfl
theorem wi_472_16 : ri (rt_P sc fm) 472 16 (.istore_n 3) (17) := ri_of (by decide +kernel) rfl
theorem wi_472_17 : ri (rt_P sc fm) 472 17 (.aload_n 0) (18) := ri_of (by decide +kernel) rfl
theorem wi_472_18 : ri (rt_P sc fm) 472 18 (.getfield 173) (21) := ri_of (by decide +kernel) rfl
theorem wi_472_2 : ri (rt_P sc fm) 472 2 (.aload_n 0) (3) := ri_of (by decide +kernel) rfl
theorem wi_472_21 : ri (rt_P sc fm) 472 21 (.iload_n 3) (22) := ri_of (by decide +kernel) rfl
theorem wi_472_22 : ri (rt_P sc fm) 472 22 (.iaload) (23) := ri_of (by decide +kernel) rfl
theorem wi_472_23 : ri (rt_P sc fm) 472 23 (.istore 4) (25) := ri_of (by decide +kernel) rfl
theorem wi_472_25 : ri (rt_P sc fm) 472 25 (.aload_n 0) (26) := ri_of (by decide +kernel) rfl
theorem wi_472_26 : ri (rt_P sc fm) 472 26 (.getfield 323) (29) := ri_of (by decide +kernel) rfl
theorem wi_472_29 : ri (rt_P sc fm) 472 29 (.iload_n 1) (30) := ri_of (by decide +kernel) rfl
theorem wi_472_3 : ri (rt_P sc fm) 472 3 (.getfield 194) (6) := ri_of (by decide +kernel) rfl
theorem wi_472_30 : ri (rt_P sc fm) 472 30 (.dup2) (31) := ri_of (by decide +kernel) rfl
theorem wi_472_31 : ri (rt_P sc fm) 472 31 (.iaload) (32) := ri_of (by decide +kernel) rfl
theorem wi_472_32 : ri (rt_P sc fm) 472 32 (.iload 4) (34) := ri_of (by decide +kernel) rfl
theorem wi_472_34 : ri (rt_P sc fm) 472 34 (.isub) (35) := ri_of (by decide +kernel) rfl
theorem wi_472_35 : ri (rt_P sc fm) 472 35 (.iastore) (36) := ri_of (by decide +kernel) rfl
theorem wi_472_36 : ri (rt_P sc fm) 472 36 (.aload_n 0) (37) := ri_of (by decide +kernel) rfl
theorem wi_472_37 : ri (rt_P sc fm) 472 37 (.iload_n 3) (38) := ri_of (by decide +kernel) rfl
theorem wi_472_38 : ri (rt_P sc fm) 472 38 (.invokevirtual 946) (41) := ri_of (by decide +kernel) rfl
theorem wi_472_41 : ri (rt_P sc fm) 472 41 (.iconst 0) (42) := ri_of (by decide +kernel) rfl
theorem wi_472_42 : ri (rt_P sc fm) 472 42 (.istore 5) (44) := ri_of (by decide +kernel) rfl
theorem wi_472_44 : ri (rt_P sc fm) 472 44 (.iload 5) (46) := ri_of (by decide +kernel) rfl
theorem wi_472_46 : ri (rt_P sc fm) 472 46 (.iload 4) (48) := ri_of (by decide +kernel) rfl
theorem wi_472_48 : ri (rt_P sc fm) 472 48 (.if_icmp .ge 36) (51) := ri_of (by decide +kernel) rfl
theorem wi_472_51 : ri (rt_P sc fm) 472 51 (.aload_n 0) (52) := ri_of (by decide +kernel) rfl
theorem wi_472_52 : ri (rt_P sc fm) 472 52 (.bipush 16) (54) := ri_of (by decide +kernel) rfl
theorem wi_472_54 : ri (rt_P sc fm) 472 54 (.iload_n 1) (55) := ri_of (by decide +kernel) rfl
theorem wi_472_55 : ri (rt_P sc fm) 472 55 (.iconst 1) (56) := ri_of (by decide +kernel) rfl
theorem wi_472_56 : ri (rt_P sc fm) 472 56 (.iadd) (57) := ri_of (by decide +kernel) rfl
theorem wi_472_57 : ri (rt_P sc fm) 472 57 (.imul) (58) := ri_of (by decide +kernel) rfl
theorem wi_472_58 : ri (rt_P sc fm) 472 58 (.iload 5) (60) := ri_of (by decide +kernel) rfl
theorem wi_472_6 : ri (rt_P sc fm) 472 6 (.iload_n 2) (7) := ri_of (by decide +kernel) rfl
theorem wi_472_60 : ri (rt_P sc fm) 472 60 (.iadd) (61) := ri_of (by decide +kernel) rfl
theorem wi_472_61 : ri (rt_P sc fm) 472 61 (.bipush 16) (63) := ri_of (by decide +kernel) rfl
theorem wi_472_63 : ri (rt_P sc fm) 472 63 (.iload_n 1) (64) := ri_of (by decide +kernel) rfl
theorem wi_472_64 : ri (rt_P sc fm) 472 64 (.imul) (65) := ri_of (by decide +kernel) rfl
theorem wi_472_65 : ri (rt_P sc fm) 472 65 (.aload_n 0) (66) := ri_of (by decide +kernel) rfl
theorem wi_472_66 : ri (rt_P sc fm) 472 66 (.getfield 323) (69) := ri_of (by decide +kernel) rfl
theorem wi_472_69 : ri (rt_P sc fm) 472 69 (.iload_n 1) (70) := ri_of (by decide +kernel) rfl
theorem wi_472_7 : ri (rt_P sc fm) 472 7 (.iaload) (8) := ri_of (by decide +kernel) rfl
theorem wi_472_70 : ri (rt_P sc fm) 472 70 (.iaload) (71) := ri_of (by decide +kernel) rfl
theorem wi_472_71 : ri (rt_P sc fm) 472 71 (.iadd) (72) := ri_of (by decide +kernel) rfl
theorem wi_472_72 : ri (rt_P sc fm) 472 72 (.iload 5) (74) := ri_of (by decide +kernel) rfl
theorem wi_472_74 : ri (rt_P sc fm) 472 74 (.iadd) (75) := ri_of (by decide +kernel) rfl
theorem wi_472_75 : ri (rt_P sc fm) 472 75 (.invokevirtual 961) (78) := ri_of (by decide +kernel) rfl
theorem wi_472_78 : ri (rt_P sc fm) 472 78 (.iinc 5 1) (81) := ri_of (by decide +kernel) rfl
theorem wi_472_8 : ri (rt_P sc fm) 472 8 (.imul) (9) := ri_of (by decide +kernel) rfl
theorem wi_472_81 : ri (rt_P sc fm) 472 81 (.goto (-37)) (84) := ri_of (by decide +kernel) rfl
theorem wi_472_84 : ri (rt_P sc fm) 472 84 (.return_) (85) := ri_of (by decide +kernel) rfl
theorem wi_472_9 : ri (rt_P sc fm) 472 9 (.aload_n 0) (10) := ri_of (by decide +kernel) rfl
set_option maxRecDepth 100000 in
theorem wm_467 : rx_ml (rt_P sc fm) 467 = 4 := (by decide +kernel : rt_ml 467 = 4)
set_option maxRecDepth 100000 in
theorem wr_472 : rx_rt (rt_P sc fm) 472 = none := (by decide +kernel : rt_rt 472 = none)
/-- MarkHouseModel.calls(II)V -/
def d_472 (n : Nat) (a1 : Int32) (a2 : Int32) (c : cS) : Option (cS) :=
  if ib a2 3840 then
  if ib a2 3840 then
  lt (((8 * (c.1 214 (ix a2))) + (c.1 215 (ix a2))) : Int32) (fun v4 =>
  if ib v4 96 then
  lt ((c.1 207 (ix v4)) : Int32) (fun v8 =>
  if ib a1 12 then
  if ib a1 12 then
  lt (pI c 255 (ix a1) ((c.1 255 (ix a1)) - v8)) (fun c12 =>
  Option.bind (d_466 n v4 c12) (fun r14 =>
  Option.bind (whl (R := (cS)) (fun s16 : Int32 × cS =>
    if v8 ≤ s16.1 then
      some (.inr s16.2)
    else
      if ib a1 12 then
      Option.bind (d_467 n ((16 * (a1 + 1)) + s16.1) (((16 * a1) + (s16.2.1 255 (ix a1))) + s16.1) s16.2) (fun r18 =>
      lt (s16.1 + 1 : Int32) (fun v20 =>
      some (.inl (v20, r18))))
      else none) n (0, r14))
  (fun x22 : cS =>
    some x22)))
  else none
  else none)
  else none)
  else none
  else none
set_option maxRecDepth 100000 in
set_option maxHeartbeats 4000000 in
theorem sp_472 {F Lo n : Nat} {a1 : Int32} {a2 : Int32} {c y : cS} {w : cW} {K : cS → Prop} {Q : ((Option Value) ⊕ String) → List va_E → Prop} (hw : rOK fm w) (hF : 2 ≤ F) (hLo : 46 ≤ Lo)  (h : wp (d_472 n a1 a2 c) K) (hQ : ∀ r, K r → Q (.inl none) (hq false r y w)) : rs (rt_P sc fm) 472 F Lo 0 [(0, .ref 174), (1, .int a1), (2, .int a2)] [] (hq false c y w) Q := by
  unfold d_472 at h
  obtain ⟨lv, elv⟩ : ∃ lv : rx_L, lv = [(0, .ref 174), (1, .int a1), (2, .int a2)] := ⟨_, rfl⟩
  rw [← elv]
  have l0 : rx_ld lv 0 = some (.ref 174) := by rw [elv]; rfl
  have l1 : rx_ld lv 1 = some (.int a1) := by rw [elv]; rfl
  have l2 : rx_ld lv 2 = some (.int a2) := by rw [elv]; rfl
  refine rs_pure wi_472_0 rfl ?_
  refine rs_topi (v := 8) (by decide) ?_
  refine rs_aldn wi_472_2 l0 ?_
  refine dq_gr wi_472_3 wf_472_194 tf_174_52 ?_
  refine rs_ildn wi_472_6 l2 ?_
  obtain ⟨g1, h⟩ := wp_gd h
  refine dq_iald wi_472_7 t_214 g1 ?_
  refine rs_pure wi_472_8 rfl ?_
  refine rs_aldn wi_472_9 l0 ?_
  refine dq_gr wi_472_10 wf_472_197 tf_174_53 ?_
  refine rs_ildn wi_472_13 l2 ?_
  obtain ⟨g2, h⟩ := wp_gd h
  refine dq_iald wi_472_14 t_215 g2 ?_
  refine rs_pure wi_472_15 rfl ?_
  obtain ⟨v4, e5, h⟩ := wp_lt h
  refine rs_topi e5 ?_
  refine dl_istn wi_472_16 rfl (fun lv l3 t3 => ?_)
  have l0 := t3 _ _ (by decide) (Or.inl rfl) l0
  have l1 := t3 _ _ (by decide) (Or.inl rfl) l1
  refine rs_aldn wi_472_17 l0 ?_
  refine dq_gr wi_472_18 wf_472_173 tf_174_45 ?_
  refine rs_ildn wi_472_21 l3 ?_
  obtain ⟨g6, h⟩ := wp_gd h
  refine dq_iald wi_472_22 t_207 g6 ?_
  obtain ⟨v8, e9, h⟩ := wp_lt h
  refine rs_topi e9 ?_
  refine dl_ist wi_472_23 rfl (fun lv l4 t7 => ?_)
  have l0 := t7 _ _ (by decide) (Or.inl rfl) l0
  have l1 := t7 _ _ (by decide) (Or.inl rfl) l1
  have l3 := t7 _ _ (by decide) (Or.inl rfl) l3
  refine rs_aldn wi_472_25 l0 ?_
  refine dq_gr wi_472_26 wf_472_323 tf_174_116 ?_
  refine rs_ildn wi_472_29 l1 ?_
  refine rs_pure wi_472_30 rfl ?_
  obtain ⟨g10, h⟩ := wp_gd h
  refine dq_iald wi_472_31 t_255 g10 ?_
  refine rs_ild wi_472_32 l4 ?_
  refine rs_pure wi_472_34 rfl ?_
  obtain ⟨g11, h⟩ := wp_gd h
  obtain ⟨c12, e13, h⟩ := wp_lt h
  refine dq_iast wi_472_35 t_255 g11 e13 ?_
  refine rs_aldn wi_472_36 l0 ?_
  refine rs_ildn wi_472_37 l3 ?_
  refine rs_V wi_472_38 wc_472_946 rfl (dq_isa tf_174_0 wa_15_466) (Nat.le_trans (by decide) hF) (ml_le wm_466 (Nat.le_trans (by decide) hLo)) rfl (sp_466 hw (Nat.le_trans (by decide : 1 ≤ 2 - 1) (Nat.sub_le_sub_right hF 1)) (ml_sub wm_466 (Nat.le_trans (by decide : 23 ≤ 46 - 23) (Nat.sub_le_sub_right hLo 23))) (wp_bind h) (fun r14 h => rs_back0 ?_))
  refine rs_pure wi_472_41 rfl ?_
  refine rs_topi (v := 0) (by decide) ?_
  refine dl_ist wi_472_42 rfl (fun lv l5 t15 => ?_)
  have l0 := t15 _ _ (by decide) (Or.inl rfl) l0
  have l1 := t15 _ _ (by decide) (Or.inl rfl) l1
  have l4 := t15 _ _ (by decide) (Or.inl rfl) l4
  refine whl_ex (A := fun s16 : Int32 × cS => ∀ lv, rx_ld lv 0 = some (.ref 174) → rx_ld lv 1 = some (.int a1) → rx_ld lv 4 = some (.int v8) → rx_ld lv 5 = some (.int s16.1) → rs (rt_P sc fm) 472 F Lo 44 lv [] (hq false s16.2 y w) Q) (B := (fun x22 : cS => ∀ lv, rs (rt_P sc fm) 472 F Lo 84 lv [] (hq false x22 y w) Q)) ?_ ?_ _ _ (wp_bind h) _ l0 l1 l4 l5
  · intro s16 h lv l0 l1 l4 l5
    refine rs_ild wi_472_44 l5 ?_
    refine rs_ild wi_472_46 l4 ?_
    refine rs_icge (tg := 84) wi_472_48 ⟨by decide, by decide⟩ (fun q => ?_) (fun q => ?_)
    ·
      have h := wp_pos h q
      exact h _
    ·
      have h := wp_neg h q
      refine rs_aldn wi_472_51 l0 ?_
      refine rs_pure wi_472_52 rfl ?_
      refine rs_topi (v := 16) (by decide) ?_
      refine rs_ildn wi_472_54 l1 ?_
      refine rs_pure wi_472_55 rfl ?_
      refine rs_topi (v := 1) (by decide) ?_
      refine rs_pure wi_472_56 rfl ?_
      refine rs_pure wi_472_57 rfl ?_
      refine rs_ild wi_472_58 l5 ?_
      refine rs_pure wi_472_60 rfl ?_
      refine rs_pure wi_472_61 rfl ?_
      refine rs_topi (v := 16) (by decide) ?_
      refine rs_ildn wi_472_63 l1 ?_
      refine rs_pure wi_472_64 rfl ?_
      refine rs_aldn wi_472_65 l0 ?_
      refine dq_gr wi_472_66 wf_472_323 tf_174_116 ?_
      refine rs_ildn wi_472_69 l1 ?_
      obtain ⟨g17, h⟩ := wp_gd h
      refine dq_iald wi_472_70 t_255 g17 ?_
      refine rs_pure wi_472_71 rfl ?_
      refine rs_ild wi_472_72 l5 ?_
      refine rs_pure wi_472_74 rfl ?_
      refine rs_V wi_472_75 wc_472_961 rfl (dq_isa tf_174_0 wa_15_467) (Nat.le_trans (by decide) hF) (ml_le wm_467 (Nat.le_trans (by decide) hLo)) rfl (sp_467 hw (Nat.le_trans (by decide : 0 ≤ 2 - 1) (Nat.sub_le_sub_right hF 1)) (ml_sub wm_467 (Nat.le_trans (by decide : 0 ≤ 46 - 23) (Nat.sub_le_sub_right hLo 23))) (wp_bind h) (fun r18 h => rs_back0 ?_))
      obtain ⟨v20, e21, h⟩ := wp_lt h
      refine dl_inc wi_472_78 l5 rfl e21 (fun lv l5 t19 => ?_)
      have l0 := t19 _ _ (by decide) (Or.inl rfl) l0
      have l1 := t19 _ _ (by decide) (Or.inl rfl) l1
      have l4 := t19 _ _ (by decide) (Or.inl rfl) l4
      refine rs_goto (tg := 44) wi_472_81 ⟨by decide, by decide⟩ ?_
      exact h _ l0 l1 l4 l5
  ·
    intro x22 h lv
    exact rs_vret wi_472_84 wr_472 (hQ x22 h)
theorem t_260 : ta false 260 0 4 := ⟨rfl, by decide, by decide⟩
theorem tf_174_122 : fo false 174 15 122 (.ref 260) := ⟨_, rfl, rfl, by decide, by decide⟩
set_option maxRecDepth 100000 in
theorem wc_473_961 : rx_ct (rt_P sc fm) 473 961 = some (0, 467, 2) := (by decide +kernel : rt_ct 473 961 = some (0, 467, 2))
set_option maxRecDepth 100000 in
theorem wf_473_320 : rx_ft (rt_P sc fm) 473 320 = some (15, 115) := (by decide +kernel : rt_ft 473 320 = some (15, 115))
set_option maxRecDepth 100000 in
theorem wf_473_323 : rx_ft (rt_P sc fm) 473 323 = some (15, 116) := (by decide +kernel : rt_ft 473 323 = some (15, 116))
set_option maxRecDepth 100000 in
theorem wf_473_326 : rx_ft (rt_P sc fm) 473 326 = some (15, 117) := (by decide +kernel : rt_ft 473 326 = some (15, 117))
set_option maxRecDepth 100000 in
theorem wf_473_329 : rx_ft (rt_P sc fm) 473 329 = some (15, 118) := (by decide +kernel : rt_ft 473 329 = some (15, 118))
set_option maxRecDepth 100000 in
theorem wf_473_338 : rx_ft (rt_P sc fm) 473 338 = some (15, 122) := (by decide +kernel : rt_ft 473 338 = some (15, 122))
set_option maxRecDepth 100000 in
theorem wf_473_447 : rx_ft (rt_P sc fm) 473 447 = some (15, 15) := (by decide +kernel : rt_ft 473 447 = some (15, 15))
set_option maxRecDepth 100000 in
theorem wf_473_913 : rx_ft (rt_P sc fm) 473 913 = some (15, 113) := (by decide +kernel : rt_ft 473 913 = some (15, 113))
theorem wi_473_0 : ri (rt_P sc fm) 473 0 (.iload_n 1) (1) := ri_of (by decide +kernel) rfl
theorem wi_473_1 : ri (rt_P sc fm) 473 1 (.ifCond .ne 51) (4) := ri_of (by decide +kernel) rfl
theorem wi_473_10 : ri (rt_P sc fm) 473 10 (.aload_n 0) (11) := ri_of (by decide +kernel) rfl
theorem wi_473_100 : ri (rt_P sc fm) 473 100 (.iadd) (101) := ri_of (by decide +kernel) rfl
theorem wi_473_101 : ri (rt_P sc fm) 473 101 (.iastore) (102) := ri_of (by decide +kernel) rfl
theorem wi_473_102 : ri (rt_P sc fm) 473 102 (.return_) (103) := ri_of (by decide +kernel) rfl
theorem wi_473_11 : ri (rt_P sc fm) 473 11 (.getfield 326) (14) := ri_of (by decide +kernel) rfl
theorem wi_473_14 : ri (rt_P sc fm) 473 14 (.iload_n 2) (15) := ri_of (by decide +kernel) rfl
theorem wi_473_15 : ri (rt_P sc fm) 473 15 (.iaload) (16) := ri_of (by decide +kernel) rfl
theorem wi_473_16 : ri (rt_P sc fm) 473 16 (.putfield 922) (19) := ri_of (by decide +kernel) rfl
theorem wi_473_19 : ri (rt_P sc fm) 473 19 (.iconst 0) (20) := ri_of (by decide +kernel) rfl
theorem wi_473_20 : ri (rt_P sc fm) 473 20 (.istore_n 3) (21) := ri_of (by decide +kernel) rfl
theorem wi_473_21 : ri (rt_P sc fm) 473 21 (.iload_n 3) (22) := ri_of (by decide +kernel) rfl
theorem wi_473_22 : ri (rt_P sc fm) 473 22 (.aload_n 0) (23) := ri_of (by decide +kernel) rfl
theorem wi_473_23 : ri (rt_P sc fm) 473 23 (.getfield 447) (26) := ri_of (by decide +kernel) rfl
theorem wi_473_26 : ri (rt_P sc fm) 473 26 (.if_icmp .ge 25) (29) := ri_of (by decide +kernel) rfl
theorem wi_473_29 : ri (rt_P sc fm) 473 29 (.aload_n 0) (30) := ri_of (by decide +kernel) rfl
theorem wi_473_30 : ri (rt_P sc fm) 473 30 (.getfield 338) (33) := ri_of (by decide +kernel) rfl
theorem wi_473_33 : ri (rt_P sc fm) 473 33 (.iload_n 3) (34) := ri_of (by decide +kernel) rfl
theorem wi_473_34 : ri (rt_P sc fm) 473 34 (.aload_n 0) (35) := ri_of (by decide +kernel) rfl
theorem wi_473_35 : ri (rt_P sc fm) 473 35 (.getfield 329) (38) := ri_of (by decide +kernel) rfl
theorem wi_473_38 : ri (rt_P sc fm) 473 38 (.iconst 4) (39) := ri_of (by decide +kernel) rfl
theorem wi_473_39 : ri (rt_P sc fm) 473 39 (.iload_n 2) (40) := ri_of (by decide +kernel) rfl
theorem wi_473_4 : ri (rt_P sc fm) 473 4 (.aload_n 0) (5) := ri_of (by decide +kernel) rfl
theorem wi_473_40 : ri (rt_P sc fm) 473 40 (.imul) (41) := ri_of (by decide +kernel) rfl
theorem wi_473_41 : ri (rt_P sc fm) 473 41 (.iload_n 3) (42) := ri_of (by decide +kernel) rfl
theorem wi_473_42 : ri (rt_P sc fm) 473 42 (.iadd) (43) := ri_of (by decide +kernel) rfl
theorem wi_473_43 : ri (rt_P sc fm) 473 43 (.iaload) (44) := ri_of (by decide +kernel) rfl
theorem wi_473_44 : ri (rt_P sc fm) 473 44 (.iastore) (45) := ri_of (by decide +kernel) rfl
theorem wi_473_45 : ri (rt_P sc fm) 473 45 (.iinc 3 1) (48) := ri_of (by decide +kernel) rfl
theorem wi_473_48 : ri (rt_P sc fm) 473 48 (.goto (-27)) (51) := ri_of (by decide +kernel) rfl
theorem wi_473_5 : ri (rt_P sc fm) 473 5 (.iconst 2) (6) := ri_of (by decide +kernel) rfl
theorem wi_473_51 : ri (rt_P sc fm) 473 51 (.return_) (52) := ri_of (by decide +kernel) rfl
theorem wi_473_52 : ri (rt_P sc fm) 473 52 (.aload_n 0) (53) := ri_of (by decide +kernel) rfl
theorem wi_473_53 : ri (rt_P sc fm) 473 53 (.dup) (54) := ri_of (by decide +kernel) rfl
theorem wi_473_54 : ri (rt_P sc fm) 473 54 (.getfield 913) (57) := ri_of (by decide +kernel) rfl
theorem wi_473_57 : ri (rt_P sc fm) 473 57 (.iconst 1) (58) := ri_of (by decide +kernel) rfl
theorem wi_473_58 : ri (rt_P sc fm) 473 58 (.isub) (59) := ri_of (by decide +kernel) rfl
theorem wi_473_59 : ri (rt_P sc fm) 473 59 (.putfield 913) (62) := ri_of (by decide +kernel) rfl
theorem wi_473_6 : ri (rt_P sc fm) 473 6 (.putfield 897) (9) := ri_of (by decide +kernel) rfl
theorem wi_473_62 : ri (rt_P sc fm) 473 62 (.iload_n 1) (63) := ri_of (by decide +kernel) rfl
theorem wi_473_63 : ri (rt_P sc fm) 473 63 (.iconst 1) (64) := ri_of (by decide +kernel) rfl
theorem wi_473_64 : ri (rt_P sc fm) 473 64 (.isub) (65) := ri_of (by decide +kernel) rfl
theorem wi_473_65 : ri (rt_P sc fm) 473 65 (.istore_n 3) (66) := ri_of (by decide +kernel) rfl
theorem wi_473_66 : ri (rt_P sc fm) 473 66 (.aload_n 0) (67) := ri_of (by decide +kernel) rfl
theorem wi_473_67 : ri (rt_P sc fm) 473 67 (.bipush 16) (69) := ri_of (by decide +kernel) rfl
theorem wi_473_69 : ri (rt_P sc fm) 473 69 (.iload_n 3) (70) := ri_of (by decide +kernel) rfl
theorem wi_473_70 : ri (rt_P sc fm) 473 70 (.imul) (71) := ri_of (by decide +kernel) rfl
theorem wi_473_71 : ri (rt_P sc fm) 473 71 (.aload_n 0) (72) := ri_of (by decide +kernel) rfl
theorem wi_473_72 : ri (rt_P sc fm) 473 72 (.getfield 323) (75) := ri_of (by decide +kernel) rfl
theorem wi_473_75 : ri (rt_P sc fm) 473 75 (.iload_n 3) (76) := ri_of (by decide +kernel) rfl
theorem wi_473_76 : ri (rt_P sc fm) 473 76 (.iaload) (77) := ri_of (by decide +kernel) rfl
theorem wi_473_77 : ri (rt_P sc fm) 473 77 (.iadd) (78) := ri_of (by decide +kernel) rfl
theorem wi_473_78 : ri (rt_P sc fm) 473 78 (.iload_n 2) (79) := ri_of (by decide +kernel) rfl
theorem wi_473_79 : ri (rt_P sc fm) 473 79 (.invokevirtual 961) (82) := ri_of (by decide +kernel) rfl
theorem wi_473_82 : ri (rt_P sc fm) 473 82 (.aload_n 0) (83) := ri_of (by decide +kernel) rfl
theorem wi_473_83 : ri (rt_P sc fm) 473 83 (.getfield 323) (86) := ri_of (by decide +kernel) rfl
theorem wi_473_86 : ri (rt_P sc fm) 473 86 (.iload_n 3) (87) := ri_of (by decide +kernel) rfl
theorem wi_473_87 : ri (rt_P sc fm) 473 87 (.dup2) (88) := ri_of (by decide +kernel) rfl
theorem wi_473_88 : ri (rt_P sc fm) 473 88 (.iaload) (89) := ri_of (by decide +kernel) rfl
theorem wi_473_89 : ri (rt_P sc fm) 473 89 (.iconst 1) (90) := ri_of (by decide +kernel) rfl
theorem wi_473_9 : ri (rt_P sc fm) 473 9 (.aload_n 0) (10) := ri_of (by decide +kernel) rfl
theorem wi_473_90 : ri (rt_P sc fm) 473 90 (.iadd) (91) := ri_of (by decide +kernel) rfl
theorem wi_473_91 : ri (rt_P sc fm) 473 91 (.iastore) (92) := ri_of (by decide +kernel) rfl
theorem wi_473_92 : ri (rt_P sc fm) 473 92 (.aload_n 0) (93) := ri_of (by decide +kernel) rfl
theorem wi_473_93 : ri (rt_P sc fm) 473 93 (.getfield 320) (96) := ri_of (by decide +kernel) rfl
theorem wi_473_96 : ri (rt_P sc fm) 473 96 (.iload_n 3) (97) := ri_of (by decide +kernel) rfl
theorem wi_473_97 : ri (rt_P sc fm) 473 97 (.dup2) (98) := ri_of (by decide +kernel) rfl
theorem wi_473_98 : ri (rt_P sc fm) 473 98 (.iaload) (99) := ri_of (by decide +kernel) rfl
theorem wi_473_99 : ri (rt_P sc fm) 473 99 (.iconst 1) (100) := ri_of (by decide +kernel) rfl
set_option maxRecDepth 100000 in
theorem wp_473_897 : rx_pt (rt_P sc fm) 473 897 = some (15, 111, .int) := (by decide +kernel : rt_pt 473 897 = some (15, 111, .int))
set_option maxRecDepth 100000 in
theorem wp_473_913 : rx_pt (rt_P sc fm) 473 913 = some (15, 113, .int) := (by decide +kernel : rt_pt 473 913 = some (15, 113, .int))
set_option maxRecDepth 100000 in
theorem wp_473_922 : rx_pt (rt_P sc fm) 473 922 = some (15, 121, .int) := (by decide +kernel : rt_pt 473 922 = some (15, 121, .int))
set_option maxRecDepth 100000 in
theorem wr_473 : rx_rt (rt_P sc fm) 473 = none := (by decide +kernel : rt_rt 473 = none)
/-- MarkHouseModel.gives(II)V -/
def d_473 (n : Nat) (a1 : Int32) (a2 : Int32) (c : cS) : Option (cS) :=
  if a1 = 0 then
    lt (pI c 174 111 2) (fun c16 =>
    if ib a2 192 then
    lt (pI c16 174 121 (c16.1 256 (ix a2))) (fun c19 =>
    Option.bind (whl (R := (cS)) (fun s22 : Int32 × cS =>
      if (s22.2.1 174 15) ≤ s22.1 then
        some (.inr s22.2)
      else
        if ib ((4 * a2) + s22.1) 768 then
        if ib s22.1 4 then
        lt (pI s22.2 260 (ix s22.1) (s22.2.1 257 (ix ((4 * a2) + s22.1)))) (fun c25 =>
        lt (s22.1 + 1 : Int32) (fun v28 =>
        some (.inl (v28, c25))))
        else none
        else none) n (0, c19))
    (fun x30 : cS =>
      some x30))
    else none)
  else
    lt (pI c 174 113 ((c.1 174 113) - 1)) (fun c1 =>
    lt ((a1 - 1) : Int32) (fun v4 =>
    if ib v4 12 then
    Option.bind (d_467 n ((16 * v4) + (c1.1 255 (ix v4))) a2 c1) (fun r7 =>
    if ib v4 12 then
    if ib v4 12 then
    lt (pI r7 255 (ix v4) ((r7.1 255 (ix v4)) + 1)) (fun c10 =>
    if ib v4 12 then
    if ib v4 12 then
    lt (pI c10 254 (ix v4) ((c10.1 254 (ix v4)) + 1)) (fun c14 =>
    some c14)
    else none
    else none)
    else none
    else none)
    else none))
set_option maxRecDepth 100000 in
set_option maxHeartbeats 4000000 in
theorem sp_473 {F Lo n : Nat} {a1 : Int32} {a2 : Int32} {c y : cS} {w : cW} {K : cS → Prop} {Q : ((Option Value) ⊕ String) → List va_E → Prop} (hw : rOK fm w) (hF : 1 ≤ F) (hLo : 23 ≤ Lo)  (h : wp (d_473 n a1 a2 c) K) (hQ : ∀ r, K r → Q (.inl none) (hq false r y w)) : rs (rt_P sc fm) 473 F Lo 0 [(0, .ref 174), (1, .int a1), (2, .int a2)] [] (hq false c y w) Q := by
  unfold d_473 at h
  obtain ⟨lv, elv⟩ : ∃ lv : rx_L, lv = [(0, .ref 174), (1, .int a1), (2, .int a2)] := ⟨_, rfl⟩
  rw [← elv]
  have l0 : rx_ld lv 0 = some (.ref 174) := by rw [elv]; rfl
  have l1 : rx_ld lv 1 = some (.int a1) := by rw [elv]; rfl
  have l2 : rx_ld lv 2 = some (.int a2) := by rw [elv]; rfl
  refine rs_ildn wi_473_0 l1 ?_
  refine rs_ifne (tg := 52) wi_473_1 ⟨by decide, by decide⟩ (fun q => ?_) (fun q => ?_)
  ·
    have h := wp_neg h q
    refine rs_aldn wi_473_52 l0 ?_
    refine rs_pure wi_473_53 rfl ?_
    refine dq_gi wi_473_54 wf_473_913 tf_174_113 ?_
    refine rs_pure wi_473_57 rfl ?_
    refine rs_topi (v := 1) (by decide) ?_
    refine rs_pure wi_473_58 rfl ?_
    obtain ⟨c1, e2, h⟩ := wp_lt h
    refine dq_pi wi_473_59 wp_473_913 tf_174_113 rfl rfl e2 ?_
    refine rs_ildn wi_473_62 l1 ?_
    refine rs_pure wi_473_63 rfl ?_
    refine rs_topi (v := 1) (by decide) ?_
    refine rs_pure wi_473_64 rfl ?_
    obtain ⟨v4, e5, h⟩ := wp_lt h
    refine rs_topi e5 ?_
    refine dl_istn wi_473_65 rfl (fun lv l3 t3 => ?_)
    have l0 := t3 _ _ (by decide) (Or.inl rfl) l0
    have l2 := t3 _ _ (by decide) (Or.inl rfl) l2
    refine rs_aldn wi_473_66 l0 ?_
    refine rs_pure wi_473_67 rfl ?_
    refine rs_topi (v := 16) (by decide) ?_
    refine rs_ildn wi_473_69 l3 ?_
    refine rs_pure wi_473_70 rfl ?_
    refine rs_aldn wi_473_71 l0 ?_
    refine dq_gr wi_473_72 wf_473_323 tf_174_116 ?_
    refine rs_ildn wi_473_75 l3 ?_
    obtain ⟨g6, h⟩ := wp_gd h
    refine dq_iald wi_473_76 t_255 g6 ?_
    refine rs_pure wi_473_77 rfl ?_
    refine rs_ildn wi_473_78 l2 ?_
    refine rs_V wi_473_79 wc_473_961 rfl (dq_isa tf_174_0 wa_15_467) (Nat.le_trans (by decide) hF) (ml_le wm_467 (Nat.le_trans (by decide) hLo)) rfl (sp_467 hw (Nat.le_trans (by decide : 0 ≤ 1 - 1) (Nat.sub_le_sub_right hF 1)) (ml_sub wm_467 (Nat.le_trans (by decide : 0 ≤ 23 - 23) (Nat.sub_le_sub_right hLo 23))) (wp_bind h) (fun r7 h => rs_back0 ?_))
    refine rs_aldn wi_473_82 l0 ?_
    refine dq_gr wi_473_83 wf_473_323 tf_174_116 ?_
    refine rs_ildn wi_473_86 l3 ?_
    refine rs_pure wi_473_87 rfl ?_
    obtain ⟨g8, h⟩ := wp_gd h
    refine dq_iald wi_473_88 t_255 g8 ?_
    refine rs_pure wi_473_89 rfl ?_
    refine rs_topi (v := 1) (by decide) ?_
    refine rs_pure wi_473_90 rfl ?_
    obtain ⟨g9, h⟩ := wp_gd h
    obtain ⟨c10, e11, h⟩ := wp_lt h
    refine dq_iast wi_473_91 t_255 g9 e11 ?_
    refine rs_aldn wi_473_92 l0 ?_
    refine dq_gr wi_473_93 wf_473_320 tf_174_115 ?_
    refine rs_ildn wi_473_96 l3 ?_
    refine rs_pure wi_473_97 rfl ?_
    obtain ⟨g12, h⟩ := wp_gd h
    refine dq_iald wi_473_98 t_254 g12 ?_
    refine rs_pure wi_473_99 rfl ?_
    refine rs_topi (v := 1) (by decide) ?_
    refine rs_pure wi_473_100 rfl ?_
    obtain ⟨g13, h⟩ := wp_gd h
    obtain ⟨c14, e15, h⟩ := wp_lt h
    refine dq_iast wi_473_101 t_254 g13 e15 ?_
    exact rs_vret wi_473_102 wr_473 (hQ c14 h)
  ·
    have h := wp_pos h q
    refine rs_aldn wi_473_4 l0 ?_
    refine rs_pure wi_473_5 rfl ?_
    refine rs_topi (v := 2) (by decide) ?_
    obtain ⟨c16, e17, h⟩ := wp_lt h
    refine dq_pi wi_473_6 wp_473_897 tf_174_111 rfl rfl e17 ?_
    refine rs_aldn wi_473_9 l0 ?_
    refine rs_aldn wi_473_10 l0 ?_
    refine dq_gr wi_473_11 wf_473_326 tf_174_117 ?_
    refine rs_ildn wi_473_14 l2 ?_
    obtain ⟨g18, h⟩ := wp_gd h
    refine dq_iald wi_473_15 t_256 g18 ?_
    obtain ⟨c19, e20, h⟩ := wp_lt h
    refine dq_pi wi_473_16 wp_473_922 tf_174_121 rfl rfl e20 ?_
    refine rs_pure wi_473_19 rfl ?_
    refine rs_topi (v := 0) (by decide) ?_
    refine dl_istn wi_473_20 rfl (fun lv l3 t21 => ?_)
    have l0 := t21 _ _ (by decide) (Or.inl rfl) l0
    have l2 := t21 _ _ (by decide) (Or.inl rfl) l2
    refine whl_ex (A := fun s22 : Int32 × cS => ∀ lv, rx_ld lv 0 = some (.ref 174) → rx_ld lv 2 = some (.int a2) → rx_ld lv 3 = some (.int s22.1) → rs (rt_P sc fm) 473 F Lo 21 lv [] (hq false s22.2 y w) Q) (B := (fun x30 : cS => ∀ lv, rs (rt_P sc fm) 473 F Lo 51 lv [] (hq false x30 y w) Q)) ?_ ?_ _ _ (wp_bind h) _ l0 l2 l3
    · intro s22 h lv l0 l2 l3
      refine rs_ildn wi_473_21 l3 ?_
      refine rs_aldn wi_473_22 l0 ?_
      refine dq_gi wi_473_23 wf_473_447 tf_174_15 ?_
      refine rs_icge (tg := 51) wi_473_26 ⟨by decide, by decide⟩ (fun q => ?_) (fun q => ?_)
      ·
        have h := wp_pos h q
        exact h _
      ·
        have h := wp_neg h q
        refine rs_aldn wi_473_29 l0 ?_
        refine dq_gr wi_473_30 wf_473_338 tf_174_122 ?_
        refine rs_ildn wi_473_33 l3 ?_
        refine rs_aldn wi_473_34 l0 ?_
        refine dq_gr wi_473_35 wf_473_329 tf_174_118 ?_
        refine rs_pure wi_473_38 rfl ?_
        refine rs_topi (v := 4) (by decide) ?_
        refine rs_ildn wi_473_39 l2 ?_
        refine rs_pure wi_473_40 rfl ?_
        refine rs_ildn wi_473_41 l3 ?_
        refine rs_pure wi_473_42 rfl ?_
        obtain ⟨g23, h⟩ := wp_gd h
        refine dq_iald wi_473_43 t_257 g23 ?_
        obtain ⟨g24, h⟩ := wp_gd h
        obtain ⟨c25, e26, h⟩ := wp_lt h
        refine dq_iast wi_473_44 t_260 g24 e26 ?_
        obtain ⟨v28, e29, h⟩ := wp_lt h
        refine dl_inc wi_473_45 l3 rfl e29 (fun lv l3 t27 => ?_)
        have l0 := t27 _ _ (by decide) (Or.inl rfl) l0
        have l2 := t27 _ _ (by decide) (Or.inl rfl) l2
        refine rs_goto (tg := 21) wi_473_48 ⟨by decide, by decide⟩ ?_
        exact h _ l0 l2 l3
    ·
      intro x30 h lv
      exact rs_vret wi_473_51 wr_473 (hQ x30 h)
set_option maxRecDepth 100000 in
theorem wa_15_471 : rz_cn 15 (rx_yn (rt_P sc fm) 471).cls = true := (by decide +kernel : rz_cn 15 (rt_yn 471).cls = true)
set_option maxRecDepth 100000 in
theorem wa_15_472 : rz_cn 15 (rx_yn (rt_P sc fm) 472).cls = true := (by decide +kernel : rz_cn 15 (rt_yn 472).cls = true)
set_option maxRecDepth 100000 in
theorem wa_15_473 : rz_cn 15 (rx_yn (rt_P sc fm) 473).cls = true := (by decide +kernel : rz_cn 15 (rt_yn 473).cls = true)
set_option maxRecDepth 100000 in
theorem wc_470_535 : rx_ct (rt_P sc fm) 470 535 = some (0, 387, 3) := (by decide +kernel : rt_ct 470 535 = some (0, 387, 3))
set_option maxRecDepth 100000 in
theorem wc_470_626 : rx_ct (rt_P sc fm) 470 626 = some (0, 417, 1) := (by decide +kernel : rt_ct 470 626 = some (0, 417, 1))
set_option maxRecDepth 100000 in
theorem wc_470_629 : rx_ct (rt_P sc fm) 470 629 = some (0, 418, 1) := (by decide +kernel : rt_ct 470 629 = some (0, 418, 1))
set_option maxRecDepth 100000 in
theorem wc_470_727 : rx_ct (rt_P sc fm) 470 727 = some (0, 390, 3) := (by decide +kernel : rt_ct 470 727 = some (0, 390, 3))
set_option maxRecDepth 100000 in
theorem wc_470_916 : rx_ct (rt_P sc fm) 470 916 = some (0, 138, 2) := (by decide +kernel : rt_ct 470 916 = some (0, 138, 2))
set_option maxRecDepth 100000 in
theorem wc_470_958 : rx_ct (rt_P sc fm) 470 958 = some (0, 471, 0) := (by decide +kernel : rt_ct 470 958 = some (0, 471, 0))
set_option maxRecDepth 100000 in
theorem wc_470_961 : rx_ct (rt_P sc fm) 470 961 = some (0, 467, 2) := (by decide +kernel : rt_ct 470 961 = some (0, 467, 2))
set_option maxRecDepth 100000 in
theorem wc_470_964 : rx_ct (rt_P sc fm) 470 964 = some (0, 472, 2) := (by decide +kernel : rt_ct 470 964 = some (0, 472, 2))
set_option maxRecDepth 100000 in
theorem wc_470_967 : rx_ct (rt_P sc fm) 470 967 = some (0, 473, 2) := (by decide +kernel : rt_ct 470 967 = some (0, 473, 2))
set_option maxRecDepth 100000 in
theorem wf_470_185 : rx_ft (rt_P sc fm) 470 185 = some (15, 49) := (by decide +kernel : rt_ft 470 185 = some (15, 49))
set_option maxRecDepth 100000 in
theorem wf_470_194 : rx_ft (rt_P sc fm) 470 194 = some (15, 52) := (by decide +kernel : rt_ft 470 194 = some (15, 52))
set_option maxRecDepth 100000 in
theorem wf_470_197 : rx_ft (rt_P sc fm) 470 197 = some (15, 53) := (by decide +kernel : rt_ft 470 197 = some (15, 53))
set_option maxRecDepth 100000 in
theorem wf_470_200 : rx_ft (rt_P sc fm) 470 200 = some (15, 54) := (by decide +kernel : rt_ft 470 200 = some (15, 54))
set_option maxRecDepth 100000 in
theorem wf_470_209 : rx_ft (rt_P sc fm) 470 209 = some (15, 57) := (by decide +kernel : rt_ft 470 209 = some (15, 57))
set_option maxRecDepth 100000 in
theorem wf_470_212 : rx_ft (rt_P sc fm) 470 212 = some (15, 58) := (by decide +kernel : rt_ft 470 212 = some (15, 58))
set_option maxRecDepth 100000 in
theorem wf_470_215 : rx_ft (rt_P sc fm) 470 215 = some (15, 59) := (by decide +kernel : rt_ft 470 215 = some (15, 59))
set_option maxRecDepth 100000 in
theorem wf_470_320 : rx_ft (rt_P sc fm) 470 320 = some (15, 115) := (by decide +kernel : rt_ft 470 320 = some (15, 115))
set_option maxRecDepth 100000 in
theorem wf_470_323 : rx_ft (rt_P sc fm) 470 323 = some (15, 116) := (by decide +kernel : rt_ft 470 323 = some (15, 116))
set_option maxRecDepth 100000 in
theorem wf_470_326 : rx_ft (rt_P sc fm) 470 326 = some (15, 117) := (by decide +kernel : rt_ft 470 326 = some (15, 117))
set_option maxRecDepth 100000 in
theorem wf_470_329 : rx_ft (rt_P sc fm) 470 329 = some (15, 118) := (by decide +kernel : rt_ft 470 329 = some (15, 118))
set_option maxRecDepth 100000 in
theorem wf_470_332 : rx_ft (rt_P sc fm) 470 332 = some (15, 119) := (by decide +kernel : rt_ft 470 332 = some (15, 119))
set_option maxRecDepth 100000 in
theorem wf_470_335 : rx_ft (rt_P sc fm) 470 335 = some (15, 120) := (by decide +kernel : rt_ft 470 335 = some (15, 120))
set_option maxRecDepth 100000 in
theorem wf_470_447 : rx_ft (rt_P sc fm) 470 447 = some (15, 15) := (by decide +kernel : rt_ft 470 447 = some (15, 15))
set_option maxRecDepth 100000 in
theorem wf_470_940 : rx_ft (rt_P sc fm) 470 940 = some (15, 128) := (by decide +kernel : rt_ft 470 940 = some (15, 128))
theorem wi_470_0 : ri (rt_P sc fm) 470 0 (.bipush 16) (2) := ri_of (by decide +kernel) rfl
theorem wi_470_10 : ri (rt_P sc fm) 470 10 (.iload_n 1) (11) := ri_of (by decide +kernel) rfl
theorem wi_470_108 : ri (rt_P sc fm) 470 108 (.aload_n 0) (109) := ri_of (by decide +kernel) rfl
theorem wi_470_109 : ri (rt_P sc fm) 470 109 (.iload 4) (111) := ri_of (by decide +kernel) rfl
theorem wi_470_11 : ri (rt_P sc fm) 470 11 (.iaload) (12) := ri_of (by decide +kernel) rfl
theorem wi_470_111 : ri (rt_P sc fm) 470 111 (.aload_n 0) (112) := ri_of (by decide +kernel) rfl
theorem wi_470_112 : ri (rt_P sc fm) 470 112 (.getfield 185) (115) := ri_of (by decide +kernel) rfl
theorem wi_470_115 : ri (rt_P sc fm) 470 115 (.iload_n 2) (116) := ri_of (by decide +kernel) rfl
theorem wi_470_116 : ri (rt_P sc fm) 470 116 (.iaload) (117) := ri_of (by decide +kernel) rfl
theorem wi_470_117 : ri (rt_P sc fm) 470 117 (.bipush 14) (119) := ri_of (by decide +kernel) rfl
theorem wi_470_119 : ri (rt_P sc fm) 470 119 (.if_icmp .ne 12) (122) := ri_of (by decide +kernel) rfl
theorem wi_470_12 : ri (rt_P sc fm) 470 12 (.iadd) (13) := ri_of (by decide +kernel) rfl
theorem wi_470_122 : ri (rt_P sc fm) 470 122 (.aload_n 0) (123) := ri_of (by decide +kernel) rfl
theorem wi_470_123 : ri (rt_P sc fm) 470 123 (.getfield 194) (126) := ri_of (by decide +kernel) rfl
theorem wi_470_126 : ri (rt_P sc fm) 470 126 (.iload_n 2) (127) := ri_of (by decide +kernel) rfl
theorem wi_470_127 : ri (rt_P sc fm) 470 127 (.iaload) (128) := ri_of (by decide +kernel) rfl
theorem wi_470_128 : ri (rt_P sc fm) 470 128 (.goto 7) (131) := ri_of (by decide +kernel) rfl
theorem wi_470_13 : ri (rt_P sc fm) 470 13 (.istore 4) (15) := ri_of (by decide +kernel) rfl
theorem wi_470_131 : ri (rt_P sc fm) 470 131 (.aload_n 0) (132) := ri_of (by decide +kernel) rfl
theorem wi_470_132 : ri (rt_P sc fm) 470 132 (.invokevirtual 958) (135) := ri_of (by decide +kernel) rfl
theorem wi_470_135 : ri (rt_P sc fm) 470 135 (.invokevirtual 916) (138) := ri_of (by decide +kernel) rfl
theorem wi_470_138 : ri (rt_P sc fm) 470 138 (.iconst 0) (139) := ri_of (by decide +kernel) rfl
theorem wi_470_139 : ri (rt_P sc fm) 470 139 (.istore 6) (141) := ri_of (by decide +kernel) rfl
theorem wi_470_141 : ri (rt_P sc fm) 470 141 (.iload 6) (143) := ri_of (by decide +kernel) rfl
theorem wi_470_143 : ri (rt_P sc fm) 470 143 (.aload_n 0) (144) := ri_of (by decide +kernel) rfl
theorem wi_470_144 : ri (rt_P sc fm) 470 144 (.getfield 209) (147) := ri_of (by decide +kernel) rfl
theorem wi_470_147 : ri (rt_P sc fm) 470 147 (.iload_n 2) (148) := ri_of (by decide +kernel) rfl
theorem wi_470_148 : ri (rt_P sc fm) 470 148 (.iaload) (149) := ri_of (by decide +kernel) rfl
theorem wi_470_149 : ri (rt_P sc fm) 470 149 (.if_icmp .ge 41) (152) := ri_of (by decide +kernel) rfl
theorem wi_470_15 : ri (rt_P sc fm) 470 15 (.iconst (-1)) (16) := ri_of (by decide +kernel) rfl
theorem wi_470_152 : ri (rt_P sc fm) 470 152 (.aload_n 0) (153) := ri_of (by decide +kernel) rfl
theorem wi_470_153 : ri (rt_P sc fm) 470 153 (.getfield 329) (156) := ri_of (by decide +kernel) rfl
theorem wi_470_156 : ri (rt_P sc fm) 470 156 (.iconst 4) (157) := ri_of (by decide +kernel) rfl
theorem wi_470_157 : ri (rt_P sc fm) 470 157 (.iload 4) (159) := ri_of (by decide +kernel) rfl
theorem wi_470_159 : ri (rt_P sc fm) 470 159 (.imul) (160) := ri_of (by decide +kernel) rfl
theorem wi_470_16 : ri (rt_P sc fm) 470 16 (.istore 5) (18) := ri_of (by decide +kernel) rfl
theorem wi_470_160 : ri (rt_P sc fm) 470 160 (.aload_n 0) (161) := ri_of (by decide +kernel) rfl
theorem wi_470_161 : ri (rt_P sc fm) 470 161 (.getfield 212) (164) := ri_of (by decide +kernel) rfl
theorem wi_470_164 : ri (rt_P sc fm) 470 164 (.iconst 4) (165) := ri_of (by decide +kernel) rfl
theorem wi_470_165 : ri (rt_P sc fm) 470 165 (.iload_n 2) (166) := ri_of (by decide +kernel) rfl
theorem wi_470_166 : ri (rt_P sc fm) 470 166 (.imul) (167) := ri_of (by decide +kernel) rfl
theorem wi_470_167 : ri (rt_P sc fm) 470 167 (.iload 6) (169) := ri_of (by decide +kernel) rfl
theorem wi_470_169 : ri (rt_P sc fm) 470 169 (.iadd) (170) := ri_of (by decide +kernel) rfl
theorem wi_470_170 : ri (rt_P sc fm) 470 170 (.iaload) (171) := ri_of (by decide +kernel) rfl
theorem wi_470_171 : ri (rt_P sc fm) 470 171 (.iadd) (172) := ri_of (by decide +kernel) rfl
theorem wi_470_172 : ri (rt_P sc fm) 470 172 (.aload_n 0) (173) := ri_of (by decide +kernel) rfl
theorem wi_470_173 : ri (rt_P sc fm) 470 173 (.getfield 215) (176) := ri_of (by decide +kernel) rfl
theorem wi_470_176 : ri (rt_P sc fm) 470 176 (.iconst 4) (177) := ri_of (by decide +kernel) rfl
theorem wi_470_177 : ri (rt_P sc fm) 470 177 (.iload_n 2) (178) := ri_of (by decide +kernel) rfl
theorem wi_470_178 : ri (rt_P sc fm) 470 178 (.imul) (179) := ri_of (by decide +kernel) rfl
theorem wi_470_179 : ri (rt_P sc fm) 470 179 (.iload 6) (181) := ri_of (by decide +kernel) rfl
theorem wi_470_18 : ri (rt_P sc fm) 470 18 (.aload_n 0) (19) := ri_of (by decide +kernel) rfl
theorem wi_470_181 : ri (rt_P sc fm) 470 181 (.iadd) (182) := ri_of (by decide +kernel) rfl
theorem wi_470_182 : ri (rt_P sc fm) 470 182 (.iaload) (183) := ri_of (by decide +kernel) rfl
theorem wi_470_183 : ri (rt_P sc fm) 470 183 (.iastore) (184) := ri_of (by decide +kernel) rfl
theorem wi_470_184 : ri (rt_P sc fm) 470 184 (.iinc 6 1) (187) := ri_of (by decide +kernel) rfl
theorem wi_470_187 : ri (rt_P sc fm) 470 187 (.goto (-46)) (190) := ri_of (by decide +kernel) rfl
theorem wi_470_19 : ri (rt_P sc fm) 470 19 (.getfield 185) (22) := ri_of (by decide +kernel) rfl
theorem wi_470_190 : ri (rt_P sc fm) 470 190 (.goto 529) (193) := ri_of (by decide +kernel) rfl
theorem wi_470_193 : ri (rt_P sc fm) 470 193 (.aload_n 0) (194) := ri_of (by decide +kernel) rfl
theorem wi_470_194 : ri (rt_P sc fm) 470 194 (.iload 4) (196) := ri_of (by decide +kernel) rfl
theorem wi_470_196 : ri (rt_P sc fm) 470 196 (.iload_n 3) (197) := ri_of (by decide +kernel) rfl
theorem wi_470_197 : ri (rt_P sc fm) 470 197 (.aload_n 0) (198) := ri_of (by decide +kernel) rfl
theorem wi_470_198 : ri (rt_P sc fm) 470 198 (.getfield 194) (201) := ri_of (by decide +kernel) rfl
theorem wi_470_2 : ri (rt_P sc fm) 470 2 (.iload_n 1) (3) := ri_of (by decide +kernel) rfl
theorem wi_470_201 : ri (rt_P sc fm) 470 201 (.iload_n 2) (202) := ri_of (by decide +kernel) rfl
theorem wi_470_202 : ri (rt_P sc fm) 470 202 (.iaload) (203) := ri_of (by decide +kernel) rfl
theorem wi_470_203 : ri (rt_P sc fm) 470 203 (.iadd) (204) := ri_of (by decide +kernel) rfl
theorem wi_470_204 : ri (rt_P sc fm) 470 204 (.invokevirtual 961) (207) := ri_of (by decide +kernel) rfl
theorem wi_470_207 : ri (rt_P sc fm) 470 207 (.goto 512) (210) := ri_of (by decide +kernel) rfl
theorem wi_470_210 : ri (rt_P sc fm) 470 210 (.aload_n 0) (211) := ri_of (by decide +kernel) rfl
theorem wi_470_211 : ri (rt_P sc fm) 470 211 (.iload_n 3) (212) := ri_of (by decide +kernel) rfl
theorem wi_470_212 : ri (rt_P sc fm) 470 212 (.aload_n 0) (213) := ri_of (by decide +kernel) rfl
theorem wi_470_213 : ri (rt_P sc fm) 470 213 (.getfield 194) (216) := ri_of (by decide +kernel) rfl
theorem wi_470_216 : ri (rt_P sc fm) 470 216 (.iload_n 2) (217) := ri_of (by decide +kernel) rfl
theorem wi_470_217 : ri (rt_P sc fm) 470 217 (.iaload) (218) := ri_of (by decide +kernel) rfl
theorem wi_470_218 : ri (rt_P sc fm) 470 218 (.iadd) (219) := ri_of (by decide +kernel) rfl
theorem wi_470_219 : ri (rt_P sc fm) 470 219 (.iload 4) (221) := ri_of (by decide +kernel) rfl
theorem wi_470_22 : ri (rt_P sc fm) 470 22 (.iload_n 2) (23) := ri_of (by decide +kernel) rfl
theorem wi_470_221 : ri (rt_P sc fm) 470 221 (.iconst 1) (222) := ri_of (by decide +kernel) rfl
theorem wi_470_222 : ri (rt_P sc fm) 470 222 (.isub) (223) := ri_of (by decide +kernel) rfl
theorem wi_470_223 : ri (rt_P sc fm) 470 223 (.invokevirtual 961) (226) := ri_of (by decide +kernel) rfl
theorem wi_470_226 : ri (rt_P sc fm) 470 226 (.goto 493) (229) := ri_of (by decide +kernel) rfl
theorem wi_470_229 : ri (rt_P sc fm) 470 229 (.aload_n 0) (230) := ri_of (by decide +kernel) rfl
theorem wi_470_23 : ri (rt_P sc fm) 470 23 (.iaload) (24) := ri_of (by decide +kernel) rfl
theorem wi_470_230 : ri (rt_P sc fm) 470 230 (.getfield 326) (233) := ri_of (by decide +kernel) rfl
theorem wi_470_233 : ri (rt_P sc fm) 470 233 (.iload 4) (235) := ri_of (by decide +kernel) rfl
theorem wi_470_235 : ri (rt_P sc fm) 470 235 (.aload_n 0) (236) := ri_of (by decide +kernel) rfl
theorem wi_470_236 : ri (rt_P sc fm) 470 236 (.getfield 332) (239) := ri_of (by decide +kernel) rfl
theorem wi_470_239 : ri (rt_P sc fm) 470 239 (.bipush 8) (241) := ri_of (by decide +kernel) rfl
theorem wi_470_24 : ri (rt_P sc fm) 470 24 (.tableswitch 695 14 30 #[84, 84, 169, 186, 205, 292, 695, 695, 383, 383, 383, 526, 695, 539, 550, 573, 621]) (24 + rx_len (.tableswitch 695 14 30 #[84, 84, 169, 186, 205, 292, 695, 695, 383, 383, 383, 526, 695, 539, 550, 573, 621])) := ri_of (by decide +kernel) rfl
theorem wi_470_241 : ri (rt_P sc fm) 470 241 (.aload_n 0) (242) := ri_of (by decide +kernel) rfl
theorem wi_470_242 : ri (rt_P sc fm) 470 242 (.getfield 194) (245) := ri_of (by decide +kernel) rfl
theorem wi_470_245 : ri (rt_P sc fm) 470 245 (.iload_n 2) (246) := ri_of (by decide +kernel) rfl
theorem wi_470_246 : ri (rt_P sc fm) 470 246 (.iaload) (247) := ri_of (by decide +kernel) rfl
theorem wi_470_247 : ri (rt_P sc fm) 470 247 (.imul) (248) := ri_of (by decide +kernel) rfl
theorem wi_470_248 : ri (rt_P sc fm) 470 248 (.aload_n 0) (249) := ri_of (by decide +kernel) rfl
theorem wi_470_249 : ri (rt_P sc fm) 470 249 (.getfield 197) (252) := ri_of (by decide +kernel) rfl
theorem wi_470_252 : ri (rt_P sc fm) 470 252 (.iload_n 2) (253) := ri_of (by decide +kernel) rfl
theorem wi_470_253 : ri (rt_P sc fm) 470 253 (.iaload) (254) := ri_of (by decide +kernel) rfl
theorem wi_470_254 : ri (rt_P sc fm) 470 254 (.iadd) (255) := ri_of (by decide +kernel) rfl
theorem wi_470_255 : ri (rt_P sc fm) 470 255 (.iaload) (256) := ri_of (by decide +kernel) rfl
theorem wi_470_256 : ri (rt_P sc fm) 470 256 (.iastore) (257) := ri_of (by decide +kernel) rfl
theorem wi_470_257 : ri (rt_P sc fm) 470 257 (.iconst 0) (258) := ri_of (by decide +kernel) rfl
theorem wi_470_258 : ri (rt_P sc fm) 470 258 (.istore 6) (260) := ri_of (by decide +kernel) rfl
theorem wi_470_260 : ri (rt_P sc fm) 470 260 (.iload 6) (262) := ri_of (by decide +kernel) rfl
theorem wi_470_262 : ri (rt_P sc fm) 470 262 (.aload_n 0) (263) := ri_of (by decide +kernel) rfl
theorem wi_470_263 : ri (rt_P sc fm) 470 263 (.getfield 447) (266) := ri_of (by decide +kernel) rfl
theorem wi_470_266 : ri (rt_P sc fm) 470 266 (.if_icmp .ge 47) (269) := ri_of (by decide +kernel) rfl
theorem wi_470_269 : ri (rt_P sc fm) 470 269 (.aload_n 0) (270) := ri_of (by decide +kernel) rfl
theorem wi_470_270 : ri (rt_P sc fm) 470 270 (.getfield 329) (273) := ri_of (by decide +kernel) rfl
theorem wi_470_273 : ri (rt_P sc fm) 470 273 (.iconst 4) (274) := ri_of (by decide +kernel) rfl
theorem wi_470_274 : ri (rt_P sc fm) 470 274 (.iload 4) (276) := ri_of (by decide +kernel) rfl
theorem wi_470_276 : ri (rt_P sc fm) 470 276 (.imul) (277) := ri_of (by decide +kernel) rfl
theorem wi_470_277 : ri (rt_P sc fm) 470 277 (.iload 6) (279) := ri_of (by decide +kernel) rfl
theorem wi_470_279 : ri (rt_P sc fm) 470 279 (.iadd) (280) := ri_of (by decide +kernel) rfl
theorem wi_470_280 : ri (rt_P sc fm) 470 280 (.aload_n 0) (281) := ri_of (by decide +kernel) rfl
theorem wi_470_281 : ri (rt_P sc fm) 470 281 (.getfield 335) (284) := ri_of (by decide +kernel) rfl
theorem wi_470_284 : ri (rt_P sc fm) 470 284 (.iconst 4) (285) := ri_of (by decide +kernel) rfl
theorem wi_470_285 : ri (rt_P sc fm) 470 285 (.bipush 8) (287) := ri_of (by decide +kernel) rfl
theorem wi_470_287 : ri (rt_P sc fm) 470 287 (.aload_n 0) (288) := ri_of (by decide +kernel) rfl
theorem wi_470_288 : ri (rt_P sc fm) 470 288 (.getfield 194) (291) := ri_of (by decide +kernel) rfl
theorem wi_470_291 : ri (rt_P sc fm) 470 291 (.iload_n 2) (292) := ri_of (by decide +kernel) rfl
theorem wi_470_292 : ri (rt_P sc fm) 470 292 (.iaload) (293) := ri_of (by decide +kernel) rfl
theorem wi_470_293 : ri (rt_P sc fm) 470 293 (.imul) (294) := ri_of (by decide +kernel) rfl
theorem wi_470_294 : ri (rt_P sc fm) 470 294 (.aload_n 0) (295) := ri_of (by decide +kernel) rfl
theorem wi_470_295 : ri (rt_P sc fm) 470 295 (.getfield 197) (298) := ri_of (by decide +kernel) rfl
theorem wi_470_298 : ri (rt_P sc fm) 470 298 (.iload_n 2) (299) := ri_of (by decide +kernel) rfl
theorem wi_470_299 : ri (rt_P sc fm) 470 299 (.iaload) (300) := ri_of (by decide +kernel) rfl
theorem wi_470_3 : ri (rt_P sc fm) 470 3 (.imul) (4) := ri_of (by decide +kernel) rfl
theorem wi_470_300 : ri (rt_P sc fm) 470 300 (.iadd) (301) := ri_of (by decide +kernel) rfl
theorem wi_470_301 : ri (rt_P sc fm) 470 301 (.imul) (302) := ri_of (by decide +kernel) rfl
theorem wi_470_302 : ri (rt_P sc fm) 470 302 (.iload 6) (304) := ri_of (by decide +kernel) rfl
theorem wi_470_304 : ri (rt_P sc fm) 470 304 (.iadd) (305) := ri_of (by decide +kernel) rfl
theorem wi_470_305 : ri (rt_P sc fm) 470 305 (.iaload) (306) := ri_of (by decide +kernel) rfl
theorem wi_470_306 : ri (rt_P sc fm) 470 306 (.iastore) (307) := ri_of (by decide +kernel) rfl
theorem wi_470_307 : ri (rt_P sc fm) 470 307 (.iinc 6 1) (310) := ri_of (by decide +kernel) rfl
theorem wi_470_310 : ri (rt_P sc fm) 470 310 (.goto (-50)) (313) := ri_of (by decide +kernel) rfl
theorem wi_470_313 : ri (rt_P sc fm) 470 313 (.goto 406) (316) := ri_of (by decide +kernel) rfl
theorem wi_470_316 : ri (rt_P sc fm) 470 316 (.aload_n 0) (317) := ri_of (by decide +kernel) rfl
theorem wi_470_317 : ri (rt_P sc fm) 470 317 (.getfield 332) (320) := ri_of (by decide +kernel) rfl
theorem wi_470_320 : ri (rt_P sc fm) 470 320 (.bipush 8) (322) := ri_of (by decide +kernel) rfl
theorem wi_470_322 : ri (rt_P sc fm) 470 322 (.aload_n 0) (323) := ri_of (by decide +kernel) rfl
theorem wi_470_323 : ri (rt_P sc fm) 470 323 (.getfield 194) (326) := ri_of (by decide +kernel) rfl
theorem wi_470_326 : ri (rt_P sc fm) 470 326 (.iload_n 2) (327) := ri_of (by decide +kernel) rfl
theorem wi_470_327 : ri (rt_P sc fm) 470 327 (.iaload) (328) := ri_of (by decide +kernel) rfl
theorem wi_470_328 : ri (rt_P sc fm) 470 328 (.imul) (329) := ri_of (by decide +kernel) rfl
theorem wi_470_329 : ri (rt_P sc fm) 470 329 (.aload_n 0) (330) := ri_of (by decide +kernel) rfl
theorem wi_470_330 : ri (rt_P sc fm) 470 330 (.getfield 197) (333) := ri_of (by decide +kernel) rfl
theorem wi_470_333 : ri (rt_P sc fm) 470 333 (.iload_n 2) (334) := ri_of (by decide +kernel) rfl
theorem wi_470_334 : ri (rt_P sc fm) 470 334 (.iaload) (335) := ri_of (by decide +kernel) rfl
theorem wi_470_335 : ri (rt_P sc fm) 470 335 (.iadd) (336) := ri_of (by decide +kernel) rfl
theorem wi_470_336 : ri (rt_P sc fm) 470 336 (.aload_n 0) (337) := ri_of (by decide +kernel) rfl
theorem wi_470_337 : ri (rt_P sc fm) 470 337 (.getfield 326) (340) := ri_of (by decide +kernel) rfl
theorem wi_470_340 : ri (rt_P sc fm) 470 340 (.iload 4) (342) := ri_of (by decide +kernel) rfl
theorem wi_470_342 : ri (rt_P sc fm) 470 342 (.iconst 1) (343) := ri_of (by decide +kernel) rfl
theorem wi_470_343 : ri (rt_P sc fm) 470 343 (.isub) (344) := ri_of (by decide +kernel) rfl
theorem wi_470_344 : ri (rt_P sc fm) 470 344 (.iaload) (345) := ri_of (by decide +kernel) rfl
theorem wi_470_345 : ri (rt_P sc fm) 470 345 (.iastore) (346) := ri_of (by decide +kernel) rfl
theorem wi_470_346 : ri (rt_P sc fm) 470 346 (.iconst 0) (347) := ri_of (by decide +kernel) rfl
theorem wi_470_347 : ri (rt_P sc fm) 470 347 (.istore 6) (349) := ri_of (by decide +kernel) rfl
theorem wi_470_349 : ri (rt_P sc fm) 470 349 (.iload 6) (351) := ri_of (by decide +kernel) rfl
theorem wi_470_351 : ri (rt_P sc fm) 470 351 (.aload_n 0) (352) := ri_of (by decide +kernel) rfl
theorem wi_470_352 : ri (rt_P sc fm) 470 352 (.getfield 447) (355) := ri_of (by decide +kernel) rfl
theorem wi_470_355 : ri (rt_P sc fm) 470 355 (.if_icmp .ge 49) (358) := ri_of (by decide +kernel) rfl
theorem wi_470_358 : ri (rt_P sc fm) 470 358 (.aload_n 0) (359) := ri_of (by decide +kernel) rfl
theorem wi_470_359 : ri (rt_P sc fm) 470 359 (.getfield 335) (362) := ri_of (by decide +kernel) rfl
theorem wi_470_362 : ri (rt_P sc fm) 470 362 (.iconst 4) (363) := ri_of (by decide +kernel) rfl
theorem wi_470_363 : ri (rt_P sc fm) 470 363 (.bipush 8) (365) := ri_of (by decide +kernel) rfl
theorem wi_470_365 : ri (rt_P sc fm) 470 365 (.aload_n 0) (366) := ri_of (by decide +kernel) rfl
theorem wi_470_366 : ri (rt_P sc fm) 470 366 (.getfield 194) (369) := ri_of (by decide +kernel) rfl
theorem wi_470_369 : ri (rt_P sc fm) 470 369 (.iload_n 2) (370) := ri_of (by decide +kernel) rfl
theorem wi_470_370 : ri (rt_P sc fm) 470 370 (.iaload) (371) := ri_of (by decide +kernel) rfl
theorem wi_470_371 : ri (rt_P sc fm) 470 371 (.imul) (372) := ri_of (by decide +kernel) rfl
theorem wi_470_372 : ri (rt_P sc fm) 470 372 (.aload_n 0) (373) := ri_of (by decide +kernel) rfl
theorem wi_470_373 : ri (rt_P sc fm) 470 373 (.getfield 197) (376) := ri_of (by decide +kernel) rfl
theorem wi_470_376 : ri (rt_P sc fm) 470 376 (.iload_n 2) (377) := ri_of (by decide +kernel) rfl
theorem wi_470_377 : ri (rt_P sc fm) 470 377 (.iaload) (378) := ri_of (by decide +kernel) rfl
theorem wi_470_378 : ri (rt_P sc fm) 470 378 (.iadd) (379) := ri_of (by decide +kernel) rfl
theorem wi_470_379 : ri (rt_P sc fm) 470 379 (.imul) (380) := ri_of (by decide +kernel) rfl
theorem wi_470_380 : ri (rt_P sc fm) 470 380 (.iload 6) (382) := ri_of (by decide +kernel) rfl
theorem wi_470_382 : ri (rt_P sc fm) 470 382 (.iadd) (383) := ri_of (by decide +kernel) rfl
theorem wi_470_383 : ri (rt_P sc fm) 470 383 (.aload_n 0) (384) := ri_of (by decide +kernel) rfl
theorem wi_470_384 : ri (rt_P sc fm) 470 384 (.getfield 329) (387) := ri_of (by decide +kernel) rfl
theorem wi_470_387 : ri (rt_P sc fm) 470 387 (.iconst 4) (388) := ri_of (by decide +kernel) rfl
theorem wi_470_388 : ri (rt_P sc fm) 470 388 (.iload 4) (390) := ri_of (by decide +kernel) rfl
theorem wi_470_390 : ri (rt_P sc fm) 470 390 (.iconst 1) (391) := ri_of (by decide +kernel) rfl
theorem wi_470_391 : ri (rt_P sc fm) 470 391 (.isub) (392) := ri_of (by decide +kernel) rfl
theorem wi_470_392 : ri (rt_P sc fm) 470 392 (.imul) (393) := ri_of (by decide +kernel) rfl
theorem wi_470_393 : ri (rt_P sc fm) 470 393 (.iload 6) (395) := ri_of (by decide +kernel) rfl
theorem wi_470_395 : ri (rt_P sc fm) 470 395 (.iadd) (396) := ri_of (by decide +kernel) rfl
theorem wi_470_396 : ri (rt_P sc fm) 470 396 (.iaload) (397) := ri_of (by decide +kernel) rfl
theorem wi_470_397 : ri (rt_P sc fm) 470 397 (.iastore) (398) := ri_of (by decide +kernel) rfl
theorem wi_470_398 : ri (rt_P sc fm) 470 398 (.iinc 6 1) (401) := ri_of (by decide +kernel) rfl
theorem wi_470_4 : ri (rt_P sc fm) 470 4 (.istore_n 3) (5) := ri_of (by decide +kernel) rfl
theorem wi_470_401 : ri (rt_P sc fm) 470 401 (.goto (-52)) (404) := ri_of (by decide +kernel) rfl
theorem wi_470_404 : ri (rt_P sc fm) 470 404 (.goto 315) (407) := ri_of (by decide +kernel) rfl
theorem wi_470_407 : ri (rt_P sc fm) 470 407 (.aload_n 0) (408) := ri_of (by decide +kernel) rfl
theorem wi_470_408 : ri (rt_P sc fm) 470 408 (.getfield 326) (411) := ri_of (by decide +kernel) rfl
theorem wi_470_411 : ri (rt_P sc fm) 470 411 (.iload 4) (413) := ri_of (by decide +kernel) rfl
theorem wi_470_413 : ri (rt_P sc fm) 470 413 (.iconst 2) (414) := ri_of (by decide +kernel) rfl
theorem wi_470_414 : ri (rt_P sc fm) 470 414 (.isub) (415) := ri_of (by decide +kernel) rfl
theorem wi_470_415 : ri (rt_P sc fm) 470 415 (.iaload) (416) := ri_of (by decide +kernel) rfl
theorem wi_470_416 : ri (rt_P sc fm) 470 416 (.istore 6) (418) := ri_of (by decide +kernel) rfl
theorem wi_470_418 : ri (rt_P sc fm) 470 418 (.aload_n 0) (419) := ri_of (by decide +kernel) rfl
theorem wi_470_419 : ri (rt_P sc fm) 470 419 (.getfield 326) (422) := ri_of (by decide +kernel) rfl
theorem wi_470_422 : ri (rt_P sc fm) 470 422 (.iload 4) (424) := ri_of (by decide +kernel) rfl
theorem wi_470_424 : ri (rt_P sc fm) 470 424 (.iconst 1) (425) := ri_of (by decide +kernel) rfl
theorem wi_470_425 : ri (rt_P sc fm) 470 425 (.isub) (426) := ri_of (by decide +kernel) rfl
theorem wi_470_426 : ri (rt_P sc fm) 470 426 (.iaload) (427) := ri_of (by decide +kernel) rfl
theorem wi_470_427 : ri (rt_P sc fm) 470 427 (.istore 7) (429) := ri_of (by decide +kernel) rfl
theorem wi_470_429 : ri (rt_P sc fm) 470 429 (.aload_n 0) (430) := ri_of (by decide +kernel) rfl
theorem wi_470_430 : ri (rt_P sc fm) 470 430 (.getfield 326) (433) := ri_of (by decide +kernel) rfl
theorem wi_470_433 : ri (rt_P sc fm) 470 433 (.iload 4) (435) := ri_of (by decide +kernel) rfl
theorem wi_470_435 : ri (rt_P sc fm) 470 435 (.iconst 2) (436) := ri_of (by decide +kernel) rfl
theorem wi_470_436 : ri (rt_P sc fm) 470 436 (.isub) (437) := ri_of (by decide +kernel) rfl
theorem wi_470_437 : ri (rt_P sc fm) 470 437 (.aload_n 0) (438) := ri_of (by decide +kernel) rfl
theorem wi_470_438 : ri (rt_P sc fm) 470 438 (.getfield 185) (441) := ri_of (by decide +kernel) rfl
theorem wi_470_441 : ri (rt_P sc fm) 470 441 (.iload_n 2) (442) := ri_of (by decide +kernel) rfl
theorem wi_470_442 : ri (rt_P sc fm) 470 442 (.iaload) (443) := ri_of (by decide +kernel) rfl
theorem wi_470_443 : ri (rt_P sc fm) 470 443 (.bipush 22) (445) := ri_of (by decide +kernel) rfl
theorem wi_470_445 : ri (rt_P sc fm) 470 445 (.if_icmp .ne 11) (448) := ri_of (by decide +kernel) rfl
theorem wi_470_448 : ri (rt_P sc fm) 470 448 (.iload 6) (450) := ri_of (by decide +kernel) rfl
theorem wi_470_450 : ri (rt_P sc fm) 470 450 (.iload 7) (452) := ri_of (by decide +kernel) rfl
theorem wi_470_452 : ri (rt_P sc fm) 470 452 (.iadd) (453) := ri_of (by decide +kernel) rfl
theorem wi_470_453 : ri (rt_P sc fm) 470 453 (.goto 27) (456) := ri_of (by decide +kernel) rfl
theorem wi_470_456 : ri (rt_P sc fm) 470 456 (.aload_n 0) (457) := ri_of (by decide +kernel) rfl
theorem wi_470_457 : ri (rt_P sc fm) 470 457 (.getfield 185) (460) := ri_of (by decide +kernel) rfl
theorem wi_470_460 : ri (rt_P sc fm) 470 460 (.iload_n 2) (461) := ri_of (by decide +kernel) rfl
theorem wi_470_461 : ri (rt_P sc fm) 470 461 (.iaload) (462) := ri_of (by decide +kernel) rfl
theorem wi_470_462 : ri (rt_P sc fm) 470 462 (.bipush 23) (464) := ri_of (by decide +kernel) rfl
theorem wi_470_464 : ri (rt_P sc fm) 470 464 (.if_icmp .ne 11) (467) := ri_of (by decide +kernel) rfl
theorem wi_470_467 : ri (rt_P sc fm) 470 467 (.iload 6) (469) := ri_of (by decide +kernel) rfl
theorem wi_470_469 : ri (rt_P sc fm) 470 469 (.iload 7) (471) := ri_of (by decide +kernel) rfl
theorem wi_470_471 : ri (rt_P sc fm) 470 471 (.isub) (472) := ri_of (by decide +kernel) rfl
theorem wi_470_472 : ri (rt_P sc fm) 470 472 (.goto 8) (475) := ri_of (by decide +kernel) rfl
theorem wi_470_475 : ri (rt_P sc fm) 470 475 (.iload 6) (477) := ri_of (by decide +kernel) rfl
theorem wi_470_477 : ri (rt_P sc fm) 470 477 (.iload 7) (479) := ri_of (by decide +kernel) rfl
theorem wi_470_479 : ri (rt_P sc fm) 470 479 (.imul) (480) := ri_of (by decide +kernel) rfl
theorem wi_470_480 : ri (rt_P sc fm) 470 480 (.iastore) (481) := ri_of (by decide +kernel) rfl
theorem wi_470_481 : ri (rt_P sc fm) 470 481 (.iconst 0) (482) := ri_of (by decide +kernel) rfl
theorem wi_470_482 : ri (rt_P sc fm) 470 482 (.istore 8) (484) := ri_of (by decide +kernel) rfl
theorem wi_470_484 : ri (rt_P sc fm) 470 484 (.iload 8) (486) := ri_of (by decide +kernel) rfl
theorem wi_470_486 : ri (rt_P sc fm) 470 486 (.aload_n 0) (487) := ri_of (by decide +kernel) rfl
theorem wi_470_487 : ri (rt_P sc fm) 470 487 (.getfield 447) (490) := ri_of (by decide +kernel) rfl
theorem wi_470_490 : ri (rt_P sc fm) 470 490 (.if_icmp .ge 57) (493) := ri_of (by decide +kernel) rfl
theorem wi_470_493 : ri (rt_P sc fm) 470 493 (.aload_n 0) (494) := ri_of (by decide +kernel) rfl
theorem wi_470_494 : ri (rt_P sc fm) 470 494 (.getfield 329) (497) := ri_of (by decide +kernel) rfl
theorem wi_470_497 : ri (rt_P sc fm) 470 497 (.iconst 4) (498) := ri_of (by decide +kernel) rfl
theorem wi_470_498 : ri (rt_P sc fm) 470 498 (.iload 4) (500) := ri_of (by decide +kernel) rfl
theorem wi_470_5 : ri (rt_P sc fm) 470 5 (.iload_n 3) (6) := ri_of (by decide +kernel) rfl
theorem wi_470_500 : ri (rt_P sc fm) 470 500 (.iconst 2) (501) := ri_of (by decide +kernel) rfl
theorem wi_470_501 : ri (rt_P sc fm) 470 501 (.isub) (502) := ri_of (by decide +kernel) rfl
theorem wi_470_502 : ri (rt_P sc fm) 470 502 (.imul) (503) := ri_of (by decide +kernel) rfl
theorem wi_470_503 : ri (rt_P sc fm) 470 503 (.iload 8) (505) := ri_of (by decide +kernel) rfl
theorem wi_470_505 : ri (rt_P sc fm) 470 505 (.iadd) (506) := ri_of (by decide +kernel) rfl
theorem wi_470_506 : ri (rt_P sc fm) 470 506 (.aload_n 0) (507) := ri_of (by decide +kernel) rfl
theorem wi_470_507 : ri (rt_P sc fm) 470 507 (.iload 8) (509) := ri_of (by decide +kernel) rfl
theorem wi_470_509 : ri (rt_P sc fm) 470 509 (.aload_n 0) (510) := ri_of (by decide +kernel) rfl
theorem wi_470_510 : ri (rt_P sc fm) 470 510 (.getfield 329) (513) := ri_of (by decide +kernel) rfl
theorem wi_470_513 : ri (rt_P sc fm) 470 513 (.iconst 4) (514) := ri_of (by decide +kernel) rfl
theorem wi_470_514 : ri (rt_P sc fm) 470 514 (.iload 4) (516) := ri_of (by decide +kernel) rfl
theorem wi_470_516 : ri (rt_P sc fm) 470 516 (.iconst 2) (517) := ri_of (by decide +kernel) rfl
theorem wi_470_517 : ri (rt_P sc fm) 470 517 (.isub) (518) := ri_of (by decide +kernel) rfl
theorem wi_470_518 : ri (rt_P sc fm) 470 518 (.imul) (519) := ri_of (by decide +kernel) rfl
theorem wi_470_519 : ri (rt_P sc fm) 470 519 (.iload 8) (521) := ri_of (by decide +kernel) rfl
theorem wi_470_521 : ri (rt_P sc fm) 470 521 (.iadd) (522) := ri_of (by decide +kernel) rfl
theorem wi_470_522 : ri (rt_P sc fm) 470 522 (.iaload) (523) := ri_of (by decide +kernel) rfl
theorem wi_470_523 : ri (rt_P sc fm) 470 523 (.aload_n 0) (524) := ri_of (by decide +kernel) rfl
theorem wi_470_524 : ri (rt_P sc fm) 470 524 (.getfield 329) (527) := ri_of (by decide +kernel) rfl
theorem wi_470_527 : ri (rt_P sc fm) 470 527 (.iconst 4) (528) := ri_of (by decide +kernel) rfl
theorem wi_470_528 : ri (rt_P sc fm) 470 528 (.iload 4) (530) := ri_of (by decide +kernel) rfl
theorem wi_470_530 : ri (rt_P sc fm) 470 530 (.iconst 1) (531) := ri_of (by decide +kernel) rfl
theorem wi_470_531 : ri (rt_P sc fm) 470 531 (.isub) (532) := ri_of (by decide +kernel) rfl
theorem wi_470_532 : ri (rt_P sc fm) 470 532 (.imul) (533) := ri_of (by decide +kernel) rfl
theorem wi_470_533 : ri (rt_P sc fm) 470 533 (.iload 8) (535) := ri_of (by decide +kernel) rfl
theorem wi_470_535 : ri (rt_P sc fm) 470 535 (.iadd) (536) := ri_of (by decide +kernel) rfl
theorem wi_470_536 : ri (rt_P sc fm) 470 536 (.iaload) (537) := ri_of (by decide +kernel) rfl
theorem wi_470_537 : ri (rt_P sc fm) 470 537 (.invokevirtual 727) (540) := ri_of (by decide +kernel) rfl
theorem wi_470_540 : ri (rt_P sc fm) 470 540 (.iastore) (541) := ri_of (by decide +kernel) rfl
theorem wi_470_541 : ri (rt_P sc fm) 470 541 (.iinc 8 1) (544) := ri_of (by decide +kernel) rfl
theorem wi_470_544 : ri (rt_P sc fm) 470 544 (.goto (-60)) (547) := ri_of (by decide +kernel) rfl
theorem wi_470_547 : ri (rt_P sc fm) 470 547 (.goto 172) (550) := ri_of (by decide +kernel) rfl
theorem wi_470_550 : ri (rt_P sc fm) 470 550 (.aload_n 0) (551) := ri_of (by decide +kernel) rfl
theorem wi_470_551 : ri (rt_P sc fm) 470 551 (.iload 4) (553) := ri_of (by decide +kernel) rfl
theorem wi_470_553 : ri (rt_P sc fm) 470 553 (.iload 4) (555) := ri_of (by decide +kernel) rfl
theorem wi_470_555 : ri (rt_P sc fm) 470 555 (.iconst 1) (556) := ri_of (by decide +kernel) rfl
theorem wi_470_556 : ri (rt_P sc fm) 470 556 (.isub) (557) := ri_of (by decide +kernel) rfl
theorem wi_470_557 : ri (rt_P sc fm) 470 557 (.invokevirtual 961) (560) := ri_of (by decide +kernel) rfl
theorem wi_470_560 : ri (rt_P sc fm) 470 560 (.goto 159) (563) := ri_of (by decide +kernel) rfl
theorem wi_470_563 : ri (rt_P sc fm) 470 563 (.aload_n 0) (564) := ri_of (by decide +kernel) rfl
theorem wi_470_564 : ri (rt_P sc fm) 470 564 (.getfield 200) (567) := ri_of (by decide +kernel) rfl
theorem wi_470_567 : ri (rt_P sc fm) 470 567 (.iload_n 2) (568) := ri_of (by decide +kernel) rfl
theorem wi_470_568 : ri (rt_P sc fm) 470 568 (.iaload) (569) := ri_of (by decide +kernel) rfl
theorem wi_470_569 : ri (rt_P sc fm) 470 569 (.istore 5) (571) := ri_of (by decide +kernel) rfl
theorem wi_470_571 : ri (rt_P sc fm) 470 571 (.goto 148) (574) := ri_of (by decide +kernel) rfl
theorem wi_470_574 : ri (rt_P sc fm) 470 574 (.aload_n 0) (575) := ri_of (by decide +kernel) rfl
theorem wi_470_575 : ri (rt_P sc fm) 470 575 (.getfield 326) (578) := ri_of (by decide +kernel) rfl
theorem wi_470_578 : ri (rt_P sc fm) 470 578 (.iload 4) (580) := ri_of (by decide +kernel) rfl
theorem wi_470_580 : ri (rt_P sc fm) 470 580 (.iconst 1) (581) := ri_of (by decide +kernel) rfl
theorem wi_470_581 : ri (rt_P sc fm) 470 581 (.isub) (582) := ri_of (by decide +kernel) rfl
theorem wi_470_582 : ri (rt_P sc fm) 470 582 (.iaload) (583) := ri_of (by decide +kernel) rfl
theorem wi_470_583 : ri (rt_P sc fm) 470 583 (.ifCond .ne 136) (586) := ri_of (by decide +kernel) rfl
theorem wi_470_586 : ri (rt_P sc fm) 470 586 (.aload_n 0) (587) := ri_of (by decide +kernel) rfl
theorem wi_470_587 : ri (rt_P sc fm) 470 587 (.getfield 200) (590) := ri_of (by decide +kernel) rfl
theorem wi_470_590 : ri (rt_P sc fm) 470 590 (.iload_n 2) (591) := ri_of (by decide +kernel) rfl
theorem wi_470_591 : ri (rt_P sc fm) 470 591 (.iaload) (592) := ri_of (by decide +kernel) rfl
theorem wi_470_592 : ri (rt_P sc fm) 470 592 (.istore 5) (594) := ri_of (by decide +kernel) rfl
theorem wi_470_594 : ri (rt_P sc fm) 470 594 (.goto 125) (597) := ri_of (by decide +kernel) rfl
theorem wi_470_597 : ri (rt_P sc fm) 470 597 (.aload_n 0) (598) := ri_of (by decide +kernel) rfl
theorem wi_470_598 : ri (rt_P sc fm) 470 598 (.aload_n 0) (599) := ri_of (by decide +kernel) rfl
theorem wi_470_599 : ri (rt_P sc fm) 470 599 (.getfield 194) (602) := ri_of (by decide +kernel) rfl
theorem wi_470_6 : ri (rt_P sc fm) 470 6 (.aload_n 0) (7) := ri_of (by decide +kernel) rfl
theorem wi_470_602 : ri (rt_P sc fm) 470 602 (.iload_n 2) (603) := ri_of (by decide +kernel) rfl
theorem wi_470_603 : ri (rt_P sc fm) 470 603 (.iaload) (604) := ri_of (by decide +kernel) rfl
theorem wi_470_604 : ri (rt_P sc fm) 470 604 (.aload_n 0) (605) := ri_of (by decide +kernel) rfl
theorem wi_470_605 : ri (rt_P sc fm) 470 605 (.getfield 329) (608) := ri_of (by decide +kernel) rfl
theorem wi_470_608 : ri (rt_P sc fm) 470 608 (.iconst 4) (609) := ri_of (by decide +kernel) rfl
theorem wi_470_609 : ri (rt_P sc fm) 470 609 (.iload 4) (611) := ri_of (by decide +kernel) rfl
theorem wi_470_611 : ri (rt_P sc fm) 470 611 (.iconst 1) (612) := ri_of (by decide +kernel) rfl
theorem wi_470_612 : ri (rt_P sc fm) 470 612 (.isub) (613) := ri_of (by decide +kernel) rfl
theorem wi_470_613 : ri (rt_P sc fm) 470 613 (.imul) (614) := ri_of (by decide +kernel) rfl
theorem wi_470_614 : ri (rt_P sc fm) 470 614 (.aload_n 0) (615) := ri_of (by decide +kernel) rfl
theorem wi_470_615 : ri (rt_P sc fm) 470 615 (.getfield 194) (618) := ri_of (by decide +kernel) rfl
theorem wi_470_618 : ri (rt_P sc fm) 470 618 (.iload_n 2) (619) := ri_of (by decide +kernel) rfl
theorem wi_470_619 : ri (rt_P sc fm) 470 619 (.iaload) (620) := ri_of (by decide +kernel) rfl
theorem wi_470_620 : ri (rt_P sc fm) 470 620 (.iadd) (621) := ri_of (by decide +kernel) rfl
theorem wi_470_621 : ri (rt_P sc fm) 470 621 (.iaload) (622) := ri_of (by decide +kernel) rfl
theorem wi_470_622 : ri (rt_P sc fm) 470 622 (.aload_n 0) (623) := ri_of (by decide +kernel) rfl
theorem wi_470_623 : ri (rt_P sc fm) 470 623 (.getfield 197) (626) := ri_of (by decide +kernel) rfl
theorem wi_470_626 : ri (rt_P sc fm) 470 626 (.iload_n 2) (627) := ri_of (by decide +kernel) rfl
theorem wi_470_627 : ri (rt_P sc fm) 470 627 (.iaload) (628) := ri_of (by decide +kernel) rfl
theorem wi_470_628 : ri (rt_P sc fm) 470 628 (.invokevirtual 535) (631) := ri_of (by decide +kernel) rfl
theorem wi_470_631 : ri (rt_P sc fm) 470 631 (.ifCond .eq 88) (634) := ri_of (by decide +kernel) rfl
theorem wi_470_634 : ri (rt_P sc fm) 470 634 (.aload_n 0) (635) := ri_of (by decide +kernel) rfl
theorem wi_470_635 : ri (rt_P sc fm) 470 635 (.getfield 200) (638) := ri_of (by decide +kernel) rfl
theorem wi_470_638 : ri (rt_P sc fm) 470 638 (.iload_n 2) (639) := ri_of (by decide +kernel) rfl
theorem wi_470_639 : ri (rt_P sc fm) 470 639 (.iaload) (640) := ri_of (by decide +kernel) rfl
theorem wi_470_640 : ri (rt_P sc fm) 470 640 (.istore 5) (642) := ri_of (by decide +kernel) rfl
theorem wi_470_642 : ri (rt_P sc fm) 470 642 (.goto 77) (645) := ri_of (by decide +kernel) rfl
theorem wi_470_645 : ri (rt_P sc fm) 470 645 (.aload_n 0) (646) := ri_of (by decide +kernel) rfl
theorem wi_470_646 : ri (rt_P sc fm) 470 646 (.aload_n 0) (647) := ri_of (by decide +kernel) rfl
theorem wi_470_647 : ri (rt_P sc fm) 470 647 (.getfield 194) (650) := ri_of (by decide +kernel) rfl
theorem wi_470_650 : ri (rt_P sc fm) 470 650 (.iload_n 2) (651) := ri_of (by decide +kernel) rfl
theorem wi_470_651 : ri (rt_P sc fm) 470 651 (.iaload) (652) := ri_of (by decide +kernel) rfl
theorem wi_470_652 : ri (rt_P sc fm) 470 652 (.aload_n 0) (653) := ri_of (by decide +kernel) rfl
theorem wi_470_653 : ri (rt_P sc fm) 470 653 (.getfield 329) (656) := ri_of (by decide +kernel) rfl
theorem wi_470_656 : ri (rt_P sc fm) 470 656 (.iconst 4) (657) := ri_of (by decide +kernel) rfl
theorem wi_470_657 : ri (rt_P sc fm) 470 657 (.iload 4) (659) := ri_of (by decide +kernel) rfl
theorem wi_470_659 : ri (rt_P sc fm) 470 659 (.iconst 1) (660) := ri_of (by decide +kernel) rfl
theorem wi_470_660 : ri (rt_P sc fm) 470 660 (.isub) (661) := ri_of (by decide +kernel) rfl
theorem wi_470_661 : ri (rt_P sc fm) 470 661 (.imul) (662) := ri_of (by decide +kernel) rfl
theorem wi_470_662 : ri (rt_P sc fm) 470 662 (.aload_n 0) (663) := ri_of (by decide +kernel) rfl
theorem wi_470_663 : ri (rt_P sc fm) 470 663 (.getfield 194) (666) := ri_of (by decide +kernel) rfl
theorem wi_470_666 : ri (rt_P sc fm) 470 666 (.iload_n 2) (667) := ri_of (by decide +kernel) rfl
theorem wi_470_667 : ri (rt_P sc fm) 470 667 (.iaload) (668) := ri_of (by decide +kernel) rfl
theorem wi_470_668 : ri (rt_P sc fm) 470 668 (.iadd) (669) := ri_of (by decide +kernel) rfl
theorem wi_470_669 : ri (rt_P sc fm) 470 669 (.iaload) (670) := ri_of (by decide +kernel) rfl
theorem wi_470_670 : ri (rt_P sc fm) 470 670 (.aload_n 0) (671) := ri_of (by decide +kernel) rfl
theorem wi_470_671 : ri (rt_P sc fm) 470 671 (.getfield 197) (674) := ri_of (by decide +kernel) rfl
theorem wi_470_674 : ri (rt_P sc fm) 470 674 (.iload_n 2) (675) := ri_of (by decide +kernel) rfl
theorem wi_470_675 : ri (rt_P sc fm) 470 675 (.iaload) (676) := ri_of (by decide +kernel) rfl
theorem wi_470_676 : ri (rt_P sc fm) 470 676 (.invokevirtual 535) (679) := ri_of (by decide +kernel) rfl
theorem wi_470_679 : ri (rt_P sc fm) 470 679 (.ifCond .ne 13) (682) := ri_of (by decide +kernel) rfl
theorem wi_470_682 : ri (rt_P sc fm) 470 682 (.aload_n 0) (683) := ri_of (by decide +kernel) rfl
theorem wi_470_683 : ri (rt_P sc fm) 470 683 (.dup) (684) := ri_of (by decide +kernel) rfl
theorem wi_470_684 : ri (rt_P sc fm) 470 684 (.getfield 940) (687) := ri_of (by decide +kernel) rfl
theorem wi_470_687 : ri (rt_P sc fm) 470 687 (.iconst 1) (688) := ri_of (by decide +kernel) rfl
theorem wi_470_688 : ri (rt_P sc fm) 470 688 (.iadd) (689) := ri_of (by decide +kernel) rfl
theorem wi_470_689 : ri (rt_P sc fm) 470 689 (.putfield 940) (692) := ri_of (by decide +kernel) rfl
theorem wi_470_692 : ri (rt_P sc fm) 470 692 (.aload_n 0) (693) := ri_of (by decide +kernel) rfl
theorem wi_470_693 : ri (rt_P sc fm) 470 693 (.getfield 329) (696) := ri_of (by decide +kernel) rfl
theorem wi_470_696 : ri (rt_P sc fm) 470 696 (.iconst 4) (697) := ri_of (by decide +kernel) rfl
theorem wi_470_697 : ri (rt_P sc fm) 470 697 (.iload 4) (699) := ri_of (by decide +kernel) rfl
theorem wi_470_699 : ri (rt_P sc fm) 470 699 (.iconst 1) (700) := ri_of (by decide +kernel) rfl
theorem wi_470_7 : ri (rt_P sc fm) 470 7 (.getfield 323) (10) := ri_of (by decide +kernel) rfl
theorem wi_470_700 : ri (rt_P sc fm) 470 700 (.isub) (701) := ri_of (by decide +kernel) rfl
theorem wi_470_701 : ri (rt_P sc fm) 470 701 (.imul) (702) := ri_of (by decide +kernel) rfl
theorem wi_470_702 : ri (rt_P sc fm) 470 702 (.aload_n 0) (703) := ri_of (by decide +kernel) rfl
theorem wi_470_703 : ri (rt_P sc fm) 470 703 (.getfield 194) (706) := ri_of (by decide +kernel) rfl
theorem wi_470_706 : ri (rt_P sc fm) 470 706 (.iload_n 2) (707) := ri_of (by decide +kernel) rfl
theorem wi_470_707 : ri (rt_P sc fm) 470 707 (.iaload) (708) := ri_of (by decide +kernel) rfl
theorem wi_470_708 : ri (rt_P sc fm) 470 708 (.iadd) (709) := ri_of (by decide +kernel) rfl
theorem wi_470_709 : ri (rt_P sc fm) 470 709 (.aload_n 0) (710) := ri_of (by decide +kernel) rfl
theorem wi_470_710 : ri (rt_P sc fm) 470 710 (.getfield 197) (713) := ri_of (by decide +kernel) rfl
theorem wi_470_713 : ri (rt_P sc fm) 470 713 (.iload_n 2) (714) := ri_of (by decide +kernel) rfl
theorem wi_470_714 : ri (rt_P sc fm) 470 714 (.iaload) (715) := ri_of (by decide +kernel) rfl
theorem wi_470_715 : ri (rt_P sc fm) 470 715 (.iastore) (716) := ri_of (by decide +kernel) rfl
theorem wi_470_716 : ri (rt_P sc fm) 470 716 (.goto 3) (719) := ri_of (by decide +kernel) rfl
theorem wi_470_719 : ri (rt_P sc fm) 470 719 (.aload_n 0) (720) := ri_of (by decide +kernel) rfl
theorem wi_470_720 : ri (rt_P sc fm) 470 720 (.getfield 185) (723) := ri_of (by decide +kernel) rfl
theorem wi_470_723 : ri (rt_P sc fm) 470 723 (.iload_n 2) (724) := ri_of (by decide +kernel) rfl
theorem wi_470_724 : ri (rt_P sc fm) 470 724 (.iaload) (725) := ri_of (by decide +kernel) rfl
theorem wi_470_725 : ri (rt_P sc fm) 470 725 (.bipush 20) (727) := ri_of (by decide +kernel) rfl
theorem wi_470_727 : ri (rt_P sc fm) 470 727 (.if_icmp .ne 10) (730) := ri_of (by decide +kernel) rfl
theorem wi_470_730 : ri (rt_P sc fm) 470 730 (.aload_n 0) (731) := ri_of (by decide +kernel) rfl
theorem wi_470_731 : ri (rt_P sc fm) 470 731 (.iload_n 1) (732) := ri_of (by decide +kernel) rfl
theorem wi_470_732 : ri (rt_P sc fm) 470 732 (.iload_n 2) (733) := ri_of (by decide +kernel) rfl
theorem wi_470_733 : ri (rt_P sc fm) 470 733 (.invokevirtual 964) (736) := ri_of (by decide +kernel) rfl
theorem wi_470_736 : ri (rt_P sc fm) 470 736 (.return_) (737) := ri_of (by decide +kernel) rfl
theorem wi_470_737 : ri (rt_P sc fm) 470 737 (.aload_n 0) (738) := ri_of (by decide +kernel) rfl
theorem wi_470_738 : ri (rt_P sc fm) 470 738 (.getfield 185) (741) := ri_of (by decide +kernel) rfl
theorem wi_470_741 : ri (rt_P sc fm) 470 741 (.iload_n 2) (742) := ri_of (by decide +kernel) rfl
theorem wi_470_742 : ri (rt_P sc fm) 470 742 (.iaload) (743) := ri_of (by decide +kernel) rfl
theorem wi_470_743 : ri (rt_P sc fm) 470 743 (.bipush 21) (745) := ri_of (by decide +kernel) rfl
theorem wi_470_745 : ri (rt_P sc fm) 470 745 (.if_icmp .ne 13) (748) := ri_of (by decide +kernel) rfl
theorem wi_470_748 : ri (rt_P sc fm) 470 748 (.aload_n 0) (749) := ri_of (by decide +kernel) rfl
theorem wi_470_749 : ri (rt_P sc fm) 470 749 (.iload_n 1) (750) := ri_of (by decide +kernel) rfl
theorem wi_470_750 : ri (rt_P sc fm) 470 750 (.iload 4) (752) := ri_of (by decide +kernel) rfl
theorem wi_470_752 : ri (rt_P sc fm) 470 752 (.iconst 1) (753) := ri_of (by decide +kernel) rfl
theorem wi_470_753 : ri (rt_P sc fm) 470 753 (.isub) (754) := ri_of (by decide +kernel) rfl
theorem wi_470_754 : ri (rt_P sc fm) 470 754 (.invokevirtual 967) (757) := ri_of (by decide +kernel) rfl
theorem wi_470_757 : ri (rt_P sc fm) 470 757 (.return_) (758) := ri_of (by decide +kernel) rfl
theorem wi_470_758 : ri (rt_P sc fm) 470 758 (.aload_n 0) (759) := ri_of (by decide +kernel) rfl
theorem wi_470_759 : ri (rt_P sc fm) 470 759 (.getfield 323) (762) := ri_of (by decide +kernel) rfl
theorem wi_470_762 : ri (rt_P sc fm) 470 762 (.iload_n 1) (763) := ri_of (by decide +kernel) rfl
theorem wi_470_763 : ri (rt_P sc fm) 470 763 (.dup2) (764) := ri_of (by decide +kernel) rfl
theorem wi_470_764 : ri (rt_P sc fm) 470 764 (.iaload) (765) := ri_of (by decide +kernel) rfl
theorem wi_470_765 : ri (rt_P sc fm) 470 765 (.aload_n 0) (766) := ri_of (by decide +kernel) rfl
theorem wi_470_766 : ri (rt_P sc fm) 470 766 (.iload_n 2) (767) := ri_of (by decide +kernel) rfl
theorem wi_470_767 : ri (rt_P sc fm) 470 767 (.invokevirtual 629) (770) := ri_of (by decide +kernel) rfl
theorem wi_470_770 : ri (rt_P sc fm) 470 770 (.aload_n 0) (771) := ri_of (by decide +kernel) rfl
theorem wi_470_771 : ri (rt_P sc fm) 470 771 (.iload_n 2) (772) := ri_of (by decide +kernel) rfl
theorem wi_470_772 : ri (rt_P sc fm) 470 772 (.invokevirtual 626) (775) := ri_of (by decide +kernel) rfl
theorem wi_470_775 : ri (rt_P sc fm) 470 775 (.isub) (776) := ri_of (by decide +kernel) rfl
theorem wi_470_776 : ri (rt_P sc fm) 470 776 (.iadd) (777) := ri_of (by decide +kernel) rfl
theorem wi_470_777 : ri (rt_P sc fm) 470 777 (.iastore) (778) := ri_of (by decide +kernel) rfl
theorem wi_470_778 : ri (rt_P sc fm) 470 778 (.aload_n 0) (779) := ri_of (by decide +kernel) rfl
theorem wi_470_779 : ri (rt_P sc fm) 470 779 (.getfield 320) (782) := ri_of (by decide +kernel) rfl
theorem wi_470_782 : ri (rt_P sc fm) 470 782 (.iload_n 1) (783) := ri_of (by decide +kernel) rfl
theorem wi_470_783 : ri (rt_P sc fm) 470 783 (.iload 5) (785) := ri_of (by decide +kernel) rfl
theorem wi_470_785 : ri (rt_P sc fm) 470 785 (.ifCond .lt 8) (788) := ri_of (by decide +kernel) rfl
theorem wi_470_788 : ri (rt_P sc fm) 470 788 (.iload 5) (790) := ri_of (by decide +kernel) rfl
theorem wi_470_790 : ri (rt_P sc fm) 470 790 (.goto 11) (793) := ri_of (by decide +kernel) rfl
theorem wi_470_793 : ri (rt_P sc fm) 470 793 (.aload_n 0) (794) := ri_of (by decide +kernel) rfl
theorem wi_470_794 : ri (rt_P sc fm) 470 794 (.getfield 320) (797) := ri_of (by decide +kernel) rfl
theorem wi_470_797 : ri (rt_P sc fm) 470 797 (.iload_n 1) (798) := ri_of (by decide +kernel) rfl
theorem wi_470_798 : ri (rt_P sc fm) 470 798 (.iaload) (799) := ri_of (by decide +kernel) rfl
theorem wi_470_799 : ri (rt_P sc fm) 470 799 (.iconst 1) (800) := ri_of (by decide +kernel) rfl
theorem wi_470_800 : ri (rt_P sc fm) 470 800 (.iadd) (801) := ri_of (by decide +kernel) rfl
theorem wi_470_801 : ri (rt_P sc fm) 470 801 (.iastore) (802) := ri_of (by decide +kernel) rfl
theorem wi_470_802 : ri (rt_P sc fm) 470 802 (.return_) (803) := ri_of (by decide +kernel) rfl
set_option maxRecDepth 100000 in
theorem wm_471 : rx_ml (rt_P sc fm) 471 = 3 := (by decide +kernel : rt_ml 471 = 3)
set_option maxRecDepth 100000 in
theorem wm_472 : rx_ml (rt_P sc fm) 472 = 6 := (by decide +kernel : rt_ml 472 = 6)
set_option maxRecDepth 100000 in
theorem wm_473 : rx_ml (rt_P sc fm) 473 = 4 := (by decide +kernel : rt_ml 473 = 4)
set_option maxRecDepth 100000 in
theorem wp_470_940 : rx_pt (rt_P sc fm) 470 940 = some (15, 128, .int) := (by decide +kernel : rt_pt 470 940 = some (15, 128, .int))
set_option maxRecDepth 100000 in
theorem wr_470 : rx_rt (rt_P sc fm) 470 = none := (by decide +kernel : rt_rt 470 = none)
/-- MarkHouseModel.perform(II)V -/
def d_470 (n : Nat) (a1 : Int32) (a2 : Int32) (c : cS) : Option (cS) :=
  lt ((16 * a1) : Int32) (fun v2 =>
  if ib a1 12 then
  lt ((v2 + (c.1 255 (ix a1))) : Int32) (fun v6 =>
  if ib a2 3840 then
  jn (fun p10 : Int32 × cS =>
    if ib a2 3840 then
    if (p10.2.1 211 (ix a2)) = 20 then
      Option.bind (d_472 n a1 a2 p10.2) (fun r25 =>
      some r25)
    else
      if ib a2 3840 then
      if (p10.2.1 211 (ix a2)) = 21 then
        Option.bind (d_473 n a1 (v6 - 1) p10.2) (fun r24 =>
        some r24)
      else
        if ib a1 12 then
        Option.bind (d_418 n a2 p10.2) (fun v14 =>
        Option.bind (d_417 n a2 p10.2) (fun v15 =>
        if ib a1 12 then
        lt (pI p10.2 255 (ix a1) ((p10.2.1 255 (ix a1)) + (v14 - v15))) (fun c17 =>
        jn (fun p19 : Int32 =>
          if ib a1 12 then
          lt (pI c17 254 (ix a1) p19) (fun c21 =>
          some c21)
          else none)
        (fun j801 =>
        if p10.1 < 0 then
          if ib a1 12 then
          j801 ((c17.1 254 (ix a1)) + 1)
          else none
        else
          j801 p10.1))
        else none))
        else none
      else none
    else none)
  (fun j719 =>
  jn (fun p26 : Unit =>
    if ib a2 3840 then
    jn (fun p28 : Int32 × cS =>
      Option.bind (d_138 n v6 p28.1 p28.2) (fun r29 =>
      Option.bind (whl (R := (cS)) (fun s31 : Int32 × cS =>
        if ib a2 3840 then
        if (s31.2.1 219 (ix a2)) ≤ s31.1 then
          some (.inr s31.2)
        else
          if ib ((4 * a2) + s31.1) 15360 then
          if ib ((4 * a2) + s31.1) 15360 then
          if ib ((4 * v6) + (s31.2.1 220 (ix ((4 * a2) + s31.1)))) 768 then
          lt (pI s31.2 257 (ix ((4 * v6) + (s31.2.1 220 (ix ((4 * a2) + s31.1))))) (s31.2.1 221 (ix ((4 * a2) + s31.1)))) (fun c36 =>
          lt (s31.1 + 1 : Int32) (fun v39 =>
          some (.inl (v39, c36))))
          else none
          else none
          else none
        else none) n (0, r29))
      (fun x41 : cS =>
        j719 ((-1), x41))))
    (fun j135 =>
    if (c.1 211 (ix a2)) = 14 then
      if ib a2 3840 then
      j135 ((c.1 214 (ix a2)), c)
      else none
    else
      Option.bind (d_471 n c) (fun r42 =>
      j135 (r42.1, r42.2)))
    else none)
  (fun j108 =>
  jn (fun p44 : Unit =>
    if ib (v6 - 2) 192 then
    lt ((c.1 256 (ix (v6 - 2))) : Int32) (fun v47 =>
    if ib (v6 - 1) 192 then
    lt ((c.1 256 (ix (v6 - 1))) : Int32) (fun v51 =>
    if ib a2 3840 then
    jn (fun p54 : Int32 =>
      if ib (v6 - 2) 192 then
      lt (pI c 256 (ix (v6 - 2)) p54) (fun c56 =>
      Option.bind (whl (R := (cS)) (fun s59 : Int32 × cS =>
        if (s59.2.1 174 15) ≤ s59.1 then
          some (.inr s59.2)
        else
          if ib ((4 * (v6 - 2)) + s59.1) 768 then
          if ib ((4 * (v6 - 1)) + s59.1) 768 then
          Option.bind (d_390 n s59.1 (s59.2.1 257 (ix ((4 * (v6 - 2)) + s59.1))) (s59.2.1 257 (ix ((4 * (v6 - 1)) + s59.1))) s59.2) (fun v62 =>
          if ib ((4 * (v6 - 2)) + s59.1) 768 then
          lt (pI s59.2 257 (ix ((4 * (v6 - 2)) + s59.1)) v62) (fun c64 =>
          lt (s59.1 + 1 : Int32) (fun v67 =>
          some (.inl (v67, c64))))
          else none)
          else none
          else none) n (0, c56))
      (fun x69 : cS =>
        j719 ((-1), x69)))
      else none)
    (fun j480 =>
    if (c.1 211 (ix a2)) = 22 then
      j480 (v47 + v51)
    else
      if ib a2 3840 then
      if (c.1 211 (ix a2)) = 23 then
        j480 (v47 - v51)
      else
        j480 (v47 * v51)
      else none)
    else none)
    else none)
    else none)
  (fun j407 =>
  if (c.1 211 (ix a2)) = 14 then
    j108 ()
  else
  if (c.1 211 (ix a2)) = 15 then
    j108 ()
  else
  if (c.1 211 (ix a2)) = 16 then
    if ib a2 3840 then
    Option.bind (d_467 n v6 (v2 + (c.1 214 (ix a2))) c) (fun r75 =>
    j719 ((-1), r75))
    else none
  else
  if (c.1 211 (ix a2)) = 17 then
    if ib a2 3840 then
    Option.bind (d_467 n (v2 + (c.1 214 (ix a2))) (v6 - 1) c) (fun r78 =>
    j719 ((-1), r78))
    else none
  else
  if (c.1 211 (ix a2)) = 18 then
    if ib a2 3840 then
    if ib a2 3840 then
    if ib ((8 * (c.1 214 (ix a2))) + (c.1 215 (ix a2))) 96 then
    if ib v6 192 then
    lt (pI c 256 (ix v6) (c.1 258 (ix ((8 * (c.1 214 (ix a2))) + (c.1 215 (ix a2)))))) (fun c84 =>
    Option.bind (whl (R := (cS)) (fun s87 : Int32 × cS =>
      if (s87.2.1 174 15) ≤ s87.1 then
        some (.inr s87.2)
      else
        if ib a2 3840 then
        if ib a2 3840 then
        if ib ((4 * ((8 * (s87.2.1 214 (ix a2))) + (s87.2.1 215 (ix a2)))) + s87.1) 384 then
        if ib ((4 * v6) + s87.1) 768 then
        lt (pI s87.2 257 (ix ((4 * v6) + s87.1)) (s87.2.1 259 (ix ((4 * ((8 * (s87.2.1 214 (ix a2))) + (s87.2.1 215 (ix a2)))) + s87.1)))) (fun c92 =>
        lt (s87.1 + 1 : Int32) (fun v95 =>
        some (.inl (v95, c92))))
        else none
        else none
        else none
        else none) n (0, c84))
    (fun x97 : cS =>
      j719 ((-1), x97)))
    else none
    else none
    else none
    else none
  else
  if (c.1 211 (ix a2)) = 19 then
    if ib a2 3840 then
    if ib a2 3840 then
    if ib (v6 - 1) 192 then
    if ib ((8 * (c.1 214 (ix a2))) + (c.1 215 (ix a2))) 96 then
    lt (pI c 258 (ix ((8 * (c.1 214 (ix a2))) + (c.1 215 (ix a2)))) (c.1 256 (ix (v6 - 1)))) (fun c103 =>
    Option.bind (whl (R := (cS)) (fun s106 : Int32 × cS =>
      if (s106.2.1 174 15) ≤ s106.1 then
        some (.inr s106.2)
      else
        if ib a2 3840 then
        if ib a2 3840 then
        if ib ((4 * (v6 - 1)) + s106.1) 768 then
        if ib ((4 * ((8 * (s106.2.1 214 (ix a2))) + (s106.2.1 215 (ix a2)))) + s106.1) 384 then
        lt (pI s106.2 259 (ix ((4 * ((8 * (s106.2.1 214 (ix a2))) + (s106.2.1 215 (ix a2)))) + s106.1)) (s106.2.1 257 (ix ((4 * (v6 - 1)) + s106.1)))) (fun c111 =>
        lt (s106.1 + 1 : Int32) (fun v114 =>
        some (.inl (v114, c111))))
        else none
        else none
        else none
        else none) n (0, c103))
    (fun x116 : cS =>
      j719 ((-1), x116)))
    else none
    else none
    else none
    else none
  else
  if (c.1 211 (ix a2)) = 20 then
    j719 ((-1), c)
  else
  if (c.1 211 (ix a2)) = 21 then
    j719 ((-1), c)
  else
  if (c.1 211 (ix a2)) = 22 then
    j407 ()
  else
  if (c.1 211 (ix a2)) = 23 then
    j407 ()
  else
  if (c.1 211 (ix a2)) = 24 then
    j407 ()
  else
  if (c.1 211 (ix a2)) = 25 then
    Option.bind (d_467 n v6 (v6 - 1) c) (fun r123 =>
    j719 ((-1), r123))
  else
  if (c.1 211 (ix a2)) = 26 then
    j719 ((-1), c)
  else
  if (c.1 211 (ix a2)) = 27 then
    if ib a2 3840 then
    lt ((c.1 216 (ix a2)) : Int32) (fun v128 =>
    j719 (v128, c))
    else none
  else
  if (c.1 211 (ix a2)) = 28 then
    if ib (v6 - 1) 192 then
    if (c.1 256 (ix (v6 - 1))) = 0 then
      if ib a2 3840 then
      lt ((c.1 216 (ix a2)) : Int32) (fun v134 =>
      j719 (v134, c))
      else none
    else
      j719 ((-1), c)
    else none
  else
  if (c.1 211 (ix a2)) = 29 then
    if ib a2 3840 then
    if ib a2 3840 then
    if ib ((4 * (v6 - 1)) + (c.1 214 (ix a2))) 768 then
    if ib a2 3840 then
    Option.bind (d_387 n (c.1 214 (ix a2)) (c.1 257 (ix ((4 * (v6 - 1)) + (c.1 214 (ix a2))))) (c.1 215 (ix a2)) c) (fun v141 =>
    if v141 = 0 then
      j719 ((-1), c)
    else
      if ib a2 3840 then
      lt ((c.1 216 (ix a2)) : Int32) (fun v144 =>
      j719 (v144, c))
      else none)
    else none
    else none
    else none
    else none
  else
  if (c.1 211 (ix a2)) = 30 then
    if ib a2 3840 then
    if ib a2 3840 then
    if ib ((4 * (v6 - 1)) + (c.1 214 (ix a2))) 768 then
    if ib a2 3840 then
    Option.bind (d_387 n (c.1 214 (ix a2)) (c.1 257 (ix ((4 * (v6 - 1)) + (c.1 214 (ix a2))))) (c.1 215 (ix a2)) c) (fun v151 =>
    jn (fun p152 : cS =>
      if ib a2 3840 then
      if ib a2 3840 then
      if ib ((4 * (v6 - 1)) + (p152.1 214 (ix a2))) 768 then
      lt (pI p152 257 (ix ((4 * (v6 - 1)) + (p152.1 214 (ix a2)))) (p152.1 215 (ix a2))) (fun c156 =>
      j719 ((-1), c156))
      else none
      else none
      else none)
    (fun j692 =>
    if v151 = 0 then
      lt (pI c 174 128 ((c.1 174 128) + 1)) (fun c158 =>
      j692 c158)
    else
      j692 c))
    else none
    else none
    else none
    else none
  else
  j719 ((-1), c))))
  else none)
  else none)
set_option maxRecDepth 100000 in
set_option maxHeartbeats 4000000 in
theorem sp_470 {F Lo n : Nat} {a1 : Int32} {a2 : Int32} {c y : cS} {w : cW} {K : cS → Prop} {Q : ((Option Value) ⊕ String) → List va_E → Prop} (hw : rOK fm w) (hF : 3 ≤ F) (hLo : 71 ≤ Lo)  (h : wp (d_470 n a1 a2 c) K) (hQ : ∀ r, K r → Q (.inl none) (hq false r y w)) : rs (rt_P sc fm) 470 F Lo 0 [(0, .ref 174), (1, .int a1), (2, .int a2)] [] (hq false c y w) Q := by
  unfold d_470 at h
  obtain ⟨lv, elv⟩ : ∃ lv : rx_L, lv = [(0, .ref 174), (1, .int a1), (2, .int a2)] := ⟨_, rfl⟩
  rw [← elv]
  have l0 : rx_ld lv 0 = some (.ref 174) := by rw [elv]; rfl
  have l1 : rx_ld lv 1 = some (.int a1) := by rw [elv]; rfl
  have l2 : rx_ld lv 2 = some (.int a2) := by rw [elv]; rfl
  refine rs_pure wi_470_0 rfl ?_
  refine rs_topi (v := 16) (by decide) ?_
  refine rs_ildn wi_470_2 l1 ?_
  refine rs_pure wi_470_3 rfl ?_
  obtain ⟨v2, e3, h⟩ := wp_lt h
  refine rs_topi e3 ?_
  refine dl_istn wi_470_4 rfl (fun lv l3 t1 => ?_)
  have l0 := t1 _ _ (by decide) (Or.inl rfl) l0
  have l1 := t1 _ _ (by decide) (Or.inl rfl) l1
  have l2 := t1 _ _ (by decide) (Or.inl rfl) l2
  refine rs_ildn wi_470_5 l3 ?_
  refine rs_aldn wi_470_6 l0 ?_
  refine dq_gr wi_470_7 wf_470_323 tf_174_116 ?_
  refine rs_ildn wi_470_10 l1 ?_
  obtain ⟨g4, h⟩ := wp_gd h
  refine dq_iald wi_470_11 t_255 g4 ?_
  refine rs_pure wi_470_12 rfl ?_
  obtain ⟨v6, e7, h⟩ := wp_lt h
  refine rs_topi e7 ?_
  refine dl_ist wi_470_13 rfl (fun lv l4 t5 => ?_)
  have l0 := t5 _ _ (by decide) (Or.inl rfl) l0
  have l1 := t5 _ _ (by decide) (Or.inl rfl) l1
  have l2 := t5 _ _ (by decide) (Or.inl rfl) l2
  have l3 := t5 _ _ (by decide) (Or.inl rfl) l3
  refine rs_pure wi_470_15 rfl ?_
  refine rs_topi (v := (-1)) (by decide) ?_
  refine dl_ist wi_470_16 rfl (fun lv l5 t8 => ?_)
  have l0 := t8 _ _ (by decide) (Or.inl rfl) l0
  have l1 := t8 _ _ (by decide) (Or.inl rfl) l1
  have l2 := t8 _ _ (by decide) (Or.inl rfl) l2
  have l3 := t8 _ _ (by decide) (Or.inl rfl) l3
  have l4 := t8 _ _ (by decide) (Or.inl rfl) l4
  refine rs_aldn wi_470_18 l0 ?_
  refine dq_gr wi_470_19 wf_470_185 tf_174_49 ?_
  refine rs_ildn wi_470_22 l2 ?_
  obtain ⟨g9, h⟩ := wp_gd h
  refine dq_iald wi_470_23 t_211 g9 ?_
  refine wp_jn (B := fun p10 : Int32 × cS => ∀ lv, rx_ld lv 0 = some (.ref 174) → rx_ld lv 1 = some (.int a1) → rx_ld lv 2 = some (.int a2) → rx_ld lv 4 = some (.int v6) → rx_ld lv 5 = some (.int p10.1) → rs (rt_P sc fm) 470 F Lo 719 lv [] (hq false p10.2 y w) Q) h (fun p10 h lv l0 l1 l2 l4 l5 => ?_) (fun j719 hj719 h => ?_)
  ·
    refine rs_aldn wi_470_719 l0 ?_
    refine dq_gr wi_470_720 wf_470_185 tf_174_49 ?_
    refine rs_ildn wi_470_723 l2 ?_
    obtain ⟨g11, h⟩ := wp_gd h
    refine dq_iald wi_470_724 t_211 g11 ?_
    refine rs_pure wi_470_725 rfl ?_
    refine rs_topi (v := 20) (by decide) ?_
    refine rs_icne (tg := 737) wi_470_727 ⟨by decide, by decide⟩ (fun q => ?_) (fun q => ?_)
    ·
      have h := wp_neg h q
      refine rs_aldn wi_470_737 l0 ?_
      refine dq_gr wi_470_738 wf_470_185 tf_174_49 ?_
      refine rs_ildn wi_470_741 l2 ?_
      obtain ⟨g12, h⟩ := wp_gd h
      refine dq_iald wi_470_742 t_211 g12 ?_
      refine rs_pure wi_470_743 rfl ?_
      refine rs_topi (v := 21) (by decide) ?_
      refine rs_icne (tg := 758) wi_470_745 ⟨by decide, by decide⟩ (fun q => ?_) (fun q => ?_)
      ·
        have h := wp_neg h q
        refine rs_aldn wi_470_758 l0 ?_
        refine dq_gr wi_470_759 wf_470_323 tf_174_116 ?_
        refine rs_ildn wi_470_762 l1 ?_
        refine rs_pure wi_470_763 rfl ?_
        obtain ⟨g13, h⟩ := wp_gd h
        refine dq_iald wi_470_764 t_255 g13 ?_
        refine rs_aldn wi_470_765 l0 ?_
        refine rs_ildn wi_470_766 l2 ?_
        refine rs_V wi_470_767 wc_470_629 rfl (dq_isa tf_174_0 wa_15_418) (Nat.le_trans (by decide) hF) (ml_le wm_418 (Nat.le_trans (by decide) hLo)) rfl (sp_418 hw (Nat.le_trans (by decide : 0 ≤ 3 - 1) (Nat.sub_le_sub_right hF 1)) (ml_sub wm_418 (Nat.le_trans (by decide : 0 ≤ 71 - 21) (Nat.sub_le_sub_right hLo 21))) (wp_bind h) (fun v14 h => rs_back1 ?_))
        refine rs_aldn wi_470_770 l0 ?_
        refine rs_ildn wi_470_771 l2 ?_
        refine rs_V wi_470_772 wc_470_626 rfl (dq_isa tf_174_0 wa_15_417) (Nat.le_trans (by decide) hF) (ml_le wm_417 (Nat.le_trans (by decide) hLo)) rfl (sp_417 hw (Nat.le_trans (by decide : 0 ≤ 3 - 1) (Nat.sub_le_sub_right hF 1)) (ml_sub wm_417 (Nat.le_trans (by decide : 0 ≤ 71 - 21) (Nat.sub_le_sub_right hLo 21))) (wp_bind h) (fun v15 h => rs_back1 ?_))
        refine rs_pure wi_470_775 rfl ?_
        refine rs_pure wi_470_776 rfl ?_
        obtain ⟨g16, h⟩ := wp_gd h
        obtain ⟨c17, e18, h⟩ := wp_lt h
        refine dq_iast wi_470_777 t_255 g16 e18 ?_
        refine rs_aldn wi_470_778 l0 ?_
        refine dq_gr wi_470_779 wf_470_320 tf_174_115 ?_
        refine rs_ildn wi_470_782 l1 ?_
        refine rs_ild wi_470_783 l5 ?_
        refine wp_jn (B := fun p19 : Int32 => ∀ lv, rs (rt_P sc fm) 470 F Lo 801 lv [.int p19, .int a1, .ref 254] (hq false c17 y w) Q) h (fun p19 h lv => ?_) (fun j801 hj801 h => ?_)
        ·
          obtain ⟨g20, h⟩ := wp_gd h
          obtain ⟨c21, e22, h⟩ := wp_lt h
          refine dq_iast wi_470_801 t_254 g20 e22 ?_
          exact rs_vret wi_470_802 wr_470 (hQ c21 h)
        refine rs_iflt (tg := 793) wi_470_785 ⟨by decide, by decide⟩ (fun q => ?_) (fun q => ?_)
        ·
          have h := wp_pos h q
          refine rs_aldn wi_470_793 l0 ?_
          refine dq_gr wi_470_794 wf_470_320 tf_174_115 ?_
          refine rs_ildn wi_470_797 l1 ?_
          obtain ⟨g23, h⟩ := wp_gd h
          refine dq_iald wi_470_798 t_254 g23 ?_
          refine rs_pure wi_470_799 rfl ?_
          refine rs_topi (v := 1) (by decide) ?_
          refine rs_pure wi_470_800 rfl ?_
          exact hj801 _ h _
        ·
          have h := wp_neg h q
          refine rs_ild wi_470_788 l5 ?_
          refine rs_goto (tg := 801) wi_470_790 ⟨by decide, by decide⟩ ?_
          exact hj801 _ h _
      ·
        have h := wp_pos h q
        refine rs_aldn wi_470_748 l0 ?_
        refine rs_ildn wi_470_749 l1 ?_
        refine rs_ild wi_470_750 l4 ?_
        refine rs_pure wi_470_752 rfl ?_
        refine rs_topi (v := 1) (by decide) ?_
        refine rs_pure wi_470_753 rfl ?_
        refine rs_V wi_470_754 wc_470_967 rfl (dq_isa tf_174_0 wa_15_473) (Nat.le_trans (by decide) hF) (ml_le wm_473 (Nat.le_trans (by decide) hLo)) rfl (sp_473 hw (Nat.le_trans (by decide : 1 ≤ 3 - 1) (Nat.sub_le_sub_right hF 1)) (ml_sub wm_473 (Nat.le_trans (by decide : 23 ≤ 71 - 23) (Nat.sub_le_sub_right hLo 23))) (wp_bind h) (fun r24 h => rs_back0 ?_))
        exact rs_vret wi_470_757 wr_470 (hQ r24 h)
    ·
      have h := wp_pos h q
      refine rs_aldn wi_470_730 l0 ?_
      refine rs_ildn wi_470_731 l1 ?_
      refine rs_ildn wi_470_732 l2 ?_
      refine rs_V wi_470_733 wc_470_964 rfl (dq_isa tf_174_0 wa_15_472) (Nat.le_trans (by decide) hF) (ml_le wm_472 (Nat.le_trans (by decide) hLo)) rfl (sp_472 hw (Nat.le_trans (by decide : 2 ≤ 3 - 1) (Nat.sub_le_sub_right hF 1)) (ml_sub wm_472 (Nat.le_trans (by decide : 46 ≤ 71 - 25) (Nat.sub_le_sub_right hLo 25))) (wp_bind h) (fun r25 h => rs_back0 ?_))
      exact rs_vret wi_470_736 wr_470 (hQ r25 h)
  refine wp_jn (B := fun p26 : Unit => ∀ lv, rx_ld lv 0 = some (.ref 174) → rx_ld lv 1 = some (.int a1) → rx_ld lv 2 = some (.int a2) → rx_ld lv 4 = some (.int v6) → rx_ld lv 5 = some (.int (-1)) → rs (rt_P sc fm) 470 F Lo 108 lv [] (hq false c y w) Q) h (fun p26 h lv l0 l1 l2 l4 l5 => ?_) (fun j108 hj108 h => ?_)
  ·
    refine rs_aldn wi_470_108 l0 ?_
    refine rs_ild wi_470_109 l4 ?_
    refine rs_aldn wi_470_111 l0 ?_
    refine dq_gr wi_470_112 wf_470_185 tf_174_49 ?_
    refine rs_ildn wi_470_115 l2 ?_
    obtain ⟨g27, h⟩ := wp_gd h
    refine dq_iald wi_470_116 t_211 g27 ?_
    refine rs_pure wi_470_117 rfl ?_
    refine rs_topi (v := 14) (by decide) ?_
    refine wp_jn (B := fun p28 : Int32 × cS => ∀ lv, rx_ld lv 0 = some (.ref 174) → rx_ld lv 1 = some (.int a1) → rx_ld lv 2 = some (.int a2) → rx_ld lv 4 = some (.int v6) → rx_ld lv 5 = some (.int (-1)) → rs (rt_P sc fm) 470 F Lo 135 lv [.int p28.1, .int v6, .ref 174] (hq false p28.2 y w) Q) h (fun p28 h lv l0 l1 l2 l4 l5 => ?_) (fun j135 hj135 h => ?_)
    ·
      refine rs_V wi_470_135 wc_470_916 rfl (dq_isa tf_174_0 wa_15_138) (Nat.le_trans (by decide) hF) (ml_le wm_138 (Nat.le_trans (by decide) hLo)) rfl (sp_138 hw (Nat.le_trans (by decide : 0 ≤ 3 - 1) (Nat.sub_le_sub_right hF 1)) (ml_sub wm_138 (Nat.le_trans (by decide : 0 ≤ 71 - 23) (Nat.sub_le_sub_right hLo 23))) (wp_bind h) (fun r29 h => rs_back0 ?_))
      refine rs_pure wi_470_138 rfl ?_
      refine rs_topi (v := 0) (by decide) ?_
      refine dl_ist wi_470_139 rfl (fun lv l6 t30 => ?_)
      have l0 := t30 _ _ (by decide) (Or.inl rfl) l0
      have l1 := t30 _ _ (by decide) (Or.inl rfl) l1
      have l2 := t30 _ _ (by decide) (Or.inl rfl) l2
      have l4 := t30 _ _ (by decide) (Or.inl rfl) l4
      have l5 := t30 _ _ (by decide) (Or.inl rfl) l5
      refine whl_ex (A := fun s31 : Int32 × cS => ∀ lv, rx_ld lv 0 = some (.ref 174) → rx_ld lv 1 = some (.int a1) → rx_ld lv 2 = some (.int a2) → rx_ld lv 4 = some (.int v6) → rx_ld lv 5 = some (.int (-1)) → rx_ld lv 6 = some (.int s31.1) → rs (rt_P sc fm) 470 F Lo 141 lv [] (hq false s31.2 y w) Q) (B := (fun x41 : cS => ∀ lv, rx_ld lv 0 = some (.ref 174) → rx_ld lv 1 = some (.int a1) → rx_ld lv 2 = some (.int a2) → rx_ld lv 4 = some (.int v6) → rx_ld lv 5 = some (.int (-1)) → rs (rt_P sc fm) 470 F Lo 190 lv [] (hq false x41 y w) Q)) ?_ ?_ _ _ (wp_bind h) _ l0 l1 l2 l4 l5 l6
      · intro s31 h lv l0 l1 l2 l4 l5 l6
        refine rs_ild wi_470_141 l6 ?_
        refine rs_aldn wi_470_143 l0 ?_
        refine dq_gr wi_470_144 wf_470_209 tf_174_57 ?_
        refine rs_ildn wi_470_147 l2 ?_
        obtain ⟨g32, h⟩ := wp_gd h
        refine dq_iald wi_470_148 t_219 g32 ?_
        refine rs_icge (tg := 190) wi_470_149 ⟨by decide, by decide⟩ (fun q => ?_) (fun q => ?_)
        ·
          have h := wp_pos h q
          exact h _ l0 l1 l2 l4 l5
        ·
          have h := wp_neg h q
          refine rs_aldn wi_470_152 l0 ?_
          refine dq_gr wi_470_153 wf_470_329 tf_174_118 ?_
          refine rs_pure wi_470_156 rfl ?_
          refine rs_topi (v := 4) (by decide) ?_
          refine rs_ild wi_470_157 l4 ?_
          refine rs_pure wi_470_159 rfl ?_
          refine rs_aldn wi_470_160 l0 ?_
          refine dq_gr wi_470_161 wf_470_212 tf_174_58 ?_
          refine rs_pure wi_470_164 rfl ?_
          refine rs_topi (v := 4) (by decide) ?_
          refine rs_ildn wi_470_165 l2 ?_
          refine rs_pure wi_470_166 rfl ?_
          refine rs_ild wi_470_167 l6 ?_
          refine rs_pure wi_470_169 rfl ?_
          obtain ⟨g33, h⟩ := wp_gd h
          refine dq_iald wi_470_170 t_220 g33 ?_
          refine rs_pure wi_470_171 rfl ?_
          refine rs_aldn wi_470_172 l0 ?_
          refine dq_gr wi_470_173 wf_470_215 tf_174_59 ?_
          refine rs_pure wi_470_176 rfl ?_
          refine rs_topi (v := 4) (by decide) ?_
          refine rs_ildn wi_470_177 l2 ?_
          refine rs_pure wi_470_178 rfl ?_
          refine rs_ild wi_470_179 l6 ?_
          refine rs_pure wi_470_181 rfl ?_
          obtain ⟨g34, h⟩ := wp_gd h
          refine dq_iald wi_470_182 t_221 g34 ?_
          obtain ⟨g35, h⟩ := wp_gd h
          obtain ⟨c36, e37, h⟩ := wp_lt h
          refine dq_iast wi_470_183 t_257 g35 e37 ?_
          obtain ⟨v39, e40, h⟩ := wp_lt h
          refine dl_inc wi_470_184 l6 rfl e40 (fun lv l6 t38 => ?_)
          have l0 := t38 _ _ (by decide) (Or.inl rfl) l0
          have l1 := t38 _ _ (by decide) (Or.inl rfl) l1
          have l2 := t38 _ _ (by decide) (Or.inl rfl) l2
          have l4 := t38 _ _ (by decide) (Or.inl rfl) l4
          have l5 := t38 _ _ (by decide) (Or.inl rfl) l5
          refine rs_goto (tg := 141) wi_470_187 ⟨by decide, by decide⟩ ?_
          exact h _ l0 l1 l2 l4 l5 l6
      ·
        intro x41 h lv l0 l1 l2 l4 l5
        refine rs_goto (tg := 719) wi_470_190 ⟨by decide, by decide⟩ ?_
        exact hj719 _ h _ l0 l1 l2 l4 l5
    refine rs_icne (tg := 131) wi_470_119 ⟨by decide, by decide⟩ (fun q => ?_) (fun q => ?_)
    ·
      have h := wp_neg h q
      refine rs_aldn wi_470_131 l0 ?_
      refine rs_V wi_470_132 wc_470_958 rfl (dq_isa tf_174_0 wa_15_471) (Nat.le_trans (by decide) hF) (ml_le wm_471 (Nat.le_trans (by decide) hLo)) rfl (sp_471 hw (Nat.le_trans (by decide : 0 ≤ 3 - 1) (Nat.sub_le_sub_right hF 1)) (ml_sub wm_471 (Nat.le_trans (by decide : 0 ≤ 71 - 22) (Nat.sub_le_sub_right hLo 22))) (wp_bind h) (fun r42 h => rs_back1 ?_))
      exact hj135 _ h _ l0 l1 l2 l4 l5
    ·
      have h := wp_pos h q
      refine rs_aldn wi_470_122 l0 ?_
      refine dq_gr wi_470_123 wf_470_194 tf_174_52 ?_
      refine rs_ildn wi_470_126 l2 ?_
      obtain ⟨g43, h⟩ := wp_gd h
      refine dq_iald wi_470_127 t_214 g43 ?_
      refine rs_goto (tg := 135) wi_470_128 ⟨by decide, by decide⟩ ?_
      exact hj135 _ h _ l0 l1 l2 l4 l5
  refine wp_jn (B := fun p44 : Unit => ∀ lv, rx_ld lv 0 = some (.ref 174) → rx_ld lv 1 = some (.int a1) → rx_ld lv 2 = some (.int a2) → rx_ld lv 4 = some (.int v6) → rx_ld lv 5 = some (.int (-1)) → rs (rt_P sc fm) 470 F Lo 407 lv [] (hq false c y w) Q) h (fun p44 h lv l0 l1 l2 l4 l5 => ?_) (fun j407 hj407 h => ?_)
  ·
    refine rs_aldn wi_470_407 l0 ?_
    refine dq_gr wi_470_408 wf_470_326 tf_174_117 ?_
    refine rs_ild wi_470_411 l4 ?_
    refine rs_pure wi_470_413 rfl ?_
    refine rs_topi (v := 2) (by decide) ?_
    refine rs_pure wi_470_414 rfl ?_
    obtain ⟨g45, h⟩ := wp_gd h
    refine dq_iald wi_470_415 t_256 g45 ?_
    obtain ⟨v47, e48, h⟩ := wp_lt h
    refine rs_topi e48 ?_
    refine dl_ist wi_470_416 rfl (fun lv l6 t46 => ?_)
    have l0 := t46 _ _ (by decide) (Or.inl rfl) l0
    have l1 := t46 _ _ (by decide) (Or.inl rfl) l1
    have l2 := t46 _ _ (by decide) (Or.inl rfl) l2
    have l4 := t46 _ _ (by decide) (Or.inl rfl) l4
    have l5 := t46 _ _ (by decide) (Or.inl rfl) l5
    refine rs_aldn wi_470_418 l0 ?_
    refine dq_gr wi_470_419 wf_470_326 tf_174_117 ?_
    refine rs_ild wi_470_422 l4 ?_
    refine rs_pure wi_470_424 rfl ?_
    refine rs_topi (v := 1) (by decide) ?_
    refine rs_pure wi_470_425 rfl ?_
    obtain ⟨g49, h⟩ := wp_gd h
    refine dq_iald wi_470_426 t_256 g49 ?_
    obtain ⟨v51, e52, h⟩ := wp_lt h
    refine rs_topi e52 ?_
    refine dl_ist wi_470_427 rfl (fun lv l7 t50 => ?_)
    have l0 := t50 _ _ (by decide) (Or.inl rfl) l0
    have l1 := t50 _ _ (by decide) (Or.inl rfl) l1
    have l2 := t50 _ _ (by decide) (Or.inl rfl) l2
    have l4 := t50 _ _ (by decide) (Or.inl rfl) l4
    have l5 := t50 _ _ (by decide) (Or.inl rfl) l5
    have l6 := t50 _ _ (by decide) (Or.inl rfl) l6
    refine rs_aldn wi_470_429 l0 ?_
    refine dq_gr wi_470_430 wf_470_326 tf_174_117 ?_
    refine rs_ild wi_470_433 l4 ?_
    refine rs_pure wi_470_435 rfl ?_
    refine rs_topi (v := 2) (by decide) ?_
    refine rs_pure wi_470_436 rfl ?_
    refine rs_aldn wi_470_437 l0 ?_
    refine dq_gr wi_470_438 wf_470_185 tf_174_49 ?_
    refine rs_ildn wi_470_441 l2 ?_
    obtain ⟨g53, h⟩ := wp_gd h
    refine dq_iald wi_470_442 t_211 g53 ?_
    refine rs_pure wi_470_443 rfl ?_
    refine rs_topi (v := 22) (by decide) ?_
    refine wp_jn (B := fun p54 : Int32 => ∀ lv, rx_ld lv 0 = some (.ref 174) → rx_ld lv 1 = some (.int a1) → rx_ld lv 2 = some (.int a2) → rx_ld lv 4 = some (.int v6) → rx_ld lv 5 = some (.int (-1)) → rs (rt_P sc fm) 470 F Lo 480 lv [.int p54, .int (v6 - 2), .ref 256] (hq false c y w) Q) h (fun p54 h lv l0 l1 l2 l4 l5 => ?_) (fun j480 hj480 h => ?_)
    ·
      obtain ⟨g55, h⟩ := wp_gd h
      obtain ⟨c56, e57, h⟩ := wp_lt h
      refine dq_iast wi_470_480 t_256 g55 e57 ?_
      refine rs_pure wi_470_481 rfl ?_
      refine rs_topi (v := 0) (by decide) ?_
      refine dl_ist wi_470_482 rfl (fun lv l8 t58 => ?_)
      have l0 := t58 _ _ (by decide) (Or.inl rfl) l0
      have l1 := t58 _ _ (by decide) (Or.inl rfl) l1
      have l2 := t58 _ _ (by decide) (Or.inl rfl) l2
      have l4 := t58 _ _ (by decide) (Or.inl rfl) l4
      have l5 := t58 _ _ (by decide) (Or.inl rfl) l5
      refine whl_ex (A := fun s59 : Int32 × cS => ∀ lv, rx_ld lv 0 = some (.ref 174) → rx_ld lv 1 = some (.int a1) → rx_ld lv 2 = some (.int a2) → rx_ld lv 4 = some (.int v6) → rx_ld lv 5 = some (.int (-1)) → rx_ld lv 8 = some (.int s59.1) → rs (rt_P sc fm) 470 F Lo 484 lv [] (hq false s59.2 y w) Q) (B := (fun x69 : cS => ∀ lv, rx_ld lv 0 = some (.ref 174) → rx_ld lv 1 = some (.int a1) → rx_ld lv 2 = some (.int a2) → rx_ld lv 4 = some (.int v6) → rx_ld lv 5 = some (.int (-1)) → rs (rt_P sc fm) 470 F Lo 547 lv [] (hq false x69 y w) Q)) ?_ ?_ _ _ (wp_bind h) _ l0 l1 l2 l4 l5 l8
      · intro s59 h lv l0 l1 l2 l4 l5 l8
        refine rs_ild wi_470_484 l8 ?_
        refine rs_aldn wi_470_486 l0 ?_
        refine dq_gi wi_470_487 wf_470_447 tf_174_15 ?_
        refine rs_icge (tg := 547) wi_470_490 ⟨by decide, by decide⟩ (fun q => ?_) (fun q => ?_)
        ·
          have h := wp_pos h q
          exact h _ l0 l1 l2 l4 l5
        ·
          have h := wp_neg h q
          refine rs_aldn wi_470_493 l0 ?_
          refine dq_gr wi_470_494 wf_470_329 tf_174_118 ?_
          refine rs_pure wi_470_497 rfl ?_
          refine rs_topi (v := 4) (by decide) ?_
          refine rs_ild wi_470_498 l4 ?_
          refine rs_pure wi_470_500 rfl ?_
          refine rs_topi (v := 2) (by decide) ?_
          refine rs_pure wi_470_501 rfl ?_
          refine rs_pure wi_470_502 rfl ?_
          refine rs_ild wi_470_503 l8 ?_
          refine rs_pure wi_470_505 rfl ?_
          refine rs_aldn wi_470_506 l0 ?_
          refine rs_ild wi_470_507 l8 ?_
          refine rs_aldn wi_470_509 l0 ?_
          refine dq_gr wi_470_510 wf_470_329 tf_174_118 ?_
          refine rs_pure wi_470_513 rfl ?_
          refine rs_topi (v := 4) (by decide) ?_
          refine rs_ild wi_470_514 l4 ?_
          refine rs_pure wi_470_516 rfl ?_
          refine rs_topi (v := 2) (by decide) ?_
          refine rs_pure wi_470_517 rfl ?_
          refine rs_pure wi_470_518 rfl ?_
          refine rs_ild wi_470_519 l8 ?_
          refine rs_pure wi_470_521 rfl ?_
          obtain ⟨g60, h⟩ := wp_gd h
          refine dq_iald wi_470_522 t_257 g60 ?_
          refine rs_aldn wi_470_523 l0 ?_
          refine dq_gr wi_470_524 wf_470_329 tf_174_118 ?_
          refine rs_pure wi_470_527 rfl ?_
          refine rs_topi (v := 4) (by decide) ?_
          refine rs_ild wi_470_528 l4 ?_
          refine rs_pure wi_470_530 rfl ?_
          refine rs_topi (v := 1) (by decide) ?_
          refine rs_pure wi_470_531 rfl ?_
          refine rs_pure wi_470_532 rfl ?_
          refine rs_ild wi_470_533 l8 ?_
          refine rs_pure wi_470_535 rfl ?_
          obtain ⟨g61, h⟩ := wp_gd h
          refine dq_iald wi_470_536 t_257 g61 ?_
          refine rs_V wi_470_537 wc_470_727 rfl (dq_isa tf_174_0 wa_15_390) (Nat.le_trans (by decide) hF) (ml_le wm_390 (Nat.le_trans (by decide) hLo)) rfl (sp_390 hw (Nat.le_trans (by decide : 1 ≤ 3 - 1) (Nat.sub_le_sub_right hF 1)) (ml_sub wm_390 (Nat.le_trans (by decide : 23 ≤ 71 - 23) (Nat.sub_le_sub_right hLo 23))) (wp_bind h) (fun v62 h => rs_back1 ?_))
          obtain ⟨g63, h⟩ := wp_gd h
          obtain ⟨c64, e65, h⟩ := wp_lt h
          refine dq_iast wi_470_540 t_257 g63 e65 ?_
          obtain ⟨v67, e68, h⟩ := wp_lt h
          refine dl_inc wi_470_541 l8 rfl e68 (fun lv l8 t66 => ?_)
          have l0 := t66 _ _ (by decide) (Or.inl rfl) l0
          have l1 := t66 _ _ (by decide) (Or.inl rfl) l1
          have l2 := t66 _ _ (by decide) (Or.inl rfl) l2
          have l4 := t66 _ _ (by decide) (Or.inl rfl) l4
          have l5 := t66 _ _ (by decide) (Or.inl rfl) l5
          refine rs_goto (tg := 484) wi_470_544 ⟨by decide, by decide⟩ ?_
          exact h _ l0 l1 l2 l4 l5 l8
      ·
        intro x69 h lv l0 l1 l2 l4 l5
        refine rs_goto (tg := 719) wi_470_547 ⟨by decide, by decide⟩ ?_
        exact hj719 _ h _ l0 l1 l2 l4 l5
    refine rs_icne (tg := 456) wi_470_445 ⟨by decide, by decide⟩ (fun q => ?_) (fun q => ?_)
    ·
      have h := wp_neg h q
      refine rs_aldn wi_470_456 l0 ?_
      refine dq_gr wi_470_457 wf_470_185 tf_174_49 ?_
      refine rs_ildn wi_470_460 l2 ?_
      obtain ⟨g70, h⟩ := wp_gd h
      refine dq_iald wi_470_461 t_211 g70 ?_
      refine rs_pure wi_470_462 rfl ?_
      refine rs_topi (v := 23) (by decide) ?_
      refine rs_icne (tg := 475) wi_470_464 ⟨by decide, by decide⟩ (fun q => ?_) (fun q => ?_)
      ·
        have h := wp_neg h q
        refine rs_ild wi_470_475 l6 ?_
        refine rs_ild wi_470_477 l7 ?_
        refine rs_pure wi_470_479 rfl ?_
        exact hj480 _ h _ l0 l1 l2 l4 l5
      ·
        have h := wp_pos h q
        refine rs_ild wi_470_467 l6 ?_
        refine rs_ild wi_470_469 l7 ?_
        refine rs_pure wi_470_471 rfl ?_
        refine rs_goto (tg := 480) wi_470_472 ⟨by decide, by decide⟩ ?_
        exact hj480 _ h _ l0 l1 l2 l4 l5
    ·
      have h := wp_pos h q
      refine rs_ild wi_470_448 l6 ?_
      refine rs_ild wi_470_450 l7 ?_
      refine rs_pure wi_470_452 rfl ?_
      refine rs_goto (tg := 480) wi_470_453 ⟨by decide, by decide⟩ ?_
      exact hj480 _ h _ l0 l1 l2 l4 l5
  by_cases q71 : (c.1 211 (ix a2)) = 14
  ·
    have h := wp_pos h q71
    refine rs_tsk (tg := 108) (off := 84) (v := 14) wi_470_24 q71 (by decide) (by decide) ⟨by decide, by decide⟩ ?_
    exact hj108 _ h _ l0 l1 l2 l4 l5
  have h := wp_neg h q71
  by_cases q72 : (c.1 211 (ix a2)) = 15
  ·
    have h := wp_pos h q72
    refine rs_tsk (tg := 108) (off := 84) (v := 15) wi_470_24 q72 (by decide) (by decide) ⟨by decide, by decide⟩ ?_
    exact hj108 _ h _ l0 l1 l2 l4 l5
  have h := wp_neg h q72
  by_cases q73 : (c.1 211 (ix a2)) = 16
  ·
    have h := wp_pos h q73
    refine rs_tsk (tg := 193) (off := 169) (v := 16) wi_470_24 q73 (by decide) (by decide) ⟨by decide, by decide⟩ ?_
    refine rs_aldn wi_470_193 l0 ?_
    refine rs_ild wi_470_194 l4 ?_
    refine rs_ildn wi_470_196 l3 ?_
    refine rs_aldn wi_470_197 l0 ?_
    refine dq_gr wi_470_198 wf_470_194 tf_174_52 ?_
    refine rs_ildn wi_470_201 l2 ?_
    obtain ⟨g74, h⟩ := wp_gd h
    refine dq_iald wi_470_202 t_214 g74 ?_
    refine rs_pure wi_470_203 rfl ?_
    refine rs_V wi_470_204 wc_470_961 rfl (dq_isa tf_174_0 wa_15_467) (Nat.le_trans (by decide) hF) (ml_le wm_467 (Nat.le_trans (by decide) hLo)) rfl (sp_467 hw (Nat.le_trans (by decide : 0 ≤ 3 - 1) (Nat.sub_le_sub_right hF 1)) (ml_sub wm_467 (Nat.le_trans (by decide : 0 ≤ 71 - 23) (Nat.sub_le_sub_right hLo 23))) (wp_bind h) (fun r75 h => rs_back0 ?_))
    refine rs_goto (tg := 719) wi_470_207 ⟨by decide, by decide⟩ ?_
    exact hj719 _ h _ l0 l1 l2 l4 l5
  have h := wp_neg h q73
  by_cases q76 : (c.1 211 (ix a2)) = 17
  ·
    have h := wp_pos h q76
    refine rs_tsk (tg := 210) (off := 186) (v := 17) wi_470_24 q76 (by decide) (by decide) ⟨by decide, by decide⟩ ?_
    refine rs_aldn wi_470_210 l0 ?_
    refine rs_ildn wi_470_211 l3 ?_
    refine rs_aldn wi_470_212 l0 ?_
    refine dq_gr wi_470_213 wf_470_194 tf_174_52 ?_
    refine rs_ildn wi_470_216 l2 ?_
    obtain ⟨g77, h⟩ := wp_gd h
    refine dq_iald wi_470_217 t_214 g77 ?_
    refine rs_pure wi_470_218 rfl ?_
    refine rs_ild wi_470_219 l4 ?_
    refine rs_pure wi_470_221 rfl ?_
    refine rs_topi (v := 1) (by decide) ?_
    refine rs_pure wi_470_222 rfl ?_
    refine rs_V wi_470_223 wc_470_961 rfl (dq_isa tf_174_0 wa_15_467) (Nat.le_trans (by decide) hF) (ml_le wm_467 (Nat.le_trans (by decide) hLo)) rfl (sp_467 hw (Nat.le_trans (by decide : 0 ≤ 3 - 1) (Nat.sub_le_sub_right hF 1)) (ml_sub wm_467 (Nat.le_trans (by decide : 0 ≤ 71 - 23) (Nat.sub_le_sub_right hLo 23))) (wp_bind h) (fun r78 h => rs_back0 ?_))
    refine rs_goto (tg := 719) wi_470_226 ⟨by decide, by decide⟩ ?_
    exact hj719 _ h _ l0 l1 l2 l4 l5
  have h := wp_neg h q76
  by_cases q79 : (c.1 211 (ix a2)) = 18
  ·
    have h := wp_pos h q79
    refine rs_tsk (tg := 229) (off := 205) (v := 18) wi_470_24 q79 (by decide) (by decide) ⟨by decide, by decide⟩ ?_
    refine rs_aldn wi_470_229 l0 ?_
    refine dq_gr wi_470_230 wf_470_326 tf_174_117 ?_
    refine rs_ild wi_470_233 l4 ?_
    refine rs_aldn wi_470_235 l0 ?_
    refine dq_gr wi_470_236 wf_470_332 tf_174_119 ?_
    refine rs_pure wi_470_239 rfl ?_
    refine rs_topi (v := 8) (by decide) ?_
    refine rs_aldn wi_470_241 l0 ?_
    refine dq_gr wi_470_242 wf_470_194 tf_174_52 ?_
    refine rs_ildn wi_470_245 l2 ?_
    obtain ⟨g80, h⟩ := wp_gd h
    refine dq_iald wi_470_246 t_214 g80 ?_
    refine rs_pure wi_470_247 rfl ?_
    refine rs_aldn wi_470_248 l0 ?_
    refine dq_gr wi_470_249 wf_470_197 tf_174_53 ?_
    refine rs_ildn wi_470_252 l2 ?_
    obtain ⟨g81, h⟩ := wp_gd h
    refine dq_iald wi_470_253 t_215 g81 ?_
    refine rs_pure wi_470_254 rfl ?_
    obtain ⟨g82, h⟩ := wp_gd h
    refine dq_iald wi_470_255 t_258 g82 ?_
    obtain ⟨g83, h⟩ := wp_gd h
    obtain ⟨c84, e85, h⟩ := wp_lt h
    refine dq_iast wi_470_256 t_256 g83 e85 ?_
    refine rs_pure wi_470_257 rfl ?_
    refine rs_topi (v := 0) (by decide) ?_
    refine dl_ist wi_470_258 rfl (fun lv l6 t86 => ?_)
    have l0 := t86 _ _ (by decide) (Or.inl rfl) l0
    have l1 := t86 _ _ (by decide) (Or.inl rfl) l1
    have l2 := t86 _ _ (by decide) (Or.inl rfl) l2
    have l4 := t86 _ _ (by decide) (Or.inl rfl) l4
    have l5 := t86 _ _ (by decide) (Or.inl rfl) l5
    refine whl_ex (A := fun s87 : Int32 × cS => ∀ lv, rx_ld lv 0 = some (.ref 174) → rx_ld lv 1 = some (.int a1) → rx_ld lv 2 = some (.int a2) → rx_ld lv 4 = some (.int v6) → rx_ld lv 5 = some (.int (-1)) → rx_ld lv 6 = some (.int s87.1) → rs (rt_P sc fm) 470 F Lo 260 lv [] (hq false s87.2 y w) Q) (B := (fun x97 : cS => ∀ lv, rx_ld lv 0 = some (.ref 174) → rx_ld lv 1 = some (.int a1) → rx_ld lv 2 = some (.int a2) → rx_ld lv 4 = some (.int v6) → rx_ld lv 5 = some (.int (-1)) → rs (rt_P sc fm) 470 F Lo 313 lv [] (hq false x97 y w) Q)) ?_ ?_ _ _ (wp_bind h) _ l0 l1 l2 l4 l5 l6
    · intro s87 h lv l0 l1 l2 l4 l5 l6
      refine rs_ild wi_470_260 l6 ?_
      refine rs_aldn wi_470_262 l0 ?_
      refine dq_gi wi_470_263 wf_470_447 tf_174_15 ?_
      refine rs_icge (tg := 313) wi_470_266 ⟨by decide, by decide⟩ (fun q => ?_) (fun q => ?_)
      ·
        have h := wp_pos h q
        exact h _ l0 l1 l2 l4 l5
      ·
        have h := wp_neg h q
        refine rs_aldn wi_470_269 l0 ?_
        refine dq_gr wi_470_270 wf_470_329 tf_174_118 ?_
        refine rs_pure wi_470_273 rfl ?_
        refine rs_topi (v := 4) (by decide) ?_
        refine rs_ild wi_470_274 l4 ?_
        refine rs_pure wi_470_276 rfl ?_
        refine rs_ild wi_470_277 l6 ?_
        refine rs_pure wi_470_279 rfl ?_
        refine rs_aldn wi_470_280 l0 ?_
        refine dq_gr wi_470_281 wf_470_335 tf_174_120 ?_
        refine rs_pure wi_470_284 rfl ?_
        refine rs_topi (v := 4) (by decide) ?_
        refine rs_pure wi_470_285 rfl ?_
        refine rs_topi (v := 8) (by decide) ?_
        refine rs_aldn wi_470_287 l0 ?_
        refine dq_gr wi_470_288 wf_470_194 tf_174_52 ?_
        refine rs_ildn wi_470_291 l2 ?_
        obtain ⟨g88, h⟩ := wp_gd h
        refine dq_iald wi_470_292 t_214 g88 ?_
        refine rs_pure wi_470_293 rfl ?_
        refine rs_aldn wi_470_294 l0 ?_
        refine dq_gr wi_470_295 wf_470_197 tf_174_53 ?_
        refine rs_ildn wi_470_298 l2 ?_
        obtain ⟨g89, h⟩ := wp_gd h
        refine dq_iald wi_470_299 t_215 g89 ?_
        refine rs_pure wi_470_300 rfl ?_
        refine rs_pure wi_470_301 rfl ?_
        refine rs_ild wi_470_302 l6 ?_
        refine rs_pure wi_470_304 rfl ?_
        obtain ⟨g90, h⟩ := wp_gd h
        refine dq_iald wi_470_305 t_259 g90 ?_
        obtain ⟨g91, h⟩ := wp_gd h
        obtain ⟨c92, e93, h⟩ := wp_lt h
        refine dq_iast wi_470_306 t_257 g91 e93 ?_
        obtain ⟨v95, e96, h⟩ := wp_lt h
        refine dl_inc wi_470_307 l6 rfl e96 (fun lv l6 t94 => ?_)
        have l0 := t94 _ _ (by decide) (Or.inl rfl) l0
        have l1 := t94 _ _ (by decide) (Or.inl rfl) l1
        have l2 := t94 _ _ (by decide) (Or.inl rfl) l2
        have l4 := t94 _ _ (by decide) (Or.inl rfl) l4
        have l5 := t94 _ _ (by decide) (Or.inl rfl) l5
        refine rs_goto (tg := 260) wi_470_310 ⟨by decide, by decide⟩ ?_
        exact h _ l0 l1 l2 l4 l5 l6
    ·
      intro x97 h lv l0 l1 l2 l4 l5
      refine rs_goto (tg := 719) wi_470_313 ⟨by decide, by decide⟩ ?_
      exact hj719 _ h _ l0 l1 l2 l4 l5
  have h := wp_neg h q79
  by_cases q98 : (c.1 211 (ix a2)) = 19
  ·
    have h := wp_pos h q98
    refine rs_tsk (tg := 316) (off := 292) (v := 19) wi_470_24 q98 (by decide) (by decide) ⟨by decide, by decide⟩ ?_
    refine rs_aldn wi_470_316 l0 ?_
    refine dq_gr wi_470_317 wf_470_332 tf_174_119 ?_
    refine rs_pure wi_470_320 rfl ?_
    refine rs_topi (v := 8) (by decide) ?_
    refine rs_aldn wi_470_322 l0 ?_
    refine dq_gr wi_470_323 wf_470_194 tf_174_52 ?_
    refine rs_ildn wi_470_326 l2 ?_
    obtain ⟨g99, h⟩ := wp_gd h
    refine dq_iald wi_470_327 t_214 g99 ?_
    refine rs_pure wi_470_328 rfl ?_
    refine rs_aldn wi_470_329 l0 ?_
    refine dq_gr wi_470_330 wf_470_197 tf_174_53 ?_
    refine rs_ildn wi_470_333 l2 ?_
    obtain ⟨g100, h⟩ := wp_gd h
    refine dq_iald wi_470_334 t_215 g100 ?_
    refine rs_pure wi_470_335 rfl ?_
    refine rs_aldn wi_470_336 l0 ?_
    refine dq_gr wi_470_337 wf_470_326 tf_174_117 ?_
    refine rs_ild wi_470_340 l4 ?_
    refine rs_pure wi_470_342 rfl ?_
    refine rs_topi (v := 1) (by decide) ?_
    refine rs_pure wi_470_343 rfl ?_
    obtain ⟨g101, h⟩ := wp_gd h
    refine dq_iald wi_470_344 t_256 g101 ?_
    obtain ⟨g102, h⟩ := wp_gd h
    obtain ⟨c103, e104, h⟩ := wp_lt h
    refine dq_iast wi_470_345 t_258 g102 e104 ?_
    refine rs_pure wi_470_346 rfl ?_
    refine rs_topi (v := 0) (by decide) ?_
    refine dl_ist wi_470_347 rfl (fun lv l6 t105 => ?_)
    have l0 := t105 _ _ (by decide) (Or.inl rfl) l0
    have l1 := t105 _ _ (by decide) (Or.inl rfl) l1
    have l2 := t105 _ _ (by decide) (Or.inl rfl) l2
    have l4 := t105 _ _ (by decide) (Or.inl rfl) l4
    have l5 := t105 _ _ (by decide) (Or.inl rfl) l5
    refine whl_ex (A := fun s106 : Int32 × cS => ∀ lv, rx_ld lv 0 = some (.ref 174) → rx_ld lv 1 = some (.int a1) → rx_ld lv 2 = some (.int a2) → rx_ld lv 4 = some (.int v6) → rx_ld lv 5 = some (.int (-1)) → rx_ld lv 6 = some (.int s106.1) → rs (rt_P sc fm) 470 F Lo 349 lv [] (hq false s106.2 y w) Q) (B := (fun x116 : cS => ∀ lv, rx_ld lv 0 = some (.ref 174) → rx_ld lv 1 = some (.int a1) → rx_ld lv 2 = some (.int a2) → rx_ld lv 4 = some (.int v6) → rx_ld lv 5 = some (.int (-1)) → rs (rt_P sc fm) 470 F Lo 404 lv [] (hq false x116 y w) Q)) ?_ ?_ _ _ (wp_bind h) _ l0 l1 l2 l4 l5 l6
    · intro s106 h lv l0 l1 l2 l4 l5 l6
      refine rs_ild wi_470_349 l6 ?_
      refine rs_aldn wi_470_351 l0 ?_
      refine dq_gi wi_470_352 wf_470_447 tf_174_15 ?_
      refine rs_icge (tg := 404) wi_470_355 ⟨by decide, by decide⟩ (fun q => ?_) (fun q => ?_)
      ·
        have h := wp_pos h q
        exact h _ l0 l1 l2 l4 l5
      ·
        have h := wp_neg h q
        refine rs_aldn wi_470_358 l0 ?_
        refine dq_gr wi_470_359 wf_470_335 tf_174_120 ?_
        refine rs_pure wi_470_362 rfl ?_
        refine rs_topi (v := 4) (by decide) ?_
        refine rs_pure wi_470_363 rfl ?_
        refine rs_topi (v := 8) (by decide) ?_
        refine rs_aldn wi_470_365 l0 ?_
        refine dq_gr wi_470_366 wf_470_194 tf_174_52 ?_
        refine rs_ildn wi_470_369 l2 ?_
        obtain ⟨g107, h⟩ := wp_gd h
        refine dq_iald wi_470_370 t_214 g107 ?_
        refine rs_pure wi_470_371 rfl ?_
        refine rs_aldn wi_470_372 l0 ?_
        refine dq_gr wi_470_373 wf_470_197 tf_174_53 ?_
        refine rs_ildn wi_470_376 l2 ?_
        obtain ⟨g108, h⟩ := wp_gd h
        refine dq_iald wi_470_377 t_215 g108 ?_
        refine rs_pure wi_470_378 rfl ?_
        refine rs_pure wi_470_379 rfl ?_
        refine rs_ild wi_470_380 l6 ?_
        refine rs_pure wi_470_382 rfl ?_
        refine rs_aldn wi_470_383 l0 ?_
        refine dq_gr wi_470_384 wf_470_329 tf_174_118 ?_
        refine rs_pure wi_470_387 rfl ?_
        refine rs_topi (v := 4) (by decide) ?_
        refine rs_ild wi_470_388 l4 ?_
        refine rs_pure wi_470_390 rfl ?_
        refine rs_topi (v := 1) (by decide) ?_
        refine rs_pure wi_470_391 rfl ?_
        refine rs_pure wi_470_392 rfl ?_
        refine rs_ild wi_470_393 l6 ?_
        refine rs_pure wi_470_395 rfl ?_
        obtain ⟨g109, h⟩ := wp_gd h
        refine dq_iald wi_470_396 t_257 g109 ?_
        obtain ⟨g110, h⟩ := wp_gd h
        obtain ⟨c111, e112, h⟩ := wp_lt h
        refine dq_iast wi_470_397 t_259 g110 e112 ?_
        obtain ⟨v114, e115, h⟩ := wp_lt h
        refine dl_inc wi_470_398 l6 rfl e115 (fun lv l6 t113 => ?_)
        have l0 := t113 _ _ (by decide) (Or.inl rfl) l0
        have l1 := t113 _ _ (by decide) (Or.inl rfl) l1
        have l2 := t113 _ _ (by decide) (Or.inl rfl) l2
        have l4 := t113 _ _ (by decide) (Or.inl rfl) l4
        have l5 := t113 _ _ (by decide) (Or.inl rfl) l5
        refine rs_goto (tg := 349) wi_470_401 ⟨by decide, by decide⟩ ?_
        exact h _ l0 l1 l2 l4 l5 l6
    ·
      intro x116 h lv l0 l1 l2 l4 l5
      refine rs_goto (tg := 719) wi_470_404 ⟨by decide, by decide⟩ ?_
      exact hj719 _ h _ l0 l1 l2 l4 l5
  have h := wp_neg h q98
  by_cases q117 : (c.1 211 (ix a2)) = 20
  ·
    have h := wp_pos h q117
    refine rs_tsk (tg := 719) (off := 695) (v := 20) wi_470_24 q117 (by decide) (by decide) ⟨by decide, by decide⟩ ?_
    exact hj719 _ h _ l0 l1 l2 l4 l5
  have h := wp_neg h q117
  by_cases q118 : (c.1 211 (ix a2)) = 21
  ·
    have h := wp_pos h q118
    refine rs_tsk (tg := 719) (off := 695) (v := 21) wi_470_24 q118 (by decide) (by decide) ⟨by decide, by decide⟩ ?_
    exact hj719 _ h _ l0 l1 l2 l4 l5
  have h := wp_neg h q118
  by_cases q119 : (c.1 211 (ix a2)) = 22
  ·
    have h := wp_pos h q119
    refine rs_tsk (tg := 407) (off := 383) (v := 22) wi_470_24 q119 (by decide) (by decide) ⟨by decide, by decide⟩ ?_
    exact hj407 _ h _ l0 l1 l2 l4 l5
  have h := wp_neg h q119
  by_cases q120 : (c.1 211 (ix a2)) = 23
  ·
    have h := wp_pos h q120
    refine rs_tsk (tg := 407) (off := 383) (v := 23) wi_470_24 q120 (by decide) (by decide) ⟨by decide, by decide⟩ ?_
    exact hj407 _ h _ l0 l1 l2 l4 l5
  have h := wp_neg h q120
  by_cases q121 : (c.1 211 (ix a2)) = 24
  ·
    have h := wp_pos h q121
    refine rs_tsk (tg := 407) (off := 383) (v := 24) wi_470_24 q121 (by decide) (by decide) ⟨by decide, by decide⟩ ?_
    exact hj407 _ h _ l0 l1 l2 l4 l5
  have h := wp_neg h q121
  by_cases q122 : (c.1 211 (ix a2)) = 25
  ·
    have h := wp_pos h q122
    refine rs_tsk (tg := 550) (off := 526) (v := 25) wi_470_24 q122 (by decide) (by decide) ⟨by decide, by decide⟩ ?_
    refine rs_aldn wi_470_550 l0 ?_
    refine rs_ild wi_470_551 l4 ?_
    refine rs_ild wi_470_553 l4 ?_
    refine rs_pure wi_470_555 rfl ?_
    refine rs_topi (v := 1) (by decide) ?_
    refine rs_pure wi_470_556 rfl ?_
    refine rs_V wi_470_557 wc_470_961 rfl (dq_isa tf_174_0 wa_15_467) (Nat.le_trans (by decide) hF) (ml_le wm_467 (Nat.le_trans (by decide) hLo)) rfl (sp_467 hw (Nat.le_trans (by decide : 0 ≤ 3 - 1) (Nat.sub_le_sub_right hF 1)) (ml_sub wm_467 (Nat.le_trans (by decide : 0 ≤ 71 - 23) (Nat.sub_le_sub_right hLo 23))) (wp_bind h) (fun r123 h => rs_back0 ?_))
    refine rs_goto (tg := 719) wi_470_560 ⟨by decide, by decide⟩ ?_
    exact hj719 _ h _ l0 l1 l2 l4 l5
  have h := wp_neg h q122
  by_cases q124 : (c.1 211 (ix a2)) = 26
  ·
    have h := wp_pos h q124
    refine rs_tsk (tg := 719) (off := 695) (v := 26) wi_470_24 q124 (by decide) (by decide) ⟨by decide, by decide⟩ ?_
    exact hj719 _ h _ l0 l1 l2 l4 l5
  have h := wp_neg h q124
  by_cases q125 : (c.1 211 (ix a2)) = 27
  ·
    have h := wp_pos h q125
    refine rs_tsk (tg := 563) (off := 539) (v := 27) wi_470_24 q125 (by decide) (by decide) ⟨by decide, by decide⟩ ?_
    refine rs_aldn wi_470_563 l0 ?_
    refine dq_gr wi_470_564 wf_470_200 tf_174_54 ?_
    refine rs_ildn wi_470_567 l2 ?_
    obtain ⟨g126, h⟩ := wp_gd h
    refine dq_iald wi_470_568 t_216 g126 ?_
    obtain ⟨v128, e129, h⟩ := wp_lt h
    refine rs_topi e129 ?_
    refine dl_ist wi_470_569 rfl (fun lv l5 t127 => ?_)
    have l0 := t127 _ _ (by decide) (Or.inl rfl) l0
    have l1 := t127 _ _ (by decide) (Or.inl rfl) l1
    have l2 := t127 _ _ (by decide) (Or.inl rfl) l2
    have l4 := t127 _ _ (by decide) (Or.inl rfl) l4
    refine rs_goto (tg := 719) wi_470_571 ⟨by decide, by decide⟩ ?_
    exact hj719 _ h _ l0 l1 l2 l4 l5
  have h := wp_neg h q125
  by_cases q130 : (c.1 211 (ix a2)) = 28
  ·
    have h := wp_pos h q130
    refine rs_tsk (tg := 574) (off := 550) (v := 28) wi_470_24 q130 (by decide) (by decide) ⟨by decide, by decide⟩ ?_
    refine rs_aldn wi_470_574 l0 ?_
    refine dq_gr wi_470_575 wf_470_326 tf_174_117 ?_
    refine rs_ild wi_470_578 l4 ?_
    refine rs_pure wi_470_580 rfl ?_
    refine rs_topi (v := 1) (by decide) ?_
    refine rs_pure wi_470_581 rfl ?_
    obtain ⟨g131, h⟩ := wp_gd h
    refine dq_iald wi_470_582 t_256 g131 ?_
    refine rs_ifne (tg := 719) wi_470_583 ⟨by decide, by decide⟩ (fun q => ?_) (fun q => ?_)
    ·
      have h := wp_neg h q
      exact hj719 _ h _ l0 l1 l2 l4 l5
    ·
      have h := wp_pos h q
      refine rs_aldn wi_470_586 l0 ?_
      refine dq_gr wi_470_587 wf_470_200 tf_174_54 ?_
      refine rs_ildn wi_470_590 l2 ?_
      obtain ⟨g132, h⟩ := wp_gd h
      refine dq_iald wi_470_591 t_216 g132 ?_
      obtain ⟨v134, e135, h⟩ := wp_lt h
      refine rs_topi e135 ?_
      refine dl_ist wi_470_592 rfl (fun lv l5 t133 => ?_)
      have l0 := t133 _ _ (by decide) (Or.inl rfl) l0
      have l1 := t133 _ _ (by decide) (Or.inl rfl) l1
      have l2 := t133 _ _ (by decide) (Or.inl rfl) l2
      have l4 := t133 _ _ (by decide) (Or.inl rfl) l4
      refine rs_goto (tg := 719) wi_470_594 ⟨by decide, by decide⟩ ?_
      exact hj719 _ h _ l0 l1 l2 l4 l5
  have h := wp_neg h q130
  by_cases q136 : (c.1 211 (ix a2)) = 29
  ·
    have h := wp_pos h q136
    refine rs_tsk (tg := 597) (off := 573) (v := 29) wi_470_24 q136 (by decide) (by decide) ⟨by decide, by decide⟩ ?_
    refine rs_aldn wi_470_597 l0 ?_
    refine rs_aldn wi_470_598 l0 ?_
    refine dq_gr wi_470_599 wf_470_194 tf_174_52 ?_
    refine rs_ildn wi_470_602 l2 ?_
    obtain ⟨g137, h⟩ := wp_gd h
    refine dq_iald wi_470_603 t_214 g137 ?_
    refine rs_aldn wi_470_604 l0 ?_
    refine dq_gr wi_470_605 wf_470_329 tf_174_118 ?_
    refine rs_pure wi_470_608 rfl ?_
    refine rs_topi (v := 4) (by decide) ?_
    refine rs_ild wi_470_609 l4 ?_
    refine rs_pure wi_470_611 rfl ?_
    refine rs_topi (v := 1) (by decide) ?_
    refine rs_pure wi_470_612 rfl ?_
    refine rs_pure wi_470_613 rfl ?_
    refine rs_aldn wi_470_614 l0 ?_
    refine dq_gr wi_470_615 wf_470_194 tf_174_52 ?_
    refine rs_ildn wi_470_618 l2 ?_
    obtain ⟨g138, h⟩ := wp_gd h
    refine dq_iald wi_470_619 t_214 g138 ?_
    refine rs_pure wi_470_620 rfl ?_
    obtain ⟨g139, h⟩ := wp_gd h
    refine dq_iald wi_470_621 t_257 g139 ?_
    refine rs_aldn wi_470_622 l0 ?_
    refine dq_gr wi_470_623 wf_470_197 tf_174_53 ?_
    refine rs_ildn wi_470_626 l2 ?_
    obtain ⟨g140, h⟩ := wp_gd h
    refine dq_iald wi_470_627 t_215 g140 ?_
    refine rs_V wi_470_628 wc_470_535 rfl (dq_isa tf_174_0 wa_15_387) (Nat.le_trans (by decide) hF) (ml_le wm_387 (Nat.le_trans (by decide) hLo)) rfl (sp_387 hw (Nat.le_trans (by decide : 1 ≤ 3 - 1) (Nat.sub_le_sub_right hF 1)) (ml_sub wm_387 (Nat.le_trans (by decide : 23 ≤ 71 - 23) (Nat.sub_le_sub_right hLo 23))) (wp_bind h) (fun v141 h => rs_back1 ?_))
    refine rs_ifeq (tg := 719) wi_470_631 ⟨by decide, by decide⟩ (fun q => ?_) (fun q => ?_)
    ·
      have h := wp_pos h q
      exact hj719 _ h _ l0 l1 l2 l4 l5
    ·
      have h := wp_neg h q
      refine rs_aldn wi_470_634 l0 ?_
      refine dq_gr wi_470_635 wf_470_200 tf_174_54 ?_
      refine rs_ildn wi_470_638 l2 ?_
      obtain ⟨g142, h⟩ := wp_gd h
      refine dq_iald wi_470_639 t_216 g142 ?_
      obtain ⟨v144, e145, h⟩ := wp_lt h
      refine rs_topi e145 ?_
      refine dl_ist wi_470_640 rfl (fun lv l5 t143 => ?_)
      have l0 := t143 _ _ (by decide) (Or.inl rfl) l0
      have l1 := t143 _ _ (by decide) (Or.inl rfl) l1
      have l2 := t143 _ _ (by decide) (Or.inl rfl) l2
      have l4 := t143 _ _ (by decide) (Or.inl rfl) l4
      refine rs_goto (tg := 719) wi_470_642 ⟨by decide, by decide⟩ ?_
      exact hj719 _ h _ l0 l1 l2 l4 l5
  have h := wp_neg h q136
  by_cases q146 : (c.1 211 (ix a2)) = 30
  ·
    have h := wp_pos h q146
    refine rs_tsk (tg := 645) (off := 621) (v := 30) wi_470_24 q146 (by decide) (by decide) ⟨by decide, by decide⟩ ?_
    refine rs_aldn wi_470_645 l0 ?_
    refine rs_aldn wi_470_646 l0 ?_
    refine dq_gr wi_470_647 wf_470_194 tf_174_52 ?_
    refine rs_ildn wi_470_650 l2 ?_
    obtain ⟨g147, h⟩ := wp_gd h
    refine dq_iald wi_470_651 t_214 g147 ?_
    refine rs_aldn wi_470_652 l0 ?_
    refine dq_gr wi_470_653 wf_470_329 tf_174_118 ?_
    refine rs_pure wi_470_656 rfl ?_
    refine rs_topi (v := 4) (by decide) ?_
    refine rs_ild wi_470_657 l4 ?_
    refine rs_pure wi_470_659 rfl ?_
    refine rs_topi (v := 1) (by decide) ?_
    refine rs_pure wi_470_660 rfl ?_
    refine rs_pure wi_470_661 rfl ?_
    refine rs_aldn wi_470_662 l0 ?_
    refine dq_gr wi_470_663 wf_470_194 tf_174_52 ?_
    refine rs_ildn wi_470_666 l2 ?_
    obtain ⟨g148, h⟩ := wp_gd h
    refine dq_iald wi_470_667 t_214 g148 ?_
    refine rs_pure wi_470_668 rfl ?_
    obtain ⟨g149, h⟩ := wp_gd h
    refine dq_iald wi_470_669 t_257 g149 ?_
    refine rs_aldn wi_470_670 l0 ?_
    refine dq_gr wi_470_671 wf_470_197 tf_174_53 ?_
    refine rs_ildn wi_470_674 l2 ?_
    obtain ⟨g150, h⟩ := wp_gd h
    refine dq_iald wi_470_675 t_215 g150 ?_
    refine rs_V wi_470_676 wc_470_535 rfl (dq_isa tf_174_0 wa_15_387) (Nat.le_trans (by decide) hF) (ml_le wm_387 (Nat.le_trans (by decide) hLo)) rfl (sp_387 hw (Nat.le_trans (by decide : 1 ≤ 3 - 1) (Nat.sub_le_sub_right hF 1)) (ml_sub wm_387 (Nat.le_trans (by decide : 23 ≤ 71 - 23) (Nat.sub_le_sub_right hLo 23))) (wp_bind h) (fun v151 h => rs_back1 ?_))
    refine wp_jn (B := fun p152 : cS => ∀ lv, rx_ld lv 0 = some (.ref 174) → rx_ld lv 1 = some (.int a1) → rx_ld lv 2 = some (.int a2) → rx_ld lv 4 = some (.int v6) → rx_ld lv 5 = some (.int (-1)) → rs (rt_P sc fm) 470 F Lo 692 lv [] (hq false p152 y w) Q) h (fun p152 h lv l0 l1 l2 l4 l5 => ?_) (fun j692 hj692 h => ?_)
    ·
      refine rs_aldn wi_470_692 l0 ?_
      refine dq_gr wi_470_693 wf_470_329 tf_174_118 ?_
      refine rs_pure wi_470_696 rfl ?_
      refine rs_topi (v := 4) (by decide) ?_
      refine rs_ild wi_470_697 l4 ?_
      refine rs_pure wi_470_699 rfl ?_
      refine rs_topi (v := 1) (by decide) ?_
      refine rs_pure wi_470_700 rfl ?_
      refine rs_pure wi_470_701 rfl ?_
      refine rs_aldn wi_470_702 l0 ?_
      refine dq_gr wi_470_703 wf_470_194 tf_174_52 ?_
      refine rs_ildn wi_470_706 l2 ?_
      obtain ⟨g153, h⟩ := wp_gd h
      refine dq_iald wi_470_707 t_214 g153 ?_
      refine rs_pure wi_470_708 rfl ?_
      refine rs_aldn wi_470_709 l0 ?_
      refine dq_gr wi_470_710 wf_470_197 tf_174_53 ?_
      refine rs_ildn wi_470_713 l2 ?_
      obtain ⟨g154, h⟩ := wp_gd h
      refine dq_iald wi_470_714 t_215 g154 ?_
      obtain ⟨g155, h⟩ := wp_gd h
      obtain ⟨c156, e157, h⟩ := wp_lt h
      refine dq_iast wi_470_715 t_257 g155 e157 ?_
      refine rs_goto (tg := 719) wi_470_716 ⟨by decide, by decide⟩ ?_
      exact hj719 _ h _ l0 l1 l2 l4 l5
    refine rs_ifne (tg := 692) wi_470_679 ⟨by decide, by decide⟩ (fun q => ?_) (fun q => ?_)
    ·
      have h := wp_neg h q
      exact hj692 _ h _ l0 l1 l2 l4 l5
    ·
      have h := wp_pos h q
      refine rs_aldn wi_470_682 l0 ?_
      refine rs_pure wi_470_683 rfl ?_
      refine dq_gi wi_470_684 wf_470_940 tf_174_128 ?_
      refine rs_pure wi_470_687 rfl ?_
      refine rs_topi (v := 1) (by decide) ?_
      refine rs_pure wi_470_688 rfl ?_
      obtain ⟨c158, e159, h⟩ := wp_lt h
      refine dq_pi wi_470_689 wp_470_940 tf_174_128 rfl rfl e159 ?_
      exact hj692 _ h _ l0 l1 l2 l4 l5
  have h := wp_neg h q146
  refine rs_tsd (tg := 719) wi_470_24 (rz_sw fun k k1 k2 => by
    have kk : k = 14 ∨ k = 15 ∨ k = 16 ∨ k = 17 ∨ k = 18 ∨ k = 19 ∨ k = 20 ∨ k = 21 ∨ k = 22 ∨ k = 23 ∨ k = 24 ∨ k = 25 ∨ k = 26 ∨ k = 27 ∨ k = 28 ∨ k = 29 ∨ k = 30 := by omega
    rcases kk with rfl | rfl | rfl | rfl | rfl | rfl | rfl | rfl | rfl | rfl | rfl | rfl | rfl | rfl | rfl | rfl | rfl
    · exact q71
    · exact q72
    · exact q73
    · exact q76
    · exact q79
    · exact q98
    · exact q117
    · exact q118
    · exact q119
    · exact q120
    · exact q121
    · exact q122
    · exact q124
    · exact q125
    · exact q130
    · exact q136
    · exact q146
    ) ⟨by decide, by decide⟩ ?_
  exact hj719 _ h _ l0 l1 l2 l4 l5
set_option maxRecDepth 100000 in
theorem wa_15_468 : rz_cn 15 (rx_yn (rt_P sc fm) 468).cls = true := (by decide +kernel : rz_cn 15 (rt_yn 468).cls = true)
set_option maxRecDepth 100000 in
theorem wa_15_469 : rz_cn 15 (rx_yn (rt_P sc fm) 469).cls = true := (by decide +kernel : rz_cn 15 (rt_yn 469).cls = true)
set_option maxRecDepth 100000 in
theorem wa_15_470 : rz_cn 15 (rx_yn (rt_P sc fm) 470).cls = true := (by decide +kernel : rz_cn 15 (rt_yn 470).cls = true)
set_option maxRecDepth 100000 in
theorem wc_140_949 : rx_ct (rt_P sc fm) 140 949 = some (0, 468, 2) := (by decide +kernel : rt_ct 140 949 = some (0, 468, 2))
set_option maxRecDepth 100000 in
theorem wc_140_952 : rx_ct (rt_P sc fm) 140 952 = some (0, 469, 2) := (by decide +kernel : rt_ct 140 952 = some (0, 469, 2))
set_option maxRecDepth 100000 in
theorem wc_140_955 : rx_ct (rt_P sc fm) 140 955 = some (0, 470, 2) := (by decide +kernel : rt_ct 140 955 = some (0, 470, 2))
set_option maxRecDepth 100000 in
theorem wf_140_185 : rx_ft (rt_P sc fm) 140 185 = some (15, 49) := (by decide +kernel : rt_ft 140 185 = some (15, 49))
set_option maxRecDepth 100000 in
theorem wf_140_317 : rx_ft (rt_P sc fm) 140 317 = some (15, 114) := (by decide +kernel : rt_ft 140 317 = some (15, 114))
set_option maxRecDepth 100000 in
theorem wf_140_320 : rx_ft (rt_P sc fm) 140 320 = some (15, 115) := (by decide +kernel : rt_ft 140 320 = some (15, 115))
set_option maxRecDepth 100000 in
theorem wf_140_356 : rx_ft (rt_P sc fm) 140 356 = some (15, 0) := (by decide +kernel : rt_ft 140 356 = some (15, 0))
set_option maxRecDepth 100000 in
theorem wf_140_894 : rx_ft (rt_P sc fm) 140 894 = some (15, 106) := (by decide +kernel : rt_ft 140 894 = some (15, 106))
set_option maxRecDepth 100000 in
theorem wf_140_897 : rx_ft (rt_P sc fm) 140 897 = some (15, 111) := (by decide +kernel : rt_ft 140 897 = some (15, 111))
set_option maxRecDepth 100000 in
theorem wf_140_913 : rx_ft (rt_P sc fm) 140 913 = some (15, 113) := (by decide +kernel : rt_ft 140 913 = some (15, 113))
set_option maxRecDepth 100000 in
theorem wf_140_919 : rx_ft (rt_P sc fm) 140 919 = some (15, 112) := (by decide +kernel : rt_ft 140 919 = some (15, 112))
set_option maxRecDepth 100000 in
theorem wf_140_925 : rx_ft (rt_P sc fm) 140 925 = some (15, 123) := (by decide +kernel : rt_ft 140 925 = some (15, 123))
theorem wi_140_0 : ri (rt_P sc fm) 140 0 (.aload_n 0) (1) := ri_of (by decide +kernel) rfl
theorem wi_140_1 : ri (rt_P sc fm) 140 1 (.iload_n 1) (2) := ri_of (by decide +kernel) rfl
theorem wi_140_10 : ri (rt_P sc fm) 140 10 (.if_icmp .le 7) (13) := ri_of (by decide +kernel) rfl
theorem wi_140_100 : ri (rt_P sc fm) 140 100 (.invokevirtual 949) (103) := ri_of (by decide +kernel) rfl
theorem wi_140_103 : ri (rt_P sc fm) 140 103 (.ifCond .ne 11) (106) := ri_of (by decide +kernel) rfl
theorem wi_140_106 : ri (rt_P sc fm) 140 106 (.aload_n 0) (107) := ri_of (by decide +kernel) rfl
theorem wi_140_107 : ri (rt_P sc fm) 140 107 (.iconst 4) (108) := ri_of (by decide +kernel) rfl
theorem wi_140_108 : ri (rt_P sc fm) 140 108 (.putfield 897) (111) := ri_of (by decide +kernel) rfl
theorem wi_140_111 : ri (rt_P sc fm) 140 111 (.goto 59) (114) := ri_of (by decide +kernel) rfl
theorem wi_140_114 : ri (rt_P sc fm) 140 114 (.aload_n 0) (115) := ri_of (by decide +kernel) rfl
theorem wi_140_115 : ri (rt_P sc fm) 140 115 (.getfield 185) (118) := ri_of (by decide +kernel) rfl
theorem wi_140_118 : ri (rt_P sc fm) 140 118 (.iload 4) (120) := ri_of (by decide +kernel) rfl
theorem wi_140_120 : ri (rt_P sc fm) 140 120 (.iaload) (121) := ri_of (by decide +kernel) rfl
theorem wi_140_121 : ri (rt_P sc fm) 140 121 (.bipush 20) (123) := ri_of (by decide +kernel) rfl
theorem wi_140_123 : ri (rt_P sc fm) 140 123 (.if_icmp .ne 20) (126) := ri_of (by decide +kernel) rfl
theorem wi_140_126 : ri (rt_P sc fm) 140 126 (.aload_n 0) (127) := ri_of (by decide +kernel) rfl
theorem wi_140_127 : ri (rt_P sc fm) 140 127 (.getfield 913) (130) := ri_of (by decide +kernel) rfl
theorem wi_140_13 : ri (rt_P sc fm) 140 13 (.iconst 1) (14) := ri_of (by decide +kernel) rfl
theorem wi_140_130 : ri (rt_P sc fm) 140 130 (.bipush 12) (132) := ri_of (by decide +kernel) rfl
theorem wi_140_132 : ri (rt_P sc fm) 140 132 (.if_icmp .ne 11) (135) := ri_of (by decide +kernel) rfl
theorem wi_140_135 : ri (rt_P sc fm) 140 135 (.aload_n 0) (136) := ri_of (by decide +kernel) rfl
theorem wi_140_136 : ri (rt_P sc fm) 140 136 (.iconst 3) (137) := ri_of (by decide +kernel) rfl
theorem wi_140_137 : ri (rt_P sc fm) 140 137 (.putfield 897) (140) := ri_of (by decide +kernel) rfl
theorem wi_140_14 : ri (rt_P sc fm) 140 14 (.goto 16) (17) := ri_of (by decide +kernel) rfl
theorem wi_140_140 : ri (rt_P sc fm) 140 140 (.goto 30) (143) := ri_of (by decide +kernel) rfl
theorem wi_140_143 : ri (rt_P sc fm) 140 143 (.aload_n 0) (144) := ri_of (by decide +kernel) rfl
theorem wi_140_144 : ri (rt_P sc fm) 140 144 (.iload_n 3) (145) := ri_of (by decide +kernel) rfl
theorem wi_140_145 : ri (rt_P sc fm) 140 145 (.iload 4) (147) := ri_of (by decide +kernel) rfl
theorem wi_140_147 : ri (rt_P sc fm) 140 147 (.invokevirtual 952) (150) := ri_of (by decide +kernel) rfl
theorem wi_140_150 : ri (rt_P sc fm) 140 150 (.aload_n 0) (151) := ri_of (by decide +kernel) rfl
theorem wi_140_151 : ri (rt_P sc fm) 140 151 (.dup) (152) := ri_of (by decide +kernel) rfl
theorem wi_140_152 : ri (rt_P sc fm) 140 152 (.getfield 925) (155) := ri_of (by decide +kernel) rfl
theorem wi_140_155 : ri (rt_P sc fm) 140 155 (.iconst 1) (156) := ri_of (by decide +kernel) rfl
theorem wi_140_156 : ri (rt_P sc fm) 140 156 (.iadd) (157) := ri_of (by decide +kernel) rfl
theorem wi_140_157 : ri (rt_P sc fm) 140 157 (.putfield 925) (160) := ri_of (by decide +kernel) rfl
theorem wi_140_160 : ri (rt_P sc fm) 140 160 (.iinc 2 1) (163) := ri_of (by decide +kernel) rfl
theorem wi_140_163 : ri (rt_P sc fm) 140 163 (.aload_n 0) (164) := ri_of (by decide +kernel) rfl
theorem wi_140_164 : ri (rt_P sc fm) 140 164 (.iload_n 3) (165) := ri_of (by decide +kernel) rfl
theorem wi_140_165 : ri (rt_P sc fm) 140 165 (.iload 4) (167) := ri_of (by decide +kernel) rfl
theorem wi_140_167 : ri (rt_P sc fm) 140 167 (.invokevirtual 955) (170) := ri_of (by decide +kernel) rfl
theorem wi_140_17 : ri (rt_P sc fm) 140 17 (.aload_n 0) (18) := ri_of (by decide +kernel) rfl
theorem wi_140_170 : ri (rt_P sc fm) 140 170 (.goto (-126)) (173) := ri_of (by decide +kernel) rfl
theorem wi_140_173 : ri (rt_P sc fm) 140 173 (.iload_n 2) (174) := ri_of (by decide +kernel) rfl
theorem wi_140_174 : ri (rt_P sc fm) 140 174 (.ireturn) (175) := ri_of (by decide +kernel) rfl
theorem wi_140_18 : ri (rt_P sc fm) 140 18 (.getfield 897) (21) := ri_of (by decide +kernel) rfl
theorem wi_140_2 : ri (rt_P sc fm) 140 2 (.iconst 1) (3) := ri_of (by decide +kernel) rfl
theorem wi_140_21 : ri (rt_P sc fm) 140 21 (.iconst 1) (22) := ri_of (by decide +kernel) rfl
theorem wi_140_22 : ri (rt_P sc fm) 140 22 (.if_icmp .eq 7) (25) := ri_of (by decide +kernel) rfl
theorem wi_140_25 : ri (rt_P sc fm) 140 25 (.iconst 2) (26) := ri_of (by decide +kernel) rfl
theorem wi_140_26 : ri (rt_P sc fm) 140 26 (.goto 4) (29) := ri_of (by decide +kernel) rfl
theorem wi_140_29 : ri (rt_P sc fm) 140 29 (.iconst 0) (30) := ri_of (by decide +kernel) rfl
theorem wi_140_3 : ri (rt_P sc fm) 140 3 (.if_icmp .lt 10) (6) := ri_of (by decide +kernel) rfl
theorem wi_140_30 : ri (rt_P sc fm) 140 30 (.putfield 356) (33) := ri_of (by decide +kernel) rfl
theorem wi_140_33 : ri (rt_P sc fm) 140 33 (.aload_n 0) (34) := ri_of (by decide +kernel) rfl
theorem wi_140_34 : ri (rt_P sc fm) 140 34 (.getfield 356) (37) := ri_of (by decide +kernel) rfl
theorem wi_140_37 : ri (rt_P sc fm) 140 37 (.ifCond .le 5) (40) := ri_of (by decide +kernel) rfl
theorem wi_140_40 : ri (rt_P sc fm) 140 40 (.iconst 0) (41) := ri_of (by decide +kernel) rfl
theorem wi_140_41 : ri (rt_P sc fm) 140 41 (.ireturn) (42) := ri_of (by decide +kernel) rfl
theorem wi_140_42 : ri (rt_P sc fm) 140 42 (.iconst 0) (43) := ri_of (by decide +kernel) rfl
theorem wi_140_43 : ri (rt_P sc fm) 140 43 (.istore_n 2) (44) := ri_of (by decide +kernel) rfl
theorem wi_140_44 : ri (rt_P sc fm) 140 44 (.iload_n 2) (45) := ri_of (by decide +kernel) rfl
theorem wi_140_45 : ri (rt_P sc fm) 140 45 (.iload_n 1) (46) := ri_of (by decide +kernel) rfl
theorem wi_140_46 : ri (rt_P sc fm) 140 46 (.if_icmp .ge 127) (49) := ri_of (by decide +kernel) rfl
theorem wi_140_49 : ri (rt_P sc fm) 140 49 (.aload_n 0) (50) := ri_of (by decide +kernel) rfl
theorem wi_140_50 : ri (rt_P sc fm) 140 50 (.getfield 897) (53) := ri_of (by decide +kernel) rfl
theorem wi_140_53 : ri (rt_P sc fm) 140 53 (.iconst 1) (54) := ri_of (by decide +kernel) rfl
theorem wi_140_54 : ri (rt_P sc fm) 140 54 (.if_icmp .ne 119) (57) := ri_of (by decide +kernel) rfl
theorem wi_140_57 : ri (rt_P sc fm) 140 57 (.aload_n 0) (58) := ri_of (by decide +kernel) rfl
theorem wi_140_58 : ri (rt_P sc fm) 140 58 (.getfield 913) (61) := ri_of (by decide +kernel) rfl
theorem wi_140_6 : ri (rt_P sc fm) 140 6 (.iload_n 1) (7) := ri_of (by decide +kernel) rfl
theorem wi_140_61 : ri (rt_P sc fm) 140 61 (.iconst 1) (62) := ri_of (by decide +kernel) rfl
theorem wi_140_62 : ri (rt_P sc fm) 140 62 (.isub) (63) := ri_of (by decide +kernel) rfl
theorem wi_140_63 : ri (rt_P sc fm) 140 63 (.istore_n 3) (64) := ri_of (by decide +kernel) rfl
theorem wi_140_64 : ri (rt_P sc fm) 140 64 (.bipush 40) (66) := ri_of (by decide +kernel) rfl
theorem wi_140_66 : ri (rt_P sc fm) 140 66 (.aload_n 0) (67) := ri_of (by decide +kernel) rfl
theorem wi_140_67 : ri (rt_P sc fm) 140 67 (.getfield 317) (70) := ri_of (by decide +kernel) rfl
theorem wi_140_7 : ri (rt_P sc fm) 140 7 (.sipush 10000) (10) := ri_of (by decide +kernel) rfl
theorem wi_140_70 : ri (rt_P sc fm) 140 70 (.iload_n 3) (71) := ri_of (by decide +kernel) rfl
theorem wi_140_71 : ri (rt_P sc fm) 140 71 (.iaload) (72) := ri_of (by decide +kernel) rfl
theorem wi_140_72 : ri (rt_P sc fm) 140 72 (.imul) (73) := ri_of (by decide +kernel) rfl
theorem wi_140_73 : ri (rt_P sc fm) 140 73 (.aload_n 0) (74) := ri_of (by decide +kernel) rfl
theorem wi_140_74 : ri (rt_P sc fm) 140 74 (.getfield 320) (77) := ri_of (by decide +kernel) rfl
theorem wi_140_77 : ri (rt_P sc fm) 140 77 (.iload_n 3) (78) := ri_of (by decide +kernel) rfl
theorem wi_140_78 : ri (rt_P sc fm) 140 78 (.iaload) (79) := ri_of (by decide +kernel) rfl
theorem wi_140_79 : ri (rt_P sc fm) 140 79 (.iadd) (80) := ri_of (by decide +kernel) rfl
theorem wi_140_80 : ri (rt_P sc fm) 140 80 (.istore 4) (82) := ri_of (by decide +kernel) rfl
theorem wi_140_82 : ri (rt_P sc fm) 140 82 (.aload_n 0) (83) := ri_of (by decide +kernel) rfl
theorem wi_140_83 : ri (rt_P sc fm) 140 83 (.getfield 919) (86) := ri_of (by decide +kernel) rfl
theorem wi_140_86 : ri (rt_P sc fm) 140 86 (.ifCond .eq 28) (89) := ri_of (by decide +kernel) rfl
theorem wi_140_89 : ri (rt_P sc fm) 140 89 (.aload_n 0) (90) := ri_of (by decide +kernel) rfl
theorem wi_140_90 : ri (rt_P sc fm) 140 90 (.getfield 894) (93) := ri_of (by decide +kernel) rfl
theorem wi_140_93 : ri (rt_P sc fm) 140 93 (.ifCond .eq 21) (96) := ri_of (by decide +kernel) rfl
theorem wi_140_96 : ri (rt_P sc fm) 140 96 (.aload_n 0) (97) := ri_of (by decide +kernel) rfl
theorem wi_140_97 : ri (rt_P sc fm) 140 97 (.iload_n 3) (98) := ri_of (by decide +kernel) rfl
theorem wi_140_98 : ri (rt_P sc fm) 140 98 (.iload 4) (100) := ri_of (by decide +kernel) rfl
set_option maxRecDepth 100000 in
theorem wm_468 : rx_ml (rt_P sc fm) 468 = 6 := (by decide +kernel : rt_ml 468 = 6)
set_option maxRecDepth 100000 in
theorem wm_469 : rx_ml (rt_P sc fm) 469 = 7 := (by decide +kernel : rt_ml 469 = 7)
set_option maxRecDepth 100000 in
theorem wm_470 : rx_ml (rt_P sc fm) 470 = 9 := (by decide +kernel : rt_ml 470 = 9)
set_option maxRecDepth 100000 in
theorem wp_140_356 : rx_pt (rt_P sc fm) 140 356 = some (15, 0, .int) := (by decide +kernel : rt_pt 140 356 = some (15, 0, .int))
set_option maxRecDepth 100000 in
theorem wp_140_897 : rx_pt (rt_P sc fm) 140 897 = some (15, 111, .int) := (by decide +kernel : rt_pt 140 897 = some (15, 111, .int))
set_option maxRecDepth 100000 in
theorem wp_140_925 : rx_pt (rt_P sc fm) 140 925 = some (15, 123, .int) := (by decide +kernel : rt_pt 140 925 = some (15, 123, .int))
set_option maxRecDepth 100000 in
theorem wr_140 : rx_rt (rt_P sc fm) 140 = (some FieldType.int) := (by decide +kernel : rt_rt 140 = (some FieldType.int))
/-- MarkHouseModel.go(I)I -/
def d_140 (n : Nat) (a1 : Int32) (c : cS) : Option (Int32 × cS) :=
  jn (fun p1 : Int32 =>
    lt (pI c 174 0 p1) (fun c2 =>
    if (c2.1 174 0) ≤ 0 then
      Option.bind (whl (R := (Int32 × cS)) (fun s5 : Int32 × cS =>
        if a1 ≤ s5.1 then
          some (.inr (s5.1, s5.2))
        else
          if (s5.2.1 174 111) = 1 then
            lt (((s5.2.1 174 113) - 1) : Int32) (fun v7 =>
            if ib v7 12 then
            if ib v7 12 then
            lt (((40 * (s5.2.1 253 (ix v7))) + (s5.2.1 254 (ix v7))) : Int32) (fun v12 =>
            jn (fun p14 : Int32 × cS =>
              some (.inl (p14.1, p14.2)))
            (fun j170 =>
            jn (fun p15 : cS =>
              if ib v12 3840 then
              jn (fun p17 : Unit =>
                Option.bind (d_469 n v7 v12 p15) (fun r18 =>
                lt (pI r18 174 123 ((r18.1 174 123) + 1)) (fun c19 =>
                lt (s5.1 + 1 : Int32) (fun v22 =>
                Option.bind (d_470 n v7 v12 c19) (fun r24 =>
                j170 (v22, r24))))))
              (fun j143 =>
              if (p15.1 211 (ix v12)) = 20 then
                if (p15.1 174 113) = 12 then
                  lt (pI p15 174 111 3) (fun c25 =>
                  j170 (s5.1, c25))
                else
                  j143 ()
              else
                j143 ())
              else none)
            (fun j114 =>
            if (s5.2.1 174 112) = 0 then
              j114 s5.2
            else
              if (s5.2.1 174 106) = 0 then
                j114 s5.2
              else
                Option.bind (d_468 n v7 v12 s5.2) (fun r27 =>
                if r27.1 = 0 then
                  lt (pI r27.2 174 111 4) (fun c28 =>
                  j170 (s5.1, c28))
                else
                  j114 r27.2))))
            else none
            else none)
          else
            some (.inr (s5.1, s5.2))) n (0, c2))
      (fun x30 : Int32 × cS =>
        some (x30.1, x30.2))
    else
      some (0, c2)))
  (fun j30 =>
  jn (fun p31 : Unit =>
    j30 1)
  (fun j13 =>
  if a1 < 1 then
    j13 ()
  else
    if a1 ≤ 10000 then
      if (c.1 174 111) = 1 then
        j30 0
      else
        j30 2
    else
      j13 ()))
set_option maxRecDepth 100000 in
set_option maxHeartbeats 4000000 in
theorem sp_140 {F Lo n : Nat} {a1 : Int32} {c y : cS} {w : cW} {K : Int32 × cS → Prop} {Q : ((Option Value) ⊕ String) → List va_E → Prop} (hw : rOK fm w) (hF : 6 ≤ F) (hLo : 153 ≤ Lo)  (h : wp (d_140 n a1 c) K) (hQ : ∀ r, K r → Q (.inl (some (.int r.1))) (hq false r.2 y w)) : rs (rt_P sc fm) 140 F Lo 0 [(0, .ref 174), (1, .int a1)] [] (hq false c y w) Q := by
  unfold d_140 at h
  obtain ⟨lv, elv⟩ : ∃ lv : rx_L, lv = [(0, .ref 174), (1, .int a1)] := ⟨_, rfl⟩
  rw [← elv]
  have l0 : rx_ld lv 0 = some (.ref 174) := by rw [elv]; rfl
  have l1 : rx_ld lv 1 = some (.int a1) := by rw [elv]; rfl
  refine rs_aldn wi_140_0 l0 ?_
  refine rs_ildn wi_140_1 l1 ?_
  refine rs_pure wi_140_2 rfl ?_
  refine rs_topi (v := 1) (by decide) ?_
  refine wp_jn (B := fun p1 : Int32 => ∀ lv, rx_ld lv 0 = some (.ref 174) → rx_ld lv 1 = some (.int a1) → rs (rt_P sc fm) 140 F Lo 30 lv [.int p1, .ref 174] (hq false c y w) Q) h (fun p1 h lv l0 l1 => ?_) (fun j30 hj30 h => ?_)
  ·
    obtain ⟨c2, e3, h⟩ := wp_lt h
    refine dq_pi wi_140_30 wp_140_356 tf_174_0 rfl rfl e3 ?_
    refine rs_aldn wi_140_33 l0 ?_
    refine dq_gi wi_140_34 wf_140_356 tf_174_0 ?_
    refine rs_ifle (tg := 42) wi_140_37 ⟨by decide, by decide⟩ (fun q => ?_) (fun q => ?_)
    ·
      have h := wp_pos h q
      refine rs_pure wi_140_42 rfl ?_
      refine rs_topi (v := 0) (by decide) ?_
      refine dl_istn wi_140_43 rfl (fun lv l2 t4 => ?_)
      have l0 := t4 _ _ (by decide) (Or.inl rfl) l0
      have l1 := t4 _ _ (by decide) (Or.inl rfl) l1
      refine whl_ex (A := fun s5 : Int32 × cS => ∀ lv, rx_ld lv 0 = some (.ref 174) → rx_ld lv 1 = some (.int a1) → rx_ld lv 2 = some (.int s5.1) → rs (rt_P sc fm) 140 F Lo 44 lv [] (hq false s5.2 y w) Q) (B := (fun x30 : Int32 × cS => ∀ lv, rx_ld lv 2 = some (.int x30.1) → rs (rt_P sc fm) 140 F Lo 173 lv [] (hq false x30.2 y w) Q)) ?_ ?_ _ _ (wp_bind h) _ l0 l1 l2
      · intro s5 h lv l0 l1 l2
        refine rs_ildn wi_140_44 l2 ?_
        refine rs_ildn wi_140_45 l1 ?_
        refine rs_icge (tg := 173) wi_140_46 ⟨by decide, by decide⟩ (fun q => ?_) (fun q => ?_)
        ·
          have h := wp_pos h q
          exact h _ l2
        ·
          have h := wp_neg h q
          refine rs_aldn wi_140_49 l0 ?_
          refine dq_gi wi_140_50 wf_140_897 tf_174_111 ?_
          refine rs_pure wi_140_53 rfl ?_
          refine rs_topi (v := 1) (by decide) ?_
          refine rs_icne (tg := 173) wi_140_54 ⟨by decide, by decide⟩ (fun q => ?_) (fun q => ?_)
          ·
            have h := wp_neg h q
            exact h _ l2
          ·
            have h := wp_pos h q
            refine rs_aldn wi_140_57 l0 ?_
            refine dq_gi wi_140_58 wf_140_913 tf_174_113 ?_
            refine rs_pure wi_140_61 rfl ?_
            refine rs_topi (v := 1) (by decide) ?_
            refine rs_pure wi_140_62 rfl ?_
            obtain ⟨v7, e8, h⟩ := wp_lt h
            refine rs_topi e8 ?_
            refine dl_istn wi_140_63 rfl (fun lv l3 t6 => ?_)
            have l0 := t6 _ _ (by decide) (Or.inl rfl) l0
            have l1 := t6 _ _ (by decide) (Or.inl rfl) l1
            have l2 := t6 _ _ (by decide) (Or.inl rfl) l2
            refine rs_pure wi_140_64 rfl ?_
            refine rs_topi (v := 40) (by decide) ?_
            refine rs_aldn wi_140_66 l0 ?_
            refine dq_gr wi_140_67 wf_140_317 tf_174_114 ?_
            refine rs_ildn wi_140_70 l3 ?_
            obtain ⟨g9, h⟩ := wp_gd h
            refine dq_iald wi_140_71 t_253 g9 ?_
            refine rs_pure wi_140_72 rfl ?_
            refine rs_aldn wi_140_73 l0 ?_
            refine dq_gr wi_140_74 wf_140_320 tf_174_115 ?_
            refine rs_ildn wi_140_77 l3 ?_
            obtain ⟨g10, h⟩ := wp_gd h
            refine dq_iald wi_140_78 t_254 g10 ?_
            refine rs_pure wi_140_79 rfl ?_
            obtain ⟨v12, e13, h⟩ := wp_lt h
            refine rs_topi e13 ?_
            refine dl_ist wi_140_80 rfl (fun lv l4 t11 => ?_)
            have l0 := t11 _ _ (by decide) (Or.inl rfl) l0
            have l1 := t11 _ _ (by decide) (Or.inl rfl) l1
            have l2 := t11 _ _ (by decide) (Or.inl rfl) l2
            have l3 := t11 _ _ (by decide) (Or.inl rfl) l3
            refine rs_aldn wi_140_82 l0 ?_
            refine dq_gi wi_140_83 wf_140_919 tf_174_112 ?_
            refine wp_jn (B := fun p14 : Int32 × cS => ∀ lv, rx_ld lv 0 = some (.ref 174) → rx_ld lv 1 = some (.int a1) → rx_ld lv 2 = some (.int p14.1) → rs (rt_P sc fm) 140 F Lo 170 lv [] (hq false p14.2 y w) Q) h (fun p14 h lv l0 l1 l2 => ?_) (fun j170 hj170 h => ?_)
            ·
              refine rs_goto (tg := 44) wi_140_170 ⟨by decide, by decide⟩ ?_
              exact h _ l0 l1 l2
            refine wp_jn (B := fun p15 : cS => ∀ lv, rx_ld lv 0 = some (.ref 174) → rx_ld lv 1 = some (.int a1) → rx_ld lv 2 = some (.int s5.1) → rx_ld lv 3 = some (.int v7) → rx_ld lv 4 = some (.int v12) → rs (rt_P sc fm) 140 F Lo 114 lv [] (hq false p15 y w) Q) h (fun p15 h lv l0 l1 l2 l3 l4 => ?_) (fun j114 hj114 h => ?_)
            ·
              refine rs_aldn wi_140_114 l0 ?_
              refine dq_gr wi_140_115 wf_140_185 tf_174_49 ?_
              refine rs_ild wi_140_118 l4 ?_
              obtain ⟨g16, h⟩ := wp_gd h
              refine dq_iald wi_140_120 t_211 g16 ?_
              refine rs_pure wi_140_121 rfl ?_
              refine rs_topi (v := 20) (by decide) ?_
              refine wp_jn (B := fun p17 : Unit => ∀ lv, rx_ld lv 0 = some (.ref 174) → rx_ld lv 1 = some (.int a1) → rx_ld lv 2 = some (.int s5.1) → rx_ld lv 3 = some (.int v7) → rx_ld lv 4 = some (.int v12) → rs (rt_P sc fm) 140 F Lo 143 lv [] (hq false p15 y w) Q) h (fun p17 h lv l0 l1 l2 l3 l4 => ?_) (fun j143 hj143 h => ?_)
              ·
                refine rs_aldn wi_140_143 l0 ?_
                refine rs_ildn wi_140_144 l3 ?_
                refine rs_ild wi_140_145 l4 ?_
                refine rs_V wi_140_147 wc_140_952 rfl (dq_isa tf_174_0 wa_15_469) (Nat.le_trans (by decide) hF) (ml_le wm_469 (Nat.le_trans (by decide) hLo)) rfl (sp_469 hw (Nat.le_trans (by decide : 5 ≤ 6 - 1) (Nat.sub_le_sub_right hF 1)) (ml_sub wm_469 (Nat.le_trans (by decide : 127 ≤ 153 - 26) (Nat.sub_le_sub_right hLo 26))) (wp_bind h) (fun r18 h => rs_back0 ?_))
                refine rs_aldn wi_140_150 l0 ?_
                refine rs_pure wi_140_151 rfl ?_
                refine dq_gi wi_140_152 wf_140_925 tf_174_123 ?_
                refine rs_pure wi_140_155 rfl ?_
                refine rs_topi (v := 1) (by decide) ?_
                refine rs_pure wi_140_156 rfl ?_
                obtain ⟨c19, e20, h⟩ := wp_lt h
                refine dq_pi wi_140_157 wp_140_925 tf_174_123 rfl rfl e20 ?_
                obtain ⟨v22, e23, h⟩ := wp_lt h
                refine dl_inc wi_140_160 l2 rfl e23 (fun lv l2 t21 => ?_)
                have l0 := t21 _ _ (by decide) (Or.inl rfl) l0
                have l1 := t21 _ _ (by decide) (Or.inl rfl) l1
                have l3 := t21 _ _ (by decide) (Or.inl rfl) l3
                have l4 := t21 _ _ (by decide) (Or.inl rfl) l4
                refine rs_aldn wi_140_163 l0 ?_
                refine rs_ildn wi_140_164 l3 ?_
                refine rs_ild wi_140_165 l4 ?_
                refine rs_V wi_140_167 wc_140_955 rfl (dq_isa tf_174_0 wa_15_470) (Nat.le_trans (by decide) hF) (ml_le wm_470 (Nat.le_trans (by decide) hLo)) rfl (sp_470 hw (Nat.le_trans (by decide : 3 ≤ 6 - 1) (Nat.sub_le_sub_right hF 1)) (ml_sub wm_470 (Nat.le_trans (by decide : 71 ≤ 153 - 28) (Nat.sub_le_sub_right hLo 28))) (wp_bind h) (fun r24 h => rs_back0 ?_))
                exact hj170 _ h _ l0 l1 l2
              refine rs_icne (tg := 143) wi_140_123 ⟨by decide, by decide⟩ (fun q => ?_) (fun q => ?_)
              ·
                have h := wp_neg h q
                exact hj143 _ h _ l0 l1 l2 l3 l4
              ·
                have h := wp_pos h q
                refine rs_aldn wi_140_126 l0 ?_
                refine dq_gi wi_140_127 wf_140_913 tf_174_113 ?_
                refine rs_pure wi_140_130 rfl ?_
                refine rs_topi (v := 12) (by decide) ?_
                refine rs_icne (tg := 143) wi_140_132 ⟨by decide, by decide⟩ (fun q => ?_) (fun q => ?_)
                ·
                  have h := wp_neg h q
                  exact hj143 _ h _ l0 l1 l2 l3 l4
                ·
                  have h := wp_pos h q
                  refine rs_aldn wi_140_135 l0 ?_
                  refine rs_pure wi_140_136 rfl ?_
                  refine rs_topi (v := 3) (by decide) ?_
                  obtain ⟨c25, e26, h⟩ := wp_lt h
                  refine dq_pi wi_140_137 wp_140_897 tf_174_111 rfl rfl e26 ?_
                  refine rs_goto (tg := 170) wi_140_140 ⟨by decide, by decide⟩ ?_
                  exact hj170 _ h _ l0 l1 l2
            refine rs_ifeq (tg := 114) wi_140_86 ⟨by decide, by decide⟩ (fun q => ?_) (fun q => ?_)
            ·
              have h := wp_pos h q
              exact hj114 _ h _ l0 l1 l2 l3 l4
            ·
              have h := wp_neg h q
              refine rs_aldn wi_140_89 l0 ?_
              refine dq_gi wi_140_90 wf_140_894 tf_174_106 ?_
              refine rs_ifeq (tg := 114) wi_140_93 ⟨by decide, by decide⟩ (fun q => ?_) (fun q => ?_)
              ·
                have h := wp_pos h q
                exact hj114 _ h _ l0 l1 l2 l3 l4
              ·
                have h := wp_neg h q
                refine rs_aldn wi_140_96 l0 ?_
                refine rs_ildn wi_140_97 l3 ?_
                refine rs_ild wi_140_98 l4 ?_
                refine rs_V wi_140_100 wc_140_949 rfl (dq_isa tf_174_0 wa_15_468) (Nat.le_trans (by decide) hF) (ml_le wm_468 (Nat.le_trans (by decide) hLo)) rfl (sp_468 hw (Nat.le_trans (by decide : 2 ≤ 6 - 1) (Nat.sub_le_sub_right hF 1)) (ml_sub wm_468 (Nat.le_trans (by decide : 46 ≤ 153 - 25) (Nat.sub_le_sub_right hLo 25))) (wp_bind h) (fun r27 h => rs_back1 ?_))
                refine rs_ifne (tg := 114) wi_140_103 ⟨by decide, by decide⟩ (fun q => ?_) (fun q => ?_)
                ·
                  have h := wp_neg h q
                  exact hj114 _ h _ l0 l1 l2 l3 l4
                ·
                  have h := wp_pos h q
                  refine rs_aldn wi_140_106 l0 ?_
                  refine rs_pure wi_140_107 rfl ?_
                  refine rs_topi (v := 4) (by decide) ?_
                  obtain ⟨c28, e29, h⟩ := wp_lt h
                  refine dq_pi wi_140_108 wp_140_897 tf_174_111 rfl rfl e29 ?_
                  refine rs_goto (tg := 170) wi_140_111 ⟨by decide, by decide⟩ ?_
                  exact hj170 _ h _ l0 l1 l2
      ·
        intro x30 h lv l2
        refine rs_ildn wi_140_173 l2 ?_
        exact rs_iret wi_140_174 wr_140 rfl (hQ (x30.1, x30.2) h)
    ·
      have h := wp_neg h q
      refine rs_pure wi_140_40 rfl ?_
      refine rs_topi (v := 0) (by decide) ?_
      exact rs_iret wi_140_41 wr_140 rfl (hQ (0, c2) h)
  refine wp_jn (B := fun p31 : Unit => ∀ lv, rx_ld lv 0 = some (.ref 174) → rx_ld lv 1 = some (.int a1) → rs (rt_P sc fm) 140 F Lo 13 lv [.ref 174] (hq false c y w) Q) h (fun p31 h lv l0 l1 => ?_) (fun j13 hj13 h => ?_)
  ·
    refine rs_pure wi_140_13 rfl ?_
    refine rs_topi (v := 1) (by decide) ?_
    refine rs_goto (tg := 30) wi_140_14 ⟨by decide, by decide⟩ ?_
    exact hj30 _ h _ l0 l1
  refine rs_iclt (tg := 13) wi_140_3 ⟨by decide, by decide⟩ (fun q => ?_) (fun q => ?_)
  ·
    have h := wp_pos h q
    exact hj13 _ h _ l0 l1
  ·
    have h := wp_neg h q
    refine rs_ildn wi_140_6 l1 ?_
    refine rs_pure wi_140_7 rfl ?_
    refine rs_topi (v := 10000) (by decide) ?_
    refine rs_icle (tg := 17) wi_140_10 ⟨by decide, by decide⟩ (fun q => ?_) (fun q => ?_)
    ·
      have h := wp_pos h q
      refine rs_aldn wi_140_17 l0 ?_
      refine dq_gi wi_140_18 wf_140_897 tf_174_111 ?_
      refine rs_pure wi_140_21 rfl ?_
      refine rs_topi (v := 1) (by decide) ?_
      refine rs_iceq (tg := 29) wi_140_22 ⟨by decide, by decide⟩ (fun q => ?_) (fun q => ?_)
      ·
        have h := wp_pos h q
        refine rs_pure wi_140_29 rfl ?_
        refine rs_topi (v := 0) (by decide) ?_
        exact hj30 _ h _ l0 l1
      ·
        have h := wp_neg h q
        refine rs_pure wi_140_25 rfl ?_
        refine rs_topi (v := 2) (by decide) ?_
        refine rs_goto (tg := 30) wi_140_26 ⟨by decide, by decide⟩ ?_
        exact hj30 _ h _ l0 l1
    ·
      have h := wp_neg h q
      exact hj13 _ h _ l0 l1
set_option maxRecDepth 100000 in
theorem wc_141_661 : rx_ct (rt_P sc fm) 141 661 = some (1, 422, 1) := (by decide +kernel : rt_ct 141 661 = some (1, 422, 1))
set_option maxRecDepth 100000 in
theorem wf_141_317 : rx_ft (rt_P sc fm) 141 317 = some (15, 114) := (by decide +kernel : rt_ft 141 317 = some (15, 114))
set_option maxRecDepth 100000 in
theorem wf_141_320 : rx_ft (rt_P sc fm) 141 320 = some (15, 115) := (by decide +kernel : rt_ft 141 320 = some (15, 115))
set_option maxRecDepth 100000 in
theorem wf_141_897 : rx_ft (rt_P sc fm) 141 897 = some (15, 111) := (by decide +kernel : rt_ft 141 897 = some (15, 111))
set_option maxRecDepth 100000 in
theorem wf_141_913 : rx_ft (rt_P sc fm) 141 913 = some (15, 113) := (by decide +kernel : rt_ft 141 913 = some (15, 113))
set_option maxRecDepth 100000 in
theorem wf_141_922 : rx_ft (rt_P sc fm) 141 922 = some (15, 121) := (by decide +kernel : rt_ft 141 922 = some (15, 121))
set_option maxRecDepth 100000 in
theorem wf_141_925 : rx_ft (rt_P sc fm) 141 925 = some (15, 123) := (by decide +kernel : rt_ft 141 925 = some (15, 123))
set_option maxRecDepth 100000 in
theorem wf_141_928 : rx_ft (rt_P sc fm) 141 928 = some (15, 124) := (by decide +kernel : rt_ft 141 928 = some (15, 124))
set_option maxRecDepth 100000 in
theorem wf_141_931 : rx_ft (rt_P sc fm) 141 931 = some (15, 125) := (by decide +kernel : rt_ft 141 931 = some (15, 125))
set_option maxRecDepth 100000 in
theorem wf_141_934 : rx_ft (rt_P sc fm) 141 934 = some (15, 126) := (by decide +kernel : rt_ft 141 934 = some (15, 126))
set_option maxRecDepth 100000 in
theorem wf_141_937 : rx_ft (rt_P sc fm) 141 937 = some (15, 127) := (by decide +kernel : rt_ft 141 937 = some (15, 127))
set_option maxRecDepth 100000 in
theorem wf_141_940 : rx_ft (rt_P sc fm) 141 940 = some (15, 128) := (by decide +kernel : rt_ft 141 940 = some (15, 128))
set_option maxRecDepth 100000 in
theorem wf_141_943 : rx_ft (rt_P sc fm) 141 943 = some (15, 129) := (by decide +kernel : rt_ft 141 943 = some (15, 129))
theorem wi_141_0 : ri (rt_P sc fm) 141 0 (.aload_n 0) (1) := ri_of (by decide +kernel) rfl
theorem wi_141_1 : ri (rt_P sc fm) 141 1 (.iconst 0) (2) := ri_of (by decide +kernel) rfl
theorem wi_141_10 : ri (rt_P sc fm) 141 10 (.bipush 11) (12) := ri_of (by decide +kernel) rfl
theorem wi_141_12 : ri (rt_P sc fm) 141 12 (.if_icmp .le 5) (15) := ri_of (by decide +kernel) rfl
theorem wi_141_148 : ri (rt_P sc fm) 141 148 (.aload_n 0) (149) := ri_of (by decide +kernel) rfl
theorem wi_141_149 : ri (rt_P sc fm) 141 149 (.getfield 897) (152) := ri_of (by decide +kernel) rfl
theorem wi_141_15 : ri (rt_P sc fm) 141 15 (.iconst (-1)) (16) := ri_of (by decide +kernel) rfl
theorem wi_141_152 : ri (rt_P sc fm) 141 152 (.ireturn) (153) := ri_of (by decide +kernel) rfl
theorem wi_141_153 : ri (rt_P sc fm) 141 153 (.aload_n 0) (154) := ri_of (by decide +kernel) rfl
theorem wi_141_154 : ri (rt_P sc fm) 141 154 (.getfield 897) (157) := ri_of (by decide +kernel) rfl
theorem wi_141_157 : ri (rt_P sc fm) 141 157 (.iconst 2) (158) := ri_of (by decide +kernel) rfl
theorem wi_141_158 : ri (rt_P sc fm) 141 158 (.if_icmp .ne 10) (161) := ri_of (by decide +kernel) rfl
theorem wi_141_16 : ri (rt_P sc fm) 141 16 (.ireturn) (17) := ri_of (by decide +kernel) rfl
theorem wi_141_161 : ri (rt_P sc fm) 141 161 (.aload_n 0) (162) := ri_of (by decide +kernel) rfl
theorem wi_141_162 : ri (rt_P sc fm) 141 162 (.getfield 922) (165) := ri_of (by decide +kernel) rfl
theorem wi_141_165 : ri (rt_P sc fm) 141 165 (.goto 4) (168) := ri_of (by decide +kernel) rfl
theorem wi_141_168 : ri (rt_P sc fm) 141 168 (.iconst 0) (169) := ri_of (by decide +kernel) rfl
theorem wi_141_169 : ri (rt_P sc fm) 141 169 (.ireturn) (170) := ri_of (by decide +kernel) rfl
theorem wi_141_17 : ri (rt_P sc fm) 141 17 (.aload_n 0) (18) := ri_of (by decide +kernel) rfl
theorem wi_141_170 : ri (rt_P sc fm) 141 170 (.aload_n 0) (171) := ri_of (by decide +kernel) rfl
theorem wi_141_171 : ri (rt_P sc fm) 141 171 (.getfield 925) (174) := ri_of (by decide +kernel) rfl
theorem wi_141_174 : ri (rt_P sc fm) 141 174 (.ireturn) (175) := ri_of (by decide +kernel) rfl
theorem wi_141_175 : ri (rt_P sc fm) 141 175 (.aload_n 0) (176) := ri_of (by decide +kernel) rfl
theorem wi_141_176 : ri (rt_P sc fm) 141 176 (.getfield 317) (179) := ri_of (by decide +kernel) rfl
theorem wi_141_179 : ri (rt_P sc fm) 141 179 (.aload_n 0) (180) := ri_of (by decide +kernel) rfl
theorem wi_141_18 : ri (rt_P sc fm) 141 18 (.getfield 897) (21) := ri_of (by decide +kernel) rfl
theorem wi_141_180 : ri (rt_P sc fm) 141 180 (.getfield 913) (183) := ri_of (by decide +kernel) rfl
theorem wi_141_183 : ri (rt_P sc fm) 141 183 (.iconst 1) (184) := ri_of (by decide +kernel) rfl
theorem wi_141_184 : ri (rt_P sc fm) 141 184 (.isub) (185) := ri_of (by decide +kernel) rfl
theorem wi_141_185 : ri (rt_P sc fm) 141 185 (.iaload) (186) := ri_of (by decide +kernel) rfl
theorem wi_141_186 : ri (rt_P sc fm) 141 186 (.invokestatic 661) (189) := ri_of (by decide +kernel) rfl
theorem wi_141_189 : ri (rt_P sc fm) 141 189 (.ireturn) (190) := ri_of (by decide +kernel) rfl
theorem wi_141_190 : ri (rt_P sc fm) 141 190 (.aload_n 0) (191) := ri_of (by decide +kernel) rfl
theorem wi_141_191 : ri (rt_P sc fm) 141 191 (.getfield 320) (194) := ri_of (by decide +kernel) rfl
theorem wi_141_194 : ri (rt_P sc fm) 141 194 (.aload_n 0) (195) := ri_of (by decide +kernel) rfl
theorem wi_141_195 : ri (rt_P sc fm) 141 195 (.getfield 913) (198) := ri_of (by decide +kernel) rfl
theorem wi_141_198 : ri (rt_P sc fm) 141 198 (.iconst 1) (199) := ri_of (by decide +kernel) rfl
theorem wi_141_199 : ri (rt_P sc fm) 141 199 (.isub) (200) := ri_of (by decide +kernel) rfl
theorem wi_141_2 : ri (rt_P sc fm) 141 2 (.putfield 356) (5) := ri_of (by decide +kernel) rfl
theorem wi_141_200 : ri (rt_P sc fm) 141 200 (.iaload) (201) := ri_of (by decide +kernel) rfl
theorem wi_141_201 : ri (rt_P sc fm) 141 201 (.ireturn) (202) := ri_of (by decide +kernel) rfl
theorem wi_141_202 : ri (rt_P sc fm) 141 202 (.aload_n 0) (203) := ri_of (by decide +kernel) rfl
theorem wi_141_203 : ri (rt_P sc fm) 141 203 (.getfield 897) (206) := ri_of (by decide +kernel) rfl
theorem wi_141_206 : ri (rt_P sc fm) 141 206 (.iconst 1) (207) := ri_of (by decide +kernel) rfl
theorem wi_141_207 : ri (rt_P sc fm) 141 207 (.if_icmp .ne 10) (210) := ri_of (by decide +kernel) rfl
theorem wi_141_21 : ri (rt_P sc fm) 141 21 (.ifCond .ne 7) (24) := ri_of (by decide +kernel) rfl
theorem wi_141_210 : ri (rt_P sc fm) 141 210 (.aload_n 0) (211) := ri_of (by decide +kernel) rfl
theorem wi_141_211 : ri (rt_P sc fm) 141 211 (.getfield 913) (214) := ri_of (by decide +kernel) rfl
theorem wi_141_214 : ri (rt_P sc fm) 141 214 (.goto 4) (217) := ri_of (by decide +kernel) rfl
theorem wi_141_217 : ri (rt_P sc fm) 141 217 (.iconst 0) (218) := ri_of (by decide +kernel) rfl
theorem wi_141_218 : ri (rt_P sc fm) 141 218 (.ireturn) (219) := ri_of (by decide +kernel) rfl
theorem wi_141_219 : ri (rt_P sc fm) 141 219 (.aload_n 0) (220) := ri_of (by decide +kernel) rfl
theorem wi_141_220 : ri (rt_P sc fm) 141 220 (.getfield 928) (223) := ri_of (by decide +kernel) rfl
theorem wi_141_223 : ri (rt_P sc fm) 141 223 (.ireturn) (224) := ri_of (by decide +kernel) rfl
theorem wi_141_224 : ri (rt_P sc fm) 141 224 (.aload_n 0) (225) := ri_of (by decide +kernel) rfl
theorem wi_141_225 : ri (rt_P sc fm) 141 225 (.getfield 940) (228) := ri_of (by decide +kernel) rfl
theorem wi_141_228 : ri (rt_P sc fm) 141 228 (.ireturn) (229) := ri_of (by decide +kernel) rfl
theorem wi_141_229 : ri (rt_P sc fm) 141 229 (.aload_n 0) (230) := ri_of (by decide +kernel) rfl
theorem wi_141_230 : ri (rt_P sc fm) 141 230 (.getfield 943) (233) := ri_of (by decide +kernel) rfl
theorem wi_141_233 : ri (rt_P sc fm) 141 233 (.ireturn) (234) := ri_of (by decide +kernel) rfl
theorem wi_141_24 : ri (rt_P sc fm) 141 24 (.iconst 1) (25) := ri_of (by decide +kernel) rfl
theorem wi_141_25 : ri (rt_P sc fm) 141 25 (.goto 4) (28) := ri_of (by decide +kernel) rfl
theorem wi_141_28 : ri (rt_P sc fm) 141 28 (.iconst 0) (29) := ri_of (by decide +kernel) rfl
theorem wi_141_29 : ri (rt_P sc fm) 141 29 (.istore_n 2) (30) := ri_of (by decide +kernel) rfl
theorem wi_141_30 : ri (rt_P sc fm) 141 30 (.iload_n 1) (31) := ri_of (by decide +kernel) rfl
theorem wi_141_31 : ri (rt_P sc fm) 141 31 (.bipush 7) (33) := ri_of (by decide +kernel) rfl
theorem wi_141_33 : ri (rt_P sc fm) 141 33 (.if_icmp .lt 48) (36) := ri_of (by decide +kernel) rfl
theorem wi_141_36 : ri (rt_P sc fm) 141 36 (.iload_n 1) (37) := ri_of (by decide +kernel) rfl
theorem wi_141_37 : ri (rt_P sc fm) 141 37 (.bipush 9) (39) := ri_of (by decide +kernel) rfl
theorem wi_141_39 : ri (rt_P sc fm) 141 39 (.if_icmp .gt 42) (42) := ri_of (by decide +kernel) rfl
theorem wi_141_42 : ri (rt_P sc fm) 141 42 (.iload_n 2) (43) := ri_of (by decide +kernel) rfl
theorem wi_141_43 : ri (rt_P sc fm) 141 43 (.ifCond .eq 7) (46) := ri_of (by decide +kernel) rfl
theorem wi_141_46 : ri (rt_P sc fm) 141 46 (.iconst (-1)) (47) := ri_of (by decide +kernel) rfl
theorem wi_141_47 : ri (rt_P sc fm) 141 47 (.goto 33) (50) := ri_of (by decide +kernel) rfl
theorem wi_141_5 : ri (rt_P sc fm) 141 5 (.iload_n 1) (6) := ri_of (by decide +kernel) rfl
theorem wi_141_50 : ri (rt_P sc fm) 141 50 (.iload_n 1) (51) := ri_of (by decide +kernel) rfl
theorem wi_141_51 : ri (rt_P sc fm) 141 51 (.bipush 7) (53) := ri_of (by decide +kernel) rfl
theorem wi_141_53 : ri (rt_P sc fm) 141 53 (.if_icmp .ne 10) (56) := ri_of (by decide +kernel) rfl
theorem wi_141_56 : ri (rt_P sc fm) 141 56 (.aload_n 0) (57) := ri_of (by decide +kernel) rfl
theorem wi_141_57 : ri (rt_P sc fm) 141 57 (.getfield 931) (60) := ri_of (by decide +kernel) rfl
theorem wi_141_6 : ri (rt_P sc fm) 141 6 (.ifCond .lt 9) (9) := ri_of (by decide +kernel) rfl
theorem wi_141_60 : ri (rt_P sc fm) 141 60 (.goto 20) (63) := ri_of (by decide +kernel) rfl
theorem wi_141_63 : ri (rt_P sc fm) 141 63 (.iload_n 1) (64) := ri_of (by decide +kernel) rfl
theorem wi_141_64 : ri (rt_P sc fm) 141 64 (.bipush 8) (66) := ri_of (by decide +kernel) rfl
theorem wi_141_66 : ri (rt_P sc fm) 141 66 (.if_icmp .ne 10) (69) := ri_of (by decide +kernel) rfl
theorem wi_141_69 : ri (rt_P sc fm) 141 69 (.aload_n 0) (70) := ri_of (by decide +kernel) rfl
theorem wi_141_70 : ri (rt_P sc fm) 141 70 (.getfield 934) (73) := ri_of (by decide +kernel) rfl
theorem wi_141_73 : ri (rt_P sc fm) 141 73 (.goto 7) (76) := ri_of (by decide +kernel) rfl
theorem wi_141_76 : ri (rt_P sc fm) 141 76 (.aload_n 0) (77) := ri_of (by decide +kernel) rfl
theorem wi_141_77 : ri (rt_P sc fm) 141 77 (.getfield 937) (80) := ri_of (by decide +kernel) rfl
theorem wi_141_80 : ri (rt_P sc fm) 141 80 (.ireturn) (81) := ri_of (by decide +kernel) rfl
theorem wi_141_81 : ri (rt_P sc fm) 141 81 (.iload_n 2) (82) := ri_of (by decide +kernel) rfl
theorem wi_141_82 : ri (rt_P sc fm) 141 82 (.ifCond .eq 5) (85) := ri_of (by decide +kernel) rfl
theorem wi_141_85 : ri (rt_P sc fm) 141 85 (.iconst 0) (86) := ri_of (by decide +kernel) rfl
theorem wi_141_86 : ri (rt_P sc fm) 141 86 (.ireturn) (87) := ri_of (by decide +kernel) rfl
theorem wi_141_87 : ri (rt_P sc fm) 141 87 (.iload_n 1) (88) := ri_of (by decide +kernel) rfl
theorem wi_141_88 : ri (rt_P sc fm) 141 88 (.tableswitch 141 0 10 #[60, 65, 82, 87, 102, 114, 131, 141, 141, 141, 136]) (88 + rx_len (.tableswitch 141 0 10 #[60, 65, 82, 87, 102, 114, 131, 141, 141, 141, 136])) := ri_of (by decide +kernel) rfl
theorem wi_141_9 : ri (rt_P sc fm) 141 9 (.iload_n 1) (10) := ri_of (by decide +kernel) rfl
set_option maxRecDepth 100000 in
theorem wp_141_356 : rx_pt (rt_P sc fm) 141 356 = some (15, 0, .int) := (by decide +kernel : rt_pt 141 356 = some (15, 0, .int))
set_option maxRecDepth 100000 in
theorem wr_141 : rx_rt (rt_P sc fm) 141 = (some FieldType.int) := (by decide +kernel : rt_rt 141 = (some FieldType.int))
/-- MarkHouseModel.run(I)I -/
def d_141 (n : Nat) (a1 : Int32) (c : cS) : Option (Int32 × cS) :=
  lt (pI c 174 0 0) (fun c1 =>
  jn (fun p3 : Unit =>
    some ((-1), c1))
  (fun j15 =>
  if a1 < 0 then
    j15 ()
  else
    if a1 ≤ 11 then
      jn (fun p4 : Int32 =>
        jn (fun p6 : Unit =>
          if p4 = 0 then
            jn (fun p7 : Unit =>
              some ((c1.1 174 129), c1))
            (fun j229 =>
            if a1 = 0 then
              some ((c1.1 174 111), c1)
            else
            if a1 = 1 then
              jn (fun p10 : Int32 =>
                some (p10, c1))
              (fun j169 =>
              if (c1.1 174 111) = 2 then
                j169 (c1.1 174 121)
              else
                j169 0)
            else
            if a1 = 2 then
              some ((c1.1 174 123), c1)
            else
            if a1 = 3 then
              if ib ((c1.1 174 113) - 1) 12 then
              Option.bind (d_422 n (c1.1 253 (ix ((c1.1 174 113) - 1)))) (fun v14 =>
              some (v14, c1))
              else none
            else
            if a1 = 4 then
              if ib ((c1.1 174 113) - 1) 12 then
              some ((c1.1 254 (ix ((c1.1 174 113) - 1))), c1)
              else none
            else
            if a1 = 5 then
              jn (fun p18 : Int32 =>
                some (p18, c1))
              (fun j218 =>
              if (c1.1 174 111) = 1 then
                j218 (c1.1 174 113)
              else
                j218 0)
            else
            if a1 = 6 then
              some ((c1.1 174 124), c1)
            else
            if a1 = 7 then
              j229 ()
            else
            if a1 = 8 then
              j229 ()
            else
            if a1 = 9 then
              j229 ()
            else
            if a1 = 10 then
              some ((c1.1 174 128), c1)
            else
            j229 ())
          else
            some (0, c1))
        (fun j81 =>
        if a1 < 7 then
          j81 ()
        else
          if 9 < a1 then
            j81 ()
          else
            jn (fun p24 : Int32 =>
              some (p24, c1))
            (fun j80 =>
            if p4 = 0 then
              if a1 = 7 then
                j80 (c1.1 174 125)
              else
                if a1 = 8 then
                  j80 (c1.1 174 126)
                else
                  j80 (c1.1 174 127)
            else
              j80 (-1))))
      (fun j29 =>
      if (c1.1 174 111) = 0 then
        j29 1
      else
        j29 0)
    else
      j15 ()))
set_option maxRecDepth 100000 in
set_option maxHeartbeats 4000000 in
theorem sp_141 {F Lo n : Nat} {a1 : Int32} {c y : cS} {w : cW} {K : Int32 × cS → Prop} {Q : ((Option Value) ⊕ String) → List va_E → Prop} (hw : rOK fm w) (hF : 1 ≤ F) (hLo : 20 ≤ Lo)  (h : wp (d_141 n a1 c) K) (hQ : ∀ r, K r → Q (.inl (some (.int r.1))) (hq false r.2 y w)) : rs (rt_P sc fm) 141 F Lo 0 [(0, .ref 174), (1, .int a1)] [] (hq false c y w) Q := by
  unfold d_141 at h
  obtain ⟨lv, elv⟩ : ∃ lv : rx_L, lv = [(0, .ref 174), (1, .int a1)] := ⟨_, rfl⟩
  rw [← elv]
  have l0 : rx_ld lv 0 = some (.ref 174) := by rw [elv]; rfl
  have l1 : rx_ld lv 1 = some (.int a1) := by rw [elv]; rfl
  refine rs_aldn wi_141_0 l0 ?_
  refine rs_pure wi_141_1 rfl ?_
  refine rs_topi (v := 0) (by decide) ?_
  obtain ⟨c1, e2, h⟩ := wp_lt h
  refine dq_pi wi_141_2 wp_141_356 tf_174_0 rfl rfl e2 ?_
  refine rs_ildn wi_141_5 l1 ?_
  refine wp_jn (B := fun p3 : Unit => ∀ lv, rs (rt_P sc fm) 141 F Lo 15 lv [] (hq false c1 y w) Q) h (fun p3 h lv => ?_) (fun j15 hj15 h => ?_)
  ·
    refine rs_pure wi_141_15 rfl ?_
    refine rs_topi (v := (-1)) (by decide) ?_
    exact rs_iret wi_141_16 wr_141 rfl (hQ ((-1), c1) h)
  refine rs_iflt (tg := 15) wi_141_6 ⟨by decide, by decide⟩ (fun q => ?_) (fun q => ?_)
  ·
    have h := wp_pos h q
    exact hj15 _ h _
  ·
    have h := wp_neg h q
    refine rs_ildn wi_141_9 l1 ?_
    refine rs_pure wi_141_10 rfl ?_
    refine rs_topi (v := 11) (by decide) ?_
    refine rs_icle (tg := 17) wi_141_12 ⟨by decide, by decide⟩ (fun q => ?_) (fun q => ?_)
    ·
      have h := wp_pos h q
      refine rs_aldn wi_141_17 l0 ?_
      refine dq_gi wi_141_18 wf_141_897 tf_174_111 ?_
      refine wp_jn (B := fun p4 : Int32 => ∀ lv, rx_ld lv 0 = some (.ref 174) → rx_ld lv 1 = some (.int a1) → rs (rt_P sc fm) 141 F Lo 29 lv [.int p4] (hq false c1 y w) Q) h (fun p4 h lv l0 l1 => ?_) (fun j29 hj29 h => ?_)
      ·
        refine dl_istn wi_141_29 rfl (fun lv l2 t5 => ?_)
        have l0 := t5 _ _ (by decide) (Or.inl rfl) l0
        have l1 := t5 _ _ (by decide) (Or.inl rfl) l1
        refine rs_ildn wi_141_30 l1 ?_
        refine rs_pure wi_141_31 rfl ?_
        refine rs_topi (v := 7) (by decide) ?_
        refine wp_jn (B := fun p6 : Unit => ∀ lv, rx_ld lv 0 = some (.ref 174) → rx_ld lv 1 = some (.int a1) → rx_ld lv 2 = some (.int p4) → rs (rt_P sc fm) 141 F Lo 81 lv [] (hq false c1 y w) Q) h (fun p6 h lv l0 l1 l2 => ?_) (fun j81 hj81 h => ?_)
        ·
          refine rs_ildn wi_141_81 l2 ?_
          refine rs_ifeq (tg := 87) wi_141_82 ⟨by decide, by decide⟩ (fun q => ?_) (fun q => ?_)
          ·
            have h := wp_pos h q
            refine rs_ildn wi_141_87 l1 ?_
            refine wp_jn (B := fun p7 : Unit => ∀ lv, rx_ld lv 0 = some (.ref 174) → rs (rt_P sc fm) 141 F Lo 229 lv [] (hq false c1 y w) Q) h (fun p7 h lv l0 => ?_) (fun j229 hj229 h => ?_)
            ·
              refine rs_aldn wi_141_229 l0 ?_
              refine dq_gi wi_141_230 wf_141_943 tf_174_129 ?_
              exact rs_iret wi_141_233 wr_141 rfl (hQ ((c1.1 174 129), c1) h)
            by_cases q8 : a1 = 0
            ·
              have h := wp_pos h q8
              refine rs_tsk (tg := 148) (off := 60) (v := 0) wi_141_88 q8 (by decide) (by decide) ⟨by decide, by decide⟩ ?_
              refine rs_aldn wi_141_148 l0 ?_
              refine dq_gi wi_141_149 wf_141_897 tf_174_111 ?_
              exact rs_iret wi_141_152 wr_141 rfl (hQ ((c1.1 174 111), c1) h)
            have h := wp_neg h q8
            by_cases q9 : a1 = 1
            ·
              have h := wp_pos h q9
              refine rs_tsk (tg := 153) (off := 65) (v := 1) wi_141_88 q9 (by decide) (by decide) ⟨by decide, by decide⟩ ?_
              refine rs_aldn wi_141_153 l0 ?_
              refine dq_gi wi_141_154 wf_141_897 tf_174_111 ?_
              refine rs_pure wi_141_157 rfl ?_
              refine rs_topi (v := 2) (by decide) ?_
              refine wp_jn (B := fun p10 : Int32 => ∀ lv, rs (rt_P sc fm) 141 F Lo 169 lv [.int p10] (hq false c1 y w) Q) h (fun p10 h lv => ?_) (fun j169 hj169 h => ?_)
              ·
                exact rs_iret wi_141_169 wr_141 rfl (hQ (p10, c1) h)
              refine rs_icne (tg := 168) wi_141_158 ⟨by decide, by decide⟩ (fun q => ?_) (fun q => ?_)
              ·
                have h := wp_neg h q
                refine rs_pure wi_141_168 rfl ?_
                refine rs_topi (v := 0) (by decide) ?_
                exact hj169 _ h _
              ·
                have h := wp_pos h q
                refine rs_aldn wi_141_161 l0 ?_
                refine dq_gi wi_141_162 wf_141_922 tf_174_121 ?_
                refine rs_goto (tg := 169) wi_141_165 ⟨by decide, by decide⟩ ?_
                exact hj169 _ h _
            have h := wp_neg h q9
            by_cases q11 : a1 = 2
            ·
              have h := wp_pos h q11
              refine rs_tsk (tg := 170) (off := 82) (v := 2) wi_141_88 q11 (by decide) (by decide) ⟨by decide, by decide⟩ ?_
              refine rs_aldn wi_141_170 l0 ?_
              refine dq_gi wi_141_171 wf_141_925 tf_174_123 ?_
              exact rs_iret wi_141_174 wr_141 rfl (hQ ((c1.1 174 123), c1) h)
            have h := wp_neg h q11
            by_cases q12 : a1 = 3
            ·
              have h := wp_pos h q12
              refine rs_tsk (tg := 175) (off := 87) (v := 3) wi_141_88 q12 (by decide) (by decide) ⟨by decide, by decide⟩ ?_
              refine rs_aldn wi_141_175 l0 ?_
              refine dq_gr wi_141_176 wf_141_317 tf_174_114 ?_
              refine rs_aldn wi_141_179 l0 ?_
              refine dq_gi wi_141_180 wf_141_913 tf_174_113 ?_
              refine rs_pure wi_141_183 rfl ?_
              refine rs_topi (v := 1) (by decide) ?_
              refine rs_pure wi_141_184 rfl ?_
              obtain ⟨g13, h⟩ := wp_gd h
              refine dq_iald wi_141_185 t_253 g13 ?_
              refine rs_S wi_141_186 wc_141_661 (Or.inl rfl) rfl (Nat.le_trans (by decide) hF) (ml_le wm_422 (Nat.le_trans (by decide) hLo)) rfl (sp_422 (Nat.le_trans (by decide : 0 ≤ 1 - 1) (Nat.sub_le_sub_right hF 1)) (ml_sub wm_422 (Nat.le_trans (by decide : 0 ≤ 20 - 20) (Nat.sub_le_sub_right hLo 20))) (wp_bind h) (fun v14 h => rs_back1 ?_))
              exact rs_iret wi_141_189 wr_141 rfl (hQ (v14, c1) h)
            have h := wp_neg h q12
            by_cases q15 : a1 = 4
            ·
              have h := wp_pos h q15
              refine rs_tsk (tg := 190) (off := 102) (v := 4) wi_141_88 q15 (by decide) (by decide) ⟨by decide, by decide⟩ ?_
              refine rs_aldn wi_141_190 l0 ?_
              refine dq_gr wi_141_191 wf_141_320 tf_174_115 ?_
              refine rs_aldn wi_141_194 l0 ?_
              refine dq_gi wi_141_195 wf_141_913 tf_174_113 ?_
              refine rs_pure wi_141_198 rfl ?_
              refine rs_topi (v := 1) (by decide) ?_
              refine rs_pure wi_141_199 rfl ?_
              obtain ⟨g16, h⟩ := wp_gd h
              refine dq_iald wi_141_200 t_254 g16 ?_
              exact rs_iret wi_141_201 wr_141 rfl (hQ ((c1.1 254 (ix ((c1.1 174 113) - 1))), c1) h)
            have h := wp_neg h q15
            by_cases q17 : a1 = 5
            ·
              have h := wp_pos h q17
              refine rs_tsk (tg := 202) (off := 114) (v := 5) wi_141_88 q17 (by decide) (by decide) ⟨by decide, by decide⟩ ?_
              refine rs_aldn wi_141_202 l0 ?_
              refine dq_gi wi_141_203 wf_141_897 tf_174_111 ?_
              refine rs_pure wi_141_206 rfl ?_
              refine rs_topi (v := 1) (by decide) ?_
              refine wp_jn (B := fun p18 : Int32 => ∀ lv, rs (rt_P sc fm) 141 F Lo 218 lv [.int p18] (hq false c1 y w) Q) h (fun p18 h lv => ?_) (fun j218 hj218 h => ?_)
              ·
                exact rs_iret wi_141_218 wr_141 rfl (hQ (p18, c1) h)
              refine rs_icne (tg := 217) wi_141_207 ⟨by decide, by decide⟩ (fun q => ?_) (fun q => ?_)
              ·
                have h := wp_neg h q
                refine rs_pure wi_141_217 rfl ?_
                refine rs_topi (v := 0) (by decide) ?_
                exact hj218 _ h _
              ·
                have h := wp_pos h q
                refine rs_aldn wi_141_210 l0 ?_
                refine dq_gi wi_141_211 wf_141_913 tf_174_113 ?_
                refine rs_goto (tg := 218) wi_141_214 ⟨by decide, by decide⟩ ?_
                exact hj218 _ h _
            have h := wp_neg h q17
            by_cases q19 : a1 = 6
            ·
              have h := wp_pos h q19
              refine rs_tsk (tg := 219) (off := 131) (v := 6) wi_141_88 q19 (by decide) (by decide) ⟨by decide, by decide⟩ ?_
              refine rs_aldn wi_141_219 l0 ?_
              refine dq_gi wi_141_220 wf_141_928 tf_174_124 ?_
              exact rs_iret wi_141_223 wr_141 rfl (hQ ((c1.1 174 124), c1) h)
            have h := wp_neg h q19
            by_cases q20 : a1 = 7
            ·
              have h := wp_pos h q20
              refine rs_tsk (tg := 229) (off := 141) (v := 7) wi_141_88 q20 (by decide) (by decide) ⟨by decide, by decide⟩ ?_
              exact hj229 _ h _ l0
            have h := wp_neg h q20
            by_cases q21 : a1 = 8
            ·
              have h := wp_pos h q21
              refine rs_tsk (tg := 229) (off := 141) (v := 8) wi_141_88 q21 (by decide) (by decide) ⟨by decide, by decide⟩ ?_
              exact hj229 _ h _ l0
            have h := wp_neg h q21
            by_cases q22 : a1 = 9
            ·
              have h := wp_pos h q22
              refine rs_tsk (tg := 229) (off := 141) (v := 9) wi_141_88 q22 (by decide) (by decide) ⟨by decide, by decide⟩ ?_
              exact hj229 _ h _ l0
            have h := wp_neg h q22
            by_cases q23 : a1 = 10
            ·
              have h := wp_pos h q23
              refine rs_tsk (tg := 224) (off := 136) (v := 10) wi_141_88 q23 (by decide) (by decide) ⟨by decide, by decide⟩ ?_
              refine rs_aldn wi_141_224 l0 ?_
              refine dq_gi wi_141_225 wf_141_940 tf_174_128 ?_
              exact rs_iret wi_141_228 wr_141 rfl (hQ ((c1.1 174 128), c1) h)
            have h := wp_neg h q23
            refine rs_tsd (tg := 229) wi_141_88 (rz_sw fun k k1 k2 => by
              have kk : k = 0 ∨ k = 1 ∨ k = 2 ∨ k = 3 ∨ k = 4 ∨ k = 5 ∨ k = 6 ∨ k = 7 ∨ k = 8 ∨ k = 9 ∨ k = 10 := by omega
              rcases kk with rfl | rfl | rfl | rfl | rfl | rfl | rfl | rfl | rfl | rfl | rfl
              · exact q8
              · exact q9
              · exact q11
              · exact q12
              · exact q15
              · exact q17
              · exact q19
              · exact q20
              · exact q21
              · exact q22
              · exact q23
              ) ⟨by decide, by decide⟩ ?_
            exact hj229 _ h _ l0
          ·
            have h := wp_neg h q
            refine rs_pure wi_141_85 rfl ?_
            refine rs_topi (v := 0) (by decide) ?_
            exact rs_iret wi_141_86 wr_141 rfl (hQ (0, c1) h)
        refine rs_iclt (tg := 81) wi_141_33 ⟨by decide, by decide⟩ (fun q => ?_) (fun q => ?_)
        ·
          have h := wp_pos h q
          exact hj81 _ h _ l0 l1 l2
        ·
          have h := wp_neg h q
          refine rs_ildn wi_141_36 l1 ?_
          refine rs_pure wi_141_37 rfl ?_
          refine rs_topi (v := 9) (by decide) ?_
          refine rs_icgt (tg := 81) wi_141_39 ⟨by decide, by decide⟩ (fun q => ?_) (fun q => ?_)
          ·
            have h := wp_pos h q
            exact hj81 _ h _ l0 l1 l2
          ·
            have h := wp_neg h q
            refine rs_ildn wi_141_42 l2 ?_
            refine wp_jn (B := fun p24 : Int32 => ∀ lv, rs (rt_P sc fm) 141 F Lo 80 lv [.int p24] (hq false c1 y w) Q) h (fun p24 h lv => ?_) (fun j80 hj80 h => ?_)
            ·
              exact rs_iret wi_141_80 wr_141 rfl (hQ (p24, c1) h)
            refine rs_ifeq (tg := 50) wi_141_43 ⟨by decide, by decide⟩ (fun q => ?_) (fun q => ?_)
            ·
              have h := wp_pos h q
              refine rs_ildn wi_141_50 l1 ?_
              refine rs_pure wi_141_51 rfl ?_
              refine rs_topi (v := 7) (by decide) ?_
              refine rs_icne (tg := 63) wi_141_53 ⟨by decide, by decide⟩ (fun q => ?_) (fun q => ?_)
              ·
                have h := wp_neg h q
                refine rs_ildn wi_141_63 l1 ?_
                refine rs_pure wi_141_64 rfl ?_
                refine rs_topi (v := 8) (by decide) ?_
                refine rs_icne (tg := 76) wi_141_66 ⟨by decide, by decide⟩ (fun q => ?_) (fun q => ?_)
                ·
                  have h := wp_neg h q
                  refine rs_aldn wi_141_76 l0 ?_
                  refine dq_gi wi_141_77 wf_141_937 tf_174_127 ?_
                  exact hj80 _ h _
                ·
                  have h := wp_pos h q
                  refine rs_aldn wi_141_69 l0 ?_
                  refine dq_gi wi_141_70 wf_141_934 tf_174_126 ?_
                  refine rs_goto (tg := 80) wi_141_73 ⟨by decide, by decide⟩ ?_
                  exact hj80 _ h _
              ·
                have h := wp_pos h q
                refine rs_aldn wi_141_56 l0 ?_
                refine dq_gi wi_141_57 wf_141_931 tf_174_125 ?_
                refine rs_goto (tg := 80) wi_141_60 ⟨by decide, by decide⟩ ?_
                exact hj80 _ h _
            ·
              have h := wp_neg h q
              refine rs_pure wi_141_46 rfl ?_
              refine rs_topi (v := (-1)) (by decide) ?_
              refine rs_goto (tg := 80) wi_141_47 ⟨by decide, by decide⟩ ?_
              exact hj80 _ h _
      refine rs_ifne (tg := 28) wi_141_21 ⟨by decide, by decide⟩ (fun q => ?_) (fun q => ?_)
      ·
        have h := wp_neg h q
        refine rs_pure wi_141_28 rfl ?_
        refine rs_topi (v := 0) (by decide) ?_
        exact hj29 _ h _ l0 l1
      ·
        have h := wp_pos h q
        refine rs_pure wi_141_24 rfl ?_
        refine rs_topi (v := 1) (by decide) ?_
        refine rs_goto (tg := 29) wi_141_25 ⟨by decide, by decide⟩ ?_
        exact hj29 _ h _ l0 l1
    ·
      have h := wp_neg h q
      exact hj15 _ h _
set_option maxRecDepth 100000 in
theorem wc_142_724 : rx_ct (rt_P sc fm) 142 724 = some (0, 119, 1) := (by decide +kernel : rt_ct 142 724 = some (0, 119, 1))
set_option maxRecDepth 100000 in
theorem wf_142_338 : rx_ft (rt_P sc fm) 142 338 = some (15, 122) := (by decide +kernel : rt_ft 142 338 = some (15, 122))
set_option maxRecDepth 100000 in
theorem wf_142_897 : rx_ft (rt_P sc fm) 142 897 = some (15, 111) := (by decide +kernel : rt_ft 142 897 = some (15, 111))
theorem wi_142_0 : ri (rt_P sc fm) 142 0 (.aload_n 0) (1) := ri_of (by decide +kernel) rfl
theorem wi_142_1 : ri (rt_P sc fm) 142 1 (.iconst 0) (2) := ri_of (by decide +kernel) rfl
theorem wi_142_10 : ri (rt_P sc fm) 142 10 (.ifCond .eq 20) (13) := ri_of (by decide +kernel) rfl
theorem wi_142_13 : ri (rt_P sc fm) 142 13 (.aload_n 0) (14) := ri_of (by decide +kernel) rfl
theorem wi_142_14 : ri (rt_P sc fm) 142 14 (.getfield 897) (17) := ri_of (by decide +kernel) rfl
theorem wi_142_17 : ri (rt_P sc fm) 142 17 (.iconst 2) (18) := ri_of (by decide +kernel) rfl
theorem wi_142_18 : ri (rt_P sc fm) 142 18 (.if_icmp .ne 12) (21) := ri_of (by decide +kernel) rfl
theorem wi_142_2 : ri (rt_P sc fm) 142 2 (.putfield 356) (5) := ri_of (by decide +kernel) rfl
theorem wi_142_21 : ri (rt_P sc fm) 142 21 (.aload_n 0) (22) := ri_of (by decide +kernel) rfl
theorem wi_142_22 : ri (rt_P sc fm) 142 22 (.getfield 338) (25) := ri_of (by decide +kernel) rfl
theorem wi_142_25 : ri (rt_P sc fm) 142 25 (.iload_n 1) (26) := ri_of (by decide +kernel) rfl
theorem wi_142_26 : ri (rt_P sc fm) 142 26 (.iaload) (27) := ri_of (by decide +kernel) rfl
theorem wi_142_27 : ri (rt_P sc fm) 142 27 (.goto 4) (30) := ri_of (by decide +kernel) rfl
theorem wi_142_30 : ri (rt_P sc fm) 142 30 (.iconst (-1)) (31) := ri_of (by decide +kernel) rfl
theorem wi_142_31 : ri (rt_P sc fm) 142 31 (.ireturn) (32) := ri_of (by decide +kernel) rfl
theorem wi_142_5 : ri (rt_P sc fm) 142 5 (.aload_n 0) (6) := ri_of (by decide +kernel) rfl
theorem wi_142_6 : ri (rt_P sc fm) 142 6 (.iload_n 1) (7) := ri_of (by decide +kernel) rfl
theorem wi_142_7 : ri (rt_P sc fm) 142 7 (.invokevirtual 724) (10) := ri_of (by decide +kernel) rfl
set_option maxRecDepth 100000 in
theorem wp_142_356 : rx_pt (rt_P sc fm) 142 356 = some (15, 0, .int) := (by decide +kernel : rt_pt 142 356 = some (15, 0, .int))
set_option maxRecDepth 100000 in
theorem wr_142 : rx_rt (rt_P sc fm) 142 = (some FieldType.int) := (by decide +kernel : rt_rt 142 = (some FieldType.int))
/-- MarkHouseModel.truth(I)I -/
def d_142 (n : Nat) (a1 : Int32) (c : cS) : Option (Int32 × cS) :=
  lt (pI c 174 0 0) (fun c1 =>
  Option.bind (d_119 n a1 c1) (fun v3 =>
  jn (fun p4 : Int32 =>
    some (p4, c1))
  (fun j31 =>
  jn (fun p5 : Unit =>
    j31 (-1))
  (fun j30 =>
  if v3 = 0 then
    j30 ()
  else
    if (c1.1 174 111) = 2 then
      if ib a1 4 then
      j31 (c1.1 260 (ix a1))
      else none
    else
      j30 ()))))
set_option maxRecDepth 100000 in
set_option maxHeartbeats 4000000 in
theorem sp_142 {F Lo n : Nat} {a1 : Int32} {c y : cS} {w : cW} {K : Int32 × cS → Prop} {Q : ((Option Value) ⊕ String) → List va_E → Prop} (hw : rOK fm w) (hF : 1 ≤ F) (hLo : 21 ≤ Lo)  (h : wp (d_142 n a1 c) K) (hQ : ∀ r, K r → Q (.inl (some (.int r.1))) (hq false r.2 y w)) : rs (rt_P sc fm) 142 F Lo 0 [(0, .ref 174), (1, .int a1)] [] (hq false c y w) Q := by
  unfold d_142 at h
  obtain ⟨lv, elv⟩ : ∃ lv : rx_L, lv = [(0, .ref 174), (1, .int a1)] := ⟨_, rfl⟩
  rw [← elv]
  have l0 : rx_ld lv 0 = some (.ref 174) := by rw [elv]; rfl
  have l1 : rx_ld lv 1 = some (.int a1) := by rw [elv]; rfl
  refine rs_aldn wi_142_0 l0 ?_
  refine rs_pure wi_142_1 rfl ?_
  refine rs_topi (v := 0) (by decide) ?_
  obtain ⟨c1, e2, h⟩ := wp_lt h
  refine dq_pi wi_142_2 wp_142_356 tf_174_0 rfl rfl e2 ?_
  refine rs_aldn wi_142_5 l0 ?_
  refine rs_ildn wi_142_6 l1 ?_
  refine rs_V wi_142_7 wc_142_724 rfl (dq_isa tf_174_0 wa_15_119) (Nat.le_trans (by decide) hF) (ml_le wm_119 (Nat.le_trans (by decide) hLo)) rfl (sp_119 hw (Nat.le_trans (by decide : 0 ≤ 1 - 1) (Nat.sub_le_sub_right hF 1)) (ml_sub wm_119 (Nat.le_trans (by decide : 0 ≤ 21 - 21) (Nat.sub_le_sub_right hLo 21))) (wp_bind h) (fun v3 h => rs_back1 ?_))
  refine wp_jn (B := fun p4 : Int32 => ∀ lv, rs (rt_P sc fm) 142 F Lo 31 lv [.int p4] (hq false c1 y w) Q) h (fun p4 h lv => ?_) (fun j31 hj31 h => ?_)
  ·
    exact rs_iret wi_142_31 wr_142 rfl (hQ (p4, c1) h)
  refine wp_jn (B := fun p5 : Unit => ∀ lv, rs (rt_P sc fm) 142 F Lo 30 lv [] (hq false c1 y w) Q) h (fun p5 h lv => ?_) (fun j30 hj30 h => ?_)
  ·
    refine rs_pure wi_142_30 rfl ?_
    refine rs_topi (v := (-1)) (by decide) ?_
    exact hj31 _ h _
  refine rs_ifeq (tg := 30) wi_142_10 ⟨by decide, by decide⟩ (fun q => ?_) (fun q => ?_)
  ·
    have h := wp_pos h q
    exact hj30 _ h _
  ·
    have h := wp_neg h q
    refine rs_aldn wi_142_13 l0 ?_
    refine dq_gi wi_142_14 wf_142_897 tf_174_111 ?_
    refine rs_pure wi_142_17 rfl ?_
    refine rs_topi (v := 2) (by decide) ?_
    refine rs_icne (tg := 30) wi_142_18 ⟨by decide, by decide⟩ (fun q => ?_) (fun q => ?_)
    ·
      have h := wp_neg h q
      exact hj30 _ h _
    ·
      have h := wp_pos h q
      refine rs_aldn wi_142_21 l0 ?_
      refine dq_gr wi_142_22 wf_142_338 tf_174_122 ?_
      refine rs_ildn wi_142_25 l1 ?_
      obtain ⟨g6, h⟩ := wp_gd h
      refine dq_iald wi_142_26 t_260 g6 ?_
      refine rs_goto (tg := 31) wi_142_27 ⟨by decide, by decide⟩ ?_
      exact hj31 _ h _
set_option maxRecDepth 100000 in
theorem wc_474_568 : rx_ct (rt_P sc fm) 474 568 = some (0, 378, 2) := (by decide +kernel : rt_ct 474 568 = some (0, 378, 2))
set_option maxRecDepth 100000 in
theorem wc_474_706 : rx_ct (rt_P sc fm) 474 706 = some (0, 429, 3) := (by decide +kernel : rt_ct 474 706 = some (0, 429, 3))
set_option maxRecDepth 100000 in
theorem wf_474_697 : rx_ft (rt_P sc fm) 474 697 = some (15, 79) := (by decide +kernel : rt_ft 474 697 = some (15, 79))
theorem wi_474_0 : ri (rt_P sc fm) 474 0 (.aload_n 0) (1) := ri_of (by decide +kernel) rfl
theorem wi_474_1 : ri (rt_P sc fm) 474 1 (.iload_n 2) (2) := ri_of (by decide +kernel) rfl
theorem wi_474_10 : ri (rt_P sc fm) 474 10 (.ifCond .lt 22) (13) := ri_of (by decide +kernel) rfl
theorem wi_474_13 : ri (rt_P sc fm) 474 13 (.aload_n 0) (14) := ri_of (by decide +kernel) rfl
theorem wi_474_14 : ri (rt_P sc fm) 474 14 (.iload_n 1) (15) := ri_of (by decide +kernel) rfl
theorem wi_474_15 : ri (rt_P sc fm) 474 15 (.iload_n 2) (16) := ri_of (by decide +kernel) rfl
theorem wi_474_16 : ri (rt_P sc fm) 474 16 (.iload 5) (18) := ri_of (by decide +kernel) rfl
theorem wi_474_18 : ri (rt_P sc fm) 474 18 (.invokevirtual 706) (21) := ri_of (by decide +kernel) rfl
theorem wi_474_2 : ri (rt_P sc fm) 474 2 (.lload_n 3) (3) := ri_of (by decide +kernel) rfl
theorem wi_474_21 : ri (rt_P sc fm) 474 21 (.iconst 2) (22) := ri_of (by decide +kernel) rfl
theorem wi_474_22 : ri (rt_P sc fm) 474 22 (.if_icmp .ne 10) (25) := ri_of (by decide +kernel) rfl
theorem wi_474_25 : ri (rt_P sc fm) 474 25 (.aload_n 0) (26) := ri_of (by decide +kernel) rfl
theorem wi_474_26 : ri (rt_P sc fm) 474 26 (.getfield 697) (29) := ri_of (by decide +kernel) rfl
theorem wi_474_29 : ri (rt_P sc fm) 474 29 (.goto 4) (32) := ri_of (by decide +kernel) rfl
theorem wi_474_3 : ri (rt_P sc fm) 474 3 (.invokevirtual 568) (6) := ri_of (by decide +kernel) rfl
theorem wi_474_32 : ri (rt_P sc fm) 474 32 (.lconst 0) (33) := ri_of (by decide +kernel) rfl
theorem wi_474_33 : ri (rt_P sc fm) 474 33 (.lreturn) (34) := ri_of (by decide +kernel) rfl
theorem wi_474_6 : ri (rt_P sc fm) 474 6 (.istore 5) (8) := ri_of (by decide +kernel) rfl
theorem wi_474_8 : ri (rt_P sc fm) 474 8 (.iload 5) (10) := ri_of (by decide +kernel) rfl
set_option maxRecDepth 100000 in
theorem wr_474 : rx_rt (rt_P sc fm) 474 = (some FieldType.long) := (by decide +kernel : rt_rt 474 = (some FieldType.long))
/-- MarkHouseModel.textOf(IIJ)J -/
def d_474 (n : Nat) (a1 : Int32) (a2 : Int32) (a3 : Int64) (c : cS) : Option (Int64 × cS) :=
  Option.bind (d_378 n a2 a3 c) (fun v1 =>
  jn (fun p3 : Int64 × cS =>
    some (p3.1, p3.2))
  (fun j33 =>
  jn (fun p4 : cS =>
    j33 (0, p4))
  (fun j32 =>
  if v1 < 0 then
    j32 c
  else
    Option.bind (d_429 n a1 a2 v1 c) (fun r5 =>
    if r5.1 = 2 then
      j33 ((r5.2.2 174 79), r5.2)
    else
      j32 r5.2))))
set_option maxRecDepth 100000 in
set_option maxHeartbeats 4000000 in
theorem sp_474 {F Lo n : Nat} {a1 : Int32} {a2 : Int32} {a3 : Int64} {c y : cS} {w : cW} {K : Int64 × cS → Prop} {Q : ((Option Value) ⊕ String) → List va_E → Prop} (hw : rOK fm w) (hF : 1 ≤ F) (hLo : 26 ≤ Lo)  (h : wp (d_474 n a1 a2 a3 c) K) (hQ : ∀ r, K r → Q (.inl (some (.long r.1))) (hq false r.2 y w)) : rs (rt_P sc fm) 474 F Lo 0 [(0, .ref 174), (1, .int a1), (2, .int a2), (3, .long a3)] [] (hq false c y w) Q := by
  unfold d_474 at h
  obtain ⟨lv, elv⟩ : ∃ lv : rx_L, lv = [(0, .ref 174), (1, .int a1), (2, .int a2), (3, .long a3)] := ⟨_, rfl⟩
  rw [← elv]
  have l0 : rx_ld lv 0 = some (.ref 174) := by rw [elv]; rfl
  have l1 : rx_ld lv 1 = some (.int a1) := by rw [elv]; rfl
  have l2 : rx_ld lv 2 = some (.int a2) := by rw [elv]; rfl
  have l3 : rx_ld lv 3 = some (.long a3) := by rw [elv]; rfl
  refine rs_aldn wi_474_0 l0 ?_
  refine rs_ildn wi_474_1 l2 ?_
  refine rs_lldn wi_474_2 l3 ?_
  refine rs_V wi_474_3 wc_474_568 rfl (dq_isa tf_174_0 wa_15_378) (Nat.le_trans (by decide) hF) (ml_le wm_378 (Nat.le_trans (by decide) hLo)) rfl (sp_378 hw (Nat.le_trans (by decide : 0 ≤ 1 - 1) (Nat.sub_le_sub_right hF 1)) (ml_sub wm_378 (Nat.le_trans (by decide : 0 ≤ 26 - 24) (Nat.sub_le_sub_right hLo 24))) (wp_bind h) (fun v1 h => rs_back1 ?_))
  refine dl_ist wi_474_6 rfl (fun lv l5 t2 => ?_)
  have l0 := t2 _ _ (by decide) (Or.inl rfl) l0
  have l1 := t2 _ _ (by decide) (Or.inl rfl) l1
  have l2 := t2 _ _ (by decide) (Or.inl rfl) l2
  refine rs_ild wi_474_8 l5 ?_
  refine wp_jn (B := fun p3 : Int64 × cS => ∀ lv, rs (rt_P sc fm) 474 F Lo 33 lv [.long p3.1] (hq false p3.2 y w) Q) h (fun p3 h lv => ?_) (fun j33 hj33 h => ?_)
  ·
    exact rs_lret wi_474_33 wr_474 (hQ (p3.1, p3.2) h)
  refine wp_jn (B := fun p4 : cS => ∀ lv, rs (rt_P sc fm) 474 F Lo 32 lv [] (hq false p4 y w) Q) h (fun p4 h lv => ?_) (fun j32 hj32 h => ?_)
  ·
    refine rs_pure wi_474_32 rfl ?_
    refine rs_topl (v := 0) (by decide) ?_
    exact hj33 _ h _
  refine rs_iflt (tg := 32) wi_474_10 ⟨by decide, by decide⟩ (fun q => ?_) (fun q => ?_)
  ·
    have h := wp_pos h q
    exact hj32 _ h _
  ·
    have h := wp_neg h q
    refine rs_aldn wi_474_13 l0 ?_
    refine rs_ildn wi_474_14 l1 ?_
    refine rs_ildn wi_474_15 l2 ?_
    refine rs_ild wi_474_16 l5 ?_
    refine rs_V wi_474_18 wc_474_706 rfl (dq_isa tf_174_0 wa_15_429) (Nat.le_trans (by decide) hF) (ml_le wm_429 (Nat.le_trans (by decide) hLo)) rfl (sp_429 hw (Nat.le_trans (by decide : 0 ≤ 1 - 1) (Nat.sub_le_sub_right hF 1)) (ml_sub wm_429 (Nat.le_trans (by decide : 0 ≤ 26 - 26) (Nat.sub_le_sub_right hLo 26))) (wp_bind h) (fun r5 h => rs_back1 ?_))
    refine rs_pure wi_474_21 rfl ?_
    refine rs_topi (v := 2) (by decide) ?_
    refine rs_icne (tg := 32) wi_474_22 ⟨by decide, by decide⟩ (fun q => ?_) (fun q => ?_)
    ·
      have h := wp_neg h q
      exact hj32 _ h _
    ·
      have h := wp_pos h q
      refine rs_aldn wi_474_25 l0 ?_
      refine dq_gl wi_474_26 wf_474_697 tf_174_79 ?_
      refine rs_goto (tg := 33) wi_474_29 ⟨by decide, by decide⟩ ?_
      exact hj33 _ h _
set_option maxRecDepth 100000 in
theorem wc_475_568 : rx_ct (rt_P sc fm) 475 568 = some (0, 378, 2) := (by decide +kernel : rt_ct 475 568 = some (0, 378, 2))
set_option maxRecDepth 100000 in
theorem wc_475_706 : rx_ct (rt_P sc fm) 475 706 = some (0, 429, 3) := (by decide +kernel : rt_ct 475 706 = some (0, 429, 3))
theorem wi_475_0 : ri (rt_P sc fm) 475 0 (.aload_n 0) (1) := ri_of (by decide +kernel) rfl
theorem wi_475_1 : ri (rt_P sc fm) 475 1 (.iload_n 2) (2) := ri_of (by decide +kernel) rfl
theorem wi_475_10 : ri (rt_P sc fm) 475 10 (.ifCond .lt 19) (13) := ri_of (by decide +kernel) rfl
theorem wi_475_13 : ri (rt_P sc fm) 475 13 (.aload_n 0) (14) := ri_of (by decide +kernel) rfl
theorem wi_475_14 : ri (rt_P sc fm) 475 14 (.iload_n 1) (15) := ri_of (by decide +kernel) rfl
theorem wi_475_15 : ri (rt_P sc fm) 475 15 (.iload_n 2) (16) := ri_of (by decide +kernel) rfl
theorem wi_475_16 : ri (rt_P sc fm) 475 16 (.iload 5) (18) := ri_of (by decide +kernel) rfl
theorem wi_475_18 : ri (rt_P sc fm) 475 18 (.invokevirtual 706) (21) := ri_of (by decide +kernel) rfl
theorem wi_475_2 : ri (rt_P sc fm) 475 2 (.lload_n 3) (3) := ri_of (by decide +kernel) rfl
theorem wi_475_21 : ri (rt_P sc fm) 475 21 (.iconst 2) (22) := ri_of (by decide +kernel) rfl
theorem wi_475_22 : ri (rt_P sc fm) 475 22 (.if_icmp .ne 7) (25) := ri_of (by decide +kernel) rfl
theorem wi_475_25 : ri (rt_P sc fm) 475 25 (.iconst 1) (26) := ri_of (by decide +kernel) rfl
theorem wi_475_26 : ri (rt_P sc fm) 475 26 (.goto 4) (29) := ri_of (by decide +kernel) rfl
theorem wi_475_29 : ri (rt_P sc fm) 475 29 (.iconst 0) (30) := ri_of (by decide +kernel) rfl
theorem wi_475_3 : ri (rt_P sc fm) 475 3 (.invokevirtual 568) (6) := ri_of (by decide +kernel) rfl
theorem wi_475_30 : ri (rt_P sc fm) 475 30 (.ireturn) (31) := ri_of (by decide +kernel) rfl
theorem wi_475_6 : ri (rt_P sc fm) 475 6 (.istore 5) (8) := ri_of (by decide +kernel) rfl
theorem wi_475_8 : ri (rt_P sc fm) 475 8 (.iload 5) (10) := ri_of (by decide +kernel) rfl
set_option maxRecDepth 100000 in
theorem wr_475 : rx_rt (rt_P sc fm) 475 = (some FieldType.boolean) := (by decide +kernel : rt_rt 475 = (some FieldType.boolean))
/-- MarkHouseModel.hasText(IIJ)Z -/
def d_475 (n : Nat) (a1 : Int32) (a2 : Int32) (a3 : Int64) (c : cS) : Option (Int32 × cS) :=
  Option.bind (d_378 n a2 a3 c) (fun v1 =>
  jn (fun p3 : Int32 × cS =>
    if nb p3.1 then
    some (p3.1, p3.2)
    else none)
  (fun j30 =>
  jn (fun p5 : cS =>
    j30 (0, p5))
  (fun j29 =>
  if v1 < 0 then
    j29 c
  else
    Option.bind (d_429 n a1 a2 v1 c) (fun r6 =>
    if r6.1 = 2 then
      j30 (1, r6.2)
    else
      j29 r6.2))))
set_option maxRecDepth 100000 in
set_option maxHeartbeats 4000000 in
theorem sp_475 {F Lo n : Nat} {a1 : Int32} {a2 : Int32} {a3 : Int64} {c y : cS} {w : cW} {K : Int32 × cS → Prop} {Q : ((Option Value) ⊕ String) → List va_E → Prop} (hw : rOK fm w) (hF : 1 ≤ F) (hLo : 26 ≤ Lo)  (h : wp (d_475 n a1 a2 a3 c) K) (hQ : ∀ r, K r → Q (.inl (some (.int r.1))) (hq false r.2 y w)) : rs (rt_P sc fm) 475 F Lo 0 [(0, .ref 174), (1, .int a1), (2, .int a2), (3, .long a3)] [] (hq false c y w) Q := by
  unfold d_475 at h
  obtain ⟨lv, elv⟩ : ∃ lv : rx_L, lv = [(0, .ref 174), (1, .int a1), (2, .int a2), (3, .long a3)] := ⟨_, rfl⟩
  rw [← elv]
  have l0 : rx_ld lv 0 = some (.ref 174) := by rw [elv]; rfl
  have l1 : rx_ld lv 1 = some (.int a1) := by rw [elv]; rfl
  have l2 : rx_ld lv 2 = some (.int a2) := by rw [elv]; rfl
  have l3 : rx_ld lv 3 = some (.long a3) := by rw [elv]; rfl
  refine rs_aldn wi_475_0 l0 ?_
  refine rs_ildn wi_475_1 l2 ?_
  refine rs_lldn wi_475_2 l3 ?_
  refine rs_V wi_475_3 wc_475_568 rfl (dq_isa tf_174_0 wa_15_378) (Nat.le_trans (by decide) hF) (ml_le wm_378 (Nat.le_trans (by decide) hLo)) rfl (sp_378 hw (Nat.le_trans (by decide : 0 ≤ 1 - 1) (Nat.sub_le_sub_right hF 1)) (ml_sub wm_378 (Nat.le_trans (by decide : 0 ≤ 26 - 24) (Nat.sub_le_sub_right hLo 24))) (wp_bind h) (fun v1 h => rs_back1 ?_))
  refine dl_ist wi_475_6 rfl (fun lv l5 t2 => ?_)
  have l0 := t2 _ _ (by decide) (Or.inl rfl) l0
  have l1 := t2 _ _ (by decide) (Or.inl rfl) l1
  have l2 := t2 _ _ (by decide) (Or.inl rfl) l2
  refine rs_ild wi_475_8 l5 ?_
  refine wp_jn (B := fun p3 : Int32 × cS => ∀ lv, rs (rt_P sc fm) 475 F Lo 30 lv [.int p3.1] (hq false p3.2 y w) Q) h (fun p3 h lv => ?_) (fun j30 hj30 h => ?_)
  ·
    obtain ⟨g4, h⟩ := wp_gd h
    exact rs_iret wi_475_30 wr_475 (nb_n g4) (hQ (p3.1, p3.2) h)
  refine wp_jn (B := fun p5 : cS => ∀ lv, rs (rt_P sc fm) 475 F Lo 29 lv [] (hq false p5 y w) Q) h (fun p5 h lv => ?_) (fun j29 hj29 h => ?_)
  ·
    refine rs_pure wi_475_29 rfl ?_
    refine rs_topi (v := 0) (by decide) ?_
    exact hj30 _ h _
  refine rs_iflt (tg := 29) wi_475_10 ⟨by decide, by decide⟩ (fun q => ?_) (fun q => ?_)
  ·
    have h := wp_pos h q
    exact hj29 _ h _
  ·
    have h := wp_neg h q
    refine rs_aldn wi_475_13 l0 ?_
    refine rs_ildn wi_475_14 l1 ?_
    refine rs_ildn wi_475_15 l2 ?_
    refine rs_ild wi_475_16 l5 ?_
    refine rs_V wi_475_18 wc_475_706 rfl (dq_isa tf_174_0 wa_15_429) (Nat.le_trans (by decide) hF) (ml_le wm_429 (Nat.le_trans (by decide) hLo)) rfl (sp_429 hw (Nat.le_trans (by decide : 0 ≤ 1 - 1) (Nat.sub_le_sub_right hF 1)) (ml_sub wm_429 (Nat.le_trans (by decide : 0 ≤ 26 - 26) (Nat.sub_le_sub_right hLo 26))) (wp_bind h) (fun r6 h => rs_back1 ?_))
    refine rs_pure wi_475_21 rfl ?_
    refine rs_topi (v := 2) (by decide) ?_
    refine rs_icne (tg := 29) wi_475_22 ⟨by decide, by decide⟩ (fun q => ?_) (fun q => ?_)
    ·
      have h := wp_neg h q
      exact hj29 _ h _
    ·
      have h := wp_pos h q
      refine rs_pure wi_475_25 rfl ?_
      refine rs_topi (v := 1) (by decide) ?_
      refine rs_goto (tg := 30) wi_475_26 ⟨by decide, by decide⟩ ?_
      exact hj30 _ h _
set_option maxRecDepth 100000 in
theorem wf_476_155 : rx_ft (rt_P sc fm) 476 155 = some (15, 39) := (by decide +kernel : rt_ft 476 155 = some (15, 39))
theorem wi_476_0 : ri (rt_P sc fm) 476 0 (.iload_n 1) (1) := ri_of (by decide +kernel) rfl
theorem wi_476_1 : ri (rt_P sc fm) 476 1 (.istore_n 3) (2) := ri_of (by decide +kernel) rfl
theorem wi_476_11 : ri (rt_P sc fm) 476 11 (.iconst 1) (12) := ri_of (by decide +kernel) rfl
theorem wi_476_12 : ri (rt_P sc fm) 476 12 (.ireturn) (13) := ri_of (by decide +kernel) rfl
theorem wi_476_13 : ri (rt_P sc fm) 476 13 (.aload_n 0) (14) := ri_of (by decide +kernel) rfl
theorem wi_476_14 : ri (rt_P sc fm) 476 14 (.getfield 155) (17) := ri_of (by decide +kernel) rfl
theorem wi_476_17 : ri (rt_P sc fm) 476 17 (.iload_n 3) (18) := ri_of (by decide +kernel) rfl
theorem wi_476_18 : ri (rt_P sc fm) 476 18 (.iaload) (19) := ri_of (by decide +kernel) rfl
theorem wi_476_19 : ri (rt_P sc fm) 476 19 (.istore_n 3) (20) := ri_of (by decide +kernel) rfl
theorem wi_476_2 : ri (rt_P sc fm) 476 2 (.iload_n 3) (3) := ri_of (by decide +kernel) rfl
theorem wi_476_20 : ri (rt_P sc fm) 476 20 (.goto (-18)) (23) := ri_of (by decide +kernel) rfl
theorem wi_476_23 : ri (rt_P sc fm) 476 23 (.iconst 0) (24) := ri_of (by decide +kernel) rfl
theorem wi_476_24 : ri (rt_P sc fm) 476 24 (.ireturn) (25) := ri_of (by decide +kernel) rfl
theorem wi_476_3 : ri (rt_P sc fm) 476 3 (.ifCond .lt 20) (6) := ri_of (by decide +kernel) rfl
theorem wi_476_6 : ri (rt_P sc fm) 476 6 (.iload_n 3) (7) := ri_of (by decide +kernel) rfl
theorem wi_476_7 : ri (rt_P sc fm) 476 7 (.iload_n 2) (8) := ri_of (by decide +kernel) rfl
theorem wi_476_8 : ri (rt_P sc fm) 476 8 (.if_icmp .ne 5) (11) := ri_of (by decide +kernel) rfl
set_option maxRecDepth 100000 in
theorem wr_476 : rx_rt (rt_P sc fm) 476 = (some FieldType.boolean) := (by decide +kernel : rt_rt 476 = (some FieldType.boolean))
/-- MarkHouseModel.isUnder(II)Z -/
def d_476 (n : Nat) (a1 : Int32) (a2 : Int32) (c : cS) : Option (Int32) :=
  Option.bind (whl (R := (Unit) ⊕ (Unit)) (fun s2 : Int32 =>
    if s2 < 0 then
      some (.inr (.inl ()))
    else
      if s2 = a2 then
        some (.inr (.inr ()))
      else
        if ib s2 12 then
        lt ((c.1 201 (ix s2)) : Int32) (fun v5 =>
        some (.inl v5))
        else none) n a1)
  (Sum.elim (fun x7 : Unit =>
    some 0)
  (fun x8 : Unit =>
    some 1))
set_option maxRecDepth 100000 in
set_option maxHeartbeats 4000000 in
theorem sp_476 {F Lo n : Nat} {a1 : Int32} {a2 : Int32} {c y : cS} {w : cW} {K : Int32 → Prop} {Q : ((Option Value) ⊕ String) → List va_E → Prop} (hw : rOK fm w) (hF : 0 ≤ F) (hLo : 0 ≤ Lo)  (h : wp (d_476 n a1 a2 c) K) (hQ : ∀ r, K r → Q (.inl (some (.int r))) (hq false c y w)) : rs (rt_P sc fm) 476 F Lo 0 [(0, .ref 174), (1, .int a1), (2, .int a2)] [] (hq false c y w) Q := by
  unfold d_476 at h
  obtain ⟨lv, elv⟩ : ∃ lv : rx_L, lv = [(0, .ref 174), (1, .int a1), (2, .int a2)] := ⟨_, rfl⟩
  rw [← elv]
  have l0 : rx_ld lv 0 = some (.ref 174) := by rw [elv]; rfl
  have l1 : rx_ld lv 1 = some (.int a1) := by rw [elv]; rfl
  have l2 : rx_ld lv 2 = some (.int a2) := by rw [elv]; rfl
  refine rs_ildn wi_476_0 l1 ?_
  refine dl_istn wi_476_1 rfl (fun lv l3 t1 => ?_)
  have l0 := t1 _ _ (by decide) (Or.inl rfl) l0
  have l2 := t1 _ _ (by decide) (Or.inl rfl) l2
  refine whl_ex (A := fun s2 : Int32 => ∀ lv, rx_ld lv 0 = some (.ref 174) → rx_ld lv 2 = some (.int a2) → rx_ld lv 3 = some (.int s2) → rs (rt_P sc fm) 476 F Lo 2 lv [] (hq false c y w) Q) (B := (Sum.elim (fun x7 : Unit => ∀ lv, rs (rt_P sc fm) 476 F Lo 23 lv [] (hq false c y w) Q) (fun x8 : Unit => ∀ lv, rs (rt_P sc fm) 476 F Lo 11 lv [] (hq false c y w) Q))) ?_ ?_ _ _ (wp_bind h) _ l0 l2 l3
  · intro s2 h lv l0 l2 l3
    refine rs_ildn wi_476_2 l3 ?_
    refine rs_iflt (tg := 23) wi_476_3 ⟨by decide, by decide⟩ (fun q => ?_) (fun q => ?_)
    ·
      have h := wp_pos h q
      exact h _
    ·
      have h := wp_neg h q
      refine rs_ildn wi_476_6 l3 ?_
      refine rs_ildn wi_476_7 l2 ?_
      refine rs_icne (tg := 13) wi_476_8 ⟨by decide, by decide⟩ (fun q => ?_) (fun q => ?_)
      ·
        have h := wp_neg h q
        refine rs_aldn wi_476_13 l0 ?_
        refine dq_gr wi_476_14 wf_476_155 tf_174_39 ?_
        refine rs_ildn wi_476_17 l3 ?_
        obtain ⟨g3, h⟩ := wp_gd h
        refine dq_iald wi_476_18 t_201 g3 ?_
        obtain ⟨v5, e6, h⟩ := wp_lt h
        refine rs_topi e6 ?_
        refine dl_istn wi_476_19 rfl (fun lv l3 t4 => ?_)
        have l0 := t4 _ _ (by decide) (Or.inl rfl) l0
        have l2 := t4 _ _ (by decide) (Or.inl rfl) l2
        refine rs_goto (tg := 2) wi_476_20 ⟨by decide, by decide⟩ ?_
        exact h _ l0 l2 l3
      ·
        have h := wp_pos h q
        exact h _
  ·
    refine sum_all ?_ ?_
    ·
      intro x7 h lv
      have h := wp_inl h
      refine rs_pure wi_476_23 rfl ?_
      refine rs_topi (v := 0) (by decide) ?_
      exact rs_iret wi_476_24 wr_476 (nb_n (by decide)) (hQ 0 h)
    ·
      intro x8 h lv
      have h := wp_inr h
      refine rs_pure wi_476_11 rfl ?_
      refine rs_topi (v := 1) (by decide) ?_
      exact rs_iret wi_476_12 wr_476 (nb_n (by decide)) (hQ 1 h)
theorem tf_174_131 : fo false 174 15 131 (.int 0) := ⟨_, rfl, rfl, by decide, by decide⟩
theorem tf_174_132 : fo false 174 15 132 (.int 0) := ⟨_, rfl, rfl, by decide, by decide⟩
theorem tf_174_133 : fo false 174 15 133 (.int 0) := ⟨_, rfl, rfl, by decide, by decide⟩
set_option maxRecDepth 100000 in
theorem wf_477_969 : rx_ft (rt_P sc fm) 477 969 = some (15, 131) := (by decide +kernel : rt_ft 477 969 = some (15, 131))
theorem wi_477_0 : ri (rt_P sc fm) 477 0 (.aload_n 0) (1) := ri_of (by decide +kernel) rfl
theorem wi_477_1 : ri (rt_P sc fm) 477 1 (.getfield 969) (4) := ri_of (by decide +kernel) rfl
theorem wi_477_10 : ri (rt_P sc fm) 477 10 (.putfield 969) (13) := ri_of (by decide +kernel) rfl
theorem wi_477_13 : ri (rt_P sc fm) 477 13 (.aload_n 0) (14) := ri_of (by decide +kernel) rfl
theorem wi_477_14 : ri (rt_P sc fm) 477 14 (.iload_n 2) (15) := ri_of (by decide +kernel) rfl
theorem wi_477_15 : ri (rt_P sc fm) 477 15 (.putfield 972) (18) := ri_of (by decide +kernel) rfl
theorem wi_477_18 : ri (rt_P sc fm) 477 18 (.aload_n 0) (19) := ri_of (by decide +kernel) rfl
theorem wi_477_19 : ri (rt_P sc fm) 477 19 (.iload_n 3) (20) := ri_of (by decide +kernel) rfl
theorem wi_477_20 : ri (rt_P sc fm) 477 20 (.putfield 975) (23) := ri_of (by decide +kernel) rfl
theorem wi_477_23 : ri (rt_P sc fm) 477 23 (.return_) (24) := ri_of (by decide +kernel) rfl
theorem wi_477_4 : ri (rt_P sc fm) 477 4 (.ifCond .le 4) (7) := ri_of (by decide +kernel) rfl
theorem wi_477_7 : ri (rt_P sc fm) 477 7 (.return_) (8) := ri_of (by decide +kernel) rfl
theorem wi_477_8 : ri (rt_P sc fm) 477 8 (.aload_n 0) (9) := ri_of (by decide +kernel) rfl
theorem wi_477_9 : ri (rt_P sc fm) 477 9 (.iload_n 1) (10) := ri_of (by decide +kernel) rfl
set_option maxRecDepth 100000 in
theorem wp_477_969 : rx_pt (rt_P sc fm) 477 969 = some (15, 131, .int) := (by decide +kernel : rt_pt 477 969 = some (15, 131, .int))
set_option maxRecDepth 100000 in
theorem wp_477_972 : rx_pt (rt_P sc fm) 477 972 = some (15, 132, .int) := (by decide +kernel : rt_pt 477 972 = some (15, 132, .int))
set_option maxRecDepth 100000 in
theorem wp_477_975 : rx_pt (rt_P sc fm) 477 975 = some (15, 133, .int) := (by decide +kernel : rt_pt 477 975 = some (15, 133, .int))
set_option maxRecDepth 100000 in
theorem wr_477 : rx_rt (rt_P sc fm) 477 = none := (by decide +kernel : rt_rt 477 = none)
/-- MarkHouseModel.wires(III)V -/
def d_477 (n : Nat) (a1 : Int32) (a2 : Int32) (a3 : Int32) (c : cS) : Option (cS) :=
  if (c.1 174 131) ≤ 0 then
    lt (pI c 174 131 a1) (fun c1 =>
    lt (pI c1 174 132 a2) (fun c3 =>
    lt (pI c3 174 133 a3) (fun c5 =>
    some c5)))
  else
    some c
set_option maxRecDepth 100000 in
set_option maxHeartbeats 4000000 in
theorem sp_477 {F Lo n : Nat} {a1 : Int32} {a2 : Int32} {a3 : Int32} {c y : cS} {w : cW} {K : cS → Prop} {Q : ((Option Value) ⊕ String) → List va_E → Prop} (hw : rOK fm w) (hF : 0 ≤ F) (hLo : 0 ≤ Lo)  (h : wp (d_477 n a1 a2 a3 c) K) (hQ : ∀ r, K r → Q (.inl none) (hq false r y w)) : rs (rt_P sc fm) 477 F Lo 0 [(0, .ref 174), (1, .int a1), (2, .int a2), (3, .int a3)] [] (hq false c y w) Q := by
  unfold d_477 at h
  obtain ⟨lv, elv⟩ : ∃ lv : rx_L, lv = [(0, .ref 174), (1, .int a1), (2, .int a2), (3, .int a3)] := ⟨_, rfl⟩
  rw [← elv]
  have l0 : rx_ld lv 0 = some (.ref 174) := by rw [elv]; rfl
  have l1 : rx_ld lv 1 = some (.int a1) := by rw [elv]; rfl
  have l2 : rx_ld lv 2 = some (.int a2) := by rw [elv]; rfl
  have l3 : rx_ld lv 3 = some (.int a3) := by rw [elv]; rfl
  refine rs_aldn wi_477_0 l0 ?_
  refine dq_gi wi_477_1 wf_477_969 tf_174_131 ?_
  refine rs_ifle (tg := 8) wi_477_4 ⟨by decide, by decide⟩ (fun q => ?_) (fun q => ?_)
  ·
    have h := wp_pos h q
    refine rs_aldn wi_477_8 l0 ?_
    refine rs_ildn wi_477_9 l1 ?_
    obtain ⟨c1, e2, h⟩ := wp_lt h
    refine dq_pi wi_477_10 wp_477_969 tf_174_131 rfl rfl e2 ?_
    refine rs_aldn wi_477_13 l0 ?_
    refine rs_ildn wi_477_14 l2 ?_
    obtain ⟨c3, e4, h⟩ := wp_lt h
    refine dq_pi wi_477_15 wp_477_972 tf_174_132 rfl rfl e4 ?_
    refine rs_aldn wi_477_18 l0 ?_
    refine rs_ildn wi_477_19 l3 ?_
    obtain ⟨c5, e6, h⟩ := wp_lt h
    refine dq_pi wi_477_20 wp_477_975 tf_174_133 rfl rfl e6 ?_
    exact rs_vret wi_477_23 wr_477 (hQ c5 h)
  ·
    have h := wp_neg h q
    exact rs_vret wi_477_7 wr_477 (hQ c h)
theorem t_261 : ta false 261 0 12 := ⟨rfl, by decide, by decide⟩
theorem t_262 : ta false 262 3 12 := ⟨rfl, by decide, by decide⟩
theorem t_263 : ta false 263 3 12 := ⟨rfl, by decide, by decide⟩
theorem tf_174_134 : fo false 174 15 134 (.int 0) := ⟨_, rfl, rfl, by decide, by decide⟩
theorem tf_174_135 : fo false 174 15 135 (.ref 261) := ⟨_, rfl, rfl, by decide, by decide⟩
theorem tf_174_136 : fo false 174 15 136 (.ref 262) := ⟨_, rfl, rfl, by decide, by decide⟩
theorem tf_174_137 : fo false 174 15 137 (.ref 263) := ⟨_, rfl, rfl, by decide, by decide⟩
set_option maxRecDepth 100000 in
theorem wa_15_479 : rz_cn 15 (rx_yn (rt_P sc fm) 479).cls = true := (by decide +kernel : rz_cn 15 (rt_yn 479).cls = true)
set_option maxRecDepth 100000 in
theorem wc_478_992 : rx_ct (rt_P sc fm) 478 992 = some (0, 479, 2) := (by decide +kernel : rt_ct 478 992 = some (0, 479, 2))
set_option maxRecDepth 100000 in
theorem wf_478_341 : rx_ft (rt_P sc fm) 478 341 = some (15, 135) := (by decide +kernel : rt_ft 478 341 = some (15, 135))
set_option maxRecDepth 100000 in
theorem wf_478_344 : rx_ft (rt_P sc fm) 478 344 = some (15, 136) := (by decide +kernel : rt_ft 478 344 = some (15, 136))
set_option maxRecDepth 100000 in
theorem wf_478_347 : rx_ft (rt_P sc fm) 478 347 = some (15, 137) := (by decide +kernel : rt_ft 478 347 = some (15, 137))
set_option maxRecDepth 100000 in
theorem wf_478_969 : rx_ft (rt_P sc fm) 478 969 = some (15, 131) := (by decide +kernel : rt_ft 478 969 = some (15, 131))
set_option maxRecDepth 100000 in
theorem wf_478_978 : rx_ft (rt_P sc fm) 478 978 = some (15, 134) := (by decide +kernel : rt_ft 478 978 = some (15, 134))
theorem wi_478_0 : ri (rt_P sc fm) 478 0 (.aload_n 0) (1) := ri_of (by decide +kernel) rfl
theorem wi_478_1 : ri (rt_P sc fm) 478 1 (.getfield 347) (4) := ri_of (by decide +kernel) rfl
theorem wi_478_10 : ri (rt_P sc fm) 478 10 (.invokevirtual 992) (13) := ri_of (by decide +kernel) rfl
theorem wi_478_13 : ri (rt_P sc fm) 478 13 (.aload_n 0) (14) := ri_of (by decide +kernel) rfl
theorem wi_478_14 : ri (rt_P sc fm) 478 14 (.getfield 969) (17) := ri_of (by decide +kernel) rfl
theorem wi_478_17 : ri (rt_P sc fm) 478 17 (.ifCond .le 4) (20) := ri_of (by decide +kernel) rfl
theorem wi_478_20 : ri (rt_P sc fm) 478 20 (.return_) (21) := ri_of (by decide +kernel) rfl
theorem wi_478_21 : ri (rt_P sc fm) 478 21 (.aload_n 0) (22) := ri_of (by decide +kernel) rfl
theorem wi_478_22 : ri (rt_P sc fm) 478 22 (.getfield 347) (25) := ri_of (by decide +kernel) rfl
theorem wi_478_25 : ri (rt_P sc fm) 478 25 (.iload_n 1) (26) := ri_of (by decide +kernel) rfl
theorem wi_478_26 : ri (rt_P sc fm) 478 26 (.iconst 0) (27) := ri_of (by decide +kernel) rfl
theorem wi_478_27 : ri (rt_P sc fm) 478 27 (.bastore) (28) := ri_of (by decide +kernel) rfl
theorem wi_478_28 : ri (rt_P sc fm) 478 28 (.aload_n 0) (29) := ri_of (by decide +kernel) rfl
theorem wi_478_29 : ri (rt_P sc fm) 478 29 (.getfield 344) (32) := ri_of (by decide +kernel) rfl
theorem wi_478_32 : ri (rt_P sc fm) 478 32 (.iload_n 1) (33) := ri_of (by decide +kernel) rfl
theorem wi_478_33 : ri (rt_P sc fm) 478 33 (.iconst 1) (34) := ri_of (by decide +kernel) rfl
theorem wi_478_34 : ri (rt_P sc fm) 478 34 (.bastore) (35) := ri_of (by decide +kernel) rfl
theorem wi_478_35 : ri (rt_P sc fm) 478 35 (.aload_n 0) (36) := ri_of (by decide +kernel) rfl
theorem wi_478_36 : ri (rt_P sc fm) 478 36 (.getfield 341) (39) := ri_of (by decide +kernel) rfl
theorem wi_478_39 : ri (rt_P sc fm) 478 39 (.aload_n 0) (40) := ri_of (by decide +kernel) rfl
theorem wi_478_4 : ri (rt_P sc fm) 478 4 (.iload_n 1) (5) := ri_of (by decide +kernel) rfl
theorem wi_478_40 : ri (rt_P sc fm) 478 40 (.getfield 978) (43) := ri_of (by decide +kernel) rfl
theorem wi_478_43 : ri (rt_P sc fm) 478 43 (.iload_n 1) (44) := ri_of (by decide +kernel) rfl
theorem wi_478_44 : ri (rt_P sc fm) 478 44 (.iastore) (45) := ri_of (by decide +kernel) rfl
theorem wi_478_45 : ri (rt_P sc fm) 478 45 (.aload_n 0) (46) := ri_of (by decide +kernel) rfl
theorem wi_478_46 : ri (rt_P sc fm) 478 46 (.dup) (47) := ri_of (by decide +kernel) rfl
theorem wi_478_47 : ri (rt_P sc fm) 478 47 (.getfield 978) (50) := ri_of (by decide +kernel) rfl
theorem wi_478_5 : ri (rt_P sc fm) 478 5 (.iconst 1) (6) := ri_of (by decide +kernel) rfl
theorem wi_478_50 : ri (rt_P sc fm) 478 50 (.iconst 1) (51) := ri_of (by decide +kernel) rfl
theorem wi_478_51 : ri (rt_P sc fm) 478 51 (.iadd) (52) := ri_of (by decide +kernel) rfl
theorem wi_478_52 : ri (rt_P sc fm) 478 52 (.putfield 978) (55) := ri_of (by decide +kernel) rfl
theorem wi_478_55 : ri (rt_P sc fm) 478 55 (.return_) (56) := ri_of (by decide +kernel) rfl
theorem wi_478_6 : ri (rt_P sc fm) 478 6 (.bastore) (7) := ri_of (by decide +kernel) rfl
theorem wi_478_7 : ri (rt_P sc fm) 478 7 (.aload_n 0) (8) := ri_of (by decide +kernel) rfl
theorem wi_478_8 : ri (rt_P sc fm) 478 8 (.iload_n 1) (9) := ri_of (by decide +kernel) rfl
theorem wi_478_9 : ri (rt_P sc fm) 478 9 (.iload_n 1) (10) := ri_of (by decide +kernel) rfl
set_option maxRecDepth 100000 in
theorem wm_479 : rx_ml (rt_P sc fm) 479 = 6 := (by decide +kernel : rt_ml 479 = 6)
set_option maxRecDepth 100000 in
theorem wp_478_978 : rx_pt (rt_P sc fm) 478 978 = some (15, 134, .int) := (by decide +kernel : rt_pt 478 978 = some (15, 134, .int))
set_option maxRecDepth 100000 in
theorem wr_478 : rx_rt (rt_P sc fm) 478 = none := (by decide +kernel : rt_rt 478 = none)
/-- MarkHouseModel.make(I)V -/
def d_478 (rec : Int32 → Int32 → cS → Option (cS)) (n : Nat) (a1 : Int32) (c : cS) : Option (cS) :=
  if ib a1 12 then
  lt (pI c 263 (ix a1) (vp_nar .boolean 1)) (fun c2 =>
  Option.bind (rec a1 a1 c2) (fun r4 =>
  if (r4.1 174 131) ≤ 0 then
    if ib a1 12 then
    lt (pI r4 263 (ix a1) (vp_nar .boolean 0)) (fun c6 =>
    if ib a1 12 then
    lt (pI c6 262 (ix a1) (vp_nar .boolean 1)) (fun c9 =>
    if ib (c9.1 174 134) 12 then
    lt (pI c9 261 (ix (c9.1 174 134)) a1) (fun c12 =>
    lt (pI c12 174 134 ((c12.1 174 134) + 1)) (fun c14 =>
    some c14))
    else none)
    else none)
    else none
  else
    some r4))
  else none
set_option maxRecDepth 100000 in
set_option maxHeartbeats 4000000 in
theorem sp_478 {rec : Int32 → Int32 → cS → Option (cS)} {Fr Lr F Lo n : Nat} {a1 : Int32} {c y : cS} {w : cW} {K : cS → Prop} {Q : ((Option Value) ⊕ String) → List va_E → Prop} (hw : rOK fm w) (hrec : ∀ {F Lo : Nat} {a1 : Int32} {a2 : Int32} {c : cS} {K : cS → Prop} {Q : ((Option Value) ⊕ String) → List va_E → Prop}, Fr ≤ F → Lr ≤ Lo → wp (rec a1 a2 c) K → (∀ r, K r → Q (.inl none) (hq false r y w)) → rs (rt_P sc fm) 479 F Lo 0 [(0, .ref 174), (1, .int a1), (2, .int a2)] [] (hq false c y w) Q) (hF : 0 ≤ F) (hLo : 0 ≤ Lo) (hFr : Fr + 1 ≤ F) (hLr : Lr + 25 ≤ Lo) (h : wp (d_478 rec n a1 c) K) (hQ : ∀ r, K r → Q (.inl none) (hq false r y w)) : rs (rt_P sc fm) 478 F Lo 0 [(0, .ref 174), (1, .int a1)] [] (hq false c y w) Q := by
  unfold d_478 at h
  obtain ⟨lv, elv⟩ : ∃ lv : rx_L, lv = [(0, .ref 174), (1, .int a1)] := ⟨_, rfl⟩
  rw [← elv]
  have l0 : rx_ld lv 0 = some (.ref 174) := by rw [elv]; rfl
  have l1 : rx_ld lv 1 = some (.int a1) := by rw [elv]; rfl
  refine rs_aldn wi_478_0 l0 ?_
  refine dq_gr wi_478_1 wf_478_347 tf_174_137 ?_
  refine rs_ildn wi_478_4 l1 ?_
  refine rs_pure wi_478_5 rfl ?_
  refine rs_topi (v := 1) (by decide) ?_
  obtain ⟨g1, h⟩ := wp_gd h
  obtain ⟨c2, e3, h⟩ := wp_lt h
  refine dq_zast wi_478_6 t_263 g1 e3 ?_
  refine rs_aldn wi_478_7 l0 ?_
  refine rs_ildn wi_478_8 l1 ?_
  refine rs_ildn wi_478_9 l1 ?_
  refine rs_V wi_478_10 wc_478_992 rfl (dq_isa tf_174_0 wa_15_479) (by omega) (ml_le wm_479 (by omega)) rfl (hrec (by omega) (ml_sub wm_479 (by omega)) (wp_bind h) (fun r4 h => rs_back0 ?_))
  refine rs_aldn wi_478_13 l0 ?_
  refine dq_gi wi_478_14 wf_478_969 tf_174_131 ?_
  refine rs_ifle (tg := 21) wi_478_17 ⟨by decide, by decide⟩ (fun q => ?_) (fun q => ?_)
  ·
    have h := wp_pos h q
    refine rs_aldn wi_478_21 l0 ?_
    refine dq_gr wi_478_22 wf_478_347 tf_174_137 ?_
    refine rs_ildn wi_478_25 l1 ?_
    refine rs_pure wi_478_26 rfl ?_
    refine rs_topi (v := 0) (by decide) ?_
    obtain ⟨g5, h⟩ := wp_gd h
    obtain ⟨c6, e7, h⟩ := wp_lt h
    refine dq_zast wi_478_27 t_263 g5 e7 ?_
    refine rs_aldn wi_478_28 l0 ?_
    refine dq_gr wi_478_29 wf_478_344 tf_174_136 ?_
    refine rs_ildn wi_478_32 l1 ?_
    refine rs_pure wi_478_33 rfl ?_
    refine rs_topi (v := 1) (by decide) ?_
    obtain ⟨g8, h⟩ := wp_gd h
    obtain ⟨c9, e10, h⟩ := wp_lt h
    refine dq_zast wi_478_34 t_262 g8 e10 ?_
    refine rs_aldn wi_478_35 l0 ?_
    refine dq_gr wi_478_36 wf_478_341 tf_174_135 ?_
    refine rs_aldn wi_478_39 l0 ?_
    refine dq_gi wi_478_40 wf_478_978 tf_174_134 ?_
    refine rs_ildn wi_478_43 l1 ?_
    obtain ⟨g11, h⟩ := wp_gd h
    obtain ⟨c12, e13, h⟩ := wp_lt h
    refine dq_iast wi_478_44 t_261 g11 e13 ?_
    refine rs_aldn wi_478_45 l0 ?_
    refine rs_pure wi_478_46 rfl ?_
    refine dq_gi wi_478_47 wf_478_978 tf_174_134 ?_
    refine rs_pure wi_478_50 rfl ?_
    refine rs_topi (v := 1) (by decide) ?_
    refine rs_pure wi_478_51 rfl ?_
    obtain ⟨c14, e15, h⟩ := wp_lt h
    refine dq_pi wi_478_52 wp_478_978 tf_174_134 rfl rfl e15 ?_
    exact rs_vret wi_478_55 wr_478 (hQ c14 h)
  ·
    have h := wp_neg h q
    exact rs_vret wi_478_20 wr_478 (hQ r4 h)
theorem t_264 : ta false 264 3 12 := ⟨rfl, by decide, by decide⟩
theorem t_265 : ta false 265 1 12 := ⟨rfl, by decide, by decide⟩
theorem tf_174_138 : fo false 174 15 138 (.ref 264) := ⟨_, rfl, rfl, by decide, by decide⟩
theorem tf_174_139 : fo false 174 15 139 (.ref 265) := ⟨_, rfl, rfl, by decide, by decide⟩
set_option maxRecDepth 100000 in
theorem wa_15_474 : rz_cn 15 (rx_yn (rt_P sc fm) 474).cls = true := (by decide +kernel : rz_cn 15 (rt_yn 474).cls = true)
set_option maxRecDepth 100000 in
theorem wa_15_475 : rz_cn 15 (rx_yn (rt_P sc fm) 475).cls = true := (by decide +kernel : rz_cn 15 (rt_yn 475).cls = true)
set_option maxRecDepth 100000 in
theorem wa_15_476 : rz_cn 15 (rx_yn (rt_P sc fm) 476).cls = true := (by decide +kernel : rz_cn 15 (rt_yn 476).cls = true)
set_option maxRecDepth 100000 in
theorem wa_15_477 : rz_cn 15 (rx_yn (rt_P sc fm) 477).cls = true := (by decide +kernel : rz_cn 15 (rt_yn 477).cls = true)
set_option maxRecDepth 100000 in
theorem wa_15_478 : rz_cn 15 (rx_yn (rt_P sc fm) 478).cls = true := (by decide +kernel : rz_cn 15 (rt_yn 478).cls = true)
set_option maxRecDepth 100000 in
theorem wc_480_1002 : rx_ct (rt_P sc fm) 480 1002 = some (0, 475, 3) := (by decide +kernel : rt_ct 480 1002 = some (0, 475, 3))
set_option maxRecDepth 100000 in
theorem wc_480_1007 : rx_ct (rt_P sc fm) 480 1007 = some (0, 476, 2) := (by decide +kernel : rt_ct 480 1007 = some (0, 476, 2))
set_option maxRecDepth 100000 in
theorem wc_480_1010 : rx_ct (rt_P sc fm) 480 1010 = some (0, 477, 3) := (by decide +kernel : rt_ct 480 1010 = some (0, 477, 3))
set_option maxRecDepth 100000 in
theorem wc_480_468 : rx_ct (rt_P sc fm) 480 468 = some (0, 375, 1) := (by decide +kernel : rt_ct 480 468 = some (0, 375, 1))
set_option maxRecDepth 100000 in
theorem wc_480_568 : rx_ct (rt_P sc fm) 480 568 = some (0, 378, 2) := (by decide +kernel : rt_ct 480 568 = some (0, 378, 2))
set_option maxRecDepth 100000 in
theorem wc_480_706 : rx_ct (rt_P sc fm) 480 706 = some (0, 429, 3) := (by decide +kernel : rt_ct 480 706 = some (0, 429, 3))
set_option maxRecDepth 100000 in
theorem wc_480_985 : rx_ct (rt_P sc fm) 480 985 = some (0, 474, 3) := (by decide +kernel : rt_ct 480 985 = some (0, 474, 3))
set_option maxRecDepth 100000 in
theorem wc_480_989 : rx_ct (rt_P sc fm) 480 989 = some (0, 478, 1) := (by decide +kernel : rt_ct 480 989 = some (0, 478, 1))
set_option maxRecDepth 100000 in
theorem wf_480_344 : rx_ft (rt_P sc fm) 480 344 = some (15, 136) := (by decide +kernel : rt_ft 480 344 = some (15, 136))
set_option maxRecDepth 100000 in
theorem wf_480_347 : rx_ft (rt_P sc fm) 480 347 = some (15, 137) := (by decide +kernel : rt_ft 480 347 = some (15, 137))
set_option maxRecDepth 100000 in
theorem wf_480_350 : rx_ft (rt_P sc fm) 480 350 = some (15, 138) := (by decide +kernel : rt_ft 480 350 = some (15, 138))
set_option maxRecDepth 100000 in
theorem wf_480_353 : rx_ft (rt_P sc fm) 480 353 = some (15, 139) := (by decide +kernel : rt_ft 480 353 = some (15, 139))
set_option maxRecDepth 100000 in
theorem wf_480_456 : rx_ft (rt_P sc fm) 480 456 = some (15, 37) := (by decide +kernel : rt_ft 480 456 = some (15, 37))
set_option maxRecDepth 100000 in
theorem wf_480_697 : rx_ft (rt_P sc fm) 480 697 = some (15, 79) := (by decide +kernel : rt_ft 480 697 = some (15, 79))
set_option maxRecDepth 100000 in
theorem wf_480_969 : rx_ft (rt_P sc fm) 480 969 = some (15, 131) := (by decide +kernel : rt_ft 480 969 = some (15, 131))
theorem wi_480_0 : ri (rt_P sc fm) 480 0 (.aload_n 0) (1) := ri_of (by decide +kernel) rfl
theorem wi_480_1 : ri (rt_P sc fm) 480 1 (.iload_n 3) (2) := ri_of (by decide +kernel) rfl
theorem wi_480_10 : ri (rt_P sc fm) 480 10 (.ifCond .eq 20) (13) := ri_of (by decide +kernel) rfl
theorem wi_480_101 : ri (rt_P sc fm) 480 101 (.aload_n 0) (102) := ri_of (by decide +kernel) rfl
theorem wi_480_102 : ri (rt_P sc fm) 480 102 (.getfield 456) (105) := ri_of (by decide +kernel) rfl
theorem wi_480_105 : ri (rt_P sc fm) 480 105 (.if_icmp .ge 65) (108) := ri_of (by decide +kernel) rfl
theorem wi_480_108 : ri (rt_P sc fm) 480 108 (.iload 5) (110) := ri_of (by decide +kernel) rfl
theorem wi_480_110 : ri (rt_P sc fm) 480 110 (.ifCond .lt 60) (113) := ri_of (by decide +kernel) rfl
theorem wi_480_113 : ri (rt_P sc fm) 480 113 (.aload_n 0) (114) := ri_of (by decide +kernel) rfl
theorem wi_480_114 : ri (rt_P sc fm) 480 114 (.getfield 350) (117) := ri_of (by decide +kernel) rfl
theorem wi_480_117 : ri (rt_P sc fm) 480 117 (.iload 12) (119) := ri_of (by decide +kernel) rfl
theorem wi_480_119 : ri (rt_P sc fm) 480 119 (.baload) (120) := ri_of (by decide +kernel) rfl
theorem wi_480_120 : ri (rt_P sc fm) 480 120 (.ifCond .eq 44) (123) := ri_of (by decide +kernel) rfl
theorem wi_480_123 : ri (rt_P sc fm) 480 123 (.aload_n 0) (124) := ri_of (by decide +kernel) rfl
theorem wi_480_124 : ri (rt_P sc fm) 480 124 (.iload 12) (126) := ri_of (by decide +kernel) rfl
theorem wi_480_126 : ri (rt_P sc fm) 480 126 (.iload 5) (128) := ri_of (by decide +kernel) rfl
theorem wi_480_128 : ri (rt_P sc fm) 480 128 (.invokevirtual 1007) (131) := ri_of (by decide +kernel) rfl
theorem wi_480_13 : ri (rt_P sc fm) 480 13 (.aload_n 0) (14) := ri_of (by decide +kernel) rfl
theorem wi_480_131 : ri (rt_P sc fm) 480 131 (.ifCond .eq 33) (134) := ri_of (by decide +kernel) rfl
theorem wi_480_134 : ri (rt_P sc fm) 480 134 (.lload 6) (136) := ri_of (by decide +kernel) rfl
theorem wi_480_136 : ri (rt_P sc fm) 480 136 (.lconst 0) (137) := ri_of (by decide +kernel) rfl
theorem wi_480_137 : ri (rt_P sc fm) 480 137 (.lcmp) (138) := ri_of (by decide +kernel) rfl
theorem wi_480_138 : ri (rt_P sc fm) 480 138 (.ifCond .eq 19) (141) := ri_of (by decide +kernel) rfl
theorem wi_480_14 : ri (rt_P sc fm) 480 14 (.aload_n 0) (15) := ri_of (by decide +kernel) rfl
theorem wi_480_141 : ri (rt_P sc fm) 480 141 (.aload_n 0) (142) := ri_of (by decide +kernel) rfl
theorem wi_480_142 : ri (rt_P sc fm) 480 142 (.getfield 353) (145) := ri_of (by decide +kernel) rfl
theorem wi_480_145 : ri (rt_P sc fm) 480 145 (.iload 12) (147) := ri_of (by decide +kernel) rfl
theorem wi_480_147 : ri (rt_P sc fm) 480 147 (.laload) (148) := ri_of (by decide +kernel) rfl
theorem wi_480_148 : ri (rt_P sc fm) 480 148 (.lload 6) (150) := ri_of (by decide +kernel) rfl
theorem wi_480_15 : ri (rt_P sc fm) 480 15 (.iload_n 3) (16) := ri_of (by decide +kernel) rfl
theorem wi_480_150 : ri (rt_P sc fm) 480 150 (.lcmp) (151) := ri_of (by decide +kernel) rfl
theorem wi_480_151 : ri (rt_P sc fm) 480 151 (.ifCond .eq 6) (154) := ri_of (by decide +kernel) rfl
theorem wi_480_154 : ri (rt_P sc fm) 480 154 (.goto 10) (157) := ri_of (by decide +kernel) rfl
theorem wi_480_157 : ri (rt_P sc fm) 480 157 (.iinc 10 1) (160) := ri_of (by decide +kernel) rfl
theorem wi_480_16 : ri (rt_P sc fm) 480 16 (.iload 4) (18) := ri_of (by decide +kernel) rfl
theorem wi_480_160 : ri (rt_P sc fm) 480 160 (.iload 12) (162) := ri_of (by decide +kernel) rfl
theorem wi_480_162 : ri (rt_P sc fm) 480 162 (.istore 11) (164) := ri_of (by decide +kernel) rfl
theorem wi_480_164 : ri (rt_P sc fm) 480 164 (.iinc 12 1) (167) := ri_of (by decide +kernel) rfl
theorem wi_480_167 : ri (rt_P sc fm) 480 167 (.goto (-68)) (170) := ri_of (by decide +kernel) rfl
theorem wi_480_170 : ri (rt_P sc fm) 480 170 (.iload 10) (172) := ri_of (by decide +kernel) rfl
theorem wi_480_172 : ri (rt_P sc fm) 480 172 (.ifCond .ne 10) (175) := ri_of (by decide +kernel) rfl
theorem wi_480_175 : ri (rt_P sc fm) 480 175 (.aload_n 0) (176) := ri_of (by decide +kernel) rfl
theorem wi_480_176 : ri (rt_P sc fm) 480 176 (.iconst 1) (177) := ri_of (by decide +kernel) rfl
theorem wi_480_177 : ri (rt_P sc fm) 480 177 (.iload_n 2) (178) := ri_of (by decide +kernel) rfl
theorem wi_480_178 : ri (rt_P sc fm) 480 178 (.iload_n 1) (179) := ri_of (by decide +kernel) rfl
theorem wi_480_179 : ri (rt_P sc fm) 480 179 (.invokevirtual 1010) (182) := ri_of (by decide +kernel) rfl
theorem wi_480_18 : ri (rt_P sc fm) 480 18 (.ldc2_w 1000) (21) := ri_of (by decide +kernel) rfl
theorem wi_480_182 : ri (rt_P sc fm) 480 182 (.iload 10) (184) := ri_of (by decide +kernel) rfl
theorem wi_480_184 : ri (rt_P sc fm) 480 184 (.iconst 1) (185) := ri_of (by decide +kernel) rfl
theorem wi_480_185 : ri (rt_P sc fm) 480 185 (.if_icmp .le 10) (188) := ri_of (by decide +kernel) rfl
theorem wi_480_188 : ri (rt_P sc fm) 480 188 (.aload_n 0) (189) := ri_of (by decide +kernel) rfl
theorem wi_480_189 : ri (rt_P sc fm) 480 189 (.iconst 2) (190) := ri_of (by decide +kernel) rfl
theorem wi_480_190 : ri (rt_P sc fm) 480 190 (.iload_n 2) (191) := ri_of (by decide +kernel) rfl
theorem wi_480_191 : ri (rt_P sc fm) 480 191 (.iload_n 1) (192) := ri_of (by decide +kernel) rfl
theorem wi_480_192 : ri (rt_P sc fm) 480 192 (.invokevirtual 1010) (195) := ri_of (by decide +kernel) rfl
theorem wi_480_195 : ri (rt_P sc fm) 480 195 (.aload_n 0) (196) := ri_of (by decide +kernel) rfl
theorem wi_480_196 : ri (rt_P sc fm) 480 196 (.getfield 969) (199) := ri_of (by decide +kernel) rfl
theorem wi_480_199 : ri (rt_P sc fm) 480 199 (.ifCond .gt 8) (202) := ri_of (by decide +kernel) rfl
theorem wi_480_2 : ri (rt_P sc fm) 480 2 (.iload 4) (4) := ri_of (by decide +kernel) rfl
theorem wi_480_202 : ri (rt_P sc fm) 480 202 (.iload 9) (204) := ri_of (by decide +kernel) rfl
theorem wi_480_204 : ri (rt_P sc fm) 480 204 (.ifCond .eq 4) (207) := ri_of (by decide +kernel) rfl
theorem wi_480_207 : ri (rt_P sc fm) 480 207 (.return_) (208) := ri_of (by decide +kernel) rfl
theorem wi_480_208 : ri (rt_P sc fm) 480 208 (.aload_n 0) (209) := ri_of (by decide +kernel) rfl
theorem wi_480_209 : ri (rt_P sc fm) 480 209 (.getfield 347) (212) := ri_of (by decide +kernel) rfl
theorem wi_480_21 : ri (rt_P sc fm) 480 21 (.invokevirtual 985) (24) := ri_of (by decide +kernel) rfl
theorem wi_480_212 : ri (rt_P sc fm) 480 212 (.iload 11) (214) := ri_of (by decide +kernel) rfl
theorem wi_480_214 : ri (rt_P sc fm) 480 214 (.baload) (215) := ri_of (by decide +kernel) rfl
theorem wi_480_215 : ri (rt_P sc fm) 480 215 (.ifCond .eq 13) (218) := ri_of (by decide +kernel) rfl
theorem wi_480_218 : ri (rt_P sc fm) 480 218 (.aload_n 0) (219) := ri_of (by decide +kernel) rfl
theorem wi_480_219 : ri (rt_P sc fm) 480 219 (.iconst 3) (220) := ri_of (by decide +kernel) rfl
theorem wi_480_220 : ri (rt_P sc fm) 480 220 (.iload_n 2) (221) := ri_of (by decide +kernel) rfl
theorem wi_480_221 : ri (rt_P sc fm) 480 221 (.iload_n 1) (222) := ri_of (by decide +kernel) rfl
theorem wi_480_222 : ri (rt_P sc fm) 480 222 (.invokevirtual 1010) (225) := ri_of (by decide +kernel) rfl
theorem wi_480_225 : ri (rt_P sc fm) 480 225 (.goto 19) (228) := ri_of (by decide +kernel) rfl
theorem wi_480_228 : ri (rt_P sc fm) 480 228 (.aload_n 0) (229) := ri_of (by decide +kernel) rfl
theorem wi_480_229 : ri (rt_P sc fm) 480 229 (.getfield 344) (232) := ri_of (by decide +kernel) rfl
theorem wi_480_232 : ri (rt_P sc fm) 480 232 (.iload 11) (234) := ri_of (by decide +kernel) rfl
theorem wi_480_234 : ri (rt_P sc fm) 480 234 (.baload) (235) := ri_of (by decide +kernel) rfl
theorem wi_480_235 : ri (rt_P sc fm) 480 235 (.ifCond .ne 9) (238) := ri_of (by decide +kernel) rfl
theorem wi_480_238 : ri (rt_P sc fm) 480 238 (.aload_n 0) (239) := ri_of (by decide +kernel) rfl
theorem wi_480_239 : ri (rt_P sc fm) 480 239 (.iload 11) (241) := ri_of (by decide +kernel) rfl
theorem wi_480_24 : ri (rt_P sc fm) 480 24 (.invokevirtual 468) (27) := ri_of (by decide +kernel) rfl
theorem wi_480_241 : ri (rt_P sc fm) 480 241 (.invokevirtual 989) (244) := ri_of (by decide +kernel) rfl
theorem wi_480_244 : ri (rt_P sc fm) 480 244 (.return_) (245) := ri_of (by decide +kernel) rfl
theorem wi_480_27 : ri (rt_P sc fm) 480 27 (.goto 4) (30) := ri_of (by decide +kernel) rfl
theorem wi_480_30 : ri (rt_P sc fm) 480 30 (.iconst (-1)) (31) := ri_of (by decide +kernel) rfl
theorem wi_480_31 : ri (rt_P sc fm) 480 31 (.istore 5) (33) := ri_of (by decide +kernel) rfl
theorem wi_480_33 : ri (rt_P sc fm) 480 33 (.aload_n 0) (34) := ri_of (by decide +kernel) rfl
theorem wi_480_34 : ri (rt_P sc fm) 480 34 (.iload_n 3) (35) := ri_of (by decide +kernel) rfl
theorem wi_480_35 : ri (rt_P sc fm) 480 35 (.iload 4) (37) := ri_of (by decide +kernel) rfl
theorem wi_480_37 : ri (rt_P sc fm) 480 37 (.ldc2_w 983) (40) := ri_of (by decide +kernel) rfl
theorem wi_480_4 : ri (rt_P sc fm) 480 4 (.ldc2_w 1000) (7) := ri_of (by decide +kernel) rfl
theorem wi_480_40 : ri (rt_P sc fm) 480 40 (.invokevirtual 985) (43) := ri_of (by decide +kernel) rfl
theorem wi_480_43 : ri (rt_P sc fm) 480 43 (.lstore 6) (45) := ri_of (by decide +kernel) rfl
theorem wi_480_45 : ri (rt_P sc fm) 480 45 (.aload_n 0) (46) := ri_of (by decide +kernel) rfl
theorem wi_480_46 : ri (rt_P sc fm) 480 46 (.iload 4) (48) := ri_of (by decide +kernel) rfl
theorem wi_480_48 : ri (rt_P sc fm) 480 48 (.ldc2_w 1005) (51) := ri_of (by decide +kernel) rfl
theorem wi_480_51 : ri (rt_P sc fm) 480 51 (.invokevirtual 568) (54) := ri_of (by decide +kernel) rfl
theorem wi_480_54 : ri (rt_P sc fm) 480 54 (.istore 8) (56) := ri_of (by decide +kernel) rfl
theorem wi_480_56 : ri (rt_P sc fm) 480 56 (.iload 8) (58) := ri_of (by decide +kernel) rfl
theorem wi_480_58 : ri (rt_P sc fm) 480 58 (.ifCond .lt 29) (61) := ri_of (by decide +kernel) rfl
theorem wi_480_61 : ri (rt_P sc fm) 480 61 (.aload_n 0) (62) := ri_of (by decide +kernel) rfl
theorem wi_480_62 : ri (rt_P sc fm) 480 62 (.iload_n 3) (63) := ri_of (by decide +kernel) rfl
theorem wi_480_63 : ri (rt_P sc fm) 480 63 (.iload 4) (65) := ri_of (by decide +kernel) rfl
theorem wi_480_65 : ri (rt_P sc fm) 480 65 (.iload 8) (67) := ri_of (by decide +kernel) rfl
theorem wi_480_67 : ri (rt_P sc fm) 480 67 (.invokevirtual 706) (70) := ri_of (by decide +kernel) rfl
theorem wi_480_7 : ri (rt_P sc fm) 480 7 (.invokevirtual 1002) (10) := ri_of (by decide +kernel) rfl
theorem wi_480_70 : ri (rt_P sc fm) 480 70 (.iconst 1) (71) := ri_of (by decide +kernel) rfl
theorem wi_480_71 : ri (rt_P sc fm) 480 71 (.if_icmp .ne 16) (74) := ri_of (by decide +kernel) rfl
theorem wi_480_74 : ri (rt_P sc fm) 480 74 (.aload_n 0) (75) := ri_of (by decide +kernel) rfl
theorem wi_480_75 : ri (rt_P sc fm) 480 75 (.getfield 697) (78) := ri_of (by decide +kernel) rfl
theorem wi_480_78 : ri (rt_P sc fm) 480 78 (.lconst 0) (79) := ri_of (by decide +kernel) rfl
theorem wi_480_79 : ri (rt_P sc fm) 480 79 (.lcmp) (80) := ri_of (by decide +kernel) rfl
theorem wi_480_80 : ri (rt_P sc fm) 480 80 (.ifCond .eq 7) (83) := ri_of (by decide +kernel) rfl
theorem wi_480_83 : ri (rt_P sc fm) 480 83 (.iconst 1) (84) := ri_of (by decide +kernel) rfl
theorem wi_480_84 : ri (rt_P sc fm) 480 84 (.goto 4) (87) := ri_of (by decide +kernel) rfl
theorem wi_480_87 : ri (rt_P sc fm) 480 87 (.iconst 0) (88) := ri_of (by decide +kernel) rfl
theorem wi_480_88 : ri (rt_P sc fm) 480 88 (.istore 9) (90) := ri_of (by decide +kernel) rfl
theorem wi_480_90 : ri (rt_P sc fm) 480 90 (.iconst 0) (91) := ri_of (by decide +kernel) rfl
theorem wi_480_91 : ri (rt_P sc fm) 480 91 (.istore 10) (93) := ri_of (by decide +kernel) rfl
theorem wi_480_93 : ri (rt_P sc fm) 480 93 (.iconst (-1)) (94) := ri_of (by decide +kernel) rfl
theorem wi_480_94 : ri (rt_P sc fm) 480 94 (.istore 11) (96) := ri_of (by decide +kernel) rfl
theorem wi_480_96 : ri (rt_P sc fm) 480 96 (.iconst 0) (97) := ri_of (by decide +kernel) rfl
theorem wi_480_97 : ri (rt_P sc fm) 480 97 (.istore 12) (99) := ri_of (by decide +kernel) rfl
theorem wi_480_99 : ri (rt_P sc fm) 480 99 (.iload 12) (101) := ri_of (by decide +kernel) rfl
set_option maxRecDepth 100000 in
theorem wk_480_1000 : rx_kt (rt_P sc fm) 480 1000 = some (.long (28518)) := (by decide +kernel : rt_kt 480 1000 = some (.long (28518)))
set_option maxRecDepth 100000 in
theorem wk_480_1005 : rx_kt (rt_P sc fm) 480 1005 = some (.long (1818326117)) := (by decide +kernel : rt_kt 480 1005 = some (.long (1818326117)))
set_option maxRecDepth 100000 in
theorem wk_480_983 : rx_kt (rt_P sc fm) 480 983 = some (.long (465490306412)) := (by decide +kernel : rt_kt 480 983 = some (.long (465490306412)))
set_option maxRecDepth 100000 in
theorem wm_474 : rx_ml (rt_P sc fm) 474 = 6 := (by decide +kernel : rt_ml 474 = 6)
set_option maxRecDepth 100000 in
theorem wm_475 : rx_ml (rt_P sc fm) 475 = 6 := (by decide +kernel : rt_ml 475 = 6)
set_option maxRecDepth 100000 in
theorem wm_476 : rx_ml (rt_P sc fm) 476 = 4 := (by decide +kernel : rt_ml 476 = 4)
set_option maxRecDepth 100000 in
theorem wm_477 : rx_ml (rt_P sc fm) 477 = 4 := (by decide +kernel : rt_ml 477 = 4)
set_option maxRecDepth 100000 in
theorem wm_478 : rx_ml (rt_P sc fm) 478 = 2 := (by decide +kernel : rt_ml 478 = 2)
set_option maxRecDepth 100000 in
theorem wr_480 : rx_rt (rt_P sc fm) 480 = none := (by decide +kernel : rt_rt 480 = none)
/-- MarkHouseModel.wantsOne(IIII)V -/
def d_480 (rec : Int32 → Int32 → cS → Option (cS)) (n : Nat) (a1 : Int32) (a2 : Int32) (a3 : Int32) (a4 : Int32) (c : cS) : Option (cS) :=
  Option.bind (d_475 n a3 a4 28518 c) (fun r1 =>
  jn (fun p2 : Int32 × cS =>
    Option.bind (d_474 n a3 a4 465490306412 p2.2) (fun r4 =>
    Option.bind (d_378 n a4 1818326117 r4.2) (fun v6 =>
    jn (fun p8 : Int32 × cS =>
      Option.bind (whl (R := (Int32 × Int32)) (fun s13 : Int32 × Int32 × Int32 =>
        if (p8.2.1 174 37) ≤ s13.2.2 then
          some (.inr (s13.1, s13.2.1))
        else
          if p2.1 < 0 then
            some (.inr (s13.1, s13.2.1))
          else
            if ib s13.2.2 12 then
            jn (fun p15 : Int32 × Int32 =>
              lt (s13.2.2 + 1 : Int32) (fun v17 =>
              some (.inl (p15.1, p15.2, v17))))
            (fun j164 =>
            if (p8.2.1 264 (ix s13.2.2)) = 0 then
              j164 (s13.1, s13.2.1)
            else
              Option.bind (d_476 n s13.2.2 p2.1 p8.2) (fun v19 =>
              if v19 = 0 then
                j164 (s13.1, s13.2.1)
              else
                jn (fun p20 : Unit =>
                  lt (s13.1 + 1 : Int32) (fun v22 =>
                  j164 (v22, s13.2.2)))
                (fun j157 =>
                if (lg_cmp r4.1 0) = 0 then
                  j157 ()
                else
                  if ib s13.2.2 12 then
                  if (lg_cmp (p8.2.2 265 (ix s13.2.2)) r4.1) = 0 then
                    j157 ()
                  else
                    j164 (s13.1, s13.2.1)
                  else none)))
            else none) n (0, (-1), 0))
      (fun x26 : Int32 × Int32 =>
        jn (fun p27 : cS =>
          jn (fun p28 : cS =>
            jn (fun p29 : Unit =>
              some p28)
            (fun j207 =>
            if 0 < (p28.1 174 131) then
              j207 ()
            else
              if p8.1 = 0 then
                if ib x26.2 12 then
                jn (fun p31 : cS =>
                  some p31)
                (fun j244 =>
                if (p28.1 263 (ix x26.2)) = 0 then
                  if ib x26.2 12 then
                  if (p28.1 262 (ix x26.2)) = 0 then
                    Option.bind (d_478 rec n x26.2 p28) (fun r33 =>
                    j244 r33)
                  else
                    j244 p28
                  else none
                else
                  Option.bind (d_477 n 3 a2 a1 p28) (fun r34 =>
                  j244 r34))
                else none
              else
                j207 ()))
          (fun j195 =>
          if x26.1 ≤ 1 then
            j195 p27
          else
            Option.bind (d_477 n 2 a2 a1 p27) (fun r35 =>
            j195 r35)))
        (fun j182 =>
        if x26.1 = 0 then
          Option.bind (d_477 n 1 a2 a1 p8.2) (fun r36 =>
          j182 r36)
        else
          j182 p8.2)))
    (fun j88 =>
    jn (fun p37 : cS =>
      j88 (0, p37))
    (fun j87 =>
    if v6 < 0 then
      j87 r4.2
    else
      Option.bind (d_429 n a3 a4 v6 r4.2) (fun r38 =>
      if r38.1 = 1 then
        if (lg_cmp (r38.2.2 174 79) 0) = 0 then
          j87 r38.2
        else
          j88 (1, r38.2)
      else
        j87 r38.2))))))
  (fun j31 =>
  if r1.1 = 0 then
    j31 ((-1), r1.2)
  else
    Option.bind (d_474 n a3 a4 28518 r1.2) (fun r39 =>
    Option.bind (d_375 n r39.1 r39.2) (fun v40 =>
    j31 (v40, r39.2)))))
set_option maxRecDepth 100000 in
set_option maxHeartbeats 4000000 in
theorem sp_480 {rec : Int32 → Int32 → cS → Option (cS)} {Fr Lr F Lo n : Nat} {a1 : Int32} {a2 : Int32} {a3 : Int32} {a4 : Int32} {c y : cS} {w : cW} {K : cS → Prop} {Q : ((Option Value) ⊕ String) → List va_E → Prop} (hw : rOK fm w) (hrec : ∀ {F Lo : Nat} {a1 : Int32} {a2 : Int32} {c : cS} {K : cS → Prop} {Q : ((Option Value) ⊕ String) → List va_E → Prop}, Fr ≤ F → Lr ≤ Lo → wp (rec a1 a2 c) K → (∀ r, K r → Q (.inl none) (hq false r y w)) → rs (rt_P sc fm) 479 F Lo 0 [(0, .ref 174), (1, .int a1), (2, .int a2)] [] (hq false c y w) Q) (hF : 2 ≤ F) (hLo : 51 ≤ Lo) (hFr : Fr + 2 ≤ F) (hLr : Lr + 46 ≤ Lo) (h : wp (d_480 rec n a1 a2 a3 a4 c) K) (hQ : ∀ r, K r → Q (.inl none) (hq false r y w)) : rs (rt_P sc fm) 480 F Lo 0 [(0, .ref 174), (1, .int a1), (2, .int a2), (3, .int a3), (4, .int a4)] [] (hq false c y w) Q := by
  unfold d_480 at h
  obtain ⟨lv, elv⟩ : ∃ lv : rx_L, lv = [(0, .ref 174), (1, .int a1), (2, .int a2), (3, .int a3), (4, .int a4)] := ⟨_, rfl⟩
  rw [← elv]
  have l0 : rx_ld lv 0 = some (.ref 174) := by rw [elv]; rfl
  have l1 : rx_ld lv 1 = some (.int a1) := by rw [elv]; rfl
  have l2 : rx_ld lv 2 = some (.int a2) := by rw [elv]; rfl
  have l3 : rx_ld lv 3 = some (.int a3) := by rw [elv]; rfl
  have l4 : rx_ld lv 4 = some (.int a4) := by rw [elv]; rfl
  refine rs_aldn wi_480_0 l0 ?_
  refine rs_ildn wi_480_1 l3 ?_
  refine rs_ild wi_480_2 l4 ?_
  refine rs_ldcl wi_480_4 wk_480_1000 ?_
  refine rs_V wi_480_7 wc_480_1002 rfl (dq_isa tf_174_0 wa_15_475) (by omega) (ml_le wm_475 (by omega)) rfl (sp_475 hw (by omega) (ml_sub wm_475 (by omega)) (wp_bind h) (fun r1 h => rs_back1 ?_))
  refine wp_jn (B := fun p2 : Int32 × cS => ∀ lv, rx_ld lv 0 = some (.ref 174) → rx_ld lv 1 = some (.int a1) → rx_ld lv 2 = some (.int a2) → rx_ld lv 3 = some (.int a3) → rx_ld lv 4 = some (.int a4) → rs (rt_P sc fm) 480 F Lo 31 lv [.int p2.1] (hq false p2.2 y w) Q) h (fun p2 h lv l0 l1 l2 l3 l4 => ?_) (fun j31 hj31 h => ?_)
  ·
    refine dl_ist wi_480_31 rfl (fun lv l5 t3 => ?_)
    have l0 := t3 _ _ (by decide) (Or.inl rfl) l0
    have l1 := t3 _ _ (by decide) (Or.inl rfl) l1
    have l2 := t3 _ _ (by decide) (Or.inl rfl) l2
    have l3 := t3 _ _ (by decide) (Or.inl rfl) l3
    have l4 := t3 _ _ (by decide) (Or.inl rfl) l4
    refine rs_aldn wi_480_33 l0 ?_
    refine rs_ildn wi_480_34 l3 ?_
    refine rs_ild wi_480_35 l4 ?_
    refine rs_ldcl wi_480_37 wk_480_983 ?_
    refine rs_V wi_480_40 wc_480_985 rfl (dq_isa tf_174_0 wa_15_474) (by omega) (ml_le wm_474 (by omega)) rfl (sp_474 hw (by omega) (ml_sub wm_474 (by omega)) (wp_bind h) (fun r4 h => rs_back1 ?_))
    refine dl_lst wi_480_43 rfl (fun lv l6 t5 => ?_)
    have l0 := t5 _ _ (by decide) (by decide) (Or.inl rfl) l0
    have l1 := t5 _ _ (by decide) (by decide) (Or.inl rfl) l1
    have l2 := t5 _ _ (by decide) (by decide) (Or.inl rfl) l2
    have l3 := t5 _ _ (by decide) (by decide) (Or.inl rfl) l3
    have l4 := t5 _ _ (by decide) (by decide) (Or.inl rfl) l4
    have l5 := t5 _ _ (by decide) (by decide) (Or.inl rfl) l5
    refine rs_aldn wi_480_45 l0 ?_
    refine rs_ild wi_480_46 l4 ?_
    refine rs_ldcl wi_480_48 wk_480_1005 ?_
    refine rs_V wi_480_51 wc_480_568 rfl (dq_isa tf_174_0 wa_15_378) (by omega) (ml_le wm_378 (by omega)) rfl (sp_378 hw (by omega) (ml_sub wm_378 (by omega)) (wp_bind h) (fun v6 h => rs_back1 ?_))
    refine dl_ist wi_480_54 rfl (fun lv l8 t7 => ?_)
    have l0 := t7 _ _ (by decide) (Or.inl rfl) l0
    have l1 := t7 _ _ (by decide) (Or.inl rfl) l1
    have l2 := t7 _ _ (by decide) (Or.inl rfl) l2
    have l3 := t7 _ _ (by decide) (Or.inl rfl) l3
    have l4 := t7 _ _ (by decide) (Or.inl rfl) l4
    have l5 := t7 _ _ (by decide) (Or.inl rfl) l5
    have l6 := t7 _ _ (by decide) (Or.inr (by decide)) l6
    refine rs_ild wi_480_56 l8 ?_
    refine wp_jn (B := fun p8 : Int32 × cS => ∀ lv, rx_ld lv 0 = some (.ref 174) → rx_ld lv 1 = some (.int a1) → rx_ld lv 2 = some (.int a2) → rx_ld lv 5 = some (.int p2.1) → rx_ld lv 6 = some (.long r4.1) → rs (rt_P sc fm) 480 F Lo 88 lv [.int p8.1] (hq false p8.2 y w) Q) h (fun p8 h lv l0 l1 l2 l5 l6 => ?_) (fun j88 hj88 h => ?_)
    ·
      refine dl_ist wi_480_88 rfl (fun lv l9 t9 => ?_)
      have l0 := t9 _ _ (by decide) (Or.inl rfl) l0
      have l1 := t9 _ _ (by decide) (Or.inl rfl) l1
      have l2 := t9 _ _ (by decide) (Or.inl rfl) l2
      have l5 := t9 _ _ (by decide) (Or.inl rfl) l5
      have l6 := t9 _ _ (by decide) (Or.inr (by decide)) l6
      refine rs_pure wi_480_90 rfl ?_
      refine rs_topi (v := 0) (by decide) ?_
      refine dl_ist wi_480_91 rfl (fun lv l10 t10 => ?_)
      have l0 := t10 _ _ (by decide) (Or.inl rfl) l0
      have l1 := t10 _ _ (by decide) (Or.inl rfl) l1
      have l2 := t10 _ _ (by decide) (Or.inl rfl) l2
      have l5 := t10 _ _ (by decide) (Or.inl rfl) l5
      have l6 := t10 _ _ (by decide) (Or.inr (by decide)) l6
      have l9 := t10 _ _ (by decide) (Or.inl rfl) l9
      refine rs_pure wi_480_93 rfl ?_
      refine rs_topi (v := (-1)) (by decide) ?_
      refine dl_ist wi_480_94 rfl (fun lv l11 t11 => ?_)
      have l0 := t11 _ _ (by decide) (Or.inl rfl) l0
      have l1 := t11 _ _ (by decide) (Or.inl rfl) l1
      have l2 := t11 _ _ (by decide) (Or.inl rfl) l2
      have l5 := t11 _ _ (by decide) (Or.inl rfl) l5
      have l6 := t11 _ _ (by decide) (Or.inr (by decide)) l6
      have l9 := t11 _ _ (by decide) (Or.inl rfl) l9
      have l10 := t11 _ _ (by decide) (Or.inl rfl) l10
      refine rs_pure wi_480_96 rfl ?_
      refine rs_topi (v := 0) (by decide) ?_
      refine dl_ist wi_480_97 rfl (fun lv l12 t12 => ?_)
      have l0 := t12 _ _ (by decide) (Or.inl rfl) l0
      have l1 := t12 _ _ (by decide) (Or.inl rfl) l1
      have l2 := t12 _ _ (by decide) (Or.inl rfl) l2
      have l5 := t12 _ _ (by decide) (Or.inl rfl) l5
      have l6 := t12 _ _ (by decide) (Or.inr (by decide)) l6
      have l9 := t12 _ _ (by decide) (Or.inl rfl) l9
      have l10 := t12 _ _ (by decide) (Or.inl rfl) l10
      have l11 := t12 _ _ (by decide) (Or.inl rfl) l11
      refine whl_ex (A := fun s13 : Int32 × Int32 × Int32 => ∀ lv, rx_ld lv 0 = some (.ref 174) → rx_ld lv 1 = some (.int a1) → rx_ld lv 2 = some (.int a2) → rx_ld lv 5 = some (.int p2.1) → rx_ld lv 6 = some (.long r4.1) → rx_ld lv 9 = some (.int p8.1) → rx_ld lv 10 = some (.int s13.1) → rx_ld lv 11 = some (.int s13.2.1) → rx_ld lv 12 = some (.int s13.2.2) → rs (rt_P sc fm) 480 F Lo 99 lv [] (hq false p8.2 y w) Q) (B := (fun x26 : Int32 × Int32 => ∀ lv, rx_ld lv 0 = some (.ref 174) → rx_ld lv 1 = some (.int a1) → rx_ld lv 2 = some (.int a2) → rx_ld lv 9 = some (.int p8.1) → rx_ld lv 10 = some (.int x26.1) → rx_ld lv 11 = some (.int x26.2) → rs (rt_P sc fm) 480 F Lo 170 lv [] (hq false p8.2 y w) Q)) ?_ ?_ _ _ (wp_bind h) _ l0 l1 l2 l5 l6 l9 l10 l11 l12
      · intro s13 h lv l0 l1 l2 l5 l6 l9 l10 l11 l12
        refine rs_ild wi_480_99 l12 ?_
        refine rs_aldn wi_480_101 l0 ?_
        refine dq_gi wi_480_102 wf_480_456 tf_174_37 ?_
        refine rs_icge (tg := 170) wi_480_105 ⟨by decide, by decide⟩ (fun q => ?_) (fun q => ?_)
        ·
          have h := wp_pos h q
          exact h _ l0 l1 l2 l9 l10 l11
        ·
          have h := wp_neg h q
          refine rs_ild wi_480_108 l5 ?_
          refine rs_iflt (tg := 170) wi_480_110 ⟨by decide, by decide⟩ (fun q => ?_) (fun q => ?_)
          ·
            have h := wp_pos h q
            exact h _ l0 l1 l2 l9 l10 l11
          ·
            have h := wp_neg h q
            refine rs_aldn wi_480_113 l0 ?_
            refine dq_gr wi_480_114 wf_480_350 tf_174_138 ?_
            refine rs_ild wi_480_117 l12 ?_
            obtain ⟨g14, h⟩ := wp_gd h
            refine dq_zald wi_480_119 t_264 g14 ?_
            refine wp_jn (B := fun p15 : Int32 × Int32 => ∀ lv, rx_ld lv 0 = some (.ref 174) → rx_ld lv 1 = some (.int a1) → rx_ld lv 2 = some (.int a2) → rx_ld lv 5 = some (.int p2.1) → rx_ld lv 6 = some (.long r4.1) → rx_ld lv 9 = some (.int p8.1) → rx_ld lv 10 = some (.int p15.1) → rx_ld lv 11 = some (.int p15.2) → rx_ld lv 12 = some (.int s13.2.2) → rs (rt_P sc fm) 480 F Lo 164 lv [] (hq false p8.2 y w) Q) h (fun p15 h lv l0 l1 l2 l5 l6 l9 l10 l11 l12 => ?_) (fun j164 hj164 h => ?_)
            ·
              obtain ⟨v17, e18, h⟩ := wp_lt h
              refine dl_inc wi_480_164 l12 rfl e18 (fun lv l12 t16 => ?_)
              have l0 := t16 _ _ (by decide) (Or.inl rfl) l0
              have l1 := t16 _ _ (by decide) (Or.inl rfl) l1
              have l2 := t16 _ _ (by decide) (Or.inl rfl) l2
              have l5 := t16 _ _ (by decide) (Or.inl rfl) l5
              have l6 := t16 _ _ (by decide) (Or.inr (by decide)) l6
              have l9 := t16 _ _ (by decide) (Or.inl rfl) l9
              have l10 := t16 _ _ (by decide) (Or.inl rfl) l10
              have l11 := t16 _ _ (by decide) (Or.inl rfl) l11
              refine rs_goto (tg := 99) wi_480_167 ⟨by decide, by decide⟩ ?_
              exact h _ l0 l1 l2 l5 l6 l9 l10 l11 l12
            refine rs_ifeq (tg := 164) wi_480_120 ⟨by decide, by decide⟩ (fun q => ?_) (fun q => ?_)
            ·
              have h := wp_pos h q
              exact hj164 _ h _ l0 l1 l2 l5 l6 l9 l10 l11 l12
            ·
              have h := wp_neg h q
              refine rs_aldn wi_480_123 l0 ?_
              refine rs_ild wi_480_124 l12 ?_
              refine rs_ild wi_480_126 l5 ?_
              refine rs_V wi_480_128 wc_480_1007 rfl (dq_isa tf_174_0 wa_15_476) (by omega) (ml_le wm_476 (by omega)) rfl (sp_476 hw (by omega) (ml_sub wm_476 (by omega)) (wp_bind h) (fun v19 h => rs_back1 ?_))
              refine rs_ifeq (tg := 164) wi_480_131 ⟨by decide, by decide⟩ (fun q => ?_) (fun q => ?_)
              ·
                have h := wp_pos h q
                exact hj164 _ h _ l0 l1 l2 l5 l6 l9 l10 l11 l12
              ·
                have h := wp_neg h q
                refine rs_lld wi_480_134 l6 ?_
                refine rs_pure wi_480_136 rfl ?_
                refine rs_topl (v := 0) (by decide) ?_
                refine rs_pure wi_480_137 rfl ?_
                refine wp_jn (B := fun p20 : Unit => ∀ lv, rx_ld lv 0 = some (.ref 174) → rx_ld lv 1 = some (.int a1) → rx_ld lv 2 = some (.int a2) → rx_ld lv 5 = some (.int p2.1) → rx_ld lv 6 = some (.long r4.1) → rx_ld lv 9 = some (.int p8.1) → rx_ld lv 10 = some (.int s13.1) → rx_ld lv 12 = some (.int s13.2.2) → rs (rt_P sc fm) 480 F Lo 157 lv [] (hq false p8.2 y w) Q) h (fun p20 h lv l0 l1 l2 l5 l6 l9 l10 l12 => ?_) (fun j157 hj157 h => ?_)
                ·
                  obtain ⟨v22, e23, h⟩ := wp_lt h
                  refine dl_inc wi_480_157 l10 rfl e23 (fun lv l10 t21 => ?_)
                  have l0 := t21 _ _ (by decide) (Or.inl rfl) l0
                  have l1 := t21 _ _ (by decide) (Or.inl rfl) l1
                  have l2 := t21 _ _ (by decide) (Or.inl rfl) l2
                  have l5 := t21 _ _ (by decide) (Or.inl rfl) l5
                  have l6 := t21 _ _ (by decide) (Or.inr (by decide)) l6
                  have l9 := t21 _ _ (by decide) (Or.inl rfl) l9
                  have l12 := t21 _ _ (by decide) (Or.inl rfl) l12
                  refine rs_ild wi_480_160 l12 ?_
                  refine dl_ist wi_480_162 rfl (fun lv l11 t24 => ?_)
                  have l0 := t24 _ _ (by decide) (Or.inl rfl) l0
                  have l1 := t24 _ _ (by decide) (Or.inl rfl) l1
                  have l2 := t24 _ _ (by decide) (Or.inl rfl) l2
                  have l5 := t24 _ _ (by decide) (Or.inl rfl) l5
                  have l6 := t24 _ _ (by decide) (Or.inr (by decide)) l6
                  have l9 := t24 _ _ (by decide) (Or.inl rfl) l9
                  have l10 := t24 _ _ (by decide) (Or.inl rfl) l10
                  have l12 := t24 _ _ (by decide) (Or.inl rfl) l12
                  exact hj164 _ h _ l0 l1 l2 l5 l6 l9 l10 l11 l12
                refine rs_ifeq (tg := 157) wi_480_138 ⟨by decide, by decide⟩ (fun q => ?_) (fun q => ?_)
                ·
                  have h := wp_pos h q
                  exact hj157 _ h _ l0 l1 l2 l5 l6 l9 l10 l12
                ·
                  have h := wp_neg h q
                  refine rs_aldn wi_480_141 l0 ?_
                  refine dq_gr wi_480_142 wf_480_353 tf_174_139 ?_
                  refine rs_ild wi_480_145 l12 ?_
                  obtain ⟨g25, h⟩ := wp_gd h
                  refine dq_lald wi_480_147 t_265 g25 ?_
                  refine rs_lld wi_480_148 l6 ?_
                  refine rs_pure wi_480_150 rfl ?_
                  refine rs_ifeq (tg := 157) wi_480_151 ⟨by decide, by decide⟩ (fun q => ?_) (fun q => ?_)
                  ·
                    have h := wp_pos h q
                    exact hj157 _ h _ l0 l1 l2 l5 l6 l9 l10 l12
                  ·
                    have h := wp_neg h q
                    refine rs_goto (tg := 164) wi_480_154 ⟨by decide, by decide⟩ ?_
                    exact hj164 _ h _ l0 l1 l2 l5 l6 l9 l10 l11 l12
      ·
        intro x26 h lv l0 l1 l2 l9 l10 l11
        refine rs_ild wi_480_170 l10 ?_
        refine wp_jn (B := fun p27 : cS => ∀ lv, rx_ld lv 0 = some (.ref 174) → rx_ld lv 1 = some (.int a1) → rx_ld lv 2 = some (.int a2) → rx_ld lv 9 = some (.int p8.1) → rx_ld lv 10 = some (.int x26.1) → rx_ld lv 11 = some (.int x26.2) → rs (rt_P sc fm) 480 F Lo 182 lv [] (hq false p27 y w) Q) h (fun p27 h lv l0 l1 l2 l9 l10 l11 => ?_) (fun j182 hj182 h => ?_)
        ·
          refine rs_ild wi_480_182 l10 ?_
          refine rs_pure wi_480_184 rfl ?_
          refine rs_topi (v := 1) (by decide) ?_
          refine wp_jn (B := fun p28 : cS => ∀ lv, rx_ld lv 0 = some (.ref 174) → rx_ld lv 1 = some (.int a1) → rx_ld lv 2 = some (.int a2) → rx_ld lv 9 = some (.int p8.1) → rx_ld lv 11 = some (.int x26.2) → rs (rt_P sc fm) 480 F Lo 195 lv [] (hq false p28 y w) Q) h (fun p28 h lv l0 l1 l2 l9 l11 => ?_) (fun j195 hj195 h => ?_)
          ·
            refine rs_aldn wi_480_195 l0 ?_
            refine dq_gi wi_480_196 wf_480_969 tf_174_131 ?_
            refine wp_jn (B := fun p29 : Unit => ∀ lv, rs (rt_P sc fm) 480 F Lo 207 lv [] (hq false p28 y w) Q) h (fun p29 h lv => ?_) (fun j207 hj207 h => ?_)
            ·
              exact rs_vret wi_480_207 wr_480 (hQ p28 h)
            refine rs_ifgt (tg := 207) wi_480_199 ⟨by decide, by decide⟩ (fun q => ?_) (fun q => ?_)
            ·
              have h := wp_pos h q
              exact hj207 _ h _
            ·
              have h := wp_neg h q
              refine rs_ild wi_480_202 l9 ?_
              refine rs_ifeq (tg := 208) wi_480_204 ⟨by decide, by decide⟩ (fun q => ?_) (fun q => ?_)
              ·
                have h := wp_pos h q
                refine rs_aldn wi_480_208 l0 ?_
                refine dq_gr wi_480_209 wf_480_347 tf_174_137 ?_
                refine rs_ild wi_480_212 l11 ?_
                obtain ⟨g30, h⟩ := wp_gd h
                refine dq_zald wi_480_214 t_263 g30 ?_
                refine wp_jn (B := fun p31 : cS => ∀ lv, rs (rt_P sc fm) 480 F Lo 244 lv [] (hq false p31 y w) Q) h (fun p31 h lv => ?_) (fun j244 hj244 h => ?_)
                ·
                  exact rs_vret wi_480_244 wr_480 (hQ p31 h)
                refine rs_ifeq (tg := 228) wi_480_215 ⟨by decide, by decide⟩ (fun q => ?_) (fun q => ?_)
                ·
                  have h := wp_pos h q
                  refine rs_aldn wi_480_228 l0 ?_
                  refine dq_gr wi_480_229 wf_480_344 tf_174_136 ?_
                  refine rs_ild wi_480_232 l11 ?_
                  obtain ⟨g32, h⟩ := wp_gd h
                  refine dq_zald wi_480_234 t_262 g32 ?_
                  refine rs_ifne (tg := 244) wi_480_235 ⟨by decide, by decide⟩ (fun q => ?_) (fun q => ?_)
                  ·
                    have h := wp_neg h q
                    exact hj244 _ h _
                  ·
                    have h := wp_pos h q
                    refine rs_aldn wi_480_238 l0 ?_
                    refine rs_ild wi_480_239 l11 ?_
                    refine rs_V wi_480_241 wc_480_989 rfl (dq_isa tf_174_0 wa_15_478) (by omega) (ml_le wm_478 (by omega)) rfl (sp_478 hw hrec (by omega) (ml_sub wm_478 (by omega)) (by omega) (ml_sub wm_478 (by omega)) (wp_bind h) (fun r33 h => rs_back0 ?_))
                    exact hj244 _ h _
                ·
                  have h := wp_neg h q
                  refine rs_aldn wi_480_218 l0 ?_
                  refine rs_pure wi_480_219 rfl ?_
                  refine rs_topi (v := 3) (by decide) ?_
                  refine rs_ildn wi_480_220 l2 ?_
                  refine rs_ildn wi_480_221 l1 ?_
                  refine rs_V wi_480_222 wc_480_1010 rfl (dq_isa tf_174_0 wa_15_477) (by omega) (ml_le wm_477 (by omega)) rfl (sp_477 hw (by omega) (ml_sub wm_477 (by omega)) (wp_bind h) (fun r34 h => rs_back0 ?_))
                  refine rs_goto (tg := 244) wi_480_225 ⟨by decide, by decide⟩ ?_
                  exact hj244 _ h _
              ·
                have h := wp_neg h q
                exact hj207 _ h _
          refine rs_icle (tg := 195) wi_480_185 ⟨by decide, by decide⟩ (fun q => ?_) (fun q => ?_)
          ·
            have h := wp_pos h q
            exact hj195 _ h _ l0 l1 l2 l9 l11
          ·
            have h := wp_neg h q
            refine rs_aldn wi_480_188 l0 ?_
            refine rs_pure wi_480_189 rfl ?_
            refine rs_topi (v := 2) (by decide) ?_
            refine rs_ildn wi_480_190 l2 ?_
            refine rs_ildn wi_480_191 l1 ?_
            refine rs_V wi_480_192 wc_480_1010 rfl (dq_isa tf_174_0 wa_15_477) (by omega) (ml_le wm_477 (by omega)) rfl (sp_477 hw (by omega) (ml_sub wm_477 (by omega)) (wp_bind h) (fun r35 h => rs_back0 ?_))
            exact hj195 _ h _ l0 l1 l2 l9 l11
        refine rs_ifne (tg := 182) wi_480_172 ⟨by decide, by decide⟩ (fun q => ?_) (fun q => ?_)
        ·
          have h := wp_neg h q
          exact hj182 _ h _ l0 l1 l2 l9 l10 l11
        ·
          have h := wp_pos h q
          refine rs_aldn wi_480_175 l0 ?_
          refine rs_pure wi_480_176 rfl ?_
          refine rs_topi (v := 1) (by decide) ?_
          refine rs_ildn wi_480_177 l2 ?_
          refine rs_ildn wi_480_178 l1 ?_
          refine rs_V wi_480_179 wc_480_1010 rfl (dq_isa tf_174_0 wa_15_477) (by omega) (ml_le wm_477 (by omega)) rfl (sp_477 hw (by omega) (ml_sub wm_477 (by omega)) (wp_bind h) (fun r36 h => rs_back0 ?_))
          exact hj182 _ h _ l0 l1 l2 l9 l10 l11
    refine wp_jn (B := fun p37 : cS => ∀ lv, rx_ld lv 0 = some (.ref 174) → rx_ld lv 1 = some (.int a1) → rx_ld lv 2 = some (.int a2) → rx_ld lv 5 = some (.int p2.1) → rx_ld lv 6 = some (.long r4.1) → rs (rt_P sc fm) 480 F Lo 87 lv [] (hq false p37 y w) Q) h (fun p37 h lv l0 l1 l2 l5 l6 => ?_) (fun j87 hj87 h => ?_)
    ·
      refine rs_pure wi_480_87 rfl ?_
      refine rs_topi (v := 0) (by decide) ?_
      exact hj88 _ h _ l0 l1 l2 l5 l6
    refine rs_iflt (tg := 87) wi_480_58 ⟨by decide, by decide⟩ (fun q => ?_) (fun q => ?_)
    ·
      have h := wp_pos h q
      exact hj87 _ h _ l0 l1 l2 l5 l6
    ·
      have h := wp_neg h q
      refine rs_aldn wi_480_61 l0 ?_
      refine rs_ildn wi_480_62 l3 ?_
      refine rs_ild wi_480_63 l4 ?_
      refine rs_ild wi_480_65 l8 ?_
      refine rs_V wi_480_67 wc_480_706 rfl (dq_isa tf_174_0 wa_15_429) (by omega) (ml_le wm_429 (by omega)) rfl (sp_429 hw (by omega) (ml_sub wm_429 (by omega)) (wp_bind h) (fun r38 h => rs_back1 ?_))
      refine rs_pure wi_480_70 rfl ?_
      refine rs_topi (v := 1) (by decide) ?_
      refine rs_icne (tg := 87) wi_480_71 ⟨by decide, by decide⟩ (fun q => ?_) (fun q => ?_)
      ·
        have h := wp_neg h q
        exact hj87 _ h _ l0 l1 l2 l5 l6
      ·
        have h := wp_pos h q
        refine rs_aldn wi_480_74 l0 ?_
        refine dq_gl wi_480_75 wf_480_697 tf_174_79 ?_
        refine rs_pure wi_480_78 rfl ?_
        refine rs_topl (v := 0) (by decide) ?_
        refine rs_pure wi_480_79 rfl ?_
        refine rs_ifeq (tg := 87) wi_480_80 ⟨by decide, by decide⟩ (fun q => ?_) (fun q => ?_)
        ·
          have h := wp_pos h q
          exact hj87 _ h _ l0 l1 l2 l5 l6
        ·
          have h := wp_neg h q
          refine rs_pure wi_480_83 rfl ?_
          refine rs_topi (v := 1) (by decide) ?_
          refine rs_goto (tg := 88) wi_480_84 ⟨by decide, by decide⟩ ?_
          exact hj88 _ h _ l0 l1 l2 l5 l6
  refine rs_ifeq (tg := 30) wi_480_10 ⟨by decide, by decide⟩ (fun q => ?_) (fun q => ?_)
  ·
    have h := wp_pos h q
    refine rs_pure wi_480_30 rfl ?_
    refine rs_topi (v := (-1)) (by decide) ?_
    exact hj31 _ h _ l0 l1 l2 l3 l4
  ·
    have h := wp_neg h q
    refine rs_aldn wi_480_13 l0 ?_
    refine rs_aldn wi_480_14 l0 ?_
    refine rs_ildn wi_480_15 l3 ?_
    refine rs_ild wi_480_16 l4 ?_
    refine rs_ldcl wi_480_18 wk_480_1000 ?_
    refine rs_V wi_480_21 wc_480_985 rfl (dq_isa tf_174_0 wa_15_474) (by omega) (ml_le wm_474 (by omega)) rfl (sp_474 hw (by omega) (ml_sub wm_474 (by omega)) (wp_bind h) (fun r39 h => rs_back1 ?_))
    refine rs_V wi_480_24 wc_480_468 rfl (dq_isa tf_174_0 wa_15_375) (by omega) (ml_le wm_375 (by omega)) rfl (sp_375 hw (by omega) (ml_sub wm_375 (by omega)) (wp_bind h) (fun v40 h => rs_back1 ?_))
    refine rs_goto (tg := 31) wi_480_27 ⟨by decide, by decide⟩ ?_
    exact hj31 _ h _ l0 l1 l2 l3 l4
set_option maxRecDepth 100000 in
theorem wa_15_480 : rz_cn 15 (rx_yn (rt_P sc fm) 480).cls = true := (by decide +kernel : rz_cn 15 (rt_yn 480).cls = true)
set_option maxRecDepth 100000 in
theorem wc_479_462 : rx_ct (rt_P sc fm) 479 462 = some (0, 373, 1) := (by decide +kernel : rt_ct 479 462 = some (0, 373, 1))
set_option maxRecDepth 100000 in
theorem wc_479_712 : rx_ct (rt_P sc fm) 479 712 = some (0, 428, 2) := (by decide +kernel : rt_ct 479 712 = some (0, 428, 2))
set_option maxRecDepth 100000 in
theorem wc_479_838 : rx_ct (rt_P sc fm) 479 838 = some (1, 451, 2) := (by decide +kernel : rt_ct 479 838 = some (1, 451, 2))
set_option maxRecDepth 100000 in
theorem wc_479_992 : rx_ct (rt_P sc fm) 479 992 = some (0, 479, 2) := (by decide +kernel : rt_ct 479 992 = some (0, 479, 2))
set_option maxRecDepth 100000 in
theorem wc_479_997 : rx_ct (rt_P sc fm) 479 997 = some (0, 480, 4) := (by decide +kernel : rt_ct 479 997 = some (0, 480, 4))
set_option maxRecDepth 100000 in
theorem wf_479_155 : rx_ft (rt_P sc fm) 479 155 = some (15, 39) := (by decide +kernel : rt_ft 479 155 = some (15, 39))
set_option maxRecDepth 100000 in
theorem wf_479_158 : rx_ft (rt_P sc fm) 479 158 = some (15, 40) := (by decide +kernel : rt_ft 479 158 = some (15, 40))
set_option maxRecDepth 100000 in
theorem wf_479_252 : rx_ft (rt_P sc fm) 479 252 = some (15, 75) := (by decide +kernel : rt_ft 479 252 = some (15, 75))
set_option maxRecDepth 100000 in
theorem wf_479_678 : rx_ft (rt_P sc fm) 479 678 = some (15, 74) := (by decide +kernel : rt_ft 479 678 = some (15, 74))
set_option maxRecDepth 100000 in
theorem wf_479_969 : rx_ft (rt_P sc fm) 479 969 = some (15, 131) := (by decide +kernel : rt_ft 479 969 = some (15, 131))
theorem wi_479_0 : ri (rt_P sc fm) 479 0 (.aload_n 0) (1) := ri_of (by decide +kernel) rfl
theorem wi_479_1 : ri (rt_P sc fm) 479 1 (.getfield 155) (4) := ri_of (by decide +kernel) rfl
theorem wi_479_10 : ri (rt_P sc fm) 479 10 (.iload_n 1) (11) := ri_of (by decide +kernel) rfl
theorem wi_479_11 : ri (rt_P sc fm) 479 11 (.aload_n 0) (12) := ri_of (by decide +kernel) rfl
theorem wi_479_12 : ri (rt_P sc fm) 479 12 (.getfield 155) (15) := ri_of (by decide +kernel) rfl
theorem wi_479_15 : ri (rt_P sc fm) 479 15 (.iload_n 2) (16) := ri_of (by decide +kernel) rfl
theorem wi_479_16 : ri (rt_P sc fm) 479 16 (.iaload) (17) := ri_of (by decide +kernel) rfl
theorem wi_479_17 : ri (rt_P sc fm) 479 17 (.invokevirtual 992) (20) := ri_of (by decide +kernel) rfl
theorem wi_479_20 : ri (rt_P sc fm) 479 20 (.aload_n 0) (21) := ri_of (by decide +kernel) rfl
theorem wi_479_21 : ri (rt_P sc fm) 479 21 (.ldc2_w 995) (24) := ri_of (by decide +kernel) rfl
theorem wi_479_24 : ri (rt_P sc fm) 479 24 (.invokevirtual 462) (27) := ri_of (by decide +kernel) rfl
theorem wi_479_27 : ri (rt_P sc fm) 479 27 (.istore_n 3) (28) := ri_of (by decide +kernel) rfl
theorem wi_479_28 : ri (rt_P sc fm) 479 28 (.iconst 0) (29) := ri_of (by decide +kernel) rfl
theorem wi_479_29 : ri (rt_P sc fm) 479 29 (.istore 4) (31) := ri_of (by decide +kernel) rfl
theorem wi_479_31 : ri (rt_P sc fm) 479 31 (.iload 4) (33) := ri_of (by decide +kernel) rfl
theorem wi_479_33 : ri (rt_P sc fm) 479 33 (.aload_n 0) (34) := ri_of (by decide +kernel) rfl
theorem wi_479_34 : ri (rt_P sc fm) 479 34 (.getfield 158) (37) := ri_of (by decide +kernel) rfl
theorem wi_479_37 : ri (rt_P sc fm) 479 37 (.iload_n 2) (38) := ri_of (by decide +kernel) rfl
theorem wi_479_38 : ri (rt_P sc fm) 479 38 (.iaload) (39) := ri_of (by decide +kernel) rfl
theorem wi_479_39 : ri (rt_P sc fm) 479 39 (.if_icmp .ge 56) (42) := ri_of (by decide +kernel) rfl
theorem wi_479_4 : ri (rt_P sc fm) 479 4 (.iload_n 2) (5) := ri_of (by decide +kernel) rfl
theorem wi_479_42 : ri (rt_P sc fm) 479 42 (.iload_n 3) (43) := ri_of (by decide +kernel) rfl
theorem wi_479_43 : ri (rt_P sc fm) 479 43 (.ifCond .lt 52) (46) := ri_of (by decide +kernel) rfl
theorem wi_479_46 : ri (rt_P sc fm) 479 46 (.aload_n 0) (47) := ri_of (by decide +kernel) rfl
theorem wi_479_47 : ri (rt_P sc fm) 479 47 (.getfield 969) (50) := ri_of (by decide +kernel) rfl
theorem wi_479_5 : ri (rt_P sc fm) 479 5 (.iaload) (6) := ri_of (by decide +kernel) rfl
theorem wi_479_50 : ri (rt_P sc fm) 479 50 (.ifCond .ne 45) (53) := ri_of (by decide +kernel) rfl
theorem wi_479_53 : ri (rt_P sc fm) 479 53 (.iload_n 2) (54) := ri_of (by decide +kernel) rfl
theorem wi_479_54 : ri (rt_P sc fm) 479 54 (.iload 4) (56) := ri_of (by decide +kernel) rfl
theorem wi_479_56 : ri (rt_P sc fm) 479 56 (.invokestatic 838) (59) := ri_of (by decide +kernel) rfl
theorem wi_479_59 : ri (rt_P sc fm) 479 59 (.istore 5) (61) := ri_of (by decide +kernel) rfl
theorem wi_479_6 : ri (rt_P sc fm) 479 6 (.ifCond .lt 14) (9) := ri_of (by decide +kernel) rfl
theorem wi_479_61 : ri (rt_P sc fm) 479 61 (.aload_n 0) (62) := ri_of (by decide +kernel) rfl
theorem wi_479_62 : ri (rt_P sc fm) 479 62 (.iload 5) (64) := ri_of (by decide +kernel) rfl
theorem wi_479_64 : ri (rt_P sc fm) 479 64 (.iload_n 3) (65) := ri_of (by decide +kernel) rfl
theorem wi_479_65 : ri (rt_P sc fm) 479 65 (.invokevirtual 712) (68) := ri_of (by decide +kernel) rfl
theorem wi_479_68 : ri (rt_P sc fm) 479 68 (.aload_n 0) (69) := ri_of (by decide +kernel) rfl
theorem wi_479_69 : ri (rt_P sc fm) 479 69 (.getfield 678) (72) := ri_of (by decide +kernel) rfl
theorem wi_479_72 : ri (rt_P sc fm) 479 72 (.ifCond .le 17) (75) := ri_of (by decide +kernel) rfl
theorem wi_479_75 : ri (rt_P sc fm) 479 75 (.aload_n 0) (76) := ri_of (by decide +kernel) rfl
theorem wi_479_76 : ri (rt_P sc fm) 479 76 (.iload_n 1) (77) := ri_of (by decide +kernel) rfl
theorem wi_479_77 : ri (rt_P sc fm) 479 77 (.iload 5) (79) := ri_of (by decide +kernel) rfl
theorem wi_479_79 : ri (rt_P sc fm) 479 79 (.aload_n 0) (80) := ri_of (by decide +kernel) rfl
theorem wi_479_80 : ri (rt_P sc fm) 479 80 (.getfield 252) (83) := ri_of (by decide +kernel) rfl
theorem wi_479_83 : ri (rt_P sc fm) 479 83 (.iconst 0) (84) := ri_of (by decide +kernel) rfl
theorem wi_479_84 : ri (rt_P sc fm) 479 84 (.iaload) (85) := ri_of (by decide +kernel) rfl
theorem wi_479_85 : ri (rt_P sc fm) 479 85 (.iload_n 3) (86) := ri_of (by decide +kernel) rfl
theorem wi_479_86 : ri (rt_P sc fm) 479 86 (.invokevirtual 997) (89) := ri_of (by decide +kernel) rfl
theorem wi_479_89 : ri (rt_P sc fm) 479 89 (.iinc 4 1) (92) := ri_of (by decide +kernel) rfl
theorem wi_479_9 : ri (rt_P sc fm) 479 9 (.aload_n 0) (10) := ri_of (by decide +kernel) rfl
theorem wi_479_92 : ri (rt_P sc fm) 479 92 (.goto (-61)) (95) := ri_of (by decide +kernel) rfl
theorem wi_479_95 : ri (rt_P sc fm) 479 95 (.return_) (96) := ri_of (by decide +kernel) rfl
set_option maxRecDepth 100000 in
theorem wk_479_995 : rx_kt (rt_P sc fm) 479 995 = some (.long (2002873972)) := (by decide +kernel : rt_kt 479 995 = some (.long (2002873972)))
set_option maxRecDepth 100000 in
theorem wm_480 : rx_ml (rt_P sc fm) 480 = 13 := (by decide +kernel : rt_ml 480 = 13)
set_option maxRecDepth 100000 in
theorem wr_479 : rx_rt (rt_P sc fm) 479 = none := (by decide +kernel : rt_rt 479 = none)
/-- MarkHouseModel.wantsOf(II)V -/
def d_479 : Nat → Nat → Int32 → Int32 → cS → Option (cS)
  | 0, _, _, _, _ => none
  | e + 1, n, a1, a2, c =>
      if ib a2 12 then
      jn (fun p2 : cS =>
        Option.bind (d_373 n 2002873972 p2) (fun v3 =>
        Option.bind (whl (R := (cS)) (fun s6 : Int32 × cS =>
          if ib a2 12 then
          if (s6.2.1 202 (ix a2)) ≤ s6.1 then
            some (.inr s6.2)
          else
            if v3 < 0 then
              some (.inr s6.2)
            else
              if (s6.2.1 174 131) = 0 then
                Option.bind (d_451 n a2 s6.1) (fun v8 =>
                Option.bind (d_428 n v8 v3 s6.2) (fun r10 =>
                jn (fun p11 : cS =>
                  lt (s6.1 + 1 : Int32) (fun v13 =>
                  some (.inl (v13, p11))))
                (fun j89 =>
                if (r10.1 174 74) ≤ 0 then
                  j89 r10
                else
                  if ib 0 20 then
                  Option.bind (d_480 (d_479 e n) n a1 v8 (r10.1 233 (ix 0)) v3 r10) (fun r16 =>
                  j89 r16)
                  else none)))
              else
                some (.inr s6.2)
          else none) n (0, p2))
        (fun x17 : cS =>
          some x17)))
      (fun j20 =>
      if (c.1 201 (ix a2)) < 0 then
        j20 c
      else
        if ib a2 12 then
        Option.bind (d_479 e n a1 (c.1 201 (ix a2)) c) (fun r19 =>
        j20 r19)
        else none)
      else none
set_option maxRecDepth 100000 in
set_option maxHeartbeats 4000000 in
theorem sp_479 {n : Nat} {y : cS} {w : cW} (hw : rOK fm w) : ∀ (e : Nat) {F Lo : Nat} {a1 : Int32} {a2 : Int32} {c : cS} {K : cS → Prop} {Q : ((Option Value) ⊕ String) → List va_E → Prop}, 4 + 3 * e ≤ F → 105 + 78 * e ≤ Lo → wp (d_479 e n a1 a2 c) K → (∀ r, K r → Q (.inl none) (hq false r y w)) → rs (rt_P sc fm) 479 F Lo 0 [(0, .ref 174), (1, .int a1), (2, .int a2)] [] (hq false c y w) Q
  | 0, _, _, _, _, _, _, _, _, _, h, _ => h.elim
  | e + 1, F, Lo, a1, a2, c, K, Q, hF, hLo, h, hQ => by
    unfold d_479 at h
    obtain ⟨lv, elv⟩ : ∃ lv : rx_L, lv = [(0, .ref 174), (1, .int a1), (2, .int a2)] := ⟨_, rfl⟩
    rw [← elv]
    have l0 : rx_ld lv 0 = some (.ref 174) := by rw [elv]; rfl
    have l1 : rx_ld lv 1 = some (.int a1) := by rw [elv]; rfl
    have l2 : rx_ld lv 2 = some (.int a2) := by rw [elv]; rfl
    refine rs_aldn wi_479_0 l0 ?_
    refine dq_gr wi_479_1 wf_479_155 tf_174_39 ?_
    refine rs_ildn wi_479_4 l2 ?_
    obtain ⟨g1, h⟩ := wp_gd h
    refine dq_iald wi_479_5 t_201 g1 ?_
    refine wp_jn (B := fun p2 : cS => ∀ lv, rx_ld lv 0 = some (.ref 174) → rx_ld lv 1 = some (.int a1) → rx_ld lv 2 = some (.int a2) → rs (rt_P sc fm) 479 F Lo 20 lv [] (hq false p2 y w) Q) h (fun p2 h lv l0 l1 l2 => ?_) (fun j20 hj20 h => ?_)
    ·
      refine rs_aldn wi_479_20 l0 ?_
      refine rs_ldcl wi_479_21 wk_479_995 ?_
      refine rs_V wi_479_24 wc_479_462 rfl (dq_isa tf_174_0 wa_15_373) (by omega) (ml_le wm_373 (by omega)) rfl (sp_373 hw (by omega) (ml_sub wm_373 (by omega)) (wp_bind h) (fun v3 h => rs_back1 ?_))
      refine dl_istn wi_479_27 rfl (fun lv l3 t4 => ?_)
      have l0 := t4 _ _ (by decide) (Or.inl rfl) l0
      have l1 := t4 _ _ (by decide) (Or.inl rfl) l1
      have l2 := t4 _ _ (by decide) (Or.inl rfl) l2
      refine rs_pure wi_479_28 rfl ?_
      refine rs_topi (v := 0) (by decide) ?_
      refine dl_ist wi_479_29 rfl (fun lv l4 t5 => ?_)
      have l0 := t5 _ _ (by decide) (Or.inl rfl) l0
      have l1 := t5 _ _ (by decide) (Or.inl rfl) l1
      have l2 := t5 _ _ (by decide) (Or.inl rfl) l2
      have l3 := t5 _ _ (by decide) (Or.inl rfl) l3
      refine whl_ex (A := fun s6 : Int32 × cS => ∀ lv, rx_ld lv 0 = some (.ref 174) → rx_ld lv 1 = some (.int a1) → rx_ld lv 2 = some (.int a2) → rx_ld lv 3 = some (.int v3) → rx_ld lv 4 = some (.int s6.1) → rs (rt_P sc fm) 479 F Lo 31 lv [] (hq false s6.2 y w) Q) (B := (fun x17 : cS => ∀ lv, rs (rt_P sc fm) 479 F Lo 95 lv [] (hq false x17 y w) Q)) ?_ ?_ _ _ (wp_bind h) _ l0 l1 l2 l3 l4
      · intro s6 h lv l0 l1 l2 l3 l4
        refine rs_ild wi_479_31 l4 ?_
        refine rs_aldn wi_479_33 l0 ?_
        refine dq_gr wi_479_34 wf_479_158 tf_174_40 ?_
        refine rs_ildn wi_479_37 l2 ?_
        obtain ⟨g7, h⟩ := wp_gd h
        refine dq_iald wi_479_38 t_202 g7 ?_
        refine rs_icge (tg := 95) wi_479_39 ⟨by decide, by decide⟩ (fun q => ?_) (fun q => ?_)
        ·
          have h := wp_pos h q
          exact h _
        ·
          have h := wp_neg h q
          refine rs_ildn wi_479_42 l3 ?_
          refine rs_iflt (tg := 95) wi_479_43 ⟨by decide, by decide⟩ (fun q => ?_) (fun q => ?_)
          ·
            have h := wp_pos h q
            exact h _
          ·
            have h := wp_neg h q
            refine rs_aldn wi_479_46 l0 ?_
            refine dq_gi wi_479_47 wf_479_969 tf_174_131 ?_
            refine rs_ifne (tg := 95) wi_479_50 ⟨by decide, by decide⟩ (fun q => ?_) (fun q => ?_)
            ·
              have h := wp_neg h q
              exact h _
            ·
              have h := wp_pos h q
              refine rs_ildn wi_479_53 l2 ?_
              refine rs_ild wi_479_54 l4 ?_
              refine rs_S wi_479_56 wc_479_838 (Or.inl rfl) rfl (by omega) (ml_le wm_451 (by omega)) rfl (sp_451 (by omega) (ml_sub wm_451 (by omega)) (wp_bind h) (fun v8 h => rs_back1 ?_))
              refine dl_ist wi_479_59 rfl (fun lv l5 t9 => ?_)
              have l0 := t9 _ _ (by decide) (Or.inl rfl) l0
              have l1 := t9 _ _ (by decide) (Or.inl rfl) l1
              have l2 := t9 _ _ (by decide) (Or.inl rfl) l2
              have l3 := t9 _ _ (by decide) (Or.inl rfl) l3
              have l4 := t9 _ _ (by decide) (Or.inl rfl) l4
              refine rs_aldn wi_479_61 l0 ?_
              refine rs_ild wi_479_62 l5 ?_
              refine rs_ildn wi_479_64 l3 ?_
              refine rs_V wi_479_65 wc_479_712 rfl (dq_isa tf_174_0 wa_15_428) (by omega) (ml_le wm_428 (by omega)) rfl (sp_428 hw (by omega) (ml_sub wm_428 (by omega)) (wp_bind h) (fun r10 h => rs_back0 ?_))
              refine rs_aldn wi_479_68 l0 ?_
              refine dq_gi wi_479_69 wf_479_678 tf_174_74 ?_
              refine wp_jn (B := fun p11 : cS => ∀ lv, rx_ld lv 0 = some (.ref 174) → rx_ld lv 1 = some (.int a1) → rx_ld lv 2 = some (.int a2) → rx_ld lv 3 = some (.int v3) → rx_ld lv 4 = some (.int s6.1) → rs (rt_P sc fm) 479 F Lo 89 lv [] (hq false p11 y w) Q) h (fun p11 h lv l0 l1 l2 l3 l4 => ?_) (fun j89 hj89 h => ?_)
              ·
                obtain ⟨v13, e14, h⟩ := wp_lt h
                refine dl_inc wi_479_89 l4 rfl e14 (fun lv l4 t12 => ?_)
                have l0 := t12 _ _ (by decide) (Or.inl rfl) l0
                have l1 := t12 _ _ (by decide) (Or.inl rfl) l1
                have l2 := t12 _ _ (by decide) (Or.inl rfl) l2
                have l3 := t12 _ _ (by decide) (Or.inl rfl) l3
                refine rs_goto (tg := 31) wi_479_92 ⟨by decide, by decide⟩ ?_
                exact h _ l0 l1 l2 l3 l4
              refine rs_ifle (tg := 89) wi_479_72 ⟨by decide, by decide⟩ (fun q => ?_) (fun q => ?_)
              ·
                have h := wp_pos h q
                exact hj89 _ h _ l0 l1 l2 l3 l4
              ·
                have h := wp_neg h q
                refine rs_aldn wi_479_75 l0 ?_
                refine rs_ildn wi_479_76 l1 ?_
                refine rs_ild wi_479_77 l5 ?_
                refine rs_aldn wi_479_79 l0 ?_
                refine dq_gr wi_479_80 wf_479_252 tf_174_75 ?_
                refine rs_pure wi_479_83 rfl ?_
                refine rs_topi (v := 0) (by decide) ?_
                obtain ⟨g15, h⟩ := wp_gd h
                refine dq_iald wi_479_84 t_233 g15 ?_
                refine rs_ildn wi_479_85 l3 ?_
                refine rs_V wi_479_86 wc_479_997 rfl (dq_isa tf_174_0 wa_15_480) (by omega) (ml_le wm_480 (by omega)) rfl (sp_480 (Fr := 4 + 3 * e) (Lr := 105 + 78 * e) hw (sp_479 hw e) (by omega) (ml_sub wm_480 (by omega)) (by omega) (ml_sub wm_480 (by omega)) (wp_bind h) (fun r16 h => rs_back0 ?_))
                exact hj89 _ h _ l0 l1 l2 l3 l4
      ·
        intro x17 h lv
        exact rs_vret wi_479_95 wr_479 (hQ x17 h)
    refine rs_iflt (tg := 20) wi_479_6 ⟨by decide, by decide⟩ (fun q => ?_) (fun q => ?_)
    ·
      have h := wp_pos h q
      exact hj20 _ h _ l0 l1 l2
    ·
      have h := wp_neg h q
      refine rs_aldn wi_479_9 l0 ?_
      refine rs_ildn wi_479_10 l1 ?_
      refine rs_aldn wi_479_11 l0 ?_
      refine dq_gr wi_479_12 wf_479_155 tf_174_39 ?_
      refine rs_ildn wi_479_15 l2 ?_
      obtain ⟨g18, h⟩ := wp_gd h
      refine dq_iald wi_479_16 t_201 g18 ?_
      refine rs_V wi_479_17 wc_479_992 rfl (dq_isa tf_174_0 wa_15_479) (by omega) (ml_le wm_479 (by omega)) rfl (sp_479 hw e (by omega) (ml_sub wm_479 (by omega)) (wp_bind h) (fun r19 h => rs_back0 ?_))
      exact hj20 _ h _ l0 l1 l2
end D60
