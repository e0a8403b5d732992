/-! THE CODE AS PURE PROGRAMS, 19: by wip/whole/dc.py -/
section D60
variable {sc : Nat × (Nat → Int32)} {fm : Value}
theorem wa_15_468 : rz_cn 15 (rx_yn (rt_P sc fm) 468).cls = true := (by decide +kernel : rz_cn 15 (rt_yn 468).cls = true)
theorem wa_15_469 : rz_cn 15 (rx_yn (rt_P sc fm) 469).cls = true := (by decide +kernel : rz_cn 15 (rt_yn 469).cls = true)
theorem wa_15_470 : rz_cn 15 (rx_yn (rt_P sc fm) 470).cls = true := (by decide +kernel : rz_cn 15 (rt_yn 470).cls = true)
theorem wc_140_949 : rx_ct (rt_P sc fm) 140 949 = some (0, 468, 2) := (by decide +kernel : rt_ct 140 949 = some (0, 468, 2))
theorem wc_140_952 : rx_ct (rt_P sc fm) 140 952 = some (0, 469, 2) := (by decide +kernel : rt_ct 140 952 = some (0, 469, 2))
theorem wc_140_955 : rx_ct (rt_P sc fm) 140 955 = some (0, 470, 2) := (by decide +kernel : rt_ct 140 955 = some (0, 470, 2))
theorem wf_140_185 : rx_ft (rt_P sc fm) 140 185 = some (15, 49) := (by decide +kernel : rt_ft 140 185 = some (15, 49))
theorem wf_140_317 : rx_ft (rt_P sc fm) 140 317 = some (15, 114) := (by decide +kernel : rt_ft 140 317 = some (15, 114))
theorem wf_140_320 : rx_ft (rt_P sc fm) 140 320 = some (15, 115) := (by decide +kernel : rt_ft 140 320 = some (15, 115))
theorem wf_140_356 : rx_ft (rt_P sc fm) 140 356 = some (15, 0) := (by decide +kernel : rt_ft 140 356 = some (15, 0))
theorem wf_140_894 : rx_ft (rt_P sc fm) 140 894 = some (15, 106) := (by decide +kernel : rt_ft 140 894 = some (15, 106))
theorem wf_140_897 : rx_ft (rt_P sc fm) 140 897 = some (15, 111) := (by decide +kernel : rt_ft 140 897 = some (15, 111))
theorem wf_140_913 : rx_ft (rt_P sc fm) 140 913 = some (15, 113) := (by decide +kernel : rt_ft 140 913 = some (15, 113))
theorem wf_140_919 : rx_ft (rt_P sc fm) 140 919 = some (15, 112) := (by decide +kernel : rt_ft 140 919 = some (15, 112))
theorem wf_140_925 : rx_ft (rt_P sc fm) 140 925 = some (15, 123) := (by decide +kernel : rt_ft 140 925 = some (15, 123))
theorem wi_140_0 : ri (rt_P sc fm) 140 0 (.aload_n 0) (1) := ri_of (by decide +kernel) rfl
theorem wi_140_1 : ri (rt_P sc fm) 140 1 (.iload_n 1) (2) := ri_of (by decide +kernel) rfl
theorem wi_140_10 : ri (rt_P sc fm) 140 10 (.if_icmp .le 7) (13) := ri_of (by decide +kernel) rfl
theorem wi_140_100 : ri (rt_P sc fm) 140 100 (.invokevirtual 949) (103) := ri_of (by decide +kernel) rfl
theorem wi_140_103 : ri (rt_P sc fm) 140 103 (.ifCond .ne 11) (106) := ri_of (by decide +kernel) rfl
theorem wi_140_106 : ri (rt_P sc fm) 140 106 (.aload_n 0) (107) := ri_of (by decide +kernel) rfl
theorem wi_140_107 : ri (rt_P sc fm) 140 107 (.iconst 4) (108) := ri_of (by decide +kernel) rfl
theorem wi_140_108 : ri (rt_P sc fm) 140 108 (.putfield 897) (111) := ri_of (by decide +kernel) rfl
theorem wi_140_111 : ri (rt_P sc fm) 140 111 (.goto 59) (114) := ri_of (by decide +kernel) rfl
theorem wi_140_114 : ri (rt_P sc fm) 140 114 (.aload_n 0) (115) := ri_of (by decide +kernel) rfl
theorem wi_140_115 : ri (rt_P sc fm) 140 115 (.getfield 185) (118) := ri_of (by decide +kernel) rfl
theorem wi_140_118 : ri (rt_P sc fm) 140 118 (.iload 4) (120) := ri_of (by decide +kernel) rfl
theorem wi_140_120 : ri (rt_P sc fm) 140 120 (.iaload) (121) := ri_of (by decide +kernel) rfl
theorem wi_140_121 : ri (rt_P sc fm) 140 121 (.bipush 20) (123) := ri_of (by decide +kernel) rfl
theorem wi_140_123 : ri (rt_P sc fm) 140 123 (.if_icmp .ne 20) (126) := ri_of (by decide +kernel) rfl
theorem wi_140_126 : ri (rt_P sc fm) 140 126 (.aload_n 0) (127) := ri_of (by decide +kernel) rfl
theorem wi_140_127 : ri (rt_P sc fm) 140 127 (.getfield 913) (130) := ri_of (by decide +kernel) rfl
theorem wi_140_13 : ri (rt_P sc fm) 140 13 (.iconst 1) (14) := ri_of (by decide +kernel) rfl
theorem wi_140_130 : ri (rt_P sc fm) 140 130 (.bipush 12) (132) := ri_of (by decide +kernel) rfl
theorem wi_140_132 : ri (rt_P sc fm) 140 132 (.if_icmp .ne 11) (135) := ri_of (by decide +kernel) rfl
theorem wi_140_135 : ri (rt_P sc fm) 140 135 (.aload_n 0) (136) := ri_of (by decide +kernel) rfl
theorem wi_140_136 : ri (rt_P sc fm) 140 136 (.iconst 3) (137) := ri_of (by decide +kernel) rfl
theorem wi_140_137 : ri (rt_P sc fm) 140 137 (.putfield 897) (140) := ri_of (by decide +kernel) rfl
theorem wi_140_14 : ri (rt_P sc fm) 140 14 (.goto 16) (17) := ri_of (by decide +kernel) rfl
theorem wi_140_140 : ri (rt_P sc fm) 140 140 (.goto 30) (143) := ri_of (by decide +kernel) rfl
theorem wi_140_143 : ri (rt_P sc fm) 140 143 (.aload_n 0) (144) := ri_of (by decide +kernel) rfl
theorem wi_140_144 : ri (rt_P sc fm) 140 144 (.iload_n 3) (145) := ri_of (by decide +kernel) rfl
theorem wi_140_145 : ri (rt_P sc fm) 140 145 (.iload 4) (147) := ri_of (by decide +kernel) rfl
theorem wi_140_147 : ri (rt_P sc fm) 140 147 (.invokevirtual 952) (150) := ri_of (by decide +kernel) rfl
theorem wi_140_150 : ri (rt_P sc fm) 140 150 (.aload_n 0) (151) := ri_of (by decide +kernel) rfl
theorem wi_140_151 : ri (rt_P sc fm) 140 151 (.dup) (152) := ri_of (by decide +kernel) rfl
theorem wi_140_152 : ri (rt_P sc fm) 140 152 (.getfield 925) (155) := ri_of (by decide +kernel) rfl
theorem wi_140_155 : ri (rt_P sc fm) 140 155 (.iconst 1) (156) := ri_of (by decide +kernel) rfl
theorem wi_140_156 : ri (rt_P sc fm) 140 156 (.iadd) (157) := ri_of (by decide +kernel) rfl
theorem wi_140_157 : ri (rt_P sc fm) 140 157 (.putfield 925) (160) := ri_of (by decide +kernel) rfl
theorem wi_140_160 : ri (rt_P sc fm) 140 160 (.iinc 2 1) (163) := ri_of (by decide +kernel) rfl
theorem wi_140_163 : ri (rt_P sc fm) 140 163 (.aload_n 0) (164) := ri_of (by decide +kernel) rfl
theorem wi_140_164 : ri (rt_P sc fm) 140 164 (.iload_n 3) (165) := ri_of (by decide +kernel) rfl
theorem wi_140_165 : ri (rt_P sc fm) 140 165 (.iload 4) (167) := ri_of (by decide +kernel) rfl
theorem wi_140_167 : ri (rt_P sc fm) 140 167 (.invokevirtual 955) (170) := ri_of (by decide +kernel) rfl
theorem wi_140_17 : ri (rt_P sc fm) 140 17 (.aload_n 0) (18) := ri_of (by decide +kernel) rfl
theorem wi_140_170 : ri (rt_P sc fm) 140 170 (.goto (-126)) (173) := ri_of (by decide +kernel) rfl
theorem wi_140_173 : ri (rt_P sc fm) 140 173 (.iload_n 2) (174) := ri_of (by decide +kernel) rfl
theorem wi_140_174 : ri (rt_P sc fm) 140 174 (.ireturn) (175) := ri_of (by decide +kernel) rfl
theorem wi_140_18 : ri (rt_P sc fm) 140 18 (.getfield 897) (21) := ri_of (by decide +kernel) rfl
theorem wi_140_2 : ri (rt_P sc fm) 140 2 (.iconst 1) (3) := ri_of (by decide +kernel) rfl
theorem wi_140_21 : ri (rt_P sc fm) 140 21 (.iconst 1) (22) := ri_of (by decide +kernel) rfl
theorem wi_140_22 : ri (rt_P sc fm) 140 22 (.if_icmp .eq 7) (25) := ri_of (by decide +kernel) rfl
theorem wi_140_25 : ri (rt_P sc fm) 140 25 (.iconst 2) (26) := ri_of (by decide +kernel) rfl
theorem wi_140_26 : ri (rt_P sc fm) 140 26 (.goto 4) (29) := ri_of (by decide +kernel) rfl
theorem wi_140_29 : ri (rt_P sc fm) 140 29 (.iconst 0) (30) := ri_of (by decide +kernel) rfl
theorem wi_140_3 : ri (rt_P sc fm) 140 3 (.if_icmp .lt 10) (6) := ri_of (by decide +kernel) rfl
theorem wi_140_30 : ri (rt_P sc fm) 140 30 (.putfield 356) (33) := ri_of (by decide +kernel) rfl
theorem wi_140_33 : ri (rt_P sc fm) 140 33 (.aload_n 0) (34) := ri_of (by decide +kernel) rfl
theorem wi_140_34 : ri (rt_P sc fm) 140 34 (.getfield 356) (37) := ri_of (by decide +kernel) rfl
theorem wi_140_37 : ri (rt_P sc fm) 140 37 (.ifCond .le 5) (40) := ri_of (by decide +kernel) rfl
theorem wi_140_40 : ri (rt_P sc fm) 140 40 (.iconst 0) (41) := ri_of (by decide +kernel) rfl
theorem wi_140_41 : ri (rt_P sc fm) 140 41 (.ireturn) (42) := ri_of (by decide +kernel) rfl
theorem wi_140_42 : ri (rt_P sc fm) 140 42 (.iconst 0) (43) := ri_of (by decide +kernel) rfl
theorem wi_140_43 : ri (rt_P sc fm) 140 43 (.istore_n 2) (44) := ri_of (by decide +kernel) rfl
theorem wi_140_44 : ri (rt_P sc fm) 140 44 (.iload_n 2) (45) := ri_of (by decide +kernel) rfl
theorem wi_140_45 : ri (rt_P sc fm) 140 45 (.iload_n 1) (46) := ri_of (by decide +kernel) rfl
theorem wi_140_46 : ri (rt_P sc fm) 140 46 (.if_icmp .ge 127) (49) := ri_of (by decide +kernel) rfl
theorem wi_140_49 : ri (rt_P sc fm) 140 49 (.aload_n 0) (50) := ri_of (by decide +kernel) rfl
theorem wi_140_50 : ri (rt_P sc fm) 140 50 (.getfield 897) (53) := ri_of (by decide +kernel) rfl
theorem wi_140_53 : ri (rt_P sc fm) 140 53 (.iconst 1) (54) := ri_of (by decide +kernel) rfl
theorem wi_140_54 : ri (rt_P sc fm) 140 54 (.if_icmp .ne 119) (57) := ri_of (by decide +kernel) rfl
theorem wi_140_57 : ri (rt_P sc fm) 140 57 (.aload_n 0) (58) := ri_of (by decide +kernel) rfl
theorem wi_140_58 : ri (rt_P sc fm) 140 58 (.getfield 913) (61) := ri_of (by decide +kernel) rfl
theorem wi_140_6 : ri (rt_P sc fm) 140 6 (.iload_n 1) (7) := ri_of (by decide +kernel) rfl
theorem wi_140_61 : ri (rt_P sc fm) 140 61 (.iconst 1) (62) := ri_of (by decide +kernel) rfl
theorem wi_140_62 : ri (rt_P sc fm) 140 62 (.isub) (63) := ri_of (by decide +kernel) rfl
theorem wi_140_63 : ri (rt_P sc fm) 140 63 (.istore_n 3) (64) := ri_of (by decide +kernel) rfl
theorem wi_140_64 : ri (rt_P sc fm) 140 64 (.bipush 40) (66) := ri_of (by decide +kernel) rfl
theorem wi_140_66 : ri (rt_P sc fm) 140 66 (.aload_n 0) (67) := ri_of (by decide +kernel) rfl
theorem wi_140_67 : ri (rt_P sc fm) 140 67 (.getfield 317) (70) := ri_of (by decide +kernel) rfl
theorem wi_140_7 : ri (rt_P sc fm) 140 7 (.sipush 10000) (10) := ri_of (by decide +kernel) rfl
theorem wi_140_70 : ri (rt_P sc fm) 140 70 (.iload_n 3) (71) := ri_of (by decide +kernel) rfl
theorem wi_140_71 : ri (rt_P sc fm) 140 71 (.iaload) (72) := ri_of (by decide +kernel) rfl
theorem wi_140_72 : ri (rt_P sc fm) 140 72 (.imul) (73) := ri_of (by decide +kernel) rfl
theorem wi_140_73 : ri (rt_P sc fm) 140 73 (.aload_n 0) (74) := ri_of (by decide +kernel) rfl
theorem wi_140_74 : ri (rt_P sc fm) 140 74 (.getfield 320) (77) := ri_of (by decide +kernel) rfl
theorem wi_140_77 : ri (rt_P sc fm) 140 77 (.iload_n 3) (78) := ri_of (by decide +kernel) rfl
theorem wi_140_78 : ri (rt_P sc fm) 140 78 (.iaload) (79) := ri_of (by decide +kernel) rfl
theorem wi_140_79 : ri (rt_P sc fm) 140 79 (.iadd) (80) := ri_of (by decide +kernel) rfl
theorem wi_140_80 : ri (rt_P sc fm) 140 80 (.istore 4) (82) := ri_of (by decide +kernel) rfl
theorem wi_140_82 : ri (rt_P sc fm) 140 82 (.aload_n 0) (83) := ri_of (by decide +kernel) rfl
theorem wi_140_83 : ri (rt_P sc fm) 140 83 (.getfield 919) (86) := ri_of (by decide +kernel) rfl
theorem wi_140_86 : ri (rt_P sc fm) 140 86 (.ifCond .eq 28) (89) := ri_of (by decide +kernel) rfl
theorem wi_140_89 : ri (rt_P sc fm) 140 89 (.aload_n 0) (90) := ri_of (by decide +kernel) rfl
theorem wi_140_90 : ri (rt_P sc fm) 140 90 (.getfield 894) (93) := ri_of (by decide +kernel) rfl
theorem wi_140_93 : ri (rt_P sc fm) 140 93 (.ifCond .eq 21) (96) := ri_of (by decide +kernel) rfl
theorem wi_140_96 : ri (rt_P sc fm) 140 96 (.aload_n 0) (97) := ri_of (by decide +kernel) rfl
theorem wi_140_97 : ri (rt_P sc fm) 140 97 (.iload_n 3) (98) := ri_of (by decide +kernel) rfl
theorem wi_140_98 : ri (rt_P sc fm) 140 98 (.iload 4) (100) := ri_of (by decide +kernel) rfl
theorem wm_468 : rx_ml (rt_P sc fm) 468 = 6 := (by decide +kernel : rt_ml 468 = 6)
theorem wm_469 : rx_ml (rt_P sc fm) 469 = 7 := (by decide +kernel : rt_ml 469 = 7)
theorem wm_470 : rx_ml (rt_P sc fm) 470 = 9 := (by decide +kernel : rt_ml 470 = 9)
theorem wp_140_356 : rx_pt (rt_P sc fm) 140 356 = some (15, 0, .int) := (by decide +kernel : rt_pt 140 356 = some (15, 0, .int))
theorem wp_140_897 : rx_pt (rt_P sc fm) 140 897 = some (15, 111, .int) := (by decide +kernel : rt_pt 140 897 = some (15, 111, .int))
theorem wp_140_925 : rx_pt (rt_P sc fm) 140 925 = some (15, 123, .int) := (by decide +kernel : rt_pt 140 925 = some (15, 123, .int))
theorem wr_140 : rx_rt (rt_P sc fm) 140 = (some FieldType.int) := (by decide +kernel : rt_rt 140 = (some FieldType.int))
/-- MarkHouseModel.go(I)I -/
def d_140 (n : Nat) (a1 : Int32) (c : cS) : Option (Int32 × cS) :=
  jn (fun p1 : Int32 =>
    lt (pI c 174 0 p1) (fun c2 =>
    if (c2.1 174 0) ≤ 0 then
      Option.bind (whl (R := (Int32 × cS)) (fun s5 : Int32 × cS =>
        if a1 ≤ s5.1 then
          some (.inr (s5.1, s5.2))
        else
          if (s5.2.1 174 111) = 1 then
            lt (((s5.2.1 174 113) - 1) : Int32) (fun v7 =>
            if ib v7 12 then
            if ib v7 12 then
            lt (((40 * (s5.2.1 253 (ix v7))) + (s5.2.1 254 (ix v7))) : Int32) (fun v12 =>
            jn (fun p14 : Int32 × cS =>
              some (.inl (p14.1, p14.2)))
            (fun j170 =>
            jn (fun p15 : cS =>
              if ib v12 3840 then
              jn (fun p17 : Unit =>
                Option.bind (d_469 n v7 v12 p15) (fun r18 =>
                lt (pI r18 174 123 ((r18.1 174 123) + 1)) (fun c19 =>
                lt (s5.1 + 1 : Int32) (fun v22 =>
                Option.bind (d_470 n v7 v12 c19) (fun r24 =>
                j170 (v22, r24))))))
              (fun j143 =>
              if (p15.1 211 (ix v12)) = 20 then
                if (p15.1 174 113) = 12 then
                  lt (pI p15 174 111 3) (fun c25 =>
                  j170 (s5.1, c25))
                else
                  j143 ()
              else
                j143 ())
              else none)
            (fun j114 =>
            if (s5.2.1 174 112) = 0 then
              j114 s5.2
            else
              if (s5.2.1 174 106) = 0 then
                j114 s5.2
              else
                Option.bind (d_468 n v7 v12 s5.2) (fun r27 =>
                if r27.1 = 0 then
                  lt (pI r27.2 174 111 4) (fun c28 =>
                  j170 (s5.1, c28))
                else
                  j114 r27.2))))
            else none
            else none)
          else
            some (.inr (s5.1, s5.2))) n (0, c2))
      (fun x30 : Int32 × cS =>
        some (x30.1, x30.2))
    else
      some (0, c2)))
  (fun j30 =>
  jn (fun p31 : Unit =>
    j30 1)
  (fun j13 =>
  if a1 < 1 then
    j13 ()
  else
    if a1 ≤ 10000 then
      if (c.1 174 111) = 1 then
        j30 0
      else
        j30 2
    else
      j13 ()))
theorem sp_140 {F Lo n : Nat} {a1 : Int32} {c y : cS} {w : cW} {K : Int32 × cS → Prop} {Q : ((Option Value) ⊕ String) → List va_E → Prop} (hw : rOK fm w) (hF : 6 ≤ F) (hLo : 153 ≤ Lo)  (h : wp (d_140 n a1 c) K) (hQ : ∀ r, K r → Q (.inl (some (.int r.1))) (hq false r.2 y w)) : rs (rt_P sc fm) 140 F Lo 0 [(0, .ref 174), (1, .int a1)] [] (hq false c y w) Q := by
  unfold d_140 at h
  obtain ⟨lv, elv⟩ : ∃ lv : rx_L, lv = [(0, .ref 174), (1, .int a1)] := ⟨_, rfl⟩
  rw [← elv]
  have l0 : rx_ld lv 0 = some (.ref 174) := by rw [elv]; rfl
  have l1 : rx_ld lv 1 = some (.int a1) := by rw [elv]; rfl
  refine rs_aldn wi_140_0 l0 ?_
  refine rs_ildn wi_140_1 l1 ?_
  refine rs_pure wi_140_2 rfl ?_
  refine rs_topi (v := 1) (by decide) ?_
  refine wp_jn (B := fun p1 : Int32 => ∀ lv, rx_ld lv 0 = some (.ref 174) → rx_ld lv 1 = some (.int a1) → rs (rt_P sc fm) 140 F Lo 30 lv [.int p1, .ref 174] (hq false c y w) Q) h (fun p1 h lv l0 l1 => ?_) (fun j30 hj30 h => ?_)
  ·
    obtain ⟨c2, e3, h⟩ := wp_lt h
    refine dq_pi wi_140_30 wp_140_356 tf_174_0 rfl rfl e3 ?_
    refine rs_aldn wi_140_33 l0 ?_
    refine dq_gi wi_140_34 wf_140_356 tf_174_0 ?_
    refine rs_ifle (tg := 42) wi_140_37 ⟨by decide, by decide⟩ (fun q => ?_) (fun q => ?_)
    ·
      have h := wp_pos h q
      refine rs_pure wi_140_42 rfl ?_
      refine rs_topi (v := 0) (by decide) ?_
      refine dl_istn wi_140_43 rfl (fun lv l2 t4 => ?_)
      have l0 := t4 _ _ (by decide) (Or.inl rfl) l0
      have l1 := t4 _ _ (by decide) (Or.inl rfl) l1
      refine whl_ex (A := fun s5 : Int32 × cS => ∀ lv, rx_ld lv 0 = some (.ref 174) → rx_ld lv 1 = some (.int a1) → rx_ld lv 2 = some (.int s5.1) → rs (rt_P sc fm) 140 F Lo 44 lv [] (hq false s5.2 y w) Q) (B := (fun x30 : Int32 × cS => ∀ lv, rx_ld lv 2 = some (.int x30.1) → rs (rt_P sc fm) 140 F Lo 173 lv [] (hq false x30.2 y w) Q)) ?_ ?_ _ _ (wp_bind h) _ l0 l1 l2
      · intro s5 h lv l0 l1 l2
        refine rs_ildn wi_140_44 l2 ?_
        refine rs_ildn wi_140_45 l1 ?_
        refine rs_icge (tg := 173) wi_140_46 ⟨by decide, by decide⟩ (fun q => ?_) (fun q => ?_)
        ·
          have h := wp_pos h q
          exact h _ l2
        ·
          have h := wp_neg h q
          refine rs_aldn wi_140_49 l0 ?_
          refine dq_gi wi_140_50 wf_140_897 tf_174_111 ?_
          refine rs_pure wi_140_53 rfl ?_
          refine rs_topi (v := 1) (by decide) ?_
          refine rs_icne (tg := 173) wi_140_54 ⟨by decide, by decide⟩ (fun q => ?_) (fun q => ?_)
          ·
            have h := wp_neg h q
            exact h _ l2
          ·
            have h := wp_pos h q
            refine rs_aldn wi_140_57 l0 ?_
            refine dq_gi wi_140_58 wf_140_913 tf_174_113 ?_
            refine rs_pure wi_140_61 rfl ?_
            refine rs_topi (v := 1) (by decide) ?_
            refine rs_pure wi_140_62 rfl ?_
            obtain ⟨v7, e8, h⟩ := wp_lt h
            refine rs_topi e8 ?_
            refine dl_istn wi_140_63 rfl (fun lv l3 t6 => ?_)
            have l0 := t6 _ _ (by decide) (Or.inl rfl) l0
            have l1 := t6 _ _ (by decide) (Or.inl rfl) l1
            have l2 := t6 _ _ (by decide) (Or.inl rfl) l2
            refine rs_pure wi_140_64 rfl ?_
            refine rs_topi (v := 40) (by decide) ?_
            refine rs_aldn wi_140_66 l0 ?_
            refine dq_gr wi_140_67 wf_140_317 tf_174_114 ?_
            refine rs_ildn wi_140_70 l3 ?_
            obtain ⟨g9, h⟩ := wp_gd h
            refine dq_iald wi_140_71 t_253 g9 ?_
            refine rs_pure wi_140_72 rfl ?_
            refine rs_aldn wi_140_73 l0 ?_
            refine dq_gr wi_140_74 wf_140_320 tf_174_115 ?_
            refine rs_ildn wi_140_77 l3 ?_
            obtain ⟨g10, h⟩ := wp_gd h
            refine dq_iald wi_140_78 t_254 g10 ?_
            refine rs_pure wi_140_79 rfl ?_
            obtain ⟨v12, e13, h⟩ := wp_lt h
            refine rs_topi e13 ?_
            refine dl_ist wi_140_80 rfl (fun lv l4 t11 => ?_)
            have l0 := t11 _ _ (by decide) (Or.inl rfl) l0
            have l1 := t11 _ _ (by decide) (Or.inl rfl) l1
            have l2 := t11 _ _ (by decide) (Or.inl rfl) l2
            have l3 := t11 _ _ (by decide) (Or.inl rfl) l3
            refine rs_aldn wi_140_82 l0 ?_
            refine dq_gi wi_140_83 wf_140_919 tf_174_112 ?_
            refine wp_jn (B := fun p14 : Int32 × cS => ∀ lv, rx_ld lv 0 = some (.ref 174) → rx_ld lv 1 = some (.int a1) → rx_ld lv 2 = some (.int p14.1) → rs (rt_P sc fm) 140 F Lo 170 lv [] (hq false p14.2 y w) Q) h (fun p14 h lv l0 l1 l2 => ?_) (fun j170 hj170 h => ?_)
            ·
              refine rs_goto (tg := 44) wi_140_170 ⟨by decide, by decide⟩ ?_
              exact h _ l0 l1 l2
            refine wp_jn (B := fun p15 : cS => ∀ lv, rx_ld lv 0 = some (.ref 174) → rx_ld lv 1 = some (.int a1) → rx_ld lv 2 = some (.int s5.1) → rx_ld lv 3 = some (.int v7) → rx_ld lv 4 = some (.int v12) → rs (rt_P sc fm) 140 F Lo 114 lv [] (hq false p15 y w) Q) h (fun p15 h lv l0 l1 l2 l3 l4 => ?_) (fun j114 hj114 h => ?_)
            ·
              refine rs_aldn wi_140_114 l0 ?_
              refine dq_gr wi_140_115 wf_140_185 tf_174_49 ?_
              refine rs_ild wi_140_118 l4 ?_
              obtain ⟨g16, h⟩ := wp_gd h
              refine dq_iald wi_140_120 t_211 g16 ?_
              refine rs_pure wi_140_121 rfl ?_
              refine rs_topi (v := 20) (by decide) ?_
              refine wp_jn (B := fun p17 : Unit => ∀ lv, rx_ld lv 0 = some (.ref 174) → rx_ld lv 1 = some (.int a1) → rx_ld lv 2 = some (.int s5.1) → rx_ld lv 3 = some (.int v7) → rx_ld lv 4 = some (.int v12) → rs (rt_P sc fm) 140 F Lo 143 lv [] (hq false p15 y w) Q) h (fun p17 h lv l0 l1 l2 l3 l4 => ?_) (fun j143 hj143 h => ?_)
              ·
                refine rs_aldn wi_140_143 l0 ?_
                refine rs_ildn wi_140_144 l3 ?_
                refine rs_ild wi_140_145 l4 ?_
                refine rs_V wi_140_147 wc_140_952 rfl (dq_isa tf_174_0 wa_15_469) (Nat.le_trans (by decide) hF) (ml_le wm_469 (Nat.le_trans (by decide) hLo)) rfl (sp_469 hw (Nat.le_trans (by decide : 5 ≤ 6 - 1) (Nat.sub_le_sub_right hF 1)) (ml_sub wm_469 (Nat.le_trans (by decide : 127 ≤ 153 - 26) (Nat.sub_le_sub_right hLo 26))) (wp_bind h) (fun r18 h => rs_back0 ?_))
                refine rs_aldn wi_140_150 l0 ?_
                refine rs_pure wi_140_151 rfl ?_
                refine dq_gi wi_140_152 wf_140_925 tf_174_123 ?_
                refine rs_pure wi_140_155 rfl ?_
                refine rs_topi (v := 1) (by decide) ?_
                refine rs_pure wi_140_156 rfl ?_
                obtain ⟨c19, e20, h⟩ := wp_lt h
                refine dq_pi wi_140_157 wp_140_925 tf_174_123 rfl rfl e20 ?_
                obtain ⟨v22, e23, h⟩ := wp_lt h
                refine dl_inc wi_140_160 l2 rfl e23 (fun lv l2 t21 => ?_)
                have l0 := t21 _ _ (by decide) (Or.inl rfl) l0
                have l1 := t21 _ _ (by decide) (Or.inl rfl) l1
                have l3 := t21 _ _ (by decide) (Or.inl rfl) l3
                have l4 := t21 _ _ (by decide) (Or.inl rfl) l4
                refine rs_aldn wi_140_163 l0 ?_
                refine rs_ildn wi_140_164 l3 ?_
                refine rs_ild wi_140_165 l4 ?_
                refine rs_V wi_140_167 wc_140_955 rfl (dq_isa tf_174_0 wa_15_470) (Nat.le_trans (by decide) hF) (ml_le wm_470 (Nat.le_trans (by decide) hLo)) rfl (sp_470 hw (Nat.le_trans (by decide : 3 ≤ 6 - 1) (Nat.sub_le_sub_right hF 1)) (ml_sub wm_470 (Nat.le_trans (by decide : 71 ≤ 153 - 28) (Nat.sub_le_sub_right hLo 28))) (wp_bind h) (fun r24 h => rs_back0 ?_))
                exact hj170 _ h _ l0 l1 l2
              refine rs_icne (tg := 143) wi_140_123 ⟨by decide, by decide⟩ (fun q => ?_) (fun q => ?_)
              ·
                have h := wp_neg h q
                exact hj143 _ h _ l0 l1 l2 l3 l4
              ·
                have h := wp_pos h q
                refine rs_aldn wi_140_126 l0 ?_
                refine dq_gi wi_140_127 wf_140_913 tf_174_113 ?_
                refine rs_pure wi_140_130 rfl ?_
                refine rs_topi (v := 12) (by decide) ?_
                refine rs_icne (tg := 143) wi_140_132 ⟨by decide, by decide⟩ (fun q => ?_) (fun q => ?_)
                ·
                  have h := wp_neg h q
                  exact hj143 _ h _ l0 l1 l2 l3 l4
                ·
                  have h := wp_pos h q
                  refine rs_aldn wi_140_135 l0 ?_
                  refine rs_pure wi_140_136 rfl ?_
                  refine rs_topi (v := 3) (by decide) ?_
                  obtain ⟨c25, e26, h⟩ := wp_lt h
                  refine dq_pi wi_140_137 wp_140_897 tf_174_111 rfl rfl e26 ?_
                  refine rs_goto (tg := 170) wi_140_140 ⟨by decide, by decide⟩ ?_
                  exact hj170 _ h _ l0 l1 l2
            refine rs_ifeq (tg := 114) wi_140_86 ⟨by decide, by decide⟩ (fun q => ?_) (fun q => ?_)
            ·
              have h := wp_pos h q
              exact hj114 _ h _ l0 l1 l2 l3 l4
            ·
              have h := wp_neg h q
              refine rs_aldn wi_140_89 l0 ?_
              refine dq_gi wi_140_90 wf_140_894 tf_174_106 ?_
              refine rs_ifeq (tg := 114) wi_140_93 ⟨by decide, by decide⟩ (fun q => ?_) (fun q => ?_)
              ·
                have h := wp_pos h q
                exact hj114 _ h _ l0 l1 l2 l3 l4
              ·
                have h := wp_neg h q
                refine rs_aldn wi_140_96 l0 ?_
                refine rs_ildn wi_140_97 l3 ?_
                refine rs_ild wi_140_98 l4 ?_
                refine rs_V wi_140_100 wc_140_949 rfl (dq_isa tf_174_0 wa_15_468) (Nat.le_trans (by decide) hF) (ml_le wm_468 (Nat.le_trans (by decide) hLo)) rfl (sp_468 hw (Nat.le_trans (by decide : 2 ≤ 6 - 1) (Nat.sub_le_sub_right hF 1)) (ml_sub wm_468 (Nat.le_trans (by decide : 46 ≤ 153 - 25) (Nat.sub_le_sub_right hLo 25))) (wp_bind h) (fun r27 h => rs_back1 ?_))
                refine rs_ifne (tg := 114) wi_140_103 ⟨by decide, by decide⟩ (fun q => ?_) (fun q => ?_)
                ·
                  have h := wp_neg h q
                  exact hj114 _ h _ l0 l1 l2 l3 l4
                ·
                  have h := wp_pos h q
                  refine rs_aldn wi_140_106 l0 ?_
                  refine rs_pure wi_140_107 rfl ?_
                  refine rs_topi (v := 4) (by decide) ?_
                  obtain ⟨c28, e29, h⟩ := wp_lt h
                  refine dq_pi wi_140_108 wp_140_897 tf_174_111 rfl rfl e29 ?_
                  refine rs_goto (tg := 170) wi_140_111 ⟨by decide, by decide⟩ ?_
                  exact hj170 _ h _ l0 l1 l2
      ·
        intro x30 h lv l2
        refine rs_ildn wi_140_173 l2 ?_
        exact rs_iret wi_140_174 wr_140 rfl (hQ (x30.1, x30.2) h)
    ·
      have h := wp_neg h q
      refine rs_pure wi_140_40 rfl ?_
      refine rs_topi (v := 0) (by decide) ?_
      exact rs_iret wi_140_41 wr_140 rfl (hQ (0, c2) h)
  refine wp_jn (B := fun p31 : Unit => ∀ lv, rx_ld lv 0 = some (.ref 174) → rx_ld lv 1 = some (.int a1) → rs (rt_P sc fm) 140 F Lo 13 lv [.ref 174] (hq false c y w) Q) h (fun p31 h lv l0 l1 => ?_) (fun j13 hj13 h => ?_)
  ·
    refine rs_pure wi_140_13 rfl ?_
    refine rs_topi (v := 1) (by decide) ?_
    refine rs_goto (tg := 30) wi_140_14 ⟨by decide, by decide⟩ ?_
    exact hj30 _ h _ l0 l1
  refine rs_iclt (tg := 13) wi_140_3 ⟨by decide, by decide⟩ (fun q => ?_) (fun q => ?_)
  ·
    have h := wp_pos h q
    exact hj13 _ h _ l0 l1
  ·
    have h := wp_neg h q
    refine rs_ildn wi_140_6 l1 ?_
    refine rs_pure wi_140_7 rfl ?_
    refine rs_topi (v := 10000) (by decide) ?_
    refine rs_icle (tg := 17) wi_140_10 ⟨by decide, by decide⟩ (fun q => ?_) (fun q => ?_)
    ·
      have h := wp_pos h q
      refine rs_aldn wi_140_17 l0 ?_
      refine dq_gi wi_140_18 wf_140_897 tf_174_111 ?_
      refine rs_pure wi_140_21 rfl ?_
      refine rs_topi (v := 1) (by decide) ?_
      refine rs_iceq (tg := 29) wi_140_22 ⟨by decide, by decide⟩ (fun q => ?_) (fun q => ?_)
      ·
        have h := wp_pos h q
        refine rs_pure wi_140_29 rfl ?_
        refine rs_topi (v := 0) (by decide) ?_
        exact hj30 _ h _ l0 l1
      ·
        have h := wp_neg h q
        refine rs_pure wi_140_25 rfl ?_
        refine rs_topi (v := 2) (by decide) ?_
        refine rs_goto (tg := 30) wi_140_26 ⟨by decide, by decide⟩ ?_
        exact hj30 _ h _ l0 l1
    ·
      have h := wp_neg h q
      exact hj13 _ h _ l0 l1
theorem wc_141_661 : rx_ct (rt_P sc fm) 141 661 = some (1, 422, 1) := (by decide +kernel : rt_ct 141 661 = some (1, 422, 1))
theorem wf_141_317 : rx_ft (rt_P sc fm) 141 317 = some (15, 114) := (by decide +kernel : rt_ft 141 317 = some (15, 114))
theorem wf_141_320 : rx_ft (rt_P sc fm) 141 320 = some (15, 115) := (by decide +kernel : rt_ft 141 320 = some (15, 115))
theorem wf_141_897 : rx_ft (rt_P sc fm) 141 897 = some (15, 111) := (by decide +kernel : rt_ft 141 897 = some (15, 111))
theorem wf_141_913 : rx_ft (rt_P sc fm) 141 913 = some (15, 113) := (by decide +kernel : rt_ft 141 913 = some (15, 113))
theorem wf_141_922 : rx_ft (rt_P sc fm) 141 922 = some (15, 121) := (by decide +kernel : rt_ft 141 922 = some (15, 121))
theorem wf_141_925 : rx_ft (rt_P sc fm) 141 925 = some (15, 123) := (by decide +kernel : rt_ft 141 925 = some (15, 123))
theorem wf_141_928 : rx_ft (rt_P sc fm) 141 928 = some (15, 124) := (by decide +kernel : rt_ft 141 928 = some (15, 124))
theorem wf_141_931 : rx_ft (rt_P sc fm) 141 931 = some (15, 125) := (by decide +kernel : rt_ft 141 931 = some (15, 125))
theorem wf_141_934 : rx_ft (rt_P sc fm) 141 934 = some (15, 126) := (by decide +kernel : rt_ft 141 934 = some (15, 126))
theorem wf_141_937 : rx_ft (rt_P sc fm) 141 937 = some (15, 127) := (by decide +kernel : rt_ft 141 937 = some (15, 127))
theorem wf_141_940 : rx_ft (rt_P sc fm) 141 940 = some (15, 128) := (by decide +kernel : rt_ft 141 940 = some (15, 128))
theorem wf_141_943 : rx_ft (rt_P sc fm) 141 943 = some (15, 129) := (by decide +kernel : rt_ft 141 943 = some (15, 129))
theorem wi_141_0 : ri (rt_P sc fm) 141 0 (.aload_n 0) (1) := ri_of (by decide +kernel) rfl
theorem wi_141_1 : ri (rt_P sc fm) 141 1 (.iconst 0) (2) := ri_of (by decide +kernel) rfl
theorem wi_141_10 : ri (rt_P sc fm) 141 10 (.bipush 11) (12) := ri_of (by decide +kernel) rfl
theorem wi_141_12 : ri (rt_P sc fm) 141 12 (.if_icmp .le 5) (15) := ri_of (by decide +kernel) rfl
theorem wi_141_148 : ri (rt_P sc fm) 141 148 (.aload_n 0) (149) := ri_of (by decide +kernel) rfl
theorem wi_141_149 : ri (rt_P sc fm) 141 149 (.getfield 897) (152) := ri_of (by decide +kernel) rfl
theorem wi_141_15 : ri (rt_P sc fm) 141 15 (.iconst (-1)) (16) := ri_of (by decide +kernel) rfl
theorem wi_141_152 : ri (rt_P sc fm) 141 152 (.ireturn) (153) := ri_of (by decide +kernel) rfl
theorem wi_141_153 : ri (rt_P sc fm) 141 153 (.aload_n 0) (154) := ri_of (by decide +kernel) rfl
theorem wi_141_154 : ri (rt_P sc fm) 141 154 (.getfield 897) (157) := ri_of (by decide +kernel) rfl
theorem wi_141_157 : ri (rt_P sc fm) 141 157 (.iconst 2) (158) := ri_of (by decide +kernel) rfl
theorem wi_141_158 : ri (rt_P sc fm) 141 158 (.if_icmp .ne 10) (161) := ri_of (by decide +kernel) rfl
theorem wi_141_16 : ri (rt_P sc fm) 141 16 (.ireturn) (17) := ri_of (by decide +kernel) rfl
theorem wi_141_161 : ri (rt_P sc fm) 141 161 (.aload_n 0) (162) := ri_of (by decide +kernel) rfl
theorem wi_141_162 : ri (rt_P sc fm) 141 162 (.getfield 922) (165) := ri_of (by decide +kernel) rfl
theorem wi_141_165 : ri (rt_P sc fm) 141 165 (.goto 4) (168) := ri_of (by decide +kernel) rfl
theorem wi_141_168 : ri (rt_P sc fm) 141 168 (.iconst 0) (169) := ri_of (by decide +kernel) rfl
theorem wi_141_169 : ri (rt_P sc fm) 141 169 (.ireturn) (170) := ri_of (by decide +kernel) rfl
theorem wi_141_17 : ri (rt_P sc fm) 141 17 (.aload_n 0) (18) := ri_of (by decide +kernel) rfl
theorem wi_141_170 : ri (rt_P sc fm) 141 170 (.aload_n 0) (171) := ri_of (by decide +kernel) rfl
theorem wi_141_171 : ri (rt_P sc fm) 141 171 (.getfield 925) (174) := ri_of (by decide +kernel) rfl
theorem wi_141_174 : ri (rt_P sc fm) 141 174 (.ireturn) (175) := ri_of (by decide +kernel) rfl
theorem wi_141_175 : ri (rt_P sc fm) 141 175 (.aload_n 0) (176) := ri_of (by decide +kernel) rfl
theorem wi_141_176 : ri (rt_P sc fm) 141 176 (.getfield 317) (179) := ri_of (by decide +kernel) rfl
theorem wi_141_179 : ri (rt_P sc fm) 141 179 (.aload_n 0) (180) := ri_of (by decide +kernel) rfl
theorem wi_141_18 : ri (rt_P sc fm) 141 18 (.getfield 897) (21) := ri_of (by decide +kernel) rfl
theorem wi_141_180 : ri (rt_P sc fm) 141 180 (.getfield 913) (183) := ri_of (by decide +kernel) rfl
theorem wi_141_183 : ri (rt_P sc fm) 141 183 (.iconst 1) (184) := ri_of (by decide +kernel) rfl
theorem wi_141_184 : ri (rt_P sc fm) 141 184 (.isub) (185) := ri_of (by decide +kernel) rfl
theorem wi_141_185 : ri (rt_P sc fm) 141 185 (.iaload) (186) := ri_of (by decide +kernel) rfl
theorem wi_141_186 : ri (rt_P sc fm) 141 186 (.invokestatic 661) (189) := ri_of (by decide +kernel) rfl
theorem wi_141_189 : ri (rt_P sc fm) 141 189 (.ireturn) (190) := ri_of (by decide +kernel) rfl
theorem wi_141_190 : ri (rt_P sc fm) 141 190 (.aload_n 0) (191) := ri_of (by decide +kernel) rfl
theorem wi_141_191 : ri (rt_P sc fm) 141 191 (.getfield 320) (194) := ri_of (by decide +kernel) rfl
theorem wi_141_194 : ri (rt_P sc fm) 141 194 (.aload_n 0) (195) := ri_of (by decide +kernel) rfl
theorem wi_141_195 : ri (rt_P sc fm) 141 195 (.getfield 913) (198) := ri_of (by decide +kernel) rfl
theorem wi_141_198 : ri (rt_P sc fm) 141 198 (.iconst 1) (199) := ri_of (by decide +kernel) rfl
theorem wi_141_199 : ri (rt_P sc fm) 141 199 (.isub) (200) := ri_of (by decide +kernel) rfl
theorem wi_141_2 : ri (rt_P sc fm) 141 2 (.putfield 356) (5) := ri_of (by decide +kernel) rfl
theorem wi_141_200 : ri (rt_P sc fm) 141 200 (.iaload) (201) := ri_of (by decide +kernel) rfl
theorem wi_141_201 : ri (rt_P sc fm) 141 201 (.ireturn) (202) := ri_of (by decide +kernel) rfl
theorem wi_141_202 : ri (rt_P sc fm) 141 202 (.aload_n 0) (203) := ri_of (by decide +kernel) rfl
theorem wi_141_203 : ri (rt_P sc fm) 141 203 (.getfield 897) (206) := ri_of (by decide +kernel) rfl
theorem wi_141_206 : ri (rt_P sc fm) 141 206 (.iconst 1) (207) := ri_of (by decide +kernel) rfl
theorem wi_141_207 : ri (rt_P sc fm) 141 207 (.if_icmp .ne 10) (210) := ri_of (by decide +kernel) rfl
theorem wi_141_21 : ri (rt_P sc fm) 141 21 (.ifCond .ne 7) (24) := ri_of (by decide +kernel) rfl
theorem wi_141_210 : ri (rt_P sc fm) 141 210 (.aload_n 0) (211) := ri_of (by decide +kernel) rfl
theorem wi_141_211 : ri (rt_P sc fm) 141 211 (.getfield 913) (214) := ri_of (by decide +kernel) rfl
theorem wi_141_214 : ri (rt_P sc fm) 141 214 (.goto 4) (217) := ri_of (by decide +kernel) rfl
theorem wi_141_217 : ri (rt_P sc fm) 141 217 (.iconst 0) (218) := ri_of (by decide +kernel) rfl
theorem wi_141_218 : ri (rt_P sc fm) 141 218 (.ireturn) (219) := ri_of (by decide +kernel) rfl
theorem wi_141_219 : ri (rt_P sc fm) 141 219 (.aload_n 0) (220) := ri_of (by decide +kernel) rfl
theorem wi_141_220 : ri (rt_P sc fm) 141 220 (.getfield 928) (223) := ri_of (by decide +kernel) rfl
theorem wi_141_223 : ri (rt_P sc fm) 141 223 (.ireturn) (224) := ri_of (by decide +kernel) rfl
theorem wi_141_224 : ri (rt_P sc fm) 141 224 (.aload_n 0) (225) := ri_of (by decide +kernel) rfl
theorem wi_141_225 : ri (rt_P sc fm) 141 225 (.getfield 940) (228) := ri_of (by decide +kernel) rfl
theorem wi_141_228 : ri (rt_P sc fm) 141 228 (.ireturn) (229) := ri_of (by decide +kernel) rfl
theorem wi_141_229 : ri (rt_P sc fm) 141 229 (.aload_n 0) (230) := ri_of (by decide +kernel) rfl
theorem wi_141_230 : ri (rt_P sc fm) 141 230 (.getfield 943) (233) := ri_of (by decide +kernel) rfl
theorem wi_141_233 : ri (rt_P sc fm) 141 233 (.ireturn) (234) := ri_of (by decide +kernel) rfl
theorem wi_141_24 : ri (rt_P sc fm) 141 24 (.iconst 1) (25) := ri_of (by decide +kernel) rfl
theorem wi_141_25 : ri (rt_P sc fm) 141 25 (.goto 4) (28) := ri_of (by decide +kernel) rfl
theorem wi_141_28 : ri (rt_P sc fm) 141 28 (.iconst 0) (29) := ri_of (by decide +kernel) rfl
theorem wi_141_29 : ri (rt_P sc fm) 141 29 (.istore_n 2) (30) := ri_of (by decide +kernel) rfl
theorem wi_141_30 : ri (rt_P sc fm) 141 30 (.iload_n 1) (31) := ri_of (by decide +kernel) rfl
theorem wi_141_31 : ri (rt_P sc fm) 141 31 (.bipush 7) (33) := ri_of (by decide +kernel) rfl
theorem wi_141_33 : ri (rt_P sc fm) 141 33 (.if_icmp .lt 48) (36) := ri_of (by decide +kernel) rfl
theorem wi_141_36 : ri (rt_P sc fm) 141 36 (.iload_n 1) (37) := ri_of (by decide +kernel) rfl
theorem wi_141_37 : ri (rt_P sc fm) 141 37 (.bipush 9) (39) := ri_of (by decide +kernel) rfl
theorem wi_141_39 : ri (rt_P sc fm) 141 39 (.if_icmp .gt 42) (42) := ri_of (by decide +kernel) rfl
theorem wi_141_42 : ri (rt_P sc fm) 141 42 (.iload_n 2) (43) := ri_of (by decide +kernel) rfl
theorem wi_141_43 : ri (rt_P sc fm) 141 43 (.ifCond .eq 7) (46) := ri_of (by decide +kernel) rfl
theorem wi_141_46 : ri (rt_P sc fm) 141 46 (.iconst (-1)) (47) := ri_of (by decide +kernel) rfl
theorem wi_141_47 : ri (rt_P sc fm) 141 47 (.goto 33) (50) := ri_of (by decide +kernel) rfl
theorem wi_141_5 : ri (rt_P sc fm) 141 5 (.iload_n 1) (6) := ri_of (by decide +kernel) rfl
theorem wi_141_50 : ri (rt_P sc fm) 141 50 (.iload_n 1) (51) := ri_of (by decide +kernel) rfl
theorem wi_141_51 : ri (rt_P sc fm) 141 51 (.bipush 7) (53) := ri_of (by decide +kernel) rfl
theorem wi_141_53 : ri (rt_P sc fm) 141 53 (.if_icmp .ne 10) (56) := ri_of (by decide +kernel) rfl
theorem wi_141_56 : ri (rt_P sc fm) 141 56 (.aload_n 0) (57) := ri_of (by decide +kernel) rfl
theorem wi_141_57 : ri (rt_P sc fm) 141 57 (.getfield 931) (60) := ri_of (by decide +kernel) rfl
theorem wi_141_6 : ri (rt_P sc fm) 141 6 (.ifCond .lt 9) (9) := ri_of (by decide +kernel) rfl
theorem wi_141_60 : ri (rt_P sc fm) 141 60 (.goto 20) (63) := ri_of (by decide +kernel) rfl
theorem wi_141_63 : ri (rt_P sc fm) 141 63 (.iload_n 1) (64) := ri_of (by decide +kernel) rfl
theorem wi_141_64 : ri (rt_P sc fm) 141 64 (.bipush 8) (66) := ri_of (by decide +kernel) rfl
theorem wi_141_66 : ri (rt_P sc fm) 141 66 (.if_icmp .ne 10) (69) := ri_of (by decide +kernel) rfl
theorem wi_141_69 : ri (rt_P sc fm) 141 69 (.aload_n 0) (70) := ri_of (by decide +kernel) rfl
theorem wi_141_70 : ri (rt_P sc fm) 141 70 (.getfield 934) (73) := ri_of (by decide +kernel) rfl
theorem wi_141_73 : ri (rt_P sc fm) 141 73 (.goto 7) (76) := ri_of (by decide +kernel) rfl
theorem wi_141_76 : ri (rt_P sc fm) 141 76 (.aload_n 0) (77) := ri_of (by decide +kernel) rfl
theorem wi_141_77 : ri (rt_P sc fm) 141 77 (.getfield 937) (80) := ri_of (by decide +kernel) rfl
theorem wi_141_80 : ri (rt_P sc fm) 141 80 (.ireturn) (81) := ri_of (by decide +kernel) rfl
theorem wi_141_81 : ri (rt_P sc fm) 141 81 (.iload_n 2) (82) := ri_of (by decide +kernel) rfl
theorem wi_141_82 : ri (rt_P sc fm) 141 82 (.ifCond .eq 5) (85) := ri_of (by decide +kernel) rfl
theorem wi_141_85 : ri (rt_P sc fm) 141 85 (.iconst 0) (86) := ri_of (by decide +kernel) rfl
theorem wi_141_86 : ri (rt_P sc fm) 141 86 (.ireturn) (87) := ri_of (by decide +kernel) rfl
theorem wi_141_87 : ri (rt_P sc fm) 141 87 (.iload_n 1) (88) := ri_of (by decide +kernel) rfl
theorem wi_141_88 : ri (rt_P sc fm) 141 88 (.tableswitch 141 0 10 #[60, 65, 82, 87, 102, 114, 131, 141, 141, 141, 136]) (88 + rx_len (.tableswitch 141 0 10 #[60, 65, 82, 87, 102, 114, 131, 141, 141, 141, 136])) := ri_of (by decide +kernel) rfl
theorem wi_141_9 : ri (rt_P sc fm) 141 9 (.iload_n 1) (10) := ri_of (by decide +kernel) rfl
theorem wp_141_356 : rx_pt (rt_P sc fm) 141 356 = some (15, 0, .int) := (by decide +kernel : rt_pt 141 356 = some (15, 0, .int))
theorem wr_141 : rx_rt (rt_P sc fm) 141 = (some FieldType.int) := (by decide +kernel : rt_rt 141 = (some FieldType.int))
/-- MarkHouseModel.run(I)I -/
def d_141 (n : Nat) (a1 : Int32) (c : cS) : Option (Int32 × cS) :=
  lt (pI c 174 0 0) (fun c1 =>
  jn (fun p3 : Unit =>
    some ((-1), c1))
  (fun j15 =>
  if a1 < 0 then
    j15 ()
  else
    if a1 ≤ 11 then
      jn (fun p4 : Int32 =>
        jn (fun p6 : Unit =>
          if p4 = 0 then
            jn (fun p7 : Unit =>
              some ((c1.1 174 129), c1))
            (fun j229 =>
            if a1 = 0 then
              some ((c1.1 174 111), c1)
            else
            if a1 = 1 then
              jn (fun p10 : Int32 =>
                some (p10, c1))
              (fun j169 =>
              if (c1.1 174 111) = 2 then
                j169 (c1.1 174 121)
              else
                j169 0)
            else
            if a1 = 2 then
              some ((c1.1 174 123), c1)
            else
            if a1 = 3 then
              if ib ((c1.1 174 113) - 1) 12 then
              Option.bind (d_422 n (c1.1 253 (ix ((c1.1 174 113) - 1)))) (fun v14 =>
              some (v14, c1))
              else none
            else
            if a1 = 4 then
              if ib ((c1.1 174 113) - 1) 12 then
              some ((c1.1 254 (ix ((c1.1 174 113) - 1))), c1)
              else none
            else
            if a1 = 5 then
              jn (fun p18 : Int32 =>
                some (p18, c1))
              (fun j218 =>
              if (c1.1 174 111) = 1 then
                j218 (c1.1 174 113)
              else
                j218 0)
            else
            if a1 = 6 then
              some ((c1.1 174 124), c1)
            else
            if a1 = 7 then
              j229 ()
            else
            if a1 = 8 then
              j229 ()
            else
            if a1 = 9 then
              j229 ()
            else
            if a1 = 10 then
              some ((c1.1 174 128), c1)
            else
            j229 ())
          else
            some (0, c1))
        (fun j81 =>
        if a1 < 7 then
          j81 ()
        else
          if 9 < a1 then
            j81 ()
          else
            jn (fun p24 : Int32 =>
              some (p24, c1))
            (fun j80 =>
            if p4 = 0 then
              if a1 = 7 then
                j80 (c1.1 174 125)
              else
                if a1 = 8 then
                  j80 (c1.1 174 126)
                else
                  j80 (c1.1 174 127)
            else
              j80 (-1))))
      (fun j29 =>
      if (c1.1 174 111) = 0 then
        j29 1
      else
        j29 0)
    else
      j15 ()))
theorem sp_141 {F Lo n : Nat} {a1 : Int32} {c y : cS} {w : cW} {K : Int32 × cS → Prop} {Q : ((Option Value) ⊕ String) → List va_E → Prop} (hw : rOK fm w) (hF : 1 ≤ F) (hLo : 20 ≤ Lo)  (h : wp (d_141 n a1 c) K) (hQ : ∀ r, K r → Q (.inl (some (.int r.1))) (hq false r.2 y w)) : rs (rt_P sc fm) 141 F Lo 0 [(0, .ref 174), (1, .int a1)] [] (hq false c y w) Q := by
  unfold d_141 at h
  obtain ⟨lv, elv⟩ : ∃ lv : rx_L, lv = [(0, .ref 174), (1, .int a1)] := ⟨_, rfl⟩
  rw [← elv]
  have l0 : rx_ld lv 0 = some (.ref 174) := by rw [elv]; rfl
  have l1 : rx_ld lv 1 = some (.int a1) := by rw [elv]; rfl
  refine rs_aldn wi_141_0 l0 ?_
  refine rs_pure wi_141_1 rfl ?_
  refine rs_topi (v := 0) (by decide) ?_
  obtain ⟨c1, e2, h⟩ := wp_lt h
  refine dq_pi wi_141_2 wp_141_356 tf_174_0 rfl rfl e2 ?_
  refine rs_ildn wi_141_5 l1 ?_
  refine wp_jn (B := fun p3 : Unit => ∀ lv, rs (rt_P sc fm) 141 F Lo 15 lv [] (hq false c1 y w) Q) h (fun p3 h lv => ?_) (fun j15 hj15 h => ?_)
  ·
    refine rs_pure wi_141_15 rfl ?_
    refine rs_topi (v := (-1)) (by decide) ?_
    exact rs_iret wi_141_16 wr_141 rfl (hQ ((-1), c1) h)
  refine rs_iflt (tg := 15) wi_141_6 ⟨by decide, by decide⟩ (fun q => ?_) (fun q => ?_)
  ·
    have h := wp_pos h q
    exact hj15 _ h _
  ·
    have h := wp_neg h q
    refine rs_ildn wi_141_9 l1 ?_
    refine rs_pure wi_141_10 rfl ?_
    refine rs_topi (v := 11) (by decide) ?_
    refine rs_icle (tg := 17) wi_141_12 ⟨by decide, by decide⟩ (fun q => ?_) (fun q => ?_)
    ·
      have h := wp_pos h q
      refine rs_aldn wi_141_17 l0 ?_
      refine dq_gi wi_141_18 wf_141_897 tf_174_111 ?_
      refine wp_jn (B := fun p4 : Int32 => ∀ lv, rx_ld lv 0 = some (.ref 174) → rx_ld lv 1 = some (.int a1) → rs (rt_P sc fm) 141 F Lo 29 lv [.int p4] (hq false c1 y w) Q) h (fun p4 h lv l0 l1 => ?_) (fun j29 hj29 h => ?_)
      ·
        refine dl_istn wi_141_29 rfl (fun lv l2 t5 => ?_)
        have l0 := t5 _ _ (by decide) (Or.inl rfl) l0
        have l1 := t5 _ _ (by decide) (Or.inl rfl) l1
        refine rs_ildn wi_141_30 l1 ?_
        refine rs_pure wi_141_31 rfl ?_
        refine rs_topi (v := 7) (by decide) ?_
        refine wp_jn (B := fun p6 : Unit => ∀ lv, rx_ld lv 0 = some (.ref 174) → rx_ld lv 1 = some (.int a1) → rx_ld lv 2 = some (.int p4) → rs (rt_P sc fm) 141 F Lo 81 lv [] (hq false c1 y w) Q) h (fun p6 h lv l0 l1 l2 => ?_) (fun j81 hj81 h => ?_)
        ·
          refine rs_ildn wi_141_81 l2 ?_
          refine rs_ifeq (tg := 87) wi_141_82 ⟨by decide, by decide⟩ (fun q => ?_) (fun q => ?_)
          ·
            have h := wp_pos h q
            refine rs_ildn wi_141_87 l1 ?_
            refine wp_jn (B := fun p7 : Unit => ∀ lv, rx_ld lv 0 = some (.ref 174) → rs (rt_P sc fm) 141 F Lo 229 lv [] (hq false c1 y w) Q) h (fun p7 h lv l0 => ?_) (fun j229 hj229 h => ?_)
            ·
              refine rs_aldn wi_141_229 l0 ?_
              refine dq_gi wi_141_230 wf_141_943 tf_174_129 ?_
              exact rs_iret wi_141_233 wr_141 rfl (hQ ((c1.1 174 129), c1) h)
            by_cases q8 : a1 = 0
            ·
              have h := wp_pos h q8
              refine rs_tsk (tg := 148) (off := 60) (v := 0) wi_141_88 q8 (by decide) (by decide) ⟨by decide, by decide⟩ ?_
              refine rs_aldn wi_141_148 l0 ?_
              refine dq_gi wi_141_149 wf_141_897 tf_174_111 ?_
              exact rs_iret wi_141_152 wr_141 rfl (hQ ((c1.1 174 111), c1) h)
            have h := wp_neg h q8
            by_cases q9 : a1 = 1
            ·
              have h := wp_pos h q9
              refine rs_tsk (tg := 153) (off := 65) (v := 1) wi_141_88 q9 (by decide) (by decide) ⟨by decide, by decide⟩ ?_
              refine rs_aldn wi_141_153 l0 ?_
              refine dq_gi wi_141_154 wf_141_897 tf_174_111 ?_
              refine rs_pure wi_141_157 rfl ?_
              refine rs_topi (v := 2) (by decide) ?_
              refine wp_jn (B := fun p10 : Int32 => ∀ lv, rs (rt_P sc fm) 141 F Lo 169 lv [.int p10] (hq false c1 y w) Q) h (fun p10 h lv => ?_) (fun j169 hj169 h => ?_)
              ·
                exact rs_iret wi_141_169 wr_141 rfl (hQ (p10, c1) h)
              refine rs_icne (tg := 168) wi_141_158 ⟨by decide, by decide⟩ (fun q => ?_) (fun q => ?_)
              ·
                have h := wp_neg h q
                refine rs_pure wi_141_168 rfl ?_
                refine rs_topi (v := 0) (by decide) ?_
                exact hj169 _ h _
              ·
                have h := wp_pos h q
                refine rs_aldn wi_141_161 l0 ?_
                refine dq_gi wi_141_162 wf_141_922 tf_174_121 ?_
                refine rs_goto (tg := 169) wi_141_165 ⟨by decide, by decide⟩ ?_
                exact hj169 _ h _
            have h := wp_neg h q9
            by_cases q11 : a1 = 2
            ·
              have h := wp_pos h q11
              refine rs_tsk (tg := 170) (off := 82) (v := 2) wi_141_88 q11 (by decide) (by decide) ⟨by decide, by decide⟩ ?_
              refine rs_aldn wi_141_170 l0 ?_
              refine dq_gi wi_141_171 wf_141_925 tf_174_123 ?_
              exact rs_iret wi_141_174 wr_141 rfl (hQ ((c1.1 174 123), c1) h)
            have h := wp_neg h q11
            by_cases q12 : a1 = 3
            ·
              have h := wp_pos h q12
              refine rs_tsk (tg := 175) (off := 87) (v := 3) wi_141_88 q12 (by decide) (by decide) ⟨by decide, by decide⟩ ?_
              refine rs_aldn wi_141_175 l0 ?_
              refine dq_gr wi_141_176 wf_141_317 tf_174_114 ?_
              refine rs_aldn wi_141_179 l0 ?_
              refine dq_gi wi_141_180 wf_141_913 tf_174_113 ?_
              refine rs_pure wi_141_183 rfl ?_
              refine rs_topi (v := 1) (by decide) ?_
              refine rs_pure wi_141_184 rfl ?_
              obtain ⟨g13, h⟩ := wp_gd h
              refine dq_iald wi_141_185 t_253 g13 ?_
              refine rs_S wi_141_186 wc_141_661 (Or.inl rfl) rfl (Nat.le_trans (by decide) hF) (ml_le wm_422 (Nat.le_trans (by decide) hLo)) rfl (sp_422 (Nat.le_trans (by decide : 0 ≤ 1 - 1) (Nat.sub_le_sub_right hF 1)) (ml_sub wm_422 (Nat.le_trans (by decide : 0 ≤ 20 - 20) (Nat.sub_le_sub_right hLo 20))) (wp_bind h) (fun v14 h => rs_back1 ?_))
              exact rs_iret wi_141_189 wr_141 rfl (hQ (v14, c1) h)
            have h := wp_neg h q12
            by_cases q15 : a1 = 4
            ·
              have h := wp_pos h q15
              refine rs_tsk (tg := 190) (off := 102) (v := 4) wi_141_88 q15 (by decide) (by decide) ⟨by decide, by decide⟩ ?_
              refine rs_aldn wi_141_190 l0 ?_
              refine dq_gr wi_141_191 wf_141_320 tf_174_115 ?_
              refine rs_aldn wi_141_194 l0 ?_
              refine dq_gi wi_141_195 wf_141_913 tf_174_113 ?_
              refine rs_pure wi_141_198 rfl ?_
              refine rs_topi (v := 1) (by decide) ?_
              refine rs_pure wi_141_199 rfl ?_
              obtain ⟨g16, h⟩ := wp_gd h
              refine dq_iald wi_141_200 t_254 g16 ?_
              exact rs_iret wi_141_201 wr_141 rfl (hQ ((c1.1 254 (ix ((c1.1 174 113) - 1))), c1) h)
            have h := wp_neg h q15
            by_cases q17 : a1 = 5
            ·
              have h := wp_pos h q17
              refine rs_tsk (tg := 202) (off := 114) (v := 5) wi_141_88 q17 (by decide) (by decide) ⟨by decide, by decide⟩ ?_
              refine rs_aldn wi_141_202 l0 ?_
              refine dq_gi wi_141_203 wf_141_897 tf_174_111 ?_
              refine rs_pure wi_141_206 rfl ?_
              refine rs_topi (v := 1) (by decide) ?_
              refine wp_jn (B := fun p18 : Int32 => ∀ lv, rs (rt_P sc fm) 141 F Lo 218 lv [.int p18] (hq false c1 y w) Q) h (fun p18 h lv => ?_) (fun j218 hj218 h => ?_)
              ·
                exact rs_iret wi_141_218 wr_141 rfl (hQ (p18, c1) h)
              refine rs_icne (tg := 217) wi_141_207 ⟨by decide, by decide⟩ (fun q => ?_) (fun q => ?_)
              ·
                have h := wp_neg h q
                refine rs_pure wi_141_217 rfl ?_
                refine rs_topi (v := 0) (by decide) ?_
                exact hj218 _ h _
              ·
                have h := wp_pos h q
                refine rs_aldn wi_141_210 l0 ?_
                refine dq_gi wi_141_211 wf_141_913 tf_174_113 ?_
                refine rs_goto (tg := 218) wi_141_214 ⟨by decide, by decide⟩ ?_
                exact hj218 _ h _
            have h := wp_neg h q17
            by_cases q19 : a1 = 6
            ·
              have h := wp_pos h q19
              refine rs_tsk (tg := 219) (off := 131) (v := 6) wi_141_88 q19 (by decide) (by decide) ⟨by decide, by decide⟩ ?_
              refine rs_aldn wi_141_219 l0 ?_
              refine dq_gi wi_141_220 wf_141_928 tf_174_124 ?_
              exact rs_iret wi_141_223 wr_141 rfl (hQ ((c1.1 174 124), c1) h)
            have h := wp_neg h q19
            by_cases q20 : a1 = 7
            ·
              have h := wp_pos h q20
              refine rs_tsk (tg := 229) (off := 141) (v := 7) wi_141_88 q20 (by decide) (by decide) ⟨by decide, by decide⟩ ?_
              exact hj229 _ h _ l0
            have h := wp_neg h q20
            by_cases q21 : a1 = 8
            ·
              have h := wp_pos h q21
              refine rs_tsk (tg := 229) (off := 141) (v := 8) wi_141_88 q21 (by decide) (by decide) ⟨by decide, by decide⟩ ?_
              exact hj229 _ h _ l0
            have h := wp_neg h q21
            by_cases q22 : a1 = 9
            ·
              have h := wp_pos h q22
              refine rs_tsk (tg := 229) (off := 141) (v := 9) wi_141_88 q22 (by decide) (by decide) ⟨by decide, by decide⟩ ?_
              exact hj229 _ h _ l0
            have h := wp_neg h q22
            by_cases q23 : a1 = 10
            ·
              have h := wp_pos h q23
              refine rs_tsk (tg := 224) (off := 136) (v := 10) wi_141_88 q23 (by decide) (by decide) ⟨by decide, by decide⟩ ?_
              refine rs_aldn wi_141_224 l0 ?_
              refine dq_gi wi_141_225 wf_141_940 tf_174_128 ?_
              exact rs_iret wi_141_228 wr_141 rfl (hQ ((c1.1 174 128), c1) h)
            have h := wp_neg h q23
            refine rs_tsd (tg := 229) wi_141_88 (rz_sw fun k k1 k2 => by
              have kk : k = 0 ∨ k = 1 ∨ k = 2 ∨ k = 3 ∨ k = 4 ∨ k = 5 ∨ k = 6 ∨ k = 7 ∨ k = 8 ∨ k = 9 ∨ k = 10 := by omega
              rcases kk with rfl | rfl | rfl | rfl | rfl | rfl | rfl | rfl | rfl | rfl | rfl
              · exact q8
              · exact q9
              · exact q11
              · exact q12
              · exact q15
              · exact q17
              · exact q19
              · exact q20
              · exact q21
              · exact q22
              · exact q23
              ) ⟨by decide, by decide⟩ ?_
            exact hj229 _ h _ l0
          ·
            have h := wp_neg h q
            refine rs_pure wi_141_85 rfl ?_
            refine rs_topi (v := 0) (by decide) ?_
            exact rs_iret wi_141_86 wr_141 rfl (hQ (0, c1) h)
        refine rs_iclt (tg := 81) wi_141_33 ⟨by decide, by decide⟩ (fun q => ?_) (fun q => ?_)
        ·
          have h := wp_pos h q
          exact hj81 _ h _ l0 l1 l2
        ·
          have h := wp_neg h q
          refine rs_ildn wi_141_36 l1 ?_
          refine rs_pure wi_141_37 rfl ?_
          refine rs_topi (v := 9) (by decide) ?_
          refine rs_icgt (tg := 81) wi_141_39 ⟨by decide, by decide⟩ (fun q => ?_) (fun q => ?_)
          ·
            have h := wp_pos h q
            exact hj81 _ h _ l0 l1 l2
          ·
            have h := wp_neg h q
            refine rs_ildn wi_141_42 l2 ?_
            refine wp_jn (B := fun p24 : Int32 => ∀ lv, rs (rt_P sc fm) 141 F Lo 80 lv [.int p24] (hq false c1 y w) Q) h (fun p24 h lv => ?_) (fun j80 hj80 h => ?_)
            ·
              exact rs_iret wi_141_80 wr_141 rfl (hQ (p24, c1) h)
            refine rs_ifeq (tg := 50) wi_141_43 ⟨by decide, by decide⟩ (fun q => ?_) (fun q => ?_)
            ·
              have h := wp_pos h q
              refine rs_ildn wi_141_50 l1 ?_
              refine rs_pure wi_141_51 rfl ?_
              refine rs_topi (v := 7) (by decide) ?_
              refine rs_icne (tg := 63) wi_141_53 ⟨by decide, by decide⟩ (fun q => ?_) (fun q => ?_)
              ·
                have h := wp_neg h q
                refine rs_ildn wi_141_63 l1 ?_
                refine rs_pure wi_141_64 rfl ?_
                refine rs_topi (v := 8) (by decide) ?_
                refine rs_icne (tg := 76) wi_141_66 ⟨by decide, by decide⟩ (fun q => ?_) (fun q => ?_)
                ·
                  have h := wp_neg h q
                  refine rs_aldn wi_141_76 l0 ?_
                  refine dq_gi wi_141_77 wf_141_937 tf_174_127 ?_
                  exact hj80 _ h _
                ·
                  have h := wp_pos h q
                  refine rs_aldn wi_141_69 l0 ?_
                  refine dq_gi wi_141_70 wf_141_934 tf_174_126 ?_
                  refine rs_goto (tg := 80) wi_141_73 ⟨by decide, by decide⟩ ?_
                  exact hj80 _ h _
              ·
                have h := wp_pos h q
                refine rs_aldn wi_141_56 l0 ?_
                refine dq_gi wi_141_57 wf_141_931 tf_174_125 ?_
                refine rs_goto (tg := 80) wi_141_60 ⟨by decide, by decide⟩ ?_
                exact hj80 _ h _
            ·
              have h := wp_neg h q
              refine rs_pure wi_141_46 rfl ?_
              refine rs_topi (v := (-1)) (by decide) ?_
              refine rs_goto (tg := 80) wi_141_47 ⟨by decide, by decide⟩ ?_
              exact hj80 _ h _
      refine rs_ifne (tg := 28) wi_141_21 ⟨by decide, by decide⟩ (fun q => ?_) (fun q => ?_)
      ·
        have h := wp_neg h q
        refine rs_pure wi_141_28 rfl ?_
        refine rs_topi (v := 0) (by decide) ?_
        exact hj29 _ h _ l0 l1
      ·
        have h := wp_pos h q
        refine rs_pure wi_141_24 rfl ?_
        refine rs_topi (v := 1) (by decide) ?_
        refine rs_goto (tg := 29) wi_141_25 ⟨by decide, by decide⟩ ?_
        exact hj29 _ h _ l0 l1
    ·
      have h := wp_neg h q
      exact hj15 _ h _
theorem wc_142_724 : rx_ct (rt_P sc fm) 142 724 = some (0, 119, 1) := (by decide +kernel : rt_ct 142 724 = some (0, 119, 1))
theorem wf_142_338 : rx_ft (rt_P sc fm) 142 338 = some (15, 122) := (by decide +kernel : rt_ft 142 338 = some (15, 122))
theorem wf_142_897 : rx_ft (rt_P sc fm) 142 897 = some (15, 111) := (by decide +kernel : rt_ft 142 897 = some (15, 111))
theorem wi_142_0 : ri (rt_P sc fm) 142 0 (.aload_n 0) (1) := ri_of (by decide +kernel) rfl
theorem wi_142_1 : ri (rt_P sc fm) 142 1 (.iconst 0) (2) := ri_of (by decide +kernel) rfl
theorem wi_142_10 : ri (rt_P sc fm) 142 10 (.ifCond .eq 20) (13) := ri_of (by decide +kernel) rfl
theorem wi_142_13 : ri (rt_P sc fm) 142 13 (.aload_n 0) (14) := ri_of (by decide +kernel) rfl
theorem wi_142_14 : ri (rt_P sc fm) 142 14 (.getfield 897) (17) := ri_of (by decide +kernel) rfl
theorem wi_142_17 : ri (rt_P sc fm) 142 17 (.iconst 2) (18) := ri_of (by decide +kernel) rfl
theorem wi_142_18 : ri (rt_P sc fm) 142 18 (.if_icmp .ne 12) (21) := ri_of (by decide +kernel) rfl
theorem wi_142_2 : ri (rt_P sc fm) 142 2 (.putfield 356) (5) := ri_of (by decide +kernel) rfl
theorem wi_142_21 : ri (rt_P sc fm) 142 21 (.aload_n 0) (22) := ri_of (by decide +kernel) rfl
theorem wi_142_22 : ri (rt_P sc fm) 142 22 (.getfield 338) (25) := ri_of (by decide +kernel) rfl
theorem wi_142_25 : ri (rt_P sc fm) 142 25 (.iload_n 1) (26) := ri_of (by decide +kernel) rfl
theorem wi_142_26 : ri (rt_P sc fm) 142 26 (.iaload) (27) := ri_of (by decide +kernel) rfl
theorem wi_142_27 : ri (rt_P sc fm) 142 27 (.goto 4) (30) := ri_of (by decide +kernel) rfl
theorem wi_142_30 : ri (rt_P sc fm) 142 30 (.iconst (-1)) (31) := ri_of (by decide +kernel) rfl
theorem wi_142_31 : ri (rt_P sc fm) 142 31 (.ireturn) (32) := ri_of (by decide +kernel) rfl
theorem wi_142_5 : ri (rt_P sc fm) 142 5 (.aload_n 0) (6) := ri_of (by decide +kernel) rfl
theorem wi_142_6 : ri (rt_P sc fm) 142 6 (.iload_n 1) (7) := ri_of (by decide +kernel) rfl
theorem wi_142_7 : ri (rt_P sc fm) 142 7 (.invokevirtual 724) (10) := ri_of (by decide +kernel) rfl
theorem wp_142_356 : rx_pt (rt_P sc fm) 142 356 = some (15, 0, .int) := (by decide +kernel : rt_pt 142 356 = some (15, 0, .int))
theorem wr_142 : rx_rt (rt_P sc fm) 142 = (some FieldType.int) := (by decide +kernel : rt_rt 142 = (some FieldType.int))
/-- MarkHouseModel.truth(I)I -/
def d_142 (n : Nat) (a1 : Int32) (c : cS) : Option (Int32 × cS) :=
  lt (pI c 174 0 0) (fun c1 =>
  Option.bind (d_119 n a1 c1) (fun v3 =>
  jn (fun p4 : Int32 =>
    some (p4, c1))
  (fun j31 =>
  jn (fun p5 : Unit =>
    j31 (-1))
  (fun j30 =>
  if v3 = 0 then
    j30 ()
  else
    if (c1.1 174 111) = 2 then
      if ib a1 4 then
      j31 (c1.1 260 (ix a1))
      else none
    else
      j30 ()))))
theorem sp_142 {F Lo n : Nat} {a1 : Int32} {c y : cS} {w : cW} {K : Int32 × cS → Prop} {Q : ((Option Value) ⊕ String) → List va_E → Prop} (hw : rOK fm w) (hF : 1 ≤ F) (hLo : 21 ≤ Lo)  (h : wp (d_142 n a1 c) K) (hQ : ∀ r, K r → Q (.inl (some (.int r.1))) (hq false r.2 y w)) : rs (rt_P sc fm) 142 F Lo 0 [(0, .ref 174), (1, .int a1)] [] (hq false c y w) Q := by
  unfold d_142 at h
  obtain ⟨lv, elv⟩ : ∃ lv : rx_L, lv = [(0, .ref 174), (1, .int a1)] := ⟨_, rfl⟩
  rw [← elv]
  have l0 : rx_ld lv 0 = some (.ref 174) := by rw [elv]; rfl
  have l1 : rx_ld lv 1 = some (.int a1) := by rw [elv]; rfl
  refine rs_aldn wi_142_0 l0 ?_
  refine rs_pure wi_142_1 rfl ?_
  refine rs_topi (v := 0) (by decide) ?_
  obtain ⟨c1, e2, h⟩ := wp_lt h
  refine dq_pi wi_142_2 wp_142_356 tf_174_0 rfl rfl e2 ?_
  refine rs_aldn wi_142_5 l0 ?_
  refine rs_ildn wi_142_6 l1 ?_
  refine rs_V wi_142_7 wc_142_724 rfl (dq_isa tf_174_0 wa_15_119) (Nat.le_trans (by decide) hF) (ml_le wm_119 (Nat.le_trans (by decide) hLo)) rfl (sp_119 hw (Nat.le_trans (by decide : 0 ≤ 1 - 1) (Nat.sub_le_sub_right hF 1)) (ml_sub wm_119 (Nat.le_trans (by decide : 0 ≤ 21 - 21) (Nat.sub_le_sub_right hLo 21))) (wp_bind h) (fun v3 h => rs_back1 ?_))
  refine wp_jn (B := fun p4 : Int32 => ∀ lv, rs (rt_P sc fm) 142 F Lo 31 lv [.int p4] (hq false c1 y w) Q) h (fun p4 h lv => ?_) (fun j31 hj31 h => ?_)
  ·
    exact rs_iret wi_142_31 wr_142 rfl (hQ (p4, c1) h)
  refine wp_jn (B := fun p5 : Unit => ∀ lv, rs (rt_P sc fm) 142 F Lo 30 lv [] (hq false c1 y w) Q) h (fun p5 h lv => ?_) (fun j30 hj30 h => ?_)
  ·
    refine rs_pure wi_142_30 rfl ?_
    refine rs_topi (v := (-1)) (by decide) ?_
    exact hj31 _ h _
  refine rs_ifeq (tg := 30) wi_142_10 ⟨by decide, by decide⟩ (fun q => ?_) (fun q => ?_)
  ·
    have h := wp_pos h q
    exact hj30 _ h _
  ·
    have h := wp_neg h q
    refine rs_aldn wi_142_13 l0 ?_
    refine dq_gi wi_142_14 wf_142_897 tf_174_111 ?_
    refine rs_pure wi_142_17 rfl ?_
    refine rs_topi (v := 2) (by decide) ?_
    refine rs_icne (tg := 30) wi_142_18 ⟨by decide, by decide⟩ (fun q => ?_) (fun q => ?_)
    ·
      have h := wp_neg h q
      exact hj30 _ h _
    ·
      have h := wp_pos h q
      refine rs_aldn wi_142_21 l0 ?_
      refine dq_gr wi_142_22 wf_142_338 tf_174_122 ?_
      refine rs_ildn wi_142_25 l1 ?_
      obtain ⟨g6, h⟩ := wp_gd h
      refine dq_iald wi_142_26 t_260 g6 ?_
      refine rs_goto (tg := 31) wi_142_27 ⟨by decide, by decide⟩ ?_
      exact hj31 _ h _
theorem wc_474_568 : rx_ct (rt_P sc fm) 474 568 = some (0, 378, 2) := (by decide +kernel : rt_ct 474 568 = some (0, 378, 2))
theorem wc_474_706 : rx_ct (rt_P sc fm) 474 706 = some (0, 429, 3) := (by decide +kernel : rt_ct 474 706 = some (0, 429, 3))
theorem wf_474_697 : rx_ft (rt_P sc fm) 474 697 = some (15, 79) := (by decide +kernel : rt_ft 474 697 = some (15, 79))
theorem wi_474_0 : ri (rt_P sc fm) 474 0 (.aload_n 0) (1) := ri_of (by decide +kernel) rfl
theorem wi_474_1 : ri (rt_P sc fm) 474 1 (.iload_n 2) (2) := ri_of (by decide +kernel) rfl
theorem wi_474_10 : ri (rt_P sc fm) 474 10 (.ifCond .lt 22) (13) := ri_of (by decide +kernel) rfl
theorem wi_474_13 : ri (rt_P sc fm) 474 13 (.aload_n 0) (14) := ri_of (by decide +kernel) rfl
theorem wi_474_14 : ri (rt_P sc fm) 474 14 (.iload_n 1) (15) := ri_of (by decide +kernel) rfl
theorem wi_474_15 : ri (rt_P sc fm) 474 15 (.iload_n 2) (16) := ri_of (by decide +kernel) rfl
theorem wi_474_16 : ri (rt_P sc fm) 474 16 (.iload 5) (18) := ri_of (by decide +kernel) rfl
theorem wi_474_18 : ri (rt_P sc fm) 474 18 (.invokevirtual 706) (21) := ri_of (by decide +kernel) rfl
theorem wi_474_2 : ri (rt_P sc fm) 474 2 (.lload_n 3) (3) := ri_of (by decide +kernel) rfl
theorem wi_474_21 : ri (rt_P sc fm) 474 21 (.iconst 2) (22) := ri_of (by decide +kernel) rfl
theorem wi_474_22 : ri (rt_P sc fm) 474 22 (.if_icmp .ne 10) (25) := ri_of (by decide +kernel) rfl
theorem wi_474_25 : ri (rt_P sc fm) 474 25 (.aload_n 0) (26) := ri_of (by decide +kernel) rfl
theorem wi_474_26 : ri (rt_P sc fm) 474 26 (.getfield 697) (29) := ri_of (by decide +kernel) rfl
theorem wi_474_29 : ri (rt_P sc fm) 474 29 (.goto 4) (32) := ri_of (by decide +kernel) rfl
theorem wi_474_3 : ri (rt_P sc fm) 474 3 (.invokevirtual 568) (6) := ri_of (by decide +kernel) rfl
theorem wi_474_32 : ri (rt_P sc fm) 474 32 (.lconst 0) (33) := ri_of (by decide +kernel) rfl
theorem wi_474_33 : ri (rt_P sc fm) 474 33 (.lreturn) (34) := ri_of (by decide +kernel) rfl
theorem wi_474_6 : ri (rt_P sc fm) 474 6 (.istore 5) (8) := ri_of (by decide +kernel) rfl
theorem wi_474_8 : ri (rt_P sc fm) 474 8 (.iload 5) (10) := ri_of (by decide +kernel) rfl
theorem wr_474 : rx_rt (rt_P sc fm) 474 = (some FieldType.long) := (by decide +kernel : rt_rt 474 = (some FieldType.long))
/-- MarkHouseModel.textOf(IIJ)J -/
def d_474 (n : Nat) (a1 : Int32) (a2 : Int32) (a3 : Int64) (c : cS) : Option (Int64 × cS) :=
  Option.bind (d_378 n a2 a3 c) (fun v1 =>
  jn (fun p3 : Int64 × cS =>
    some (p3.1, p3.2))
  (fun j33 =>
  jn (fun p4 : cS =>
    j33 (0, p4))
  (fun j32 =>
  if v1 < 0 then
    j32 c
  else
    Option.bind (d_429 n a1 a2 v1 c) (fun r5 =>
    if r5.1 = 2 then
      j33 ((r5.2.2 174 79), r5.2)
    else
      j32 r5.2))))
theorem sp_474 {F Lo n : Nat} {a1 : Int32} {a2 : Int32} {a3 : Int64} {c y : cS} {w : cW} {K : Int64 × cS → Prop} {Q : ((Option Value) ⊕ String) → List va_E → Prop} (hw : rOK fm w) (hF : 1 ≤ F) (hLo : 26 ≤ Lo)  (h : wp (d_474 n a1 a2 a3 c) K) (hQ : ∀ r, K r → Q (.inl (some (.long r.1))) (hq false r.2 y w)) : rs (rt_P sc fm) 474 F Lo 0 [(0, .ref 174), (1, .int a1), (2, .int a2), (3, .long a3)] [] (hq false c y w) Q := by
  unfold d_474 at h
  obtain ⟨lv, elv⟩ : ∃ lv : rx_L, lv = [(0, .ref 174), (1, .int a1), (2, .int a2), (3, .long a3)] := ⟨_, rfl⟩
  rw [← elv]
  have l0 : rx_ld lv 0 = some (.ref 174) := by rw [elv]; rfl
  have l1 : rx_ld lv 1 = some (.int a1) := by rw [elv]; rfl
  have l2 : rx_ld lv 2 = some (.int a2) := by rw [elv]; rfl
  have l3 : rx_ld lv 3 = some (.long a3) := by rw [elv]; rfl
  refine rs_aldn wi_474_0 l0 ?_
  refine rs_ildn wi_474_1 l2 ?_
  refine rs_lldn wi_474_2 l3 ?_
  refine rs_V wi_474_3 wc_474_568 rfl (dq_isa tf_174_0 wa_15_378) (Nat.le_trans (by decide) hF) (ml_le wm_378 (Nat.le_trans (by decide) hLo)) rfl (sp_378 hw (Nat.le_trans (by decide : 0 ≤ 1 - 1) (Nat.sub_le_sub_right hF 1)) (ml_sub wm_378 (Nat.le_trans (by decide : 0 ≤ 26 - 24) (Nat.sub_le_sub_right hLo 24))) (wp_bind h) (fun v1 h => rs_back1 ?_))
  refine dl_ist wi_474_6 rfl (fun lv l5 t2 => ?_)
  have l0 := t2 _ _ (by decide) (Or.inl rfl) l0
  have l1 := t2 _ _ (by decide) (Or.inl rfl) l1
  have l2 := t2 _ _ (by decide) (Or.inl rfl) l2
  refine rs_ild wi_474_8 l5 ?_
  refine wp_jn (B := fun p3 : Int64 × cS => ∀ lv, rs (rt_P sc fm) 474 F Lo 33 lv [.long p3.1] (hq false p3.2 y w) Q) h (fun p3 h lv => ?_) (fun j33 hj33 h => ?_)
  ·
    exact rs_lret wi_474_33 wr_474 (hQ (p3.1, p3.2) h)
  refine wp_jn (B := fun p4 : cS => ∀ lv, rs (rt_P sc fm) 474 F Lo 32 lv [] (hq false p4 y w) Q) h (fun p4 h lv => ?_) (fun j32 hj32 h => ?_)
  ·
    refine rs_pure wi_474_32 rfl ?_
    refine rs_topl (v := 0) (by decide) ?_
    exact hj33 _ h _
  refine rs_iflt (tg := 32) wi_474_10 ⟨by decide, by decide⟩ (fun q => ?_) (fun q => ?_)
  ·
    have h := wp_pos h q
    exact hj32 _ h _
  ·
    have h := wp_neg h q
    refine rs_aldn wi_474_13 l0 ?_
    refine rs_ildn wi_474_14 l1 ?_
    refine rs_ildn wi_474_15 l2 ?_
    refine rs_ild wi_474_16 l5 ?_
    refine rs_V wi_474_18 wc_474_706 rfl (dq_isa tf_174_0 wa_15_429) (Nat.le_trans (by decide) hF) (ml_le wm_429 (Nat.le_trans (by decide) hLo)) rfl (sp_429 hw (Nat.le_trans (by decide : 0 ≤ 1 - 1) (Nat.sub_le_sub_right hF 1)) (ml_sub wm_429 (Nat.le_trans (by decide : 0 ≤ 26 - 26) (Nat.sub_le_sub_right hLo 26))) (wp_bind h) (fun r5 h => rs_back1 ?_))
    refine rs_pure wi_474_21 rfl ?_
    refine rs_topi (v := 2) (by decide) ?_
    refine rs_icne (tg := 32) wi_474_22 ⟨by decide, by decide⟩ (fun q => ?_) (fun q => ?_)
    ·
      have h := wp_neg h q
      exact hj32 _ h _
    ·
      have h := wp_pos h q
      refine rs_aldn wi_474_25 l0 ?_
      refine dq_gl wi_474_26 wf_474_697 tf_174_79 ?_
      refine rs_goto (tg := 33) wi_474_29 ⟨by decide, by decide⟩ ?_
      exact hj33 _ h _
theorem t_261 : ta false 261 0 12 := ⟨rfl, by decide, by decide⟩
theorem t_262 : ta false 262 3 12 := ⟨rfl, by decide, by decide⟩
theorem t_263 : ta false 263 3 12 := ⟨rfl, by decide, by decide⟩
theorem tf_174_131 : fo false 174 15 131 (.int 0) := ⟨_, rfl, rfl, by decide, by decide⟩
theorem tf_174_134 : fo false 174 15 134 (.int 0) := ⟨_, rfl, rfl, by decide, by decide⟩
theorem tf_174_135 : fo false 174 15 135 (.ref 261) := ⟨_, rfl, rfl, by decide, by decide⟩
theorem tf_174_136 : fo false 174 15 136 (.ref 262) := ⟨_, rfl, rfl, by decide, by decide⟩
theorem tf_174_137 : fo false 174 15 137 (.ref 263) := ⟨_, rfl, rfl, by decide, by decide⟩
theorem wa_15_479 : rz_cn 15 (rx_yn (rt_P sc fm) 479).cls = true := (by decide +kernel : rz_cn 15 (rt_yn 479).cls = true)
theorem wc_478_992 : rx_ct (rt_P sc fm) 478 992 = some (0, 479, 2) := (by decide +kernel : rt_ct 478 992 = some (0, 479, 2))
theorem wf_478_341 : rx_ft (rt_P sc fm) 478 341 = some (15, 135) := (by decide +kernel : rt_ft 478 341 = some (15, 135))
theorem wf_478_344 : rx_ft (rt_P sc fm) 478 344 = some (15, 136) := (by decide +kernel : rt_ft 478 344 = some (15, 136))
theorem wf_478_347 : rx_ft (rt_P sc fm) 478 347 = some (15, 137) := (by decide +kernel : rt_ft 478 347 = some (15, 137))
theorem wf_478_969 : rx_ft (rt_P sc fm) 478 969 = some (15, 131) := (by decide +kernel : rt_ft 478 969 = some (15, 131))
theorem wf_478_978 : rx_ft (rt_P sc fm) 478 978 = some (15, 134) := (by decide +kernel : rt_ft 478 978 = some (15, 134))
theorem wi_478_0 : ri (rt_P sc fm) 478 0 (.aload_n 0) (1) := ri_of (by decide +kernel) rfl
theorem wi_478_1 : ri (rt_P sc fm) 478 1 (.getfield 347) (4) := ri_of (by decide +kernel) rfl
theorem wi_478_10 : ri (rt_P sc fm) 478 10 (.invokevirtual 992) (13) := ri_of (by decide +kernel) rfl
theorem wi_478_13 : ri (rt_P sc fm) 478 13 (.aload_n 0) (14) := ri_of (by decide +kernel) rfl
theorem wi_478_14 : ri (rt_P sc fm) 478 14 (.getfield 969) (17) := ri_of (by decide +kernel) rfl
theorem wi_478_17 : ri (rt_P sc fm) 478 17 (.ifCond .le 4) (20) := ri_of (by decide +kernel) rfl
theorem wi_478_20 : ri (rt_P sc fm) 478 20 (.return_) (21) := ri_of (by decide +kernel) rfl
theorem wi_478_21 : ri (rt_P sc fm) 478 21 (.aload_n 0) (22) := ri_of (by decide +kernel) rfl
theorem wi_478_22 : ri (rt_P sc fm) 478 22 (.getfield 347) (25) := ri_of (by decide +kernel) rfl
theorem wi_478_25 : ri (rt_P sc fm) 478 25 (.iload_n 1) (26) := ri_of (by decide +kernel) rfl
theorem wi_478_26 : ri (rt_P sc fm) 478 26 (.iconst 0) (27) := ri_of (by decide +kernel) rfl
theorem wi_478_27 : ri (rt_P sc fm) 478 27 (.bastore) (28) := ri_of (by decide +kernel) rfl
theorem wi_478_28 : ri (rt_P sc fm) 478 28 (.aload_n 0) (29) := ri_of (by decide +kernel) rfl
theorem wi_478_29 : ri (rt_P sc fm) 478 29 (.getfield 344) (32) := ri_of (by decide +kernel) rfl
theorem wi_478_32 : ri (rt_P sc fm) 478 32 (.iload_n 1) (33) := ri_of (by decide +kernel) rfl
theorem wi_478_33 : ri (rt_P sc fm) 478 33 (.iconst 1) (34) := ri_of (by decide +kernel) rfl
theorem wi_478_34 : ri (rt_P sc fm) 478 34 (.bastore) (35) := ri_of (by decide +kernel) rfl
theorem wi_478_35 : ri (rt_P sc fm) 478 35 (.aload_n 0) (36) := ri_of (by decide +kernel) rfl
theorem wi_478_36 : ri (rt_P sc fm) 478 36 (.getfield 341) (39) := ri_of (by decide +kernel) rfl
theorem wi_478_39 : ri (rt_P sc fm) 478 39 (.aload_n 0) (40) := ri_of (by decide +kernel) rfl
theorem wi_478_4 : ri (rt_P sc fm) 478 4 (.iload_n 1) (5) := ri_of (by decide +kernel) rfl
theorem wi_478_40 : ri (rt_P sc fm) 478 40 (.getfield 978) (43) := ri_of (by decide +kernel) rfl
theorem wi_478_43 : ri (rt_P sc fm) 478 43 (.iload_n 1) (44) := ri_of (by decide +kernel) rfl
theorem wi_478_44 : ri (rt_P sc fm) 478 44 (.iastore) (45) := ri_of (by decide +kernel) rfl
theorem wi_478_45 : ri (rt_P sc fm) 478 45 (.aload_n 0) (46) := ri_of (by decide +kernel) rfl
theorem wi_478_46 : ri (rt_P sc fm) 478 46 (.dup) (47) := ri_of (by decide +kernel) rfl
theorem wi_478_47 : ri (rt_P sc fm) 478 47 (.getfield 978) (50) := ri_of (by decide +kernel) rfl
theorem wi_478_5 : ri (rt_P sc fm) 478 5 (.iconst 1) (6) := ri_of (by decide +kernel) rfl
theorem wi_478_50 : ri (rt_P sc fm) 478 50 (.iconst 1) (51) := ri_of (by decide +kernel) rfl
theorem wi_478_51 : ri (rt_P sc fm) 478 51 (.iadd) (52) := ri_of (by decide +kernel) rfl
theorem wi_478_52 : ri (rt_P sc fm) 478 52 (.putfield 978) (55) := ri_of (by decide +kernel) rfl
theorem wi_478_55 : ri (rt_P sc fm) 478 55 (.return_) (56) := ri_of (by decide +kernel) rfl
theorem wi_478_6 : ri (rt_P sc fm) 478 6 (.bastore) (7) := ri_of (by decide +kernel) rfl
theorem wi_478_7 : ri (rt_P sc fm) 478 7 (.aload_n 0) (8) := ri_of (by decide +kernel) rfl
theorem wi_478_8 : ri (rt_P sc fm) 478 8 (.iload_n 1) (9) := ri_of (by decide +kernel) rfl
theorem wi_478_9 : ri (rt_P sc fm) 478 9 (.iload_n 1) (10) := ri_of (by decide +kernel) rfl
theorem wm_479 : rx_ml (rt_P sc fm) 479 = 6 := (by decide +kernel : rt_ml 479 = 6)
theorem wp_478_978 : rx_pt (rt_P sc fm) 478 978 = some (15, 134, .int) := (by decide +kernel : rt_pt 478 978 = some (15, 134, .int))
theorem wr_478 : rx_rt (rt_P sc fm) 478 = none := (by decide +kernel : rt_rt 478 = none)
/-- MarkHouseModel.make(I)V -/
def d_478 (rec : Int32 → Int32 → cS → Option (cS)) (n : Nat) (a1 : Int32) (c : cS) : Option (cS) :=
  if ib a1 12 then
  lt (pI c 263 (ix a1) (vp_nar .boolean 1)) (fun c2 =>
  Option.bind (rec a1 a1 c2) (fun r4 =>
  if (r4.1 174 131) ≤ 0 then
    if ib a1 12 then
    lt (pI r4 263 (ix a1) (vp_nar .boolean 0)) (fun c6 =>
    if ib a1 12 then
    lt (pI c6 262 (ix a1) (vp_nar .boolean 1)) (fun c9 =>
    if ib (c9.1 174 134) 12 then
    lt (pI c9 261 (ix (c9.1 174 134)) a1) (fun c12 =>
    lt (pI c12 174 134 ((c12.1 174 134) + 1)) (fun c14 =>
    some c14))
    else none)
    else none)
    else none
  else
    some r4))
  else none
theorem sp_478 {rec : Int32 → Int32 → cS → Option (cS)} {Fr Lr F Lo n : Nat} {a1 : Int32} {c y : cS} {w : cW} {K : cS → Prop} {Q : ((Option Value) ⊕ String) → List va_E → Prop} (hw : rOK fm w) (hrec : ∀ {F Lo : Nat} {a1 : Int32} {a2 : Int32} {c : cS} {K : cS → Prop} {Q : ((Option Value) ⊕ String) → List va_E → Prop}, Fr ≤ F → Lr ≤ Lo → wp (rec a1 a2 c) K → (∀ r, K r → Q (.inl none) (hq false r y w)) → rs (rt_P sc fm) 479 F Lo 0 [(0, .ref 174), (1, .int a1), (2, .int a2)] [] (hq false c y w) Q) (hF : 0 ≤ F) (hLo : 0 ≤ Lo) (hFr : Fr + 1 ≤ F) (hLr : Lr + 25 ≤ Lo) (h : wp (d_478 rec n a1 c) K) (hQ : ∀ r, K r → Q (.inl none) (hq false r y w)) : rs (rt_P sc fm) 478 F Lo 0 [(0, .ref 174), (1, .int a1)] [] (hq false c y w) Q := by
  unfold d_478 at h
  obtain ⟨lv, elv⟩ : ∃ lv : rx_L, lv = [(0, .ref 174), (1, .int a1)] := ⟨_, rfl⟩
  rw [← elv]
  have l0 : rx_ld lv 0 = some (.ref 174) := by rw [elv]; rfl
  have l1 : rx_ld lv 1 = some (.int a1) := by rw [elv]; rfl
  refine rs_aldn wi_478_0 l0 ?_
  refine dq_gr wi_478_1 wf_478_347 tf_174_137 ?_
  refine rs_ildn wi_478_4 l1 ?_
  refine rs_pure wi_478_5 rfl ?_
  refine rs_topi (v := 1) (by decide) ?_
  obtain ⟨g1, h⟩ := wp_gd h
  obtain ⟨c2, e3, h⟩ := wp_lt h
  refine dq_zast wi_478_6 t_263 g1 e3 ?_
  refine rs_aldn wi_478_7 l0 ?_
  refine rs_ildn wi_478_8 l1 ?_
  refine rs_ildn wi_478_9 l1 ?_
  refine rs_V wi_478_10 wc_478_992 rfl (dq_isa tf_174_0 wa_15_479) (by omega) (ml_le wm_479 (by omega)) rfl (hrec (by omega) (ml_sub wm_479 (by omega)) (wp_bind h) (fun r4 h => rs_back0 ?_))
  refine rs_aldn wi_478_13 l0 ?_
  refine dq_gi wi_478_14 wf_478_969 tf_174_131 ?_
  refine rs_ifle (tg := 21) wi_478_17 ⟨by decide, by decide⟩ (fun q => ?_) (fun q => ?_)
  ·
    have h := wp_pos h q
    refine rs_aldn wi_478_21 l0 ?_
    refine dq_gr wi_478_22 wf_478_347 tf_174_137 ?_
    refine rs_ildn wi_478_25 l1 ?_
    refine rs_pure wi_478_26 rfl ?_
    refine rs_topi (v := 0) (by decide) ?_
    obtain ⟨g5, h⟩ := wp_gd h
    obtain ⟨c6, e7, h⟩ := wp_lt h
    refine dq_zast wi_478_27 t_263 g5 e7 ?_
    refine rs_aldn wi_478_28 l0 ?_
    refine dq_gr wi_478_29 wf_478_344 tf_174_136 ?_
    refine rs_ildn wi_478_32 l1 ?_
    refine rs_pure wi_478_33 rfl ?_
    refine rs_topi (v := 1) (by decide) ?_
    obtain ⟨g8, h⟩ := wp_gd h
    obtain ⟨c9, e10, h⟩ := wp_lt h
    refine dq_zast wi_478_34 t_262 g8 e10 ?_
    refine rs_aldn wi_478_35 l0 ?_
    refine dq_gr wi_478_36 wf_478_341 tf_174_135 ?_
    refine rs_aldn wi_478_39 l0 ?_
    refine dq_gi wi_478_40 wf_478_978 tf_174_134 ?_
    refine rs_ildn wi_478_43 l1 ?_
    obtain ⟨g11, h⟩ := wp_gd h
    obtain ⟨c12, e13, h⟩ := wp_lt h
    refine dq_iast wi_478_44 t_261 g11 e13 ?_
    refine rs_aldn wi_478_45 l0 ?_
    refine rs_pure wi_478_46 rfl ?_
    refine dq_gi wi_478_47 wf_478_978 tf_174_134 ?_
    refine rs_pure wi_478_50 rfl ?_
    refine rs_topi (v := 1) (by decide) ?_
    refine rs_pure wi_478_51 rfl ?_
    obtain ⟨c14, e15, h⟩ := wp_lt h
    refine dq_pi wi_478_52 wp_478_978 tf_174_134 rfl rfl e15 ?_
    exact rs_vret wi_478_55 wr_478 (hQ c14 h)
  ·
    have h := wp_neg h q
    exact rs_vret wi_478_20 wr_478 (hQ r4 h)
theorem t_264 : ta false 264 3 12 := ⟨rfl, by decide, by decide⟩
theorem t_265 : ta false 265 1 12 := ⟨rfl, by decide, by decide⟩
theorem tf_174_132 : fo false 174 15 132 (.int 0) := ⟨_, rfl, rfl, by decide, by decide⟩
theorem tf_174_133 : fo false 174 15 133 (.int 0) := ⟨_, rfl, rfl, by decide, by decide⟩
theorem tf_174_138 : fo false 174 15 138 (.ref 264) := ⟨_, rfl, rfl, by decide, by decide⟩
theorem tf_174_139 : fo false 174 15 139 (.ref 265) := ⟨_, rfl, rfl, by decide, by decide⟩
theorem wa_15_474 : rz_cn 15 (rx_yn (rt_P sc fm) 474).cls = true := (by decide +kernel : rz_cn 15 (rt_yn 474).cls = true)
theorem wa_15_478 : rz_cn 15 (rx_yn (rt_P sc fm) 478).cls = true := (by decide +kernel : rz_cn 15 (rt_yn 478).cls = true)
theorem wc_143_462 : rx_ct (rt_P sc fm) 143 462 = some (0, 373, 1) := (by decide +kernel : rt_ct 143 462 = some (0, 373, 1))
theorem wc_143_712 : rx_ct (rt_P sc fm) 143 712 = some (0, 428, 2) := (by decide +kernel : rt_ct 143 712 = some (0, 428, 2))
theorem wc_143_985 : rx_ct (rt_P sc fm) 143 985 = some (0, 474, 3) := (by decide +kernel : rt_ct 143 985 = some (0, 474, 3))
theorem wc_143_989 : rx_ct (rt_P sc fm) 143 989 = some (0, 478, 1) := (by decide +kernel : rt_ct 143 989 = some (0, 478, 1))
theorem wf_143_252 : rx_ft (rt_P sc fm) 143 252 = some (15, 75) := (by decide +kernel : rt_ft 143 252 = some (15, 75))
theorem wf_143_344 : rx_ft (rt_P sc fm) 143 344 = some (15, 136) := (by decide +kernel : rt_ft 143 344 = some (15, 136))
theorem wf_143_347 : rx_ft (rt_P sc fm) 143 347 = some (15, 137) := (by decide +kernel : rt_ft 143 347 = some (15, 137))
theorem wf_143_350 : rx_ft (rt_P sc fm) 143 350 = some (15, 138) := (by decide +kernel : rt_ft 143 350 = some (15, 138))
theorem wf_143_353 : rx_ft (rt_P sc fm) 143 353 = some (15, 139) := (by decide +kernel : rt_ft 143 353 = some (15, 139))
theorem wf_143_456 : rx_ft (rt_P sc fm) 143 456 = some (15, 37) := (by decide +kernel : rt_ft 143 456 = some (15, 37))
theorem wf_143_634 : rx_ft (rt_P sc fm) 143 634 = some (15, 14) := (by decide +kernel : rt_ft 143 634 = some (15, 14))
theorem wf_143_678 : rx_ft (rt_P sc fm) 143 678 = some (15, 74) := (by decide +kernel : rt_ft 143 678 = some (15, 74))
theorem wf_143_969 : rx_ft (rt_P sc fm) 143 969 = some (15, 131) := (by decide +kernel : rt_ft 143 969 = some (15, 131))
theorem wi_143_0 : ri (rt_P sc fm) 143 0 (.aload_n 0) (1) := ri_of (by decide +kernel) rfl
theorem wi_143_1 : ri (rt_P sc fm) 143 1 (.iconst 0) (2) := ri_of (by decide +kernel) rfl
theorem wi_143_100 : ri (rt_P sc fm) 143 100 (.getfield 678) (103) := ri_of (by decide +kernel) rfl
theorem wi_143_103 : ri (rt_P sc fm) 143 103 (.ifCond .le 7) (106) := ri_of (by decide +kernel) rfl
theorem wi_143_106 : ri (rt_P sc fm) 143 106 (.iconst 1) (107) := ri_of (by decide +kernel) rfl
theorem wi_143_107 : ri (rt_P sc fm) 143 107 (.goto 4) (110) := ri_of (by decide +kernel) rfl
theorem wi_143_110 : ri (rt_P sc fm) 143 110 (.iconst 0) (111) := ri_of (by decide +kernel) rfl
theorem wi_143_111 : ri (rt_P sc fm) 143 111 (.bastore) (112) := ri_of (by decide +kernel) rfl
theorem wi_143_112 : ri (rt_P sc fm) 143 112 (.aload_n 0) (113) := ri_of (by decide +kernel) rfl
theorem wi_143_113 : ri (rt_P sc fm) 143 113 (.getfield 353) (116) := ri_of (by decide +kernel) rfl
theorem wi_143_116 : ri (rt_P sc fm) 143 116 (.iload_n 2) (117) := ri_of (by decide +kernel) rfl
theorem wi_143_117 : ri (rt_P sc fm) 143 117 (.aload_n 0) (118) := ri_of (by decide +kernel) rfl
theorem wi_143_118 : ri (rt_P sc fm) 143 118 (.getfield 678) (121) := ri_of (by decide +kernel) rfl
theorem wi_143_12 : ri (rt_P sc fm) 143 12 (.iconst (-1)) (13) := ri_of (by decide +kernel) rfl
theorem wi_143_121 : ri (rt_P sc fm) 143 121 (.ifCond .le 20) (124) := ri_of (by decide +kernel) rfl
theorem wi_143_124 : ri (rt_P sc fm) 143 124 (.aload_n 0) (125) := ri_of (by decide +kernel) rfl
theorem wi_143_125 : ri (rt_P sc fm) 143 125 (.aload_n 0) (126) := ri_of (by decide +kernel) rfl
theorem wi_143_126 : ri (rt_P sc fm) 143 126 (.getfield 252) (129) := ri_of (by decide +kernel) rfl
theorem wi_143_129 : ri (rt_P sc fm) 143 129 (.iconst 0) (130) := ri_of (by decide +kernel) rfl
theorem wi_143_13 : ri (rt_P sc fm) 143 13 (.ireturn) (14) := ri_of (by decide +kernel) rfl
theorem wi_143_130 : ri (rt_P sc fm) 143 130 (.iaload) (131) := ri_of (by decide +kernel) rfl
theorem wi_143_131 : ri (rt_P sc fm) 143 131 (.iload_n 1) (132) := ri_of (by decide +kernel) rfl
theorem wi_143_132 : ri (rt_P sc fm) 143 132 (.ldc2_w 983) (135) := ri_of (by decide +kernel) rfl
theorem wi_143_135 : ri (rt_P sc fm) 143 135 (.invokevirtual 985) (138) := ri_of (by decide +kernel) rfl
theorem wi_143_138 : ri (rt_P sc fm) 143 138 (.goto 4) (141) := ri_of (by decide +kernel) rfl
theorem wi_143_14 : ri (rt_P sc fm) 143 14 (.aload_n 0) (15) := ri_of (by decide +kernel) rfl
theorem wi_143_141 : ri (rt_P sc fm) 143 141 (.lconst 0) (142) := ri_of (by decide +kernel) rfl
theorem wi_143_142 : ri (rt_P sc fm) 143 142 (.lastore) (143) := ri_of (by decide +kernel) rfl
theorem wi_143_143 : ri (rt_P sc fm) 143 143 (.iinc 2 1) (146) := ri_of (by decide +kernel) rfl
theorem wi_143_146 : ri (rt_P sc fm) 143 146 (.goto (-97)) (149) := ri_of (by decide +kernel) rfl
theorem wi_143_149 : ri (rt_P sc fm) 143 149 (.iconst 0) (150) := ri_of (by decide +kernel) rfl
theorem wi_143_15 : ri (rt_P sc fm) 143 15 (.iconst 1) (16) := ri_of (by decide +kernel) rfl
theorem wi_143_150 : ri (rt_P sc fm) 143 150 (.istore_n 2) (151) := ri_of (by decide +kernel) rfl
theorem wi_143_151 : ri (rt_P sc fm) 143 151 (.iload_n 2) (152) := ri_of (by decide +kernel) rfl
theorem wi_143_152 : ri (rt_P sc fm) 143 152 (.aload_n 0) (153) := ri_of (by decide +kernel) rfl
theorem wi_143_153 : ri (rt_P sc fm) 143 153 (.getfield 456) (156) := ri_of (by decide +kernel) rfl
theorem wi_143_156 : ri (rt_P sc fm) 143 156 (.if_icmp .ge 39) (159) := ri_of (by decide +kernel) rfl
theorem wi_143_159 : ri (rt_P sc fm) 143 159 (.aload_n 0) (160) := ri_of (by decide +kernel) rfl
theorem wi_143_16 : ri (rt_P sc fm) 143 16 (.putfield 900) (19) := ri_of (by decide +kernel) rfl
theorem wi_143_160 : ri (rt_P sc fm) 143 160 (.getfield 969) (163) := ri_of (by decide +kernel) rfl
theorem wi_143_163 : ri (rt_P sc fm) 143 163 (.ifCond .ne 32) (166) := ri_of (by decide +kernel) rfl
theorem wi_143_166 : ri (rt_P sc fm) 143 166 (.aload_n 0) (167) := ri_of (by decide +kernel) rfl
theorem wi_143_167 : ri (rt_P sc fm) 143 167 (.getfield 350) (170) := ri_of (by decide +kernel) rfl
theorem wi_143_170 : ri (rt_P sc fm) 143 170 (.iload_n 2) (171) := ri_of (by decide +kernel) rfl
theorem wi_143_171 : ri (rt_P sc fm) 143 171 (.baload) (172) := ri_of (by decide +kernel) rfl
theorem wi_143_172 : ri (rt_P sc fm) 143 172 (.ifCond .eq 17) (175) := ri_of (by decide +kernel) rfl
theorem wi_143_175 : ri (rt_P sc fm) 143 175 (.aload_n 0) (176) := ri_of (by decide +kernel) rfl
theorem wi_143_176 : ri (rt_P sc fm) 143 176 (.getfield 344) (179) := ri_of (by decide +kernel) rfl
theorem wi_143_179 : ri (rt_P sc fm) 143 179 (.iload_n 2) (180) := ri_of (by decide +kernel) rfl
theorem wi_143_180 : ri (rt_P sc fm) 143 180 (.baload) (181) := ri_of (by decide +kernel) rfl
theorem wi_143_181 : ri (rt_P sc fm) 143 181 (.ifCond .ne 8) (184) := ri_of (by decide +kernel) rfl
theorem wi_143_184 : ri (rt_P sc fm) 143 184 (.aload_n 0) (185) := ri_of (by decide +kernel) rfl
theorem wi_143_185 : ri (rt_P sc fm) 143 185 (.iload_n 2) (186) := ri_of (by decide +kernel) rfl
theorem wi_143_186 : ri (rt_P sc fm) 143 186 (.invokevirtual 989) (189) := ri_of (by decide +kernel) rfl
theorem wi_143_189 : ri (rt_P sc fm) 143 189 (.iinc 2 1) (192) := ri_of (by decide +kernel) rfl
theorem wi_143_19 : ri (rt_P sc fm) 143 19 (.aload_n 0) (20) := ri_of (by decide +kernel) rfl
theorem wi_143_192 : ri (rt_P sc fm) 143 192 (.goto (-41)) (195) := ri_of (by decide +kernel) rfl
theorem wi_143_195 : ri (rt_P sc fm) 143 195 (.aload_n 0) (196) := ri_of (by decide +kernel) rfl
theorem wi_143_196 : ri (rt_P sc fm) 143 196 (.getfield 969) (199) := ri_of (by decide +kernel) rfl
theorem wi_143_199 : ri (rt_P sc fm) 143 199 (.ireturn) (200) := ri_of (by decide +kernel) rfl
theorem wi_143_2 : ri (rt_P sc fm) 143 2 (.putfield 356) (5) := ri_of (by decide +kernel) rfl
theorem wi_143_20 : ri (rt_P sc fm) 143 20 (.iconst 0) (21) := ri_of (by decide +kernel) rfl
theorem wi_143_21 : ri (rt_P sc fm) 143 21 (.putfield 969) (24) := ri_of (by decide +kernel) rfl
theorem wi_143_24 : ri (rt_P sc fm) 143 24 (.aload_n 0) (25) := ri_of (by decide +kernel) rfl
theorem wi_143_25 : ri (rt_P sc fm) 143 25 (.iconst (-1)) (26) := ri_of (by decide +kernel) rfl
theorem wi_143_26 : ri (rt_P sc fm) 143 26 (.putfield 972) (29) := ri_of (by decide +kernel) rfl
theorem wi_143_29 : ri (rt_P sc fm) 143 29 (.aload_n 0) (30) := ri_of (by decide +kernel) rfl
theorem wi_143_30 : ri (rt_P sc fm) 143 30 (.iconst (-1)) (31) := ri_of (by decide +kernel) rfl
theorem wi_143_31 : ri (rt_P sc fm) 143 31 (.putfield 975) (34) := ri_of (by decide +kernel) rfl
theorem wi_143_34 : ri (rt_P sc fm) 143 34 (.aload_n 0) (35) := ri_of (by decide +kernel) rfl
theorem wi_143_35 : ri (rt_P sc fm) 143 35 (.iconst 0) (36) := ri_of (by decide +kernel) rfl
theorem wi_143_36 : ri (rt_P sc fm) 143 36 (.putfield 978) (39) := ri_of (by decide +kernel) rfl
theorem wi_143_39 : ri (rt_P sc fm) 143 39 (.aload_n 0) (40) := ri_of (by decide +kernel) rfl
theorem wi_143_40 : ri (rt_P sc fm) 143 40 (.ldc2_w 981) (43) := ri_of (by decide +kernel) rfl
theorem wi_143_43 : ri (rt_P sc fm) 143 43 (.invokevirtual 462) (46) := ri_of (by decide +kernel) rfl
theorem wi_143_46 : ri (rt_P sc fm) 143 46 (.istore_n 1) (47) := ri_of (by decide +kernel) rfl
theorem wi_143_47 : ri (rt_P sc fm) 143 47 (.iconst 0) (48) := ri_of (by decide +kernel) rfl
theorem wi_143_48 : ri (rt_P sc fm) 143 48 (.istore_n 2) (49) := ri_of (by decide +kernel) rfl
theorem wi_143_49 : ri (rt_P sc fm) 143 49 (.iload_n 2) (50) := ri_of (by decide +kernel) rfl
theorem wi_143_5 : ri (rt_P sc fm) 143 5 (.aload_n 0) (6) := ri_of (by decide +kernel) rfl
theorem wi_143_50 : ri (rt_P sc fm) 143 50 (.aload_n 0) (51) := ri_of (by decide +kernel) rfl
theorem wi_143_51 : ri (rt_P sc fm) 143 51 (.getfield 456) (54) := ri_of (by decide +kernel) rfl
theorem wi_143_54 : ri (rt_P sc fm) 143 54 (.if_icmp .ge 95) (57) := ri_of (by decide +kernel) rfl
theorem wi_143_57 : ri (rt_P sc fm) 143 57 (.aload_n 0) (58) := ri_of (by decide +kernel) rfl
theorem wi_143_58 : ri (rt_P sc fm) 143 58 (.getfield 344) (61) := ri_of (by decide +kernel) rfl
theorem wi_143_6 : ri (rt_P sc fm) 143 6 (.getfield 634) (9) := ri_of (by decide +kernel) rfl
theorem wi_143_61 : ri (rt_P sc fm) 143 61 (.iload_n 2) (62) := ri_of (by decide +kernel) rfl
theorem wi_143_62 : ri (rt_P sc fm) 143 62 (.iconst 0) (63) := ri_of (by decide +kernel) rfl
theorem wi_143_63 : ri (rt_P sc fm) 143 63 (.bastore) (64) := ri_of (by decide +kernel) rfl
theorem wi_143_64 : ri (rt_P sc fm) 143 64 (.aload_n 0) (65) := ri_of (by decide +kernel) rfl
theorem wi_143_65 : ri (rt_P sc fm) 143 65 (.getfield 347) (68) := ri_of (by decide +kernel) rfl
theorem wi_143_68 : ri (rt_P sc fm) 143 68 (.iload_n 2) (69) := ri_of (by decide +kernel) rfl
theorem wi_143_69 : ri (rt_P sc fm) 143 69 (.iconst 0) (70) := ri_of (by decide +kernel) rfl
theorem wi_143_70 : ri (rt_P sc fm) 143 70 (.bastore) (71) := ri_of (by decide +kernel) rfl
theorem wi_143_71 : ri (rt_P sc fm) 143 71 (.aload_n 0) (72) := ri_of (by decide +kernel) rfl
theorem wi_143_72 : ri (rt_P sc fm) 143 72 (.getfield 350) (75) := ri_of (by decide +kernel) rfl
theorem wi_143_75 : ri (rt_P sc fm) 143 75 (.iload_n 2) (76) := ri_of (by decide +kernel) rfl
theorem wi_143_76 : ri (rt_P sc fm) 143 76 (.iconst 0) (77) := ri_of (by decide +kernel) rfl
theorem wi_143_77 : ri (rt_P sc fm) 143 77 (.bastore) (78) := ri_of (by decide +kernel) rfl
theorem wi_143_78 : ri (rt_P sc fm) 143 78 (.iload_n 1) (79) := ri_of (by decide +kernel) rfl
theorem wi_143_79 : ri (rt_P sc fm) 143 79 (.ifCond .ge 6) (82) := ri_of (by decide +kernel) rfl
theorem wi_143_82 : ri (rt_P sc fm) 143 82 (.goto 61) (85) := ri_of (by decide +kernel) rfl
theorem wi_143_85 : ri (rt_P sc fm) 143 85 (.aload_n 0) (86) := ri_of (by decide +kernel) rfl
theorem wi_143_86 : ri (rt_P sc fm) 143 86 (.bipush 100) (88) := ri_of (by decide +kernel) rfl
theorem wi_143_88 : ri (rt_P sc fm) 143 88 (.iload_n 2) (89) := ri_of (by decide +kernel) rfl
theorem wi_143_89 : ri (rt_P sc fm) 143 89 (.imul) (90) := ri_of (by decide +kernel) rfl
theorem wi_143_9 : ri (rt_P sc fm) 143 9 (.ifCond .ne 5) (12) := ri_of (by decide +kernel) rfl
theorem wi_143_90 : ri (rt_P sc fm) 143 90 (.iload_n 1) (91) := ri_of (by decide +kernel) rfl
theorem wi_143_91 : ri (rt_P sc fm) 143 91 (.invokevirtual 712) (94) := ri_of (by decide +kernel) rfl
theorem wi_143_94 : ri (rt_P sc fm) 143 94 (.aload_n 0) (95) := ri_of (by decide +kernel) rfl
theorem wi_143_95 : ri (rt_P sc fm) 143 95 (.getfield 350) (98) := ri_of (by decide +kernel) rfl
theorem wi_143_98 : ri (rt_P sc fm) 143 98 (.iload_n 2) (99) := ri_of (by decide +kernel) rfl
theorem wi_143_99 : ri (rt_P sc fm) 143 99 (.aload_n 0) (100) := ri_of (by decide +kernel) rfl
theorem wk_143_981 : rx_kt (rt_P sc fm) 143 981 = some (.long (1885434484)) := (by decide +kernel : rt_kt 143 981 = some (.long (1885434484)))
theorem wk_143_983 : rx_kt (rt_P sc fm) 143 983 = some (.long (465490306412)) := (by decide +kernel : rt_kt 143 983 = some (.long (465490306412)))
theorem wm_474 : rx_ml (rt_P sc fm) 474 = 6 := (by decide +kernel : rt_ml 474 = 6)
theorem wm_478 : rx_ml (rt_P sc fm) 478 = 2 := (by decide +kernel : rt_ml 478 = 2)
theorem wp_143_356 : rx_pt (rt_P sc fm) 143 356 = some (15, 0, .int) := (by decide +kernel : rt_pt 143 356 = some (15, 0, .int))
theorem wp_143_900 : rx_pt (rt_P sc fm) 143 900 = some (15, 130, .boolean) := (by decide +kernel : rt_pt 143 900 = some (15, 130, .boolean))
theorem wp_143_969 : rx_pt (rt_P sc fm) 143 969 = some (15, 131, .int) := (by decide +kernel : rt_pt 143 969 = some (15, 131, .int))
theorem wp_143_972 : rx_pt (rt_P sc fm) 143 972 = some (15, 132, .int) := (by decide +kernel : rt_pt 143 972 = some (15, 132, .int))
theorem wp_143_975 : rx_pt (rt_P sc fm) 143 975 = some (15, 133, .int) := (by decide +kernel : rt_pt 143 975 = some (15, 133, .int))
theorem wp_143_978 : rx_pt (rt_P sc fm) 143 978 = some (15, 134, .int) := (by decide +kernel : rt_pt 143 978 = some (15, 134, .int))
theorem wr_143 : rx_rt (rt_P sc fm) 143 = (some FieldType.int) := (by decide +kernel : rt_rt 143 = (some FieldType.int))
/-- MarkHouseModel.wire()I -/
def d_143 (n : Nat)  (c : cS) : Option (Int32 × cS) :=
  lt (pI c 174 0 0) (fun c1 =>
  if (c1.1 174 14) = 0 then
    some ((-1), c1)
  else
    lt (pI c1 174 130 1) (fun c3 =>
    lt (pI c3 174 131 0) (fun c5 =>
    lt (pI c5 174 132 (-1)) (fun c7 =>
    lt (pI c7 174 133 (-1)) (fun c9 =>
    lt (pI c9 174 134 0) (fun c11 =>
    Option.bind (d_373 n 1885434484 c11) (fun v13 =>
    Option.bind (whl (R := (cS)) (fun s16 : Int32 × cS =>
      if (s16.2.1 174 37) ≤ s16.1 then
        some (.inr s16.2)
      else
        if ib s16.1 12 then
        lt (pI s16.2 262 (ix s16.1) (vp_nar .boolean 0)) (fun c18 =>
        if ib s16.1 12 then
        lt (pI c18 263 (ix s16.1) (vp_nar .boolean 0)) (fun c21 =>
        if ib s16.1 12 then
        lt (pI c21 264 (ix s16.1) (vp_nar .boolean 0)) (fun c24 =>
        jn (fun p26 : cS =>
          lt (s16.1 + 1 : Int32) (fun v28 =>
          some (.inl (v28, p26))))
        (fun j143 =>
        if 0 ≤ v13 then
          Option.bind (d_428 n (100 * s16.1) v13 c24) (fun r30 =>
          jn (fun p31 : Int32 =>
            if ib s16.1 12 then
            lt (pI r30 264 (ix s16.1) (vp_nar .boolean p31)) (fun c33 =>
            jn (fun p35 : Int64 × cS =>
              if ib s16.1 12 then
              lt (pL p35.2 265 (ix s16.1) p35.1) (fun c37 =>
              j143 c37)
              else none)
            (fun j142 =>
            if (c33.1 174 74) ≤ 0 then
              j142 (0, c33)
            else
              if ib 0 20 then
              Option.bind (d_474 n (c33.1 233 (ix 0)) v13 465490306412 c33) (fun r40 =>
              j142 (r40.1, r40.2))
              else none))
            else none)
          (fun j111 =>
          if (r30.1 174 74) ≤ 0 then
            j111 0
          else
            j111 1))
        else
          j143 c24))
        else none)
        else none)
        else none) n (0, c11))
    (fun x41 : cS =>
      Option.bind (whl (R := (cS)) (fun s43 : Int32 × cS =>
        if (s43.2.1 174 37) ≤ s43.1 then
          some (.inr s43.2)
        else
          if (s43.2.1 174 131) = 0 then
            if ib s43.1 12 then
            jn (fun p45 : cS =>
              lt (s43.1 + 1 : Int32) (fun v47 =>
              some (.inl (v47, p45))))
            (fun j189 =>
            if (s43.2.1 264 (ix s43.1)) = 0 then
              j189 s43.2
            else
              if ib s43.1 12 then
              if (s43.2.1 262 (ix s43.1)) = 0 then
                Option.bind (d_478 (d_479 30 n) n s43.1 s43.2) (fun r50 =>
                j189 r50)
              else
                j189 s43.2
              else none)
            else none
          else
            some (.inr s43.2)) n (0, x41))
      (fun x51 : cS =>
        some ((x51.1 174 131), x51))))))))))
theorem sp_143 {F Lo n : Nat}  {c y : cS} {w : cW} {K : Int32 × cS → Prop} {Q : ((Option Value) ⊕ String) → List va_E → Prop} (hw : rOK fm w) (hF : 4 ≤ F) (hLo : 105 ≤ Lo)  (h : wp (d_143 n  c) K) (hQ : ∀ r, K r → Q (.inl (some (.int r.1))) (hq false r.2 y w)) : rs (rt_P sc fm) 143 F Lo 0 [(0, .ref 174)] [] (hq false c y w) Q := by
  unfold d_143 at h
  obtain ⟨lv, elv⟩ : ∃ lv : rx_L, lv = [(0, .ref 174)] := ⟨_, rfl⟩
  rw [← elv]
  have l0 : rx_ld lv 0 = some (.ref 174) := by rw [elv]; rfl
  refine rs_aldn wi_143_0 l0 ?_
  refine rs_pure wi_143_1 rfl ?_
  refine rs_topi (v := 0) (by decide) ?_
  obtain ⟨c1, e2, h⟩ := wp_lt h
  refine dq_pi wi_143_2 wp_143_356 tf_174_0 rfl rfl e2 ?_
  refine rs_aldn wi_143_5 l0 ?_
  refine dq_gi wi_143_6 wf_143_634 tf_174_14 ?_
  refine rs_ifne (tg := 14) wi_143_9 ⟨by decide, by decide⟩ (fun q => ?_) (fun q => ?_)
  ·
    have h := wp_neg h q
    refine rs_aldn wi_143_14 l0 ?_
    refine rs_pure wi_143_15 rfl ?_
    refine rs_topi (v := 1) (by decide) ?_
    obtain ⟨c3, e4, h⟩ := wp_lt h
    refine dq_pi wi_143_16 wp_143_900 tf_174_130 (nb_n (by decide)) (nb_f (by decide)) e4 ?_
    refine rs_aldn wi_143_19 l0 ?_
    refine rs_pure wi_143_20 rfl ?_
    refine rs_topi (v := 0) (by decide) ?_
    obtain ⟨c5, e6, h⟩ := wp_lt h
    refine dq_pi wi_143_21 wp_143_969 tf_174_131 rfl rfl e6 ?_
    refine rs_aldn wi_143_24 l0 ?_
    refine rs_pure wi_143_25 rfl ?_
    refine rs_topi (v := (-1)) (by decide) ?_
    obtain ⟨c7, e8, h⟩ := wp_lt h
    refine dq_pi wi_143_26 wp_143_972 tf_174_132 rfl rfl e8 ?_
    refine rs_aldn wi_143_29 l0 ?_
    refine rs_pure wi_143_30 rfl ?_
    refine rs_topi (v := (-1)) (by decide) ?_
    obtain ⟨c9, e10, h⟩ := wp_lt h
    refine dq_pi wi_143_31 wp_143_975 tf_174_133 rfl rfl e10 ?_
    refine rs_aldn wi_143_34 l0 ?_
    refine rs_pure wi_143_35 rfl ?_
    refine rs_topi (v := 0) (by decide) ?_
    obtain ⟨c11, e12, h⟩ := wp_lt h
    refine dq_pi wi_143_36 wp_143_978 tf_174_134 rfl rfl e12 ?_
    refine rs_aldn wi_143_39 l0 ?_
    refine rs_ldcl wi_143_40 wk_143_981 ?_
    refine rs_V wi_143_43 wc_143_462 rfl (dq_isa tf_174_0 wa_15_373) (Nat.le_trans (by decide) hF) (ml_le wm_373 (Nat.le_trans (by decide) hLo)) rfl (sp_373 hw (Nat.le_trans (by decide : 0 ≤ 4 - 1) (Nat.sub_le_sub_right hF 1)) (ml_sub wm_373 (Nat.le_trans (by decide : 0 ≤ 105 - 23) (Nat.sub_le_sub_right hLo 23))) (wp_bind h) (fun v13 h => rs_back1 ?_))
    refine dl_istn wi_143_46 rfl (fun lv l1 t14 => ?_)
    have l0 := t14 _ _ (by decide) (Or.inl rfl) l0
    refine rs_pure wi_143_47 rfl ?_
    refine rs_topi (v := 0) (by decide) ?_
    refine dl_istn wi_143_48 rfl (fun lv l2 t15 => ?_)
    have l0 := t15 _ _ (by decide) (Or.inl rfl) l0
    have l1 := t15 _ _ (by decide) (Or.inl rfl) l1
    refine whl_ex (A := fun s16 : Int32 × cS => ∀ lv, rx_ld lv 0 = some (.ref 174) → rx_ld lv 1 = some (.int v13) → rx_ld lv 2 = some (.int s16.1) → rs (rt_P sc fm) 143 F Lo 49 lv [] (hq false s16.2 y w) Q) (B := (fun x41 : cS => ∀ lv, rx_ld lv 0 = some (.ref 174) → rs (rt_P sc fm) 143 F Lo 149 lv [] (hq false x41 y w) Q)) ?_ ?_ _ _ (wp_bind h) _ l0 l1 l2
    · intro s16 h lv l0 l1 l2
      refine rs_ildn wi_143_49 l2 ?_
      refine rs_aldn wi_143_50 l0 ?_
      refine dq_gi wi_143_51 wf_143_456 tf_174_37 ?_
      refine rs_icge (tg := 149) wi_143_54 ⟨by decide, by decide⟩ (fun q => ?_) (fun q => ?_)
      ·
        have h := wp_pos h q
        exact h _ l0
      ·
        have h := wp_neg h q
        refine rs_aldn wi_143_57 l0 ?_
        refine dq_gr wi_143_58 wf_143_344 tf_174_136 ?_
        refine rs_ildn wi_143_61 l2 ?_
        refine rs_pure wi_143_62 rfl ?_
        refine rs_topi (v := 0) (by decide) ?_
        obtain ⟨g17, h⟩ := wp_gd h
        obtain ⟨c18, e19, h⟩ := wp_lt h
        refine dq_zast wi_143_63 t_262 g17 e19 ?_
        refine rs_aldn wi_143_64 l0 ?_
        refine dq_gr wi_143_65 wf_143_347 tf_174_137 ?_
        refine rs_ildn wi_143_68 l2 ?_
        refine rs_pure wi_143_69 rfl ?_
        refine rs_topi (v := 0) (by decide) ?_
        obtain ⟨g20, h⟩ := wp_gd h
        obtain ⟨c21, e22, h⟩ := wp_lt h
        refine dq_zast wi_143_70 t_263 g20 e22 ?_
        refine rs_aldn wi_143_71 l0 ?_
        refine dq_gr wi_143_72 wf_143_350 tf_174_138 ?_
        refine rs_ildn wi_143_75 l2 ?_
        refine rs_pure wi_143_76 rfl ?_
        refine rs_topi (v := 0) (by decide) ?_
        obtain ⟨g23, h⟩ := wp_gd h
        obtain ⟨c24, e25, h⟩ := wp_lt h
        refine dq_zast wi_143_77 t_264 g23 e25 ?_
        refine rs_ildn wi_143_78 l1 ?_
        refine wp_jn (B := fun p26 : cS => ∀ lv, rx_ld lv 0 = some (.ref 174) → rx_ld lv 1 = some (.int v13) → rx_ld lv 2 = some (.int s16.1) → rs (rt_P sc fm) 143 F Lo 143 lv [] (hq false p26 y w) Q) h (fun p26 h lv l0 l1 l2 => ?_) (fun j143 hj143 h => ?_)
        ·
          obtain ⟨v28, e29, h⟩ := wp_lt h
          refine dl_inc wi_143_143 l2 rfl e29 (fun lv l2 t27 => ?_)
          have l0 := t27 _ _ (by decide) (Or.inl rfl) l0
          have l1 := t27 _ _ (by decide) (Or.inl rfl) l1
          refine rs_goto (tg := 49) wi_143_146 ⟨by decide, by decide⟩ ?_
          exact h _ l0 l1 l2
        refine rs_ifge (tg := 85) wi_143_79 ⟨by decide, by decide⟩ (fun q => ?_) (fun q => ?_)
        ·
          have h := wp_pos h q
          refine rs_aldn wi_143_85 l0 ?_
          refine rs_pure wi_143_86 rfl ?_
          refine rs_topi (v := 100) (by decide) ?_
          refine rs_ildn wi_143_88 l2 ?_
          refine rs_pure wi_143_89 rfl ?_
          refine rs_ildn wi_143_90 l1 ?_
          refine rs_V wi_143_91 wc_143_712 rfl (dq_isa tf_174_0 wa_15_428) (Nat.le_trans (by decide) hF) (ml_le wm_428 (Nat.le_trans (by decide) hLo)) rfl (sp_428 hw (Nat.le_trans (by decide : 3 ≤ 4 - 1) (Nat.sub_le_sub_right hF 1)) (ml_sub wm_428 (Nat.le_trans (by decide : 77 ≤ 105 - 28) (Nat.sub_le_sub_right hLo 28))) (wp_bind h) (fun r30 h => rs_back0 ?_))
          refine rs_aldn wi_143_94 l0 ?_
          refine dq_gr wi_143_95 wf_143_350 tf_174_138 ?_
          refine rs_ildn wi_143_98 l2 ?_
          refine rs_aldn wi_143_99 l0 ?_
          refine dq_gi wi_143_100 wf_143_678 tf_174_74 ?_
          refine wp_jn (B := fun p31 : Int32 => ∀ lv, rx_ld lv 0 = some (.ref 174) → rx_ld lv 1 = some (.int v13) → rx_ld lv 2 = some (.int s16.1) → rs (rt_P sc fm) 143 F Lo 111 lv [.int p31, .int s16.1, .ref 264] (hq false r30 y w) Q) h (fun p31 h lv l0 l1 l2 => ?_) (fun j111 hj111 h => ?_)
          ·
            obtain ⟨g32, h⟩ := wp_gd h
            obtain ⟨c33, e34, h⟩ := wp_lt h
            refine dq_zast wi_143_111 t_264 g32 e34 ?_
            refine rs_aldn wi_143_112 l0 ?_
            refine dq_gr wi_143_113 wf_143_353 tf_174_139 ?_
            refine rs_ildn wi_143_116 l2 ?_
            refine rs_aldn wi_143_117 l0 ?_
            refine dq_gi wi_143_118 wf_143_678 tf_174_74 ?_
            refine wp_jn (B := fun p35 : Int64 × cS => ∀ lv, rx_ld lv 0 = some (.ref 174) → rx_ld lv 1 = some (.int v13) → rx_ld lv 2 = some (.int s16.1) → rs (rt_P sc fm) 143 F Lo 142 lv [.long p35.1, .int s16.1, .ref 265] (hq false p35.2 y w) Q) h (fun p35 h lv l0 l1 l2 => ?_) (fun j142 hj142 h => ?_)
            ·
              obtain ⟨g36, h⟩ := wp_gd h
              obtain ⟨c37, e38, h⟩ := wp_lt h
              refine dq_last wi_143_142 t_265 g36 e38 ?_
              exact hj143 _ h _ l0 l1 l2
            refine rs_ifle (tg := 141) wi_143_121 ⟨by decide, by decide⟩ (fun q => ?_) (fun q => ?_)
            ·
              have h := wp_pos h q
              refine rs_pure wi_143_141 rfl ?_
              refine rs_topl (v := 0) (by decide) ?_
              exact hj142 _ h _ l0 l1 l2
            ·
              have h := wp_neg h q
              refine rs_aldn wi_143_124 l0 ?_
              refine rs_aldn wi_143_125 l0 ?_
              refine dq_gr wi_143_126 wf_143_252 tf_174_75 ?_
              refine rs_pure wi_143_129 rfl ?_
              refine rs_topi (v := 0) (by decide) ?_
              obtain ⟨g39, h⟩ := wp_gd h
              refine dq_iald wi_143_130 t_233 g39 ?_
              refine rs_ildn wi_143_131 l1 ?_
              refine rs_ldcl wi_143_132 wk_143_983 ?_
              refine rs_V wi_143_135 wc_143_985 rfl (dq_isa tf_174_0 wa_15_474) (Nat.le_trans (by decide) hF) (ml_le wm_474 (Nat.le_trans (by decide) hLo)) rfl (sp_474 hw (Nat.le_trans (by decide : 1 ≤ 4 - 1) (Nat.sub_le_sub_right hF 1)) (ml_sub wm_474 (Nat.le_trans (by decide : 26 ≤ 105 - 25) (Nat.sub_le_sub_right hLo 25))) (wp_bind h) (fun r40 h => rs_back1 ?_))
              refine rs_goto (tg := 142) wi_143_138 ⟨by decide, by decide⟩ ?_
              exact hj142 _ h _ l0 l1 l2
          refine rs_ifle (tg := 110) wi_143_103 ⟨by decide, by decide⟩ (fun q => ?_) (fun q => ?_)
          ·
            have h := wp_pos h q
            refine rs_pure wi_143_110 rfl ?_
            refine rs_topi (v := 0) (by decide) ?_
            exact hj111 _ h _ l0 l1 l2
          ·
            have h := wp_neg h q
            refine rs_pure wi_143_106 rfl ?_
            refine rs_topi (v := 1) (by decide) ?_
            refine rs_goto (tg := 111) wi_143_107 ⟨by decide, by decide⟩ ?_
            exact hj111 _ h _ l0 l1 l2
        ·
          have h := wp_neg h q
          refine rs_goto (tg := 143) wi_143_82 ⟨by decide, by decide⟩ ?_
          exact hj143 _ h _ l0 l1 l2
    ·
      intro x41 h lv l0
      refine rs_pure wi_143_149 rfl ?_
      refine rs_topi (v := 0) (by decide) ?_
      refine dl_istn wi_143_150 rfl (fun lv l2 t42 => ?_)
      have l0 := t42 _ _ (by decide) (Or.inl rfl) l0
      refine whl_ex (A := fun s43 : Int32 × cS => ∀ lv, rx_ld lv 0 = some (.ref 174) → rx_ld lv 2 = some (.int s43.1) → rs (rt_P sc fm) 143 F Lo 151 lv [] (hq false s43.2 y w) Q) (B := (fun x51 : cS => ∀ lv, rx_ld lv 0 = some (.ref 174) → rs (rt_P sc fm) 143 F Lo 195 lv [] (hq false x51 y w) Q)) ?_ ?_ _ _ (wp_bind h) _ l0 l2
      · intro s43 h lv l0 l2
        refine rs_ildn wi_143_151 l2 ?_
        refine rs_aldn wi_143_152 l0 ?_
        refine dq_gi wi_143_153 wf_143_456 tf_174_37 ?_
        refine rs_icge (tg := 195) wi_143_156 ⟨by decide, by decide⟩ (fun q => ?_) (fun q => ?_)
        ·
          have h := wp_pos h q
          exact h _ l0
        ·
          have h := wp_neg h q
          refine rs_aldn wi_143_159 l0 ?_
          refine dq_gi wi_143_160 wf_143_969 tf_174_131 ?_
          refine rs_ifne (tg := 195) wi_143_163 ⟨by decide, by decide⟩ (fun q => ?_) (fun q => ?_)
          ·
            have h := wp_neg h q
            exact h _ l0
          ·
            have h := wp_pos h q
            refine rs_aldn wi_143_166 l0 ?_
            refine dq_gr wi_143_167 wf_143_350 tf_174_138 ?_
            refine rs_ildn wi_143_170 l2 ?_
            obtain ⟨g44, h⟩ := wp_gd h
            refine dq_zald wi_143_171 t_264 g44 ?_
            refine wp_jn (B := fun p45 : cS => ∀ lv, rx_ld lv 0 = some (.ref 174) → rx_ld lv 2 = some (.int s43.1) → rs (rt_P sc fm) 143 F Lo 189 lv [] (hq false p45 y w) Q) h (fun p45 h lv l0 l2 => ?_) (fun j189 hj189 h => ?_)
            ·
              obtain ⟨v47, e48, h⟩ := wp_lt h
              refine dl_inc wi_143_189 l2 rfl e48 (fun lv l2 t46 => ?_)
              have l0 := t46 _ _ (by decide) (Or.inl rfl) l0
              refine rs_goto (tg := 151) wi_143_192 ⟨by decide, by decide⟩ ?_
              exact h _ l0 l2
            refine rs_ifeq (tg := 189) wi_143_172 ⟨by decide, by decide⟩ (fun q => ?_) (fun q => ?_)
            ·
              have h := wp_pos h q
              exact hj189 _ h _ l0 l2
            ·
              have h := wp_neg h q
              refine rs_aldn wi_143_175 l0 ?_
              refine dq_gr wi_143_176 wf_143_344 tf_174_136 ?_
              refine rs_ildn wi_143_179 l2 ?_
              obtain ⟨g49, h⟩ := wp_gd h
              refine dq_zald wi_143_180 t_262 g49 ?_
              refine rs_ifne (tg := 189) wi_143_181 ⟨by decide, by decide⟩ (fun q => ?_) (fun q => ?_)
              ·
                have h := wp_neg h q
                exact hj189 _ h _ l0 l2
              ·
                have h := wp_pos h q
                refine rs_aldn wi_143_184 l0 ?_
                refine rs_ildn wi_143_185 l2 ?_
                refine rs_V wi_143_186 wc_143_989 rfl (dq_isa tf_174_0 wa_15_478) (Nat.le_trans (by decide) hF) (ml_le wm_478 (Nat.le_trans (by decide) hLo)) rfl (sp_478 (Fr := 94) (Lr := 2445) hw (sp_479 hw 30) (Nat.le_trans (by decide : 0 ≤ 4 - 1) (Nat.sub_le_sub_right hF 1)) (ml_sub wm_478 (Nat.le_trans (by decide : 0 ≤ 105 - 21) (Nat.sub_le_sub_right hLo 21))) (Nat.le_trans (by decide) (Nat.sub_le_sub_right hF 1)) (ml_sub wm_478 (Nat.le_trans (by decide) (Nat.sub_le_sub_right hLo 21))) (wp_bind h) (fun r50 h => rs_back0 ?_))
                exact hj189 _ h _ l0 l2
      ·
        intro x51 h lv l0
        refine rs_aldn wi_143_195 l0 ?_
        refine dq_gi wi_143_196 wf_143_969 tf_174_131 ?_
        exact rs_iret wi_143_199 wr_143 rfl (hQ ((x51.1 174 131), x51) h)
  ·
    have h := wp_pos h q
    refine rs_pure wi_143_12 rfl ?_
    refine rs_topi (v := (-1)) (by decide) ?_
    exact rs_iret wi_143_13 wr_143 rfl (hQ ((-1), c1) h)
theorem wf_144_341 : rx_ft (rt_P sc fm) 144 341 = some (15, 135) := (by decide +kernel : rt_ft 144 341 = some (15, 135))
theorem wf_144_634 : rx_ft (rt_P sc fm) 144 634 = some (15, 14) := (by decide +kernel : rt_ft 144 634 = some (15, 14))
theorem wf_144_900 : rx_ft (rt_P sc fm) 144 900 = some (15, 130) := (by decide +kernel : rt_ft 144 900 = some (15, 130))
theorem wf_144_972 : rx_ft (rt_P sc fm) 144 972 = some (15, 132) := (by decide +kernel : rt_ft 144 972 = some (15, 132))
theorem wf_144_975 : rx_ft (rt_P sc fm) 144 975 = some (15, 133) := (by decide +kernel : rt_ft 144 975 = some (15, 133))
theorem wf_144_978 : rx_ft (rt_P sc fm) 144 978 = some (15, 134) := (by decide +kernel : rt_ft 144 978 = some (15, 134))
theorem wi_144_0 : ri (rt_P sc fm) 144 0 (.aload_n 0) (1) := ri_of (by decide +kernel) rfl
theorem wi_144_1 : ri (rt_P sc fm) 144 1 (.iconst 0) (2) := ri_of (by decide +kernel) rfl
theorem wi_144_12 : ri (rt_P sc fm) 144 12 (.aload_n 0) (13) := ri_of (by decide +kernel) rfl
theorem wi_144_13 : ri (rt_P sc fm) 144 13 (.getfield 900) (16) := ri_of (by decide +kernel) rfl
theorem wi_144_16 : ri (rt_P sc fm) 144 16 (.ifCond .ne 5) (19) := ri_of (by decide +kernel) rfl
theorem wi_144_19 : ri (rt_P sc fm) 144 19 (.iconst (-1)) (20) := ri_of (by decide +kernel) rfl
theorem wi_144_2 : ri (rt_P sc fm) 144 2 (.putfield 356) (5) := ri_of (by decide +kernel) rfl
theorem wi_144_20 : ri (rt_P sc fm) 144 20 (.ireturn) (21) := ri_of (by decide +kernel) rfl
theorem wi_144_21 : ri (rt_P sc fm) 144 21 (.iload_n 1) (22) := ri_of (by decide +kernel) rfl
theorem wi_144_22 : ri (rt_P sc fm) 144 22 (.ifCond .ne 8) (25) := ri_of (by decide +kernel) rfl
theorem wi_144_25 : ri (rt_P sc fm) 144 25 (.aload_n 0) (26) := ri_of (by decide +kernel) rfl
theorem wi_144_26 : ri (rt_P sc fm) 144 26 (.getfield 972) (29) := ri_of (by decide +kernel) rfl
theorem wi_144_29 : ri (rt_P sc fm) 144 29 (.ireturn) (30) := ri_of (by decide +kernel) rfl
theorem wi_144_30 : ri (rt_P sc fm) 144 30 (.iload_n 1) (31) := ri_of (by decide +kernel) rfl
theorem wi_144_31 : ri (rt_P sc fm) 144 31 (.iconst 1) (32) := ri_of (by decide +kernel) rfl
theorem wi_144_32 : ri (rt_P sc fm) 144 32 (.if_icmp .ne 8) (35) := ri_of (by decide +kernel) rfl
theorem wi_144_35 : ri (rt_P sc fm) 144 35 (.aload_n 0) (36) := ri_of (by decide +kernel) rfl
theorem wi_144_36 : ri (rt_P sc fm) 144 36 (.getfield 975) (39) := ri_of (by decide +kernel) rfl
theorem wi_144_39 : ri (rt_P sc fm) 144 39 (.ireturn) (40) := ri_of (by decide +kernel) rfl
theorem wi_144_40 : ri (rt_P sc fm) 144 40 (.iload_n 1) (41) := ri_of (by decide +kernel) rfl
theorem wi_144_41 : ri (rt_P sc fm) 144 41 (.iconst 2) (42) := ri_of (by decide +kernel) rfl
theorem wi_144_42 : ri (rt_P sc fm) 144 42 (.if_icmp .lt 24) (45) := ri_of (by decide +kernel) rfl
theorem wi_144_45 : ri (rt_P sc fm) 144 45 (.iload_n 1) (46) := ri_of (by decide +kernel) rfl
theorem wi_144_46 : ri (rt_P sc fm) 144 46 (.iconst 2) (47) := ri_of (by decide +kernel) rfl
theorem wi_144_47 : ri (rt_P sc fm) 144 47 (.isub) (48) := ri_of (by decide +kernel) rfl
theorem wi_144_48 : ri (rt_P sc fm) 144 48 (.aload_n 0) (49) := ri_of (by decide +kernel) rfl
theorem wi_144_49 : ri (rt_P sc fm) 144 49 (.getfield 978) (52) := ri_of (by decide +kernel) rfl
theorem wi_144_5 : ri (rt_P sc fm) 144 5 (.aload_n 0) (6) := ri_of (by decide +kernel) rfl
theorem wi_144_52 : ri (rt_P sc fm) 144 52 (.if_icmp .ge 14) (55) := ri_of (by decide +kernel) rfl
theorem wi_144_55 : ri (rt_P sc fm) 144 55 (.aload_n 0) (56) := ri_of (by decide +kernel) rfl
theorem wi_144_56 : ri (rt_P sc fm) 144 56 (.getfield 341) (59) := ri_of (by decide +kernel) rfl
theorem wi_144_59 : ri (rt_P sc fm) 144 59 (.iload_n 1) (60) := ri_of (by decide +kernel) rfl
theorem wi_144_6 : ri (rt_P sc fm) 144 6 (.getfield 634) (9) := ri_of (by decide +kernel) rfl
theorem wi_144_60 : ri (rt_P sc fm) 144 60 (.iconst 2) (61) := ri_of (by decide +kernel) rfl
theorem wi_144_61 : ri (rt_P sc fm) 144 61 (.isub) (62) := ri_of (by decide +kernel) rfl
theorem wi_144_62 : ri (rt_P sc fm) 144 62 (.iaload) (63) := ri_of (by decide +kernel) rfl
theorem wi_144_63 : ri (rt_P sc fm) 144 63 (.goto 4) (66) := ri_of (by decide +kernel) rfl
theorem wi_144_66 : ri (rt_P sc fm) 144 66 (.iconst (-1)) (67) := ri_of (by decide +kernel) rfl
theorem wi_144_67 : ri (rt_P sc fm) 144 67 (.ireturn) (68) := ri_of (by decide +kernel) rfl
theorem wi_144_9 : ri (rt_P sc fm) 144 9 (.ifCond .eq 10) (12) := ri_of (by decide +kernel) rfl
theorem wp_144_356 : rx_pt (rt_P sc fm) 144 356 = some (15, 0, .int) := (by decide +kernel : rt_pt 144 356 = some (15, 0, .int))
theorem wr_144 : rx_rt (rt_P sc fm) 144 = (some FieldType.int) := (by decide +kernel : rt_rt 144 = (some FieldType.int))
/-- MarkHouseModel.wired(I)I -/
def d_144 (n : Nat) (a1 : Int32) (c : cS) : Option (Int32 × cS) :=
  lt (pI c 174 0 0) (fun c1 =>
  jn (fun p3 : Unit =>
    some ((-1), c1))
  (fun j19 =>
  if (c1.1 174 14) = 0 then
    j19 ()
  else
    if (c1.1 174 130) = 0 then
      j19 ()
    else
      if a1 = 0 then
        some ((c1.1 174 132), c1)
      else
        if a1 = 1 then
          some ((c1.1 174 133), c1)
        else
          jn (fun p4 : Int32 =>
            some (p4, c1))
          (fun j67 =>
          jn (fun p5 : Unit =>
            j67 (-1))
          (fun j66 =>
          if a1 < 2 then
            j66 ()
          else
            if (c1.1 174 134) ≤ (a1 - 2) then
              j66 ()
            else
              if ib (a1 - 2) 12 then
              j67 (c1.1 261 (ix (a1 - 2)))
              else none))))
theorem sp_144 {F Lo n : Nat} {a1 : Int32} {c y : cS} {w : cW} {K : Int32 × cS → Prop} {Q : ((Option Value) ⊕ String) → List va_E → Prop} (hw : rOK fm w) (hF : 0 ≤ F) (hLo : 0 ≤ Lo)  (h : wp (d_144 n a1 c) K) (hQ : ∀ r, K r → Q (.inl (some (.int r.1))) (hq false r.2 y w)) : rs (rt_P sc fm) 144 F Lo 0 [(0, .ref 174), (1, .int a1)] [] (hq false c y w) Q := by
  unfold d_144 at h
  obtain ⟨lv, elv⟩ : ∃ lv : rx_L, lv = [(0, .ref 174), (1, .int a1)] := ⟨_, rfl⟩
  rw [← elv]
  have l0 : rx_ld lv 0 = some (.ref 174) := by rw [elv]; rfl
  have l1 : rx_ld lv 1 = some (.int a1) := by rw [elv]; rfl
  refine rs_aldn wi_144_0 l0 ?_
  refine rs_pure wi_144_1 rfl ?_
  refine rs_topi (v := 0) (by decide) ?_
  obtain ⟨c1, e2, h⟩ := wp_lt h
  refine dq_pi wi_144_2 wp_144_356 tf_174_0 rfl rfl e2 ?_
  refine rs_aldn wi_144_5 l0 ?_
  refine dq_gi wi_144_6 wf_144_634 tf_174_14 ?_
  refine wp_jn (B := fun p3 : Unit => ∀ lv, rs (rt_P sc fm) 144 F Lo 19 lv [] (hq false c1 y w) Q) h (fun p3 h lv => ?_) (fun j19 hj19 h => ?_)
  ·
    refine rs_pure wi_144_19 rfl ?_
    refine rs_topi (v := (-1)) (by decide) ?_
    exact rs_iret wi_144_20 wr_144 rfl (hQ ((-1), c1) h)
  refine rs_ifeq (tg := 19) wi_144_9 ⟨by decide, by decide⟩ (fun q => ?_) (fun q => ?_)
  ·
    have h := wp_pos h q
    exact hj19 _ h _
  ·
    have h := wp_neg h q
    refine rs_aldn wi_144_12 l0 ?_
    refine dq_gi wi_144_13 wf_144_900 tf_174_130 ?_
    refine rs_ifne (tg := 21) wi_144_16 ⟨by decide, by decide⟩ (fun q => ?_) (fun q => ?_)
    ·
      have h := wp_neg h q
      refine rs_ildn wi_144_21 l1 ?_
      refine rs_ifne (tg := 30) wi_144_22 ⟨by decide, by decide⟩ (fun q => ?_) (fun q => ?_)
      ·
        have h := wp_neg h q
        refine rs_ildn wi_144_30 l1 ?_
        refine rs_pure wi_144_31 rfl ?_
        refine rs_topi (v := 1) (by decide) ?_
        refine rs_icne (tg := 40) wi_144_32 ⟨by decide, by decide⟩ (fun q => ?_) (fun q => ?_)
        ·
          have h := wp_neg h q
          refine rs_ildn wi_144_40 l1 ?_
          refine rs_pure wi_144_41 rfl ?_
          refine rs_topi (v := 2) (by decide) ?_
          refine wp_jn (B := fun p4 : Int32 => ∀ lv, rs (rt_P sc fm) 144 F Lo 67 lv [.int p4] (hq false c1 y w) Q) h (fun p4 h lv => ?_) (fun j67 hj67 h => ?_)
          ·
            exact rs_iret wi_144_67 wr_144 rfl (hQ (p4, c1) h)
          refine wp_jn (B := fun p5 : Unit => ∀ lv, rs (rt_P sc fm) 144 F Lo 66 lv [] (hq false c1 y w) Q) h (fun p5 h lv => ?_) (fun j66 hj66 h => ?_)
          ·
            refine rs_pure wi_144_66 rfl ?_
            refine rs_topi (v := (-1)) (by decide) ?_
            exact hj67 _ h _
          refine rs_iclt (tg := 66) wi_144_42 ⟨by decide, by decide⟩ (fun q => ?_) (fun q => ?_)
          ·
            have h := wp_pos h q
            exact hj66 _ h _
          ·
            have h := wp_neg h q
            refine rs_ildn wi_144_45 l1 ?_
            refine rs_pure wi_144_46 rfl ?_
            refine rs_topi (v := 2) (by decide) ?_
            refine rs_pure wi_144_47 rfl ?_
            refine rs_aldn wi_144_48 l0 ?_
            refine dq_gi wi_144_49 wf_144_978 tf_174_134 ?_
            refine rs_icge (tg := 66) wi_144_52 ⟨by decide, by decide⟩ (fun q => ?_) (fun q => ?_)
            ·
              have h := wp_pos h q
              exact hj66 _ h _
            ·
              have h := wp_neg h q
              refine rs_aldn wi_144_55 l0 ?_
              refine dq_gr wi_144_56 wf_144_341 tf_174_135 ?_
              refine rs_ildn wi_144_59 l1 ?_
              refine rs_pure wi_144_60 rfl ?_
              refine rs_topi (v := 2) (by decide) ?_
              refine rs_pure wi_144_61 rfl ?_
              obtain ⟨g6, h⟩ := wp_gd h
              refine dq_iald wi_144_62 t_261 g6 ?_
              refine rs_goto (tg := 67) wi_144_63 ⟨by decide, by decide⟩ ?_
              exact hj67 _ h _
        ·
          have h := wp_pos h q
          refine rs_aldn wi_144_35 l0 ?_
          refine dq_gi wi_144_36 wf_144_975 tf_174_133 ?_
          exact rs_iret wi_144_39 wr_144 rfl (hQ ((c1.1 174 133), c1) h)
      ·
        have h := wp_pos h q
        refine rs_aldn wi_144_25 l0 ?_
        refine dq_gi wi_144_26 wf_144_972 tf_174_132 ?_
        exact rs_iret wi_144_29 wr_144 rfl (hQ ((c1.1 174 132), c1) h)
    ·
      have h := wp_pos h q
      exact hj19 _ h _
theorem wc_300_102 : rx_ct (rt_P sc fm) 300 102 = some (0, 301, 1) := (by decide +kernel : rt_ct 300 102 = some (0, 301, 1))
theorem wc_300_67 : rx_ct (rt_P sc fm) 300 67 = some (0, 48, 0) := (by decide +kernel : rt_ct 300 67 = some (0, 48, 0))
theorem wc_300_92 : rx_ct (rt_P sc fm) 300 92 = some (11, 356, 3) := (by decide +kernel : rt_ct 300 92 = some (11, 356, 3))
theorem wf_300_106 : rx_ft (rt_P sc fm) 300 106 = some (2, 2) := (by decide +kernel : rt_ft 300 106 = some (2, 2))
theorem wf_300_18 : rx_ft (rt_P sc fm) 300 18 = some (11, 6) := (by decide +kernel : rt_ft 300 18 = some (11, 6))
theorem wf_300_27 : rx_ft (rt_P sc fm) 300 27 = some (11, 9) := (by decide +kernel : rt_ft 300 27 = some (11, 9))
theorem wf_300_31 : rx_ft (rt_P sc fm) 300 31 = some (11, 11) := (by decide +kernel : rt_ft 300 31 = some (11, 11))
theorem wf_300_34 : rx_ft (rt_P sc fm) 300 34 = some (11, 0) := (by decide +kernel : rt_ft 300 34 = some (11, 0))
theorem wf_300_38 : rx_ft (rt_P sc fm) 300 38 = some (11, 1) := (by decide +kernel : rt_ft 300 38 = some (11, 1))
theorem wf_300_74 : rx_ft (rt_P sc fm) 300 74 = some (11, 14) := (by decide +kernel : rt_ft 300 74 = some (11, 14))
theorem wf_300_78 : rx_ft (rt_P sc fm) 300 78 = some (9, 2) := (by decide +kernel : rt_ft 300 78 = some (9, 2))
theorem wf_300_83 : rx_ft (rt_P sc fm) 300 83 = some (9, 1) := (by decide +kernel : rt_ft 300 83 = some (9, 1))
theorem wf_300_87 : rx_ft (rt_P sc fm) 300 87 = some (8, 3) := (by decide +kernel : rt_ft 300 87 = some (8, 3))
theorem wf_300_9 : rx_ft (rt_P sc fm) 300 9 = some (11, 3) := (by decide +kernel : rt_ft 300 9 = some (11, 3))
theorem wf_300_96 : rx_ft (rt_P sc fm) 300 96 = some (9, 13) := (by decide +kernel : rt_ft 300 96 = some (9, 13))
theorem wi_300_0 : ri (rt_P sc fm) 300 0 (.aload_n 0) (1) := ri_of (by decide +kernel) rfl
theorem wi_300_1 : ri (rt_P sc fm) 300 1 (.invokevirtual 67) (4) := ri_of (by decide +kernel) rfl
theorem wi_300_10 : ri (rt_P sc fm) 300 10 (.iastore) (11) := ri_of (by decide +kernel) rfl
theorem wi_300_101 : ri (rt_P sc fm) 300 101 (.lor) (102) := ri_of (by decide +kernel) rfl
theorem wi_300_102 : ri (rt_P sc fm) 300 102 (.lastore) (103) := ri_of (by decide +kernel) rfl
theorem wi_300_103 : ri (rt_P sc fm) 300 103 (.iinc 3 1) (106) := ri_of (by decide +kernel) rfl
theorem wi_300_106 : ri (rt_P sc fm) 300 106 (.goto (-37)) (109) := ri_of (by decide +kernel) rfl
theorem wi_300_109 : ri (rt_P sc fm) 300 109 (.aload_n 0) (110) := ri_of (by decide +kernel) rfl
theorem wi_300_11 : ri (rt_P sc fm) 300 11 (.aload_n 0) (12) := ri_of (by decide +kernel) rfl
theorem wi_300_110 : ri (rt_P sc fm) 300 110 (.iconst 0) (111) := ri_of (by decide +kernel) rfl
theorem wi_300_111 : ri (rt_P sc fm) 300 111 (.putfield 99) (114) := ri_of (by decide +kernel) rfl
theorem wi_300_114 : ri (rt_P sc fm) 300 114 (.aload_n 0) (115) := ri_of (by decide +kernel) rfl
theorem wi_300_115 : ri (rt_P sc fm) 300 115 (.iload_n 1) (116) := ri_of (by decide +kernel) rfl
theorem wi_300_116 : ri (rt_P sc fm) 300 116 (.invokevirtual 102) (119) := ri_of (by decide +kernel) rfl
theorem wi_300_119 : ri (rt_P sc fm) 300 119 (.iconst 0) (120) := ri_of (by decide +kernel) rfl
theorem wi_300_12 : ri (rt_P sc fm) 300 12 (.iload_n 2) (13) := ri_of (by decide +kernel) rfl
theorem wi_300_120 : ri (rt_P sc fm) 300 120 (.istore_n 3) (121) := ri_of (by decide +kernel) rfl
theorem wi_300_121 : ri (rt_P sc fm) 300 121 (.iload_n 3) (122) := ri_of (by decide +kernel) rfl
theorem wi_300_122 : ri (rt_P sc fm) 300 122 (.aload_n 0) (123) := ri_of (by decide +kernel) rfl
theorem wi_300_123 : ri (rt_P sc fm) 300 123 (.getfield 38) (126) := ri_of (by decide +kernel) rfl
theorem wi_300_126 : ri (rt_P sc fm) 300 126 (.getfield 106) (129) := ri_of (by decide +kernel) rfl
theorem wi_300_129 : ri (rt_P sc fm) 300 129 (.iload_n 1) (130) := ri_of (by decide +kernel) rfl
theorem wi_300_13 : ri (rt_P sc fm) 300 13 (.putfield 70) (16) := ri_of (by decide +kernel) rfl
theorem wi_300_130 : ri (rt_P sc fm) 300 130 (.iaload) (131) := ri_of (by decide +kernel) rfl
theorem wi_300_131 : ri (rt_P sc fm) 300 131 (.if_icmp .ge 31) (134) := ri_of (by decide +kernel) rfl
theorem wi_300_134 : ri (rt_P sc fm) 300 134 (.aload_n 0) (135) := ri_of (by decide +kernel) rfl
theorem wi_300_135 : ri (rt_P sc fm) 300 135 (.getfield 27) (138) := ri_of (by decide +kernel) rfl
theorem wi_300_138 : ri (rt_P sc fm) 300 138 (.iload_n 3) (139) := ri_of (by decide +kernel) rfl
theorem wi_300_139 : ri (rt_P sc fm) 300 139 (.aload_n 0) (140) := ri_of (by decide +kernel) rfl
theorem wi_300_140 : ri (rt_P sc fm) 300 140 (.getfield 9) (143) := ri_of (by decide +kernel) rfl
theorem wi_300_143 : ri (rt_P sc fm) 300 143 (.iload_n 3) (144) := ri_of (by decide +kernel) rfl
theorem wi_300_144 : ri (rt_P sc fm) 300 144 (.iaload) (145) := ri_of (by decide +kernel) rfl
theorem wi_300_145 : ri (rt_P sc fm) 300 145 (.i2l) (146) := ri_of (by decide +kernel) rfl
theorem wi_300_146 : ri (rt_P sc fm) 300 146 (.ldc2_w 65) (149) := ri_of (by decide +kernel) rfl
theorem wi_300_149 : ri (rt_P sc fm) 300 149 (.land) (150) := ri_of (by decide +kernel) rfl
theorem wi_300_150 : ri (rt_P sc fm) 300 150 (.aload_n 0) (151) := ri_of (by decide +kernel) rfl
theorem wi_300_151 : ri (rt_P sc fm) 300 151 (.getfield 74) (154) := ri_of (by decide +kernel) rfl
theorem wi_300_154 : ri (rt_P sc fm) 300 154 (.lor) (155) := ri_of (by decide +kernel) rfl
theorem wi_300_155 : ri (rt_P sc fm) 300 155 (.lastore) (156) := ri_of (by decide +kernel) rfl
theorem wi_300_156 : ri (rt_P sc fm) 300 156 (.iinc 3 1) (159) := ri_of (by decide +kernel) rfl
theorem wi_300_159 : ri (rt_P sc fm) 300 159 (.goto (-38)) (162) := ri_of (by decide +kernel) rfl
theorem wi_300_16 : ri (rt_P sc fm) 300 16 (.aload_n 0) (17) := ri_of (by decide +kernel) rfl
theorem wi_300_162 : ri (rt_P sc fm) 300 162 (.return_) (163) := ri_of (by decide +kernel) rfl
theorem wi_300_17 : ri (rt_P sc fm) 300 17 (.lconst 0) (18) := ri_of (by decide +kernel) rfl
theorem wi_300_18 : ri (rt_P sc fm) 300 18 (.putfield 74) (21) := ri_of (by decide +kernel) rfl
theorem wi_300_21 : ri (rt_P sc fm) 300 21 (.iconst 0) (22) := ri_of (by decide +kernel) rfl
theorem wi_300_22 : ri (rt_P sc fm) 300 22 (.istore_n 3) (23) := ri_of (by decide +kernel) rfl
theorem wi_300_23 : ri (rt_P sc fm) 300 23 (.iload_n 3) (24) := ri_of (by decide +kernel) rfl
theorem wi_300_24 : ri (rt_P sc fm) 300 24 (.aload_n 0) (25) := ri_of (by decide +kernel) rfl
theorem wi_300_25 : ri (rt_P sc fm) 300 25 (.getfield 34) (28) := ri_of (by decide +kernel) rfl
theorem wi_300_28 : ri (rt_P sc fm) 300 28 (.getfield 78) (31) := ri_of (by decide +kernel) rfl
theorem wi_300_31 : ri (rt_P sc fm) 300 31 (.if_icmp .ge 36) (34) := ri_of (by decide +kernel) rfl
theorem wi_300_34 : ri (rt_P sc fm) 300 34 (.aload_n 0) (35) := ri_of (by decide +kernel) rfl
theorem wi_300_35 : ri (rt_P sc fm) 300 35 (.aload_n 0) (36) := ri_of (by decide +kernel) rfl
theorem wi_300_36 : ri (rt_P sc fm) 300 36 (.getfield 74) (39) := ri_of (by decide +kernel) rfl
theorem wi_300_39 : ri (rt_P sc fm) 300 39 (.bipush 8) (41) := ri_of (by decide +kernel) rfl
theorem wi_300_4 : ri (rt_P sc fm) 300 4 (.aload_n 0) (5) := ri_of (by decide +kernel) rfl
theorem wi_300_41 : ri (rt_P sc fm) 300 41 (.iload_n 3) (42) := ri_of (by decide +kernel) rfl
theorem wi_300_42 : ri (rt_P sc fm) 300 42 (.iadd) (43) := ri_of (by decide +kernel) rfl
theorem wi_300_43 : ri (rt_P sc fm) 300 43 (.aload_n 0) (44) := ri_of (by decide +kernel) rfl
theorem wi_300_44 : ri (rt_P sc fm) 300 44 (.getfield 34) (47) := ri_of (by decide +kernel) rfl
theorem wi_300_47 : ri (rt_P sc fm) 300 47 (.getfield 83) (50) := ri_of (by decide +kernel) rfl
theorem wi_300_5 : ri (rt_P sc fm) 300 5 (.getfield 18) (8) := ri_of (by decide +kernel) rfl
theorem wi_300_50 : ri (rt_P sc fm) 300 50 (.iload_n 3) (51) := ri_of (by decide +kernel) rfl
theorem wi_300_51 : ri (rt_P sc fm) 300 51 (.aaload) (52) := ri_of (by decide +kernel) rfl
theorem wi_300_52 : ri (rt_P sc fm) 300 52 (.getfield 87) (55) := ri_of (by decide +kernel) rfl
theorem wi_300_55 : ri (rt_P sc fm) 300 55 (.invokestatic 92) (58) := ri_of (by decide +kernel) rfl
theorem wi_300_58 : ri (rt_P sc fm) 300 58 (.putfield 74) (61) := ri_of (by decide +kernel) rfl
theorem wi_300_61 : ri (rt_P sc fm) 300 61 (.iinc 3 1) (64) := ri_of (by decide +kernel) rfl
theorem wi_300_64 : ri (rt_P sc fm) 300 64 (.goto (-41)) (67) := ri_of (by decide +kernel) rfl
theorem wi_300_67 : ri (rt_P sc fm) 300 67 (.iconst 0) (68) := ri_of (by decide +kernel) rfl
theorem wi_300_68 : ri (rt_P sc fm) 300 68 (.istore_n 3) (69) := ri_of (by decide +kernel) rfl
theorem wi_300_69 : ri (rt_P sc fm) 300 69 (.iload_n 3) (70) := ri_of (by decide +kernel) rfl
theorem wi_300_70 : ri (rt_P sc fm) 300 70 (.aload_n 0) (71) := ri_of (by decide +kernel) rfl
theorem wi_300_71 : ri (rt_P sc fm) 300 71 (.getfield 31) (74) := ri_of (by decide +kernel) rfl
theorem wi_300_74 : ri (rt_P sc fm) 300 74 (.arraylength) (75) := ri_of (by decide +kernel) rfl
theorem wi_300_75 : ri (rt_P sc fm) 300 75 (.if_icmp .ge 34) (78) := ri_of (by decide +kernel) rfl
theorem wi_300_78 : ri (rt_P sc fm) 300 78 (.aload_n 0) (79) := ri_of (by decide +kernel) rfl
theorem wi_300_79 : ri (rt_P sc fm) 300 79 (.getfield 31) (82) := ri_of (by decide +kernel) rfl
theorem wi_300_8 : ri (rt_P sc fm) 300 8 (.iconst 0) (9) := ri_of (by decide +kernel) rfl
theorem wi_300_82 : ri (rt_P sc fm) 300 82 (.iload_n 3) (83) := ri_of (by decide +kernel) rfl
theorem wi_300_83 : ri (rt_P sc fm) 300 83 (.aload_n 0) (84) := ri_of (by decide +kernel) rfl
theorem wi_300_84 : ri (rt_P sc fm) 300 84 (.getfield 34) (87) := ri_of (by decide +kernel) rfl
theorem wi_300_87 : ri (rt_P sc fm) 300 87 (.getfield 96) (90) := ri_of (by decide +kernel) rfl
theorem wi_300_9 : ri (rt_P sc fm) 300 9 (.iconst 1) (10) := ri_of (by decide +kernel) rfl
theorem wi_300_90 : ri (rt_P sc fm) 300 90 (.iload_n 3) (91) := ri_of (by decide +kernel) rfl
theorem wi_300_91 : ri (rt_P sc fm) 300 91 (.iaload) (92) := ri_of (by decide +kernel) rfl
theorem wi_300_92 : ri (rt_P sc fm) 300 92 (.i2l) (93) := ri_of (by decide +kernel) rfl
theorem wi_300_93 : ri (rt_P sc fm) 300 93 (.ldc2_w 65) (96) := ri_of (by decide +kernel) rfl
theorem wi_300_96 : ri (rt_P sc fm) 300 96 (.land) (97) := ri_of (by decide +kernel) rfl
theorem wi_300_97 : ri (rt_P sc fm) 300 97 (.aload_n 0) (98) := ri_of (by decide +kernel) rfl
theorem wi_300_98 : ri (rt_P sc fm) 300 98 (.getfield 74) (101) := ri_of (by decide +kernel) rfl
theorem wk_300_65 : rx_kt (rt_P sc fm) 300 65 = some (.long (4294967295)) := (by decide +kernel : rt_kt 300 65 = some (.long (4294967295)))
theorem wp_300_70 : rx_pt (rt_P sc fm) 300 70 = some (11, 12, .boolean) := (by decide +kernel : rt_pt 300 70 = some (11, 12, .boolean))
theorem wp_300_74 : rx_pt (rt_P sc fm) 300 74 = some (11, 14, .long) := (by decide +kernel : rt_pt 300 74 = some (11, 14, .long))
theorem wp_300_99 : rx_pt (rt_P sc fm) 300 99 = some (11, 10, .int) := (by decide +kernel : rt_pt 300 99 = some (11, 10, .int))
theorem wr_300 : rx_rt (rt_P sc fm) 300 = none := (by decide +kernel : rt_rt 300 = none)
/-- MarkHouse$Run.start(IZ)V -/
def d_300 (n : Nat) (a1 : Int32) (a2 : Int32) (c : cS) : Option (cS) :=
  Option.bind (d_48 n c) (fun r1 =>
  if ib 0 12 then
  lt (pI r1 162 (ix 0) 1) (fun c3 =>
  if nb a2 then
  lt (pI c3 159 12 a2) (fun c6 =>
  lt (pL c6 159 14 0) (fun c8 =>
  Option.bind (whl (R := (cS)) (fun s11 : Int32 × cS =>
    if (s11.2.1 7 2) ≤ s11.1 then
      some (.inr s11.2)
    else
      if ib s11.1 4 then
      Option.bind (d_356 n (s11.2.2 159 14) (8 + s11.1) (s11.2.1 (oA (ix s11.1)) 3)) (fun v13 =>
      lt (pL s11.2 159 14 v13) (fun c14 =>
      lt (s11.1 + 1 : Int32) (fun v17 =>
      some (.inl (v17, c14)))))
      else none) n (0, c8))
  (fun x19 : cS =>
    Option.bind (whl (R := (cS)) (fun s21 : Int32 × cS =>
      if 96 ≤ s21.1 then
        some (.inr s21.2)
      else
        if ib s21.1 96 then
        if ib s21.1 96 then
        lt (pL s21.2 166 (ix s21.1) ((((s21.2.1 16 (ix s21.1)) : Int32).toInt64 &&& 4294967295) ||| (s21.2.2 159 14))) (fun c24 =>
        lt (s21.1 + 1 : Int32) (fun v27 =>
        some (.inl (v27, c24))))
        else none
        else none) n (0, x19))
    (fun x29 : cS =>
      lt (pI x29 159 10 0) (fun c30 =>
      Option.bind (d_301 n a1 c30) (fun r32 =>
      Option.bind (whl (R := (cS)) (fun s34 : Int32 × cS =>
        if ib a1 96 then
        if (s34.2.1 116 (ix a1)) ≤ s34.1 then
          some (.inr s34.2)
        else
          if ib s34.1 4 then
          if ib s34.1 192 then
          lt (pL s34.2 165 (ix s34.1) ((((s34.2.1 160 (ix s34.1)) : Int32).toInt64 &&& 4294967295) ||| (s34.2.2 159 14))) (fun c38 =>
          lt (s34.1 + 1 : Int32) (fun v41 =>
          some (.inl (v41, c38))))
          else none
          else none
        else none) n (0, r32))
      (fun x43 : cS =>
        some x43)))))))
  else none)
  else none)
theorem sp_300 {F Lo n : Nat} {a1 : Int32} {a2 : Int32} {c y : cS} {w : cW} {K : cS → Prop} {Q : ((Option Value) ⊕ String) → List va_E → Prop} (hw : rOK fm w) (hF : 3 ≤ F) (hLo : 68 ≤ Lo)  (h : wp (d_300 n a1 a2 c) K) (hQ : ∀ r, K r → Q (.inl none) (hq true r y w)) : rs (rt_P sc fm) 300 F Lo 0 [(0, .ref 159), (1, .int a1), (2, .int a2)] [] (hq true c y w) Q := by
  unfold d_300 at h
  obtain ⟨lv, elv⟩ : ∃ lv : rx_L, lv = [(0, .ref 159), (1, .int a1), (2, .int a2)] := ⟨_, rfl⟩
  rw [← elv]
  have l0 : rx_ld lv 0 = some (.ref 159) := by rw [elv]; rfl
  have l1 : rx_ld lv 1 = some (.int a1) := by rw [elv]; rfl
  have l2 : rx_ld lv 2 = some (.int a2) := by rw [elv]; rfl
  refine rs_aldn wi_300_0 l0 ?_
  refine rs_V wi_300_1 wc_300_67 rfl (dq_isa tf_159_0 wa_11_48) (Nat.le_trans (by decide) hF) (ml_le wm_48 (Nat.le_trans (by decide) hLo)) rfl (sp_48 hw (Nat.le_trans (by decide : 2 ≤ 3 - 1) (Nat.sub_le_sub_right hF 1)) (ml_sub wm_48 (Nat.le_trans (by decide : 46 ≤ 68 - 20) (Nat.sub_le_sub_right hLo 20))) (wp_bind h) (fun r1 h => rs_back0 ?_))
  refine rs_aldn wi_300_4 l0 ?_
  refine dq_gr wi_300_5 wf_300_18 tf_159_6 ?_
  refine rs_pure wi_300_8 rfl ?_
  refine rs_topi (v := 0) (by decide) ?_
  refine rs_pure wi_300_9 rfl ?_
  refine rs_topi (v := 1) (by decide) ?_
  obtain ⟨g2, h⟩ := wp_gd h
  obtain ⟨c3, e4, h⟩ := wp_lt h
  refine dq_iast wi_300_10 t_162 g2 e4 ?_
  refine rs_aldn wi_300_11 l0 ?_
  refine rs_ildn wi_300_12 l2 ?_
  obtain ⟨g5, h⟩ := wp_gd h
  obtain ⟨c6, e7, h⟩ := wp_lt h
  refine dq_pi wi_300_13 wp_300_70 tf_159_12 (nb_n g5) (nb_f g5) e7 ?_
  refine rs_aldn wi_300_16 l0 ?_
  refine rs_pure wi_300_17 rfl ?_
  refine rs_topl (v := 0) (by decide) ?_
  obtain ⟨c8, e9, h⟩ := wp_lt h
  refine dq_pl wi_300_18 wp_300_74 tf_159_14 rfl rfl e9 ?_
  refine rs_pure wi_300_21 rfl ?_
  refine rs_topi (v := 0) (by decide) ?_
  refine dl_istn wi_300_22 rfl (fun lv l3 t10 => ?_)
  have l0 := t10 _ _ (by decide) (Or.inl rfl) l0
  have l1 := t10 _ _ (by decide) (Or.inl rfl) l1
  refine whl_ex (A := fun s11 : Int32 × cS => ∀ lv, rx_ld lv 0 = some (.ref 159) → rx_ld lv 1 = some (.int a1) → rx_ld lv 3 = some (.int s11.1) → rs (rt_P sc fm) 300 F Lo 23 lv [] (hq true s11.2 y w) Q) (B := (fun x19 : cS => ∀ lv, rx_ld lv 0 = some (.ref 159) → rx_ld lv 1 = some (.int a1) → rs (rt_P sc fm) 300 F Lo 67 lv [] (hq true x19 y w) Q)) ?_ ?_ _ _ (wp_bind h) _ l0 l1 l3
  · intro s11 h lv l0 l1 l3
    refine rs_ildn wi_300_23 l3 ?_
    refine rs_aldn wi_300_24 l0 ?_
    refine dq_gr wi_300_25 wf_300_34 tf_159_0 ?_
    refine dq_gi wi_300_28 wf_300_78 tf_7_2 ?_
    refine rs_icge (tg := 67) wi_300_31 ⟨by decide, by decide⟩ (fun q => ?_) (fun q => ?_)
    ·
      have h := wp_pos h q
      exact h _ l0 l1
    ·
      have h := wp_neg h q
      refine rs_aldn wi_300_34 l0 ?_
      refine rs_aldn wi_300_35 l0 ?_
      refine dq_gl wi_300_36 wf_300_74 tf_159_14 ?_
      refine rs_pure wi_300_39 rfl ?_
      refine rs_topi (v := 8) (by decide) ?_
      refine rs_ildn wi_300_41 l3 ?_
      refine rs_pure wi_300_42 rfl ?_
      refine rs_aldn wi_300_43 l0 ?_
      refine dq_gr wi_300_44 wf_300_34 tf_159_0 ?_
      refine dq_gr wi_300_47 wf_300_83 tf_7_1 ?_
      refine rs_ildn wi_300_50 l3 ?_
      obtain ⟨g12, h⟩ := wp_gd h
      refine dq_aald wi_300_51 (by decide) t_8 g12 (hw.1 _ (ib_lt g12)) ?_
      refine dq_gi wi_300_52 wf_300_87 (fO_3 (ib_lt g12)) ?_
      refine rs_SN wi_300_55 wc_300_92 rfl (Nat.le_trans (by decide) hF) (ml_le wm_356 (Nat.le_trans (by decide) hLo)) rfl (sp_356 (Nat.le_trans (by decide : 0 ≤ 3 - 1) (Nat.sub_le_sub_right hF 1)) (ml_sub wm_356 (Nat.le_trans (by decide : 0 ≤ 68 - 23) (Nat.sub_le_sub_right hLo 23))) (wp_bind h) (fun v13 h => rs_back1 ?_))
      obtain ⟨c14, e15, h⟩ := wp_lt h
      refine dq_pl wi_300_58 wp_300_74 tf_159_14 rfl rfl e15 ?_
      obtain ⟨v17, e18, h⟩ := wp_lt h
      refine dl_inc wi_300_61 l3 rfl e18 (fun lv l3 t16 => ?_)
      have l0 := t16 _ _ (by decide) (Or.inl rfl) l0
      have l1 := t16 _ _ (by decide) (Or.inl rfl) l1
      refine rs_goto (tg := 23) wi_300_64 ⟨by decide, by decide⟩ ?_
      exact h _ l0 l1 l3
  ·
    intro x19 h lv l0 l1
    refine rs_pure wi_300_67 rfl ?_
    refine rs_topi (v := 0) (by decide) ?_
    refine dl_istn wi_300_68 rfl (fun lv l3 t20 => ?_)
    have l0 := t20 _ _ (by decide) (Or.inl rfl) l0
    have l1 := t20 _ _ (by decide) (Or.inl rfl) l1
    refine whl_ex (A := fun s21 : Int32 × cS => ∀ lv, rx_ld lv 0 = some (.ref 159) → rx_ld lv 1 = some (.int a1) → rx_ld lv 3 = some (.int s21.1) → rs (rt_P sc fm) 300 F Lo 69 lv [] (hq true s21.2 y w) Q) (B := (fun x29 : cS => ∀ lv, rx_ld lv 0 = some (.ref 159) → rx_ld lv 1 = some (.int a1) → rs (rt_P sc fm) 300 F Lo 109 lv [] (hq true x29 y w) Q)) ?_ ?_ _ _ (wp_bind h) _ l0 l1 l3
    · intro s21 h lv l0 l1 l3
      refine rs_ildn wi_300_69 l3 ?_
      refine rs_aldn wi_300_70 l0 ?_
      refine dq_gr wi_300_71 wf_300_31 tf_159_11 ?_
      refine dq_alen wi_300_74 (by decide) t_166 ?_
      refine rs_topi (v := 96) (by decide) ?_
      refine rs_icge (tg := 109) wi_300_75 ⟨by decide, by decide⟩ (fun q => ?_) (fun q => ?_)
      ·
        have h := wp_pos h q
        exact h _ l0 l1
      ·
        have h := wp_neg h q
        refine rs_aldn wi_300_78 l0 ?_
        refine dq_gr wi_300_79 wf_300_31 tf_159_11 ?_
        refine rs_ildn wi_300_82 l3 ?_
        refine rs_aldn wi_300_83 l0 ?_
        refine dq_gr wi_300_84 wf_300_34 tf_159_0 ?_
        refine dq_gr wi_300_87 wf_300_96 tf_7_13 ?_
        refine rs_ildn wi_300_90 l3 ?_
        obtain ⟨g22, h⟩ := wp_gd h
        refine dq_iald wi_300_91 t_16 g22 ?_
        refine rs_pure wi_300_92 rfl ?_
        refine rs_ldcl wi_300_93 wk_300_65 ?_
        refine rs_pure wi_300_96 rfl ?_
        refine rs_aldn wi_300_97 l0 ?_
        refine dq_gl wi_300_98 wf_300_74 tf_159_14 ?_
        refine rs_pure wi_300_101 rfl ?_
        obtain ⟨g23, h⟩ := wp_gd h
        obtain ⟨c24, e25, h⟩ := wp_lt h
        refine dq_last wi_300_102 t_166 g23 e25 ?_
        obtain ⟨v27, e28, h⟩ := wp_lt h
        refine dl_inc wi_300_103 l3 rfl e28 (fun lv l3 t26 => ?_)
        have l0 := t26 _ _ (by decide) (Or.inl rfl) l0
        have l1 := t26 _ _ (by decide) (Or.inl rfl) l1
        refine rs_goto (tg := 69) wi_300_106 ⟨by decide, by decide⟩ ?_
        exact h _ l0 l1 l3
    ·
      intro x29 h lv l0 l1
      refine rs_aldn wi_300_109 l0 ?_
      refine rs_pure wi_300_110 rfl ?_
      refine rs_topi (v := 0) (by decide) ?_
      obtain ⟨c30, e31, h⟩ := wp_lt h
      refine dq_pi wi_300_111 wp_300_99 tf_159_10 rfl rfl e31 ?_
      refine rs_aldn wi_300_114 l0 ?_
      refine rs_ildn wi_300_115 l1 ?_
      refine rs_V wi_300_116 wc_300_102 rfl (dq_isa tf_159_0 wa_11_301) (Nat.le_trans (by decide) hF) (ml_le wm_301 (Nat.le_trans (by decide) hLo)) rfl (sp_301 hw (Nat.le_trans (by decide : 2 ≤ 3 - 1) (Nat.sub_le_sub_right hF 1)) (ml_sub wm_301 (Nat.le_trans (by decide : 47 ≤ 68 - 21) (Nat.sub_le_sub_right hLo 21))) (wp_bind h) (fun r32 h => rs_back0 ?_))
      refine rs_pure wi_300_119 rfl ?_
      refine rs_topi (v := 0) (by decide) ?_
      refine dl_istn wi_300_120 rfl (fun lv l3 t33 => ?_)
      have l0 := t33 _ _ (by decide) (Or.inl rfl) l0
      have l1 := t33 _ _ (by decide) (Or.inl rfl) l1
      refine whl_ex (A := fun s34 : Int32 × cS => ∀ lv, rx_ld lv 0 = some (.ref 159) → rx_ld lv 1 = some (.int a1) → rx_ld lv 3 = some (.int s34.1) → rs (rt_P sc fm) 300 F Lo 121 lv [] (hq true s34.2 y w) Q) (B := (fun x43 : cS => ∀ lv, rs (rt_P sc fm) 300 F Lo 162 lv [] (hq true x43 y w) Q)) ?_ ?_ _ _ (wp_bind h) _ l0 l1 l3
      · intro s34 h lv l0 l1 l3
        refine rs_ildn wi_300_121 l3 ?_
        refine rs_aldn wi_300_122 l0 ?_
        refine dq_gr wi_300_123 wf_300_38 tf_159_1 ?_
        refine dq_gr wi_300_126 wf_300_106 tf_114_2 ?_
        refine rs_ildn wi_300_129 l1 ?_
        obtain ⟨g35, h⟩ := wp_gd h
        refine dq_iald wi_300_130 t_116 g35 ?_
        refine rs_icge (tg := 162) wi_300_131 ⟨by decide, by decide⟩ (fun q => ?_) (fun q => ?_)
        ·
          have h := wp_pos h q
          exact h _
        ·
          have h := wp_neg h q
          refine rs_aldn wi_300_134 l0 ?_
          refine dq_gr wi_300_135 wf_300_27 tf_159_9 ?_
          refine rs_ildn wi_300_138 l3 ?_
          refine rs_aldn wi_300_139 l0 ?_
          refine dq_gr wi_300_140 wf_300_9 tf_159_3 ?_
          refine rs_ildn wi_300_143 l3 ?_
          obtain ⟨g36, h⟩ := wp_gd h
          refine dq_iald wi_300_144 t_160 g36 ?_
          refine rs_pure wi_300_145 rfl ?_
          refine rs_ldcl wi_300_146 wk_300_65 ?_
          refine rs_pure wi_300_149 rfl ?_
          refine rs_aldn wi_300_150 l0 ?_
          refine dq_gl wi_300_151 wf_300_74 tf_159_14 ?_
          refine rs_pure wi_300_154 rfl ?_
          obtain ⟨g37, h⟩ := wp_gd h
          obtain ⟨c38, e39, h⟩ := wp_lt h
          refine dq_last wi_300_155 t_165 g37 e39 ?_
          obtain ⟨v41, e42, h⟩ := wp_lt h
          refine dl_inc wi_300_156 l3 rfl e42 (fun lv l3 t40 => ?_)
          have l0 := t40 _ _ (by decide) (Or.inl rfl) l0
          have l1 := t40 _ _ (by decide) (Or.inl rfl) l1
          refine rs_goto (tg := 121) wi_300_159 ⟨by decide, by decide⟩ ?_
          exact h _ l0 l1 l3
      ·
        intro x43 h lv
        exact rs_vret wi_300_162 wr_300 (hQ x43 h)
theorem wc_475_568 : rx_ct (rt_P sc fm) 475 568 = some (0, 378, 2) := (by decide +kernel : rt_ct 475 568 = some (0, 378, 2))
theorem wc_475_706 : rx_ct (rt_P sc fm) 475 706 = some (0, 429, 3) := (by decide +kernel : rt_ct 475 706 = some (0, 429, 3))
theorem wi_475_0 : ri (rt_P sc fm) 475 0 (.aload_n 0) (1) := ri_of (by decide +kernel) rfl
theorem wi_475_1 : ri (rt_P sc fm) 475 1 (.iload_n 2) (2) := ri_of (by decide +kernel) rfl
theorem wi_475_10 : ri (rt_P sc fm) 475 10 (.ifCond .lt 19) (13) := ri_of (by decide +kernel) rfl
theorem wi_475_13 : ri (rt_P sc fm) 475 13 (.aload_n 0) (14) := ri_of (by decide +kernel) rfl
theorem wi_475_14 : ri (rt_P sc fm) 475 14 (.iload_n 1) (15) := ri_of (by decide +kernel) rfl
theorem wi_475_15 : ri (rt_P sc fm) 475 15 (.iload_n 2) (16) := ri_of (by decide +kernel) rfl
theorem wi_475_16 : ri (rt_P sc fm) 475 16 (.iload 5) (18) := ri_of (by decide +kernel) rfl
theorem wi_475_18 : ri (rt_P sc fm) 475 18 (.invokevirtual 706) (21) := ri_of (by decide +kernel) rfl
theorem wi_475_2 : ri (rt_P sc fm) 475 2 (.lload_n 3) (3) := ri_of (by decide +kernel) rfl
theorem wi_475_21 : ri (rt_P sc fm) 475 21 (.iconst 2) (22) := ri_of (by decide +kernel) rfl
theorem wi_475_22 : ri (rt_P sc fm) 475 22 (.if_icmp .ne 7) (25) := ri_of (by decide +kernel) rfl
theorem wi_475_25 : ri (rt_P sc fm) 475 25 (.iconst 1) (26) := ri_of (by decide +kernel) rfl
theorem wi_475_26 : ri (rt_P sc fm) 475 26 (.goto 4) (29) := ri_of (by decide +kernel) rfl
theorem wi_475_29 : ri (rt_P sc fm) 475 29 (.iconst 0) (30) := ri_of (by decide +kernel) rfl
theorem wi_475_3 : ri (rt_P sc fm) 475 3 (.invokevirtual 568) (6) := ri_of (by decide +kernel) rfl
theorem wi_475_30 : ri (rt_P sc fm) 475 30 (.ireturn) (31) := ri_of (by decide +kernel) rfl
theorem wi_475_6 : ri (rt_P sc fm) 475 6 (.istore 5) (8) := ri_of (by decide +kernel) rfl
theorem wi_475_8 : ri (rt_P sc fm) 475 8 (.iload 5) (10) := ri_of (by decide +kernel) rfl
theorem wr_475 : rx_rt (rt_P sc fm) 475 = (some FieldType.boolean) := (by decide +kernel : rt_rt 475 = (some FieldType.boolean))
/-- MarkHouseModel.hasText(IIJ)Z -/
def d_475 (n : Nat) (a1 : Int32) (a2 : Int32) (a3 : Int64) (c : cS) : Option (Int32 × cS) :=
  Option.bind (d_378 n a2 a3 c) (fun v1 =>
  jn (fun p3 : Int32 × cS =>
    if nb p3.1 then
    some (p3.1, p3.2)
    else none)
  (fun j30 =>
  jn (fun p5 : cS =>
    j30 (0, p5))
  (fun j29 =>
  if v1 < 0 then
    j29 c
  else
    Option.bind (d_429 n a1 a2 v1 c) (fun r6 =>
    if r6.1 = 2 then
      j30 (1, r6.2)
    else
      j29 r6.2))))
theorem sp_475 {F Lo n : Nat} {a1 : Int32} {a2 : Int32} {a3 : Int64} {c y : cS} {w : cW} {K : Int32 × cS → Prop} {Q : ((Option Value) ⊕ String) → List va_E → Prop} (hw : rOK fm w) (hF : 1 ≤ F) (hLo : 26 ≤ Lo)  (h : wp (d_475 n a1 a2 a3 c) K) (hQ : ∀ r, K r → Q (.inl (some (.int r.1))) (hq false r.2 y w)) : rs (rt_P sc fm) 475 F Lo 0 [(0, .ref 174), (1, .int a1), (2, .int a2), (3, .long a3)] [] (hq false c y w) Q := by
  unfold d_475 at h
  obtain ⟨lv, elv⟩ : ∃ lv : rx_L, lv = [(0, .ref 174), (1, .int a1), (2, .int a2), (3, .long a3)] := ⟨_, rfl⟩
  rw [← elv]
  have l0 : rx_ld lv 0 = some (.ref 174) := by rw [elv]; rfl
  have l1 : rx_ld lv 1 = some (.int a1) := by rw [elv]; rfl
  have l2 : rx_ld lv 2 = some (.int a2) := by rw [elv]; rfl
  have l3 : rx_ld lv 3 = some (.long a3) := by rw [elv]; rfl
  refine rs_aldn wi_475_0 l0 ?_
  refine rs_ildn wi_475_1 l2 ?_
  refine rs_lldn wi_475_2 l3 ?_
  refine rs_V wi_475_3 wc_475_568 rfl (dq_isa tf_174_0 wa_15_378) (Nat.le_trans (by decide) hF) (ml_le wm_378 (Nat.le_trans (by decide) hLo)) rfl (sp_378 hw (Nat.le_trans (by decide : 0 ≤ 1 - 1) (Nat.sub_le_sub_right hF 1)) (ml_sub wm_378 (Nat.le_trans (by decide : 0 ≤ 26 - 24) (Nat.sub_le_sub_right hLo 24))) (wp_bind h) (fun v1 h => rs_back1 ?_))
  refine dl_ist wi_475_6 rfl (fun lv l5 t2 => ?_)
  have l0 := t2 _ _ (by decide) (Or.inl rfl) l0
  have l1 := t2 _ _ (by decide) (Or.inl rfl) l1
  have l2 := t2 _ _ (by decide) (Or.inl rfl) l2
  refine rs_ild wi_475_8 l5 ?_
  refine wp_jn (B := fun p3 : Int32 × cS => ∀ lv, rs (rt_P sc fm) 475 F Lo 30 lv [.int p3.1] (hq false p3.2 y w) Q) h (fun p3 h lv => ?_) (fun j30 hj30 h => ?_)
  ·
    obtain ⟨g4, h⟩ := wp_gd h
    exact rs_iret wi_475_30 wr_475 (nb_n g4) (hQ (p3.1, p3.2) h)
  refine wp_jn (B := fun p5 : cS => ∀ lv, rs (rt_P sc fm) 475 F Lo 29 lv [] (hq false p5 y w) Q) h (fun p5 h lv => ?_) (fun j29 hj29 h => ?_)
  ·
    refine rs_pure wi_475_29 rfl ?_
    refine rs_topi (v := 0) (by decide) ?_
    exact hj30 _ h _
  refine rs_iflt (tg := 29) wi_475_10 ⟨by decide, by decide⟩ (fun q => ?_) (fun q => ?_)
  ·
    have h := wp_pos h q
    exact hj29 _ h _
  ·
    have h := wp_neg h q
    refine rs_aldn wi_475_13 l0 ?_
    refine rs_ildn wi_475_14 l1 ?_
    refine rs_ildn wi_475_15 l2 ?_
    refine rs_ild wi_475_16 l5 ?_
    refine rs_V wi_475_18 wc_475_706 rfl (dq_isa tf_174_0 wa_15_429) (Nat.le_trans (by decide) hF) (ml_le wm_429 (Nat.le_trans (by decide) hLo)) rfl (sp_429 hw (Nat.le_trans (by decide : 0 ≤ 1 - 1) (Nat.sub_le_sub_right hF 1)) (ml_sub wm_429 (Nat.le_trans (by decide : 0 ≤ 26 - 26) (Nat.sub_le_sub_right hLo 26))) (wp_bind h) (fun r6 h => rs_back1 ?_))
    refine rs_pure wi_475_21 rfl ?_
    refine rs_topi (v := 2) (by decide) ?_
    refine rs_icne (tg := 29) wi_475_22 ⟨by decide, by decide⟩ (fun q => ?_) (fun q => ?_)
    ·
      have h := wp_neg h q
      exact hj29 _ h _
    ·
      have h := wp_pos h q
      refine rs_pure wi_475_25 rfl ?_
      refine rs_topi (v := 1) (by decide) ?_
      refine rs_goto (tg := 30) wi_475_26 ⟨by decide, by decide⟩ ?_
      exact hj30 _ h _
theorem wf_476_155 : rx_ft (rt_P sc fm) 476 155 = some (15, 39) := (by decide +kernel : rt_ft 476 155 = some (15, 39))
theorem wi_476_0 : ri (rt_P sc fm) 476 0 (.iload_n 1) (1) := ri_of (by decide +kernel) rfl
theorem wi_476_1 : ri (rt_P sc fm) 476 1 (.istore_n 3) (2) := ri_of (by decide +kernel) rfl
theorem wi_476_11 : ri (rt_P sc fm) 476 11 (.iconst 1) (12) := ri_of (by decide +kernel) rfl
theorem wi_476_12 : ri (rt_P sc fm) 476 12 (.ireturn) (13) := ri_of (by decide +kernel) rfl
theorem wi_476_13 : ri (rt_P sc fm) 476 13 (.aload_n 0) (14) := ri_of (by decide +kernel) rfl
theorem wi_476_14 : ri (rt_P sc fm) 476 14 (.getfield 155) (17) := ri_of (by decide +kernel) rfl
theorem wi_476_17 : ri (rt_P sc fm) 476 17 (.iload_n 3) (18) := ri_of (by decide +kernel) rfl
theorem wi_476_18 : ri (rt_P sc fm) 476 18 (.iaload) (19) := ri_of (by decide +kernel) rfl
theorem wi_476_19 : ri (rt_P sc fm) 476 19 (.istore_n 3) (20) := ri_of (by decide +kernel) rfl
theorem wi_476_2 : ri (rt_P sc fm) 476 2 (.iload_n 3) (3) := ri_of (by decide +kernel) rfl
theorem wi_476_20 : ri (rt_P sc fm) 476 20 (.goto (-18)) (23) := ri_of (by decide +kernel) rfl
theorem wi_476_23 : ri (rt_P sc fm) 476 23 (.iconst 0) (24) := ri_of (by decide +kernel) rfl
theorem wi_476_24 : ri (rt_P sc fm) 476 24 (.ireturn) (25) := ri_of (by decide +kernel) rfl
theorem wi_476_3 : ri (rt_P sc fm) 476 3 (.ifCond .lt 20) (6) := ri_of (by decide +kernel) rfl
theorem wi_476_6 : ri (rt_P sc fm) 476 6 (.iload_n 3) (7) := ri_of (by decide +kernel) rfl
theorem wi_476_7 : ri (rt_P sc fm) 476 7 (.iload_n 2) (8) := ri_of (by decide +kernel) rfl
theorem wi_476_8 : ri (rt_P sc fm) 476 8 (.if_icmp .ne 5) (11) := ri_of (by decide +kernel) rfl
theorem wr_476 : rx_rt (rt_P sc fm) 476 = (some FieldType.boolean) := (by decide +kernel : rt_rt 476 = (some FieldType.boolean))
/-- MarkHouseModel.isUnder(II)Z -/
def d_476 (n : Nat) (a1 : Int32) (a2 : Int32) (c : cS) : Option (Int32) :=
  Option.bind (whl (R := (Unit) ⊕ (Unit)) (fun s2 : Int32 =>
    if s2 < 0 then
      some (.inr (.inl ()))
    else
      if s2 = a2 then
        some (.inr (.inr ()))
      else
        if ib s2 12 then
        lt ((c.1 201 (ix s2)) : Int32) (fun v5 =>
        some (.inl v5))
        else none) n a1)
  (Sum.elim (fun x7 : Unit =>
    some 0)
  (fun x8 : Unit =>
    some 1))
theorem sp_476 {F Lo n : Nat} {a1 : Int32} {a2 : Int32} {c y : cS} {w : cW} {K : Int32 → Prop} {Q : ((Option Value) ⊕ String) → List va_E → Prop} (hw : rOK fm w) (hF : 0 ≤ F) (hLo : 0 ≤ Lo)  (h : wp (d_476 n a1 a2 c) K) (hQ : ∀ r, K r → Q (.inl (some (.int r))) (hq false c y w)) : rs (rt_P sc fm) 476 F Lo 0 [(0, .ref 174), (1, .int a1), (2, .int a2)] [] (hq false c y w) Q := by
  unfold d_476 at h
  obtain ⟨lv, elv⟩ : ∃ lv : rx_L, lv = [(0, .ref 174), (1, .int a1), (2, .int a2)] := ⟨_, rfl⟩
  rw [← elv]
  have l0 : rx_ld lv 0 = some (.ref 174) := by rw [elv]; rfl
  have l1 : rx_ld lv 1 = some (.int a1) := by rw [elv]; rfl
  have l2 : rx_ld lv 2 = some (.int a2) := by rw [elv]; rfl
  refine rs_ildn wi_476_0 l1 ?_
  refine dl_istn wi_476_1 rfl (fun lv l3 t1 => ?_)
  have l0 := t1 _ _ (by decide) (Or.inl rfl) l0
  have l2 := t1 _ _ (by decide) (Or.inl rfl) l2
  refine whl_ex (A := fun s2 : Int32 => ∀ lv, rx_ld lv 0 = some (.ref 174) → rx_ld lv 2 = some (.int a2) → rx_ld lv 3 = some (.int s2) → rs (rt_P sc fm) 476 F Lo 2 lv [] (hq false c y w) Q) (B := (Sum.elim (fun x7 : Unit => ∀ lv, rs (rt_P sc fm) 476 F Lo 23 lv [] (hq false c y w) Q) (fun x8 : Unit => ∀ lv, rs (rt_P sc fm) 476 F Lo 11 lv [] (hq false c y w) Q))) ?_ ?_ _ _ (wp_bind h) _ l0 l2 l3
  · intro s2 h lv l0 l2 l3
    refine rs_ildn wi_476_2 l3 ?_
    refine rs_iflt (tg := 23) wi_476_3 ⟨by decide, by decide⟩ (fun q => ?_) (fun q => ?_)
    ·
      have h := wp_pos h q
      exact h _
    ·
      have h := wp_neg h q
      refine rs_ildn wi_476_6 l3 ?_
      refine rs_ildn wi_476_7 l2 ?_
      refine rs_icne (tg := 13) wi_476_8 ⟨by decide, by decide⟩ (fun q => ?_) (fun q => ?_)
      ·
        have h := wp_neg h q
        refine rs_aldn wi_476_13 l0 ?_
        refine dq_gr wi_476_14 wf_476_155 tf_174_39 ?_
        refine rs_ildn wi_476_17 l3 ?_
        obtain ⟨g3, h⟩ := wp_gd h
        refine dq_iald wi_476_18 t_201 g3 ?_
        obtain ⟨v5, e6, h⟩ := wp_lt h
        refine rs_topi e6 ?_
        refine dl_istn wi_476_19 rfl (fun lv l3 t4 => ?_)
        have l0 := t4 _ _ (by decide) (Or.inl rfl) l0
        have l2 := t4 _ _ (by decide) (Or.inl rfl) l2
        refine rs_goto (tg := 2) wi_476_20 ⟨by decide, by decide⟩ ?_
        exact h _ l0 l2 l3
      ·
        have h := wp_pos h q
        exact h _
  ·
    refine sum_all ?_ ?_
    ·
      intro x7 h lv
      refine rs_pure wi_476_23 rfl ?_
      refine rs_topi (v := 0) (by decide) ?_
      exact rs_iret wi_476_24 wr_476 (nb_n (by decide)) (hQ 0 h)
    ·
      intro x8 h lv
      refine rs_pure wi_476_11 rfl ?_
      refine rs_topi (v := 1) (by decide) ?_
      exact rs_iret wi_476_12 wr_476 (nb_n (by decide)) (hQ 1 h)
theorem wf_477_969 : rx_ft (rt_P sc fm) 477 969 = some (15, 131) := (by decide +kernel : rt_ft 477 969 = some (15, 131))
theorem wi_477_0 : ri (rt_P sc fm) 477 0 (.aload_n 0) (1) := ri_of (by decide +kernel) rfl
theorem wi_477_1 : ri (rt_P sc fm) 477 1 (.getfield 969) (4) := ri_of (by decide +kernel) rfl
theorem wi_477_10 : ri (rt_P sc fm) 477 10 (.putfield 969) (13) := ri_of (by decide +kernel) rfl
theorem wi_477_13 : ri (rt_P sc fm) 477 13 (.aload_n 0) (14) := ri_of (by decide +kernel) rfl
theorem wi_477_14 : ri (rt_P sc fm) 477 14 (.iload_n 2) (15) := ri_of (by decide +kernel) rfl
theorem wi_477_15 : ri (rt_P sc fm) 477 15 (.putfield 972) (18) := ri_of (by decide +kernel) rfl
theorem wi_477_18 : ri (rt_P sc fm) 477 18 (.aload_n 0) (19) := ri_of (by decide +kernel) rfl
theorem wi_477_19 : ri (rt_P sc fm) 477 19 (.iload_n 3) (20) := ri_of (by decide +kernel) rfl
theorem wi_477_20 : ri (rt_P sc fm) 477 20 (.putfield 975) (23) := ri_of (by decide +kernel) rfl
theorem wi_477_23 : ri (rt_P sc fm) 477 23 (.return_) (24) := ri_of (by decide +kernel) rfl
theorem wi_477_4 : ri (rt_P sc fm) 477 4 (.ifCond .le 4) (7) := ri_of (by decide +kernel) rfl
theorem wi_477_7 : ri (rt_P sc fm) 477 7 (.return_) (8) := ri_of (by decide +kernel) rfl
theorem wi_477_8 : ri (rt_P sc fm) 477 8 (.aload_n 0) (9) := ri_of (by decide +kernel) rfl
theorem wi_477_9 : ri (rt_P sc fm) 477 9 (.iload_n 1) (10) := ri_of (by decide +kernel) rfl
theorem wp_477_969 : rx_pt (rt_P sc fm) 477 969 = some (15, 131, .int) := (by decide +kernel : rt_pt 477 969 = some (15, 131, .int))
theorem wp_477_972 : rx_pt (rt_P sc fm) 477 972 = some (15, 132, .int) := (by decide +kernel : rt_pt 477 972 = some (15, 132, .int))
theorem wp_477_975 : rx_pt (rt_P sc fm) 477 975 = some (15, 133, .int) := (by decide +kernel : rt_pt 477 975 = some (15, 133, .int))
theorem wr_477 : rx_rt (rt_P sc fm) 477 = none := (by decide +kernel : rt_rt 477 = none)
/-- MarkHouseModel.wires(III)V -/
def d_477 (n : Nat) (a1 : Int32) (a2 : Int32) (a3 : Int32) (c : cS) : Option (cS) :=
  if (c.1 174 131) ≤ 0 then
    lt (pI c 174 131 a1) (fun c1 =>
    lt (pI c1 174 132 a2) (fun c3 =>
    lt (pI c3 174 133 a3) (fun c5 =>
    some c5)))
  else
    some c
theorem sp_477 {F Lo n : Nat} {a1 : Int32} {a2 : Int32} {a3 : Int32} {c y : cS} {w : cW} {K : cS → Prop} {Q : ((Option Value) ⊕ String) → List va_E → Prop} (hw : rOK fm w) (hF : 0 ≤ F) (hLo : 0 ≤ Lo)  (h : wp (d_477 n a1 a2 a3 c) K) (hQ : ∀ r, K r → Q (.inl none) (hq false r y w)) : rs (rt_P sc fm) 477 F Lo 0 [(0, .ref 174), (1, .int a1), (2, .int a2), (3, .int a3)] [] (hq false c y w) Q := by
  unfold d_477 at h
  obtain ⟨lv, elv⟩ : ∃ lv : rx_L, lv = [(0, .ref 174), (1, .int a1), (2, .int a2), (3, .int a3)] := ⟨_, rfl⟩
  rw [← elv]
  have l0 : rx_ld lv 0 = some (.ref 174) := by rw [elv]; rfl
  have l1 : rx_ld lv 1 = some (.int a1) := by rw [elv]; rfl
  have l2 : rx_ld lv 2 = some (.int a2) := by rw [elv]; rfl
  have l3 : rx_ld lv 3 = some (.int a3) := by rw [elv]; rfl
  refine rs_aldn wi_477_0 l0 ?_
  refine dq_gi wi_477_1 wf_477_969 tf_174_131 ?_
  refine rs_ifle (tg := 8) wi_477_4 ⟨by decide, by decide⟩ (fun q => ?_) (fun q => ?_)
  ·
    have h := wp_pos h q
    refine rs_aldn wi_477_8 l0 ?_
    refine rs_ildn wi_477_9 l1 ?_
    obtain ⟨c1, e2, h⟩ := wp_lt h
    refine dq_pi wi_477_10 wp_477_969 tf_174_131 rfl rfl e2 ?_
    refine rs_aldn wi_477_13 l0 ?_
    refine rs_ildn wi_477_14 l2 ?_
    obtain ⟨c3, e4, h⟩ := wp_lt h
    refine dq_pi wi_477_15 wp_477_972 tf_174_132 rfl rfl e4 ?_
    refine rs_aldn wi_477_18 l0 ?_
    refine rs_ildn wi_477_19 l3 ?_
    obtain ⟨c5, e6, h⟩ := wp_lt h
    refine dq_pi wi_477_20 wp_477_975 tf_174_133 rfl rfl e6 ?_
    exact rs_vret wi_477_23 wr_477 (hQ c5 h)
  ·
    have h := wp_neg h q
    exact rs_vret wi_477_7 wr_477 (hQ c h)
theorem wa_15_475 : rz_cn 15 (rx_yn (rt_P sc fm) 475).cls = true := (by decide +kernel : rz_cn 15 (rt_yn 475).cls = true)
theorem wa_15_476 : rz_cn 15 (rx_yn (rt_P sc fm) 476).cls = true := (by decide +kernel : rz_cn 15 (rt_yn 476).cls = true)
theorem wa_15_477 : rz_cn 15 (rx_yn (rt_P sc fm) 477).cls = true := (by decide +kernel : rz_cn 15 (rt_yn 477).cls = true)
theorem wc_480_1002 : rx_ct (rt_P sc fm) 480 1002 = some (0, 475, 3) := (by decide +kernel : rt_ct 480 1002 = some (0, 475, 3))
theorem wc_480_1007 : rx_ct (rt_P sc fm) 480 1007 = some (0, 476, 2) := (by decide +kernel : rt_ct 480 1007 = some (0, 476, 2))
theorem wc_480_1010 : rx_ct (rt_P sc fm) 480 1010 = some (0, 477, 3) := (by decide +kernel : rt_ct 480 1010 = some (0, 477, 3))
theorem wc_480_468 : rx_ct (rt_P sc fm) 480 468 = some (0, 375, 1) := (by decide +kernel : rt_ct 480 468 = some (0, 375, 1))
theorem wc_480_568 : rx_ct (rt_P sc fm) 480 568 = some (0, 378, 2) := (by decide +kernel : rt_ct 480 568 = some (0, 378, 2))
theorem wc_480_706 : rx_ct (rt_P sc fm) 480 706 = some (0, 429, 3) := (by decide +kernel : rt_ct 480 706 = some (0, 429, 3))
theorem wc_480_985 : rx_ct (rt_P sc fm) 480 985 = some (0, 474, 3) := (by decide +kernel : rt_ct 480 985 = some (0, 474, 3))
theorem wc_480_989 : rx_ct (rt_P sc fm) 480 989 = some (0, 478, 1) := (by decide +kernel : rt_ct 480 989 = some (0, 478, 1))
theorem wf_480_344 : rx_ft (rt_P sc fm) 480 344 = some (15, 136) := (by decide +kernel : rt_ft 480 344 = some (15, 136))
theorem wf_480_347 : rx_ft (rt_P sc fm) 480 347 = some (15, 137) := (by decide +kernel : rt_ft 480 347 = some (15, 137))
theorem wf_480_350 : rx_ft (rt_P sc fm) 480 350 = some (15, 138) := (by decide +kernel : rt_ft 480 350 = some (15, 138))
theorem wf_480_353 : rx_ft (rt_P sc fm) 480 353 = some (15, 139) := (by decide +kernel : rt_ft 480 353 = some (15, 139))
theorem wf_480_456 : rx_ft (rt_P sc fm) 480 456 = some (15, 37) := (by decide +kernel : rt_ft 480 456 = some (15, 37))
theorem wf_480_697 : rx_ft (rt_P sc fm) 480 697 = some (15, 79) := (by decide +kernel : rt_ft 480 697 = some (15, 79))
theorem wf_480_969 : rx_ft (rt_P sc fm) 480 969 = some (15, 131) := (by decide +kernel : rt_ft 480 969 = some (15, 131))
theorem wi_480_0 : ri (rt_P sc fm) 480 0 (.aload_n 0) (1) := ri_of (by decide +kernel) rfl
theorem wi_480_1 : ri (rt_P sc fm) 480 1 (.iload_n 3) (2) := ri_of (by decide +kernel) rfl
theorem wi_480_10 : ri (rt_P sc fm) 480 10 (.ifCond .eq 20) (13) := ri_of (by decide +kernel) rfl
theorem wi_480_101 : ri (rt_P sc fm) 480 101 (.aload_n 0) (102) := ri_of (by decide +kernel) rfl
theorem wi_480_102 : ri (rt_P sc fm) 480 102 (.getfield 456) (105) := ri_of (by decide +kernel) rfl
theorem wi_480_105 : ri (rt_P sc fm) 480 105 (.if_icmp .ge 65) (108) := ri_of (by decide +kernel) rfl
theorem wi_480_108 : ri (rt_P sc fm) 480 108 (.iload 5) (110) := ri_of (by decide +kernel) rfl
theorem wi_480_110 : ri (rt_P sc fm) 480 110 (.ifCond .lt 60) (113) := ri_of (by decide +kernel) rfl
theorem wi_480_113 : ri (rt_P sc fm) 480 113 (.aload_n 0) (114) := ri_of (by decide +kernel) rfl
theorem wi_480_114 : ri (rt_P sc fm) 480 114 (.getfield 350) (117) := ri_of (by decide +kernel) rfl
theorem wi_480_117 : ri (rt_P sc fm) 480 117 (.iload 12) (119) := ri_of (by decide +kernel) rfl
theorem wi_480_119 : ri (rt_P sc fm) 480 119 (.baload) (120) := ri_of (by decide +kernel) rfl
theorem wi_480_120 : ri (rt_P sc fm) 480 120 (.ifCond .eq 44) (123) := ri_of (by decide +kernel) rfl
theorem wi_480_123 : ri (rt_P sc fm) 480 123 (.aload_n 0) (124) := ri_of (by decide +kernel) rfl
theorem wi_480_124 : ri (rt_P sc fm) 480 124 (.iload 12) (126) := ri_of (by decide +kernel) rfl
theorem wi_480_126 : ri (rt_P sc fm) 480 126 (.iload 5) (128) := ri_of (by decide +kernel) rfl
theorem wi_480_128 : ri (rt_P sc fm) 480 128 (.invokevirtual 1007) (131) := ri_of (by decide +kernel) rfl
theorem wi_480_13 : ri (rt_P sc fm) 480 13 (.aload_n 0) (14) := ri_of (by decide +kernel) rfl
theorem wi_480_131 : ri (rt_P sc fm) 480 131 (.ifCond .eq 33) (134) := ri_of (by decide +kernel) rfl
theorem wi_480_134 : ri (rt_P sc fm) 480 134 (.lload 6) (136) := ri_of (by decide +kernel) rfl
theorem wi_480_136 : ri (rt_P sc fm) 480 136 (.lconst 0) (137) := ri_of (by decide +kernel) rfl
theorem wi_480_137 : ri (rt_P sc fm) 480 137 (.lcmp) (138) := ri_of (by decide +kernel) rfl
theorem wi_480_138 : ri (rt_P sc fm) 480 138 (.ifCond .eq 19) (141) := ri_of (by decide +kernel) rfl
theorem wi_480_14 : ri (rt_P sc fm) 480 14 (.aload_n 0) (15) := ri_of (by decide +kernel) rfl
theorem wi_480_141 : ri (rt_P sc fm) 480 141 (.aload_n 0) (142) := ri_of (by decide +kernel) rfl
theorem wi_480_142 : ri (rt_P sc fm) 480 142 (.getfield 353) (145) := ri_of (by decide +kernel) rfl
theorem wi_480_145 : ri (rt_P sc fm) 480 145 (.iload 12) (147) := ri_of (by decide +kernel) rfl
theorem wi_480_147 : ri (rt_P sc fm) 480 147 (.laload) (148) := ri_of (by decide +kernel) rfl
theorem wi_480_148 : ri (rt_P sc fm) 480 148 (.lload 6) (150) := ri_of (by decide +kernel) rfl
theorem wi_480_15 : ri (rt_P sc fm) 480 15 (.iload_n 3) (16) := ri_of (by decide +kernel) rfl
theorem wi_480_150 : ri (rt_P sc fm) 480 150 (.lcmp) (151) := ri_of (by decide +kernel) rfl
theorem wi_480_151 : ri (rt_P sc fm) 480 151 (.ifCond .eq 6) (154) := ri_of (by decide +kernel) rfl
theorem wi_480_154 : ri (rt_P sc fm) 480 154 (.goto 10) (157) := ri_of (by decide +kernel) rfl
theorem wi_480_157 : ri (rt_P sc fm) 480 157 (.iinc 10 1) (160) := ri_of (by decide +kernel) rfl
theorem wi_480_16 : ri (rt_P sc fm) 480 16 (.iload 4) (18) := ri_of (by decide +kernel) rfl
theorem wi_480_160 : ri (rt_P sc fm) 480 160 (.iload 12) (162) := ri_of (by decide +kernel) rfl
theorem wi_480_162 : ri (rt_P sc fm) 480 162 (.istore 11) (164) := ri_of (by decide +kernel) rfl
theorem wi_480_164 : ri (rt_P sc fm) 480 164 (.iinc 12 1) (167) := ri_of (by decide +kernel) rfl
theorem wi_480_167 : ri (rt_P sc fm) 480 167 (.goto (-68)) (170) := ri_of (by decide +kernel) rfl
theorem wi_480_170 : ri (rt_P sc fm) 480 170 (.iload 10) (172) := ri_of (by decide +kernel) rfl
theorem wi_480_172 : ri (rt_P sc fm) 480 172 (.ifCond .ne 10) (175) := ri_of (by decide +kernel) rfl
theorem wi_480_175 : ri (rt_P sc fm) 480 175 (.aload_n 0) (176) := ri_of (by decide +kernel) rfl
theorem wi_480_176 : ri (rt_P sc fm) 480 176 (.iconst 1) (177) := ri_of (by decide +kernel) rfl
theorem wi_480_177 : ri (rt_P sc fm) 480 177 (.iload_n 2) (178) := ri_of (by decide +kernel) rfl
theorem wi_480_178 : ri (rt_P sc fm) 480 178 (.iload_n 1) (179) := ri_of (by decide +kernel) rfl
theorem wi_480_179 : ri (rt_P sc fm) 480 179 (.invokevirtual 1010) (182) := ri_of (by decide +kernel) rfl
theorem wi_480_18 : ri (rt_P sc fm) 480 18 (.ldc2_w 1000) (21) := ri_of (by decide +kernel) rfl
theorem wi_480_182 : ri (rt_P sc fm) 480 182 (.iload 10) (184) := ri_of (by decide +kernel) rfl
theorem wi_480_184 : ri (rt_P sc fm) 480 184 (.iconst 1) (185) := ri_of (by decide +kernel) rfl
theorem wi_480_185 : ri (rt_P sc fm) 480 185 (.if_icmp .le 10) (188) := ri_of (by decide +kernel) rfl
theorem wi_480_188 : ri (rt_P sc fm) 480 188 (.aload_n 0) (189) := ri_of (by decide +kernel) rfl
theorem wi_480_189 : ri (rt_P sc fm) 480 189 (.iconst 2) (190) := ri_of (by decide +kernel) rfl
theorem wi_480_190 : ri (rt_P sc fm) 480 190 (.iload_n 2) (191) := ri_of (by decide +kernel) rfl
theorem wi_480_191 : ri (rt_P sc fm) 480 191 (.iload_n 1) (192) := ri_of (by decide +kernel) rfl
theorem wi_480_192 : ri (rt_P sc fm) 480 192 (.invokevirtual 1010) (195) := ri_of (by decide +kernel) rfl
theorem wi_480_195 : ri (rt_P sc fm) 480 195 (.aload_n 0) (196) := ri_of (by decide +kernel) rfl
theorem wi_480_196 : ri (rt_P sc fm) 480 196 (.getfield 969) (199) := ri_of (by decide +kernel) rfl
theorem wi_480_199 : ri (rt_P sc fm) 480 199 (.ifCond .gt 8) (202) := ri_of (by decide +kernel) rfl
theorem wi_480_2 : ri (rt_P sc fm) 480 2 (.iload 4) (4) := ri_of (by decide +kernel) rfl
theorem wi_480_202 : ri (rt_P sc fm) 480 202 (.iload 9) (204) := ri_of (by decide +kernel) rfl
theorem wi_480_204 : ri (rt_P sc fm) 480 204 (.ifCond .eq 4) (207) := ri_of (by decide +kernel) rfl
theorem wi_480_207 : ri (rt_P sc fm) 480 207 (.return_) (208) := ri_of (by decide +kernel) rfl
theorem wi_480_208 : ri (rt_P sc fm) 480 208 (.aload_n 0) (209) := ri_of (by decide +kernel) rfl
theorem wi_480_209 : ri (rt_P sc fm) 480 209 (.getfield 347) (212) := ri_of (by decide +kernel) rfl
theorem wi_480_21 : ri (rt_P sc fm) 480 21 (.invokevirtual 985) (24) := ri_of (by decide +kernel) rfl
theorem wi_480_212 : ri (rt_P sc fm) 480 212 (.iload 11) (214) := ri_of (by decide +kernel) rfl
theorem wi_480_214 : ri (rt_P sc fm) 480 214 (.baload) (215) := ri_of (by decide +kernel) rfl
theorem wi_480_215 : ri (rt_P sc fm) 480 215 (.ifCond .eq 13) (218) := ri_of (by decide +kernel) rfl
theorem wi_480_218 : ri (rt_P sc fm) 480 218 (.aload_n 0) (219) := ri_of (by decide +kernel) rfl
theorem wi_480_219 : ri (rt_P sc fm) 480 219 (.iconst 3) (220) := ri_of (by decide +kernel) rfl
theorem wi_480_220 : ri (rt_P sc fm) 480 220 (.iload_n 2) (221) := ri_of (by decide +kernel) rfl
theorem wi_480_221 : ri (rt_P sc fm) 480 221 (.iload_n 1) (222) := ri_of (by decide +kernel) rfl
theorem wi_480_222 : ri (rt_P sc fm) 480 222 (.invokevirtual 1010) (225) := ri_of (by decide +kernel) rfl
theorem wi_480_225 : ri (rt_P sc fm) 480 225 (.goto 19) (228) := ri_of (by decide +kernel) rfl
theorem wi_480_228 : ri (rt_P sc fm) 480 228 (.aload_n 0) (229) := ri_of (by decide +kernel) rfl
theorem wi_480_229 : ri (rt_P sc fm) 480 229 (.getfield 344) (232) := ri_of (by decide +kernel) rfl
theorem wi_480_232 : ri (rt_P sc fm) 480 232 (.iload 11) (234) := ri_of (by decide +kernel) rfl
theorem wi_480_234 : ri (rt_P sc fm) 480 234 (.baload) (235) := ri_of (by decide +kernel) rfl
theorem wi_480_235 : ri (rt_P sc fm) 480 235 (.ifCond .ne 9) (238) := ri_of (by decide +kernel) rfl
theorem wi_480_238 : ri (rt_P sc fm) 480 238 (.aload_n 0) (239) := ri_of (by decide +kernel) rfl
theorem wi_480_239 : ri (rt_P sc fm) 480 239 (.iload 11) (241) := ri_of (by decide +kernel) rfl
theorem wi_480_24 : ri (rt_P sc fm) 480 24 (.invokevirtual 468) (27) := ri_of (by decide +kernel) rfl
theorem wi_480_241 : ri (rt_P sc fm) 480 241 (.invokevirtual 989) (244) := ri_of (by decide +kernel) rfl
theorem wi_480_244 : ri (rt_P sc fm) 480 244 (.return_) (245) := ri_of (by decide +kernel) rfl
theorem wi_480_27 : ri (rt_P sc fm) 480 27 (.goto 4) (30) := ri_of (by decide +kernel) rfl
theorem wi_480_30 : ri (rt_P sc fm) 480 30 (.iconst (-1)) (31) := ri_of (by decide +kernel) rfl
theorem wi_480_31 : ri (rt_P sc fm) 480 31 (.istore 5) (33) := ri_of (by decide +kernel) rfl
theorem wi_480_33 : ri (rt_P sc fm) 480 33 (.aload_n 0) (34) := ri_of (by decide +kernel) rfl
theorem wi_480_34 : ri (rt_P sc fm) 480 34 (.iload_n 3) (35) := ri_of (by decide +kernel) rfl
theorem wi_480_35 : ri (rt_P sc fm) 480 35 (.iload 4) (37) := ri_of (by decide +kernel) rfl
theorem wi_480_37 : ri (rt_P sc fm) 480 37 (.ldc2_w 983) (40) := ri_of (by decide +kernel) rfl
theorem wi_480_4 : ri (rt_P sc fm) 480 4 (.ldc2_w 1000) (7) := ri_of (by decide +kernel) rfl
theorem wi_480_40 : ri (rt_P sc fm) 480 40 (.invokevirtual 985) (43) := ri_of (by decide +kernel) rfl
theorem wi_480_43 : ri (rt_P sc fm) 480 43 (.lstore 6) (45) := ri_of (by decide +kernel) rfl
theorem wi_480_45 : ri (rt_P sc fm) 480 45 (.aload_n 0) (46) := ri_of (by decide +kernel) rfl
theorem wi_480_46 : ri (rt_P sc fm) 480 46 (.iload 4) (48) := ri_of (by decide +kernel) rfl
theorem wi_480_48 : ri (rt_P sc fm) 480 48 (.ldc2_w 1005) (51) := ri_of (by decide +kernel) rfl
theorem wi_480_51 : ri (rt_P sc fm) 480 51 (.invokevirtual 568) (54) := ri_of (by decide +kernel) rfl
theorem wi_480_54 : ri (rt_P sc fm) 480 54 (.istore 8) (56) := ri_of (by decide +kernel) rfl
theorem wi_480_56 : ri (rt_P sc fm) 480 56 (.iload 8) (58) := ri_of (by decide +kernel) rfl
theorem wi_480_58 : ri (rt_P sc fm) 480 58 (.ifCond .lt 29) (61) := ri_of (by decide +kernel) rfl
theorem wi_480_61 : ri (rt_P sc fm) 480 61 (.aload_n 0) (62) := ri_of (by decide +kernel) rfl
theorem wi_480_62 : ri (rt_P sc fm) 480 62 (.iload_n 3) (63) := ri_of (by decide +kernel) rfl
theorem wi_480_63 : ri (rt_P sc fm) 480 63 (.iload 4) (65) := ri_of (by decide +kernel) rfl
theorem wi_480_65 : ri (rt_P sc fm) 480 65 (.iload 8) (67) := ri_of (by decide +kernel) rfl
theorem wi_480_67 : ri (rt_P sc fm) 480 67 (.invokevirtual 706) (70) := ri_of (by decide +kernel) rfl
theorem wi_480_7 : ri (rt_P sc fm) 480 7 (.invokevirtual 1002) (10) := ri_of (by decide +kernel) rfl
theorem wi_480_70 : ri (rt_P sc fm) 480 70 (.iconst 1) (71) := ri_of (by decide +kernel) rfl
theorem wi_480_71 : ri (rt_P sc fm) 480 71 (.if_icmp .ne 16) (74) := ri_of (by decide +kernel) rfl
theorem wi_480_74 : ri (rt_P sc fm) 480 74 (.aload_n 0) (75) := ri_of (by decide +kernel) rfl
theorem wi_480_75 : ri (rt_P sc fm) 480 75 (.getfield 697) (78) := ri_of (by decide +kernel) rfl
theorem wi_480_78 : ri (rt_P sc fm) 480 78 (.lconst 0) (79) := ri_of (by decide +kernel) rfl
theorem wi_480_79 : ri (rt_P sc fm) 480 79 (.lcmp) (80) := ri_of (by decide +kernel) rfl
theorem wi_480_80 : ri (rt_P sc fm) 480 80 (.ifCond .eq 7) (83) := ri_of (by decide +kernel) rfl
theorem wi_480_83 : ri (rt_P sc fm) 480 83 (.iconst 1) (84) := ri_of (by decide +kernel) rfl
theorem wi_480_84 : ri (rt_P sc fm) 480 84 (.goto 4) (87) := ri_of (by decide +kernel) rfl
theorem wi_480_87 : ri (rt_P sc fm) 480 87 (.iconst 0) (88) := ri_of (by decide +kernel) rfl
theorem wi_480_88 : ri (rt_P sc fm) 480 88 (.istore 9) (90) := ri_of (by decide +kernel) rfl
theorem wi_480_90 : ri (rt_P sc fm) 480 90 (.iconst 0) (91) := ri_of (by decide +kernel) rfl
theorem wi_480_91 : ri (rt_P sc fm) 480 91 (.istore 10) (93) := ri_of (by decide +kernel) rfl
theorem wi_480_93 : ri (rt_P sc fm) 480 93 (.iconst (-1)) (94) := ri_of (by decide +kernel) rfl
theorem wi_480_94 : ri (rt_P sc fm) 480 94 (.istore 11) (96) := ri_of (by decide +kernel) rfl
theorem wi_480_96 : ri (rt_P sc fm) 480 96 (.iconst 0) (97) := ri_of (by decide +kernel) rfl
theorem wi_480_97 : ri (rt_P sc fm) 480 97 (.istore 12) (99) := ri_of (by decide +kernel) rfl
theorem wi_480_99 : ri (rt_P sc fm) 480 99 (.iload 12) (101) := ri_of (by decide +kernel) rfl
theorem wk_480_1000 : rx_kt (rt_P sc fm) 480 1000 = some (.long (28518)) := (by decide +kernel : rt_kt 480 1000 = some (.long (28518)))
theorem wk_480_1005 : rx_kt (rt_P sc fm) 480 1005 = some (.long (1818326117)) := (by decide +kernel : rt_kt 480 1005 = some (.long (1818326117)))
theorem wk_480_983 : rx_kt (rt_P sc fm) 480 983 = some (.long (465490306412)) := (by decide +kernel : rt_kt 480 983 = some (.long (465490306412)))
theorem wm_475 : rx_ml (rt_P sc fm) 475 = 6 := (by decide +kernel : rt_ml 475 = 6)
theorem wm_476 : rx_ml (rt_P sc fm) 476 = 4 := (by decide +kernel : rt_ml 476 = 4)
theorem wm_477 : rx_ml (rt_P sc fm) 477 = 4 := (by decide +kernel : rt_ml 477 = 4)
theorem wr_480 : rx_rt (rt_P sc fm) 480 = none := (by decide +kernel : rt_rt 480 = none)
/-- MarkHouseModel.wantsOne(IIII)V -/
def d_480 (rec : Int32 → Int32 → cS → Option (cS)) (n : Nat) (a1 : Int32) (a2 : Int32) (a3 : Int32) (a4 : Int32) (c : cS) : Option (cS) :=
  Option.bind (d_475 n a3 a4 28518 c) (fun r1 =>
  jn (fun p2 : Int32 × cS =>
    Option.bind (d_474 n a3 a4 465490306412 p2.2) (fun r4 =>
    Option.bind (d_378 n a4 1818326117 r4.2) (fun v6 =>
    jn (fun p8 : Int32 × cS =>
      Option.bind (whl (R := (Int32 × Int32)) (fun s13 : Int32 × Int32 × Int32 =>
        if (p8.2.1 174 37) ≤ s13.2.2 then
          some (.inr (s13.1, s13.2.1))
        else
          if p2.1 < 0 then
            some (.inr (s13.1, s13.2.1))
          else
            if ib s13.2.2 12 then
            jn (fun p15 : Int32 × Int32 =>
              lt (s13.2.2 + 1 : Int32) (fun v17 =>
              some (.inl (p15.1, p15.2, v17))))
            (fun j164 =>
            if (p8.2.1 264 (ix s13.2.2)) = 0 then
              j164 (s13.1, s13.2.1)
            else
              Option.bind (d_476 n s13.2.2 p2.1 p8.2) (fun v19 =>
              if v19 = 0 then
                j164 (s13.1, s13.2.1)
              else
                jn (fun p20 : Unit =>
                  lt (s13.1 + 1 : Int32) (fun v22 =>
                  j164 (v22, s13.2.2)))
                (fun j157 =>
                if (lg_cmp r4.1 0) = 0 then
                  j157 ()
                else
                  if ib s13.2.2 12 then
                  if (lg_cmp (p8.2.2 265 (ix s13.2.2)) r4.1) = 0 then
                    j157 ()
                  else
                    j164 (s13.1, s13.2.1)
                  else none)))
            else none) n (0, (-1), 0))
      (fun x26 : Int32 × Int32 =>
        jn (fun p27 : cS =>
          jn (fun p28 : cS =>
            jn (fun p29 : Unit =>
              some p28)
            (fun j207 =>
            if 0 < (p28.1 174 131) then
              j207 ()
            else
              if p8.1 = 0 then
                if ib x26.2 12 then
                jn (fun p31 : cS =>
                  some p31)
                (fun j244 =>
                if (p28.1 263 (ix x26.2)) = 0 then
                  if ib x26.2 12 then
                  if (p28.1 262 (ix x26.2)) = 0 then
                    Option.bind (d_478 rec n x26.2 p28) (fun r33 =>
                    j244 r33)
                  else
                    j244 p28
                  else none
                else
                  Option.bind (d_477 n 3 a2 a1 p28) (fun r34 =>
                  j244 r34))
                else none
              else
                j207 ()))
          (fun j195 =>
          if x26.1 ≤ 1 then
            j195 p27
          else
            Option.bind (d_477 n 2 a2 a1 p27) (fun r35 =>
            j195 r35)))
        (fun j182 =>
        if x26.1 = 0 then
          Option.bind (d_477 n 1 a2 a1 p8.2) (fun r36 =>
          j182 r36)
        else
          j182 p8.2)))
    (fun j88 =>
    jn (fun p37 : cS =>
      j88 (0, p37))
    (fun j87 =>
    if v6 < 0 then
      j87 r4.2
    else
      Option.bind (d_429 n a3 a4 v6 r4.2) (fun r38 =>
      if r38.1 = 1 then
        if (lg_cmp (r38.2.2 174 79) 0) = 0 then
          j87 r38.2
        else
          j88 (1, r38.2)
      else
        j87 r38.2))))))
  (fun j31 =>
  if r1.1 = 0 then
    j31 ((-1), r1.2)
  else
    Option.bind (d_474 n a3 a4 28518 r1.2) (fun r39 =>
    Option.bind (d_375 n r39.1 r39.2) (fun v40 =>
    j31 (v40, r39.2)))))
theorem sp_480 {rec : Int32 → Int32 → cS → Option (cS)} {Fr Lr F Lo n : Nat} {a1 : Int32} {a2 : Int32} {a3 : Int32} {a4 : Int32} {c y : cS} {w : cW} {K : cS → Prop} {Q : ((Option Value) ⊕ String) → List va_E → Prop} (hw : rOK fm w) (hrec : ∀ {F Lo : Nat} {a1 : Int32} {a2 : Int32} {c : cS} {K : cS → Prop} {Q : ((Option Value) ⊕ String) → List va_E → Prop}, Fr ≤ F → Lr ≤ Lo → wp (rec a1 a2 c) K → (∀ r, K r → Q (.inl none) (hq false r y w)) → rs (rt_P sc fm) 479 F Lo 0 [(0, .ref 174), (1, .int a1), (2, .int a2)] [] (hq false c y w) Q) (hF : 2 ≤ F) (hLo : 51 ≤ Lo) (hFr : Fr + 2 ≤ F) (hLr : Lr + 46 ≤ Lo) (h : wp (d_480 rec n a1 a2 a3 a4 c) K) (hQ : ∀ r, K r → Q (.inl none) (hq false r y w)) : rs (rt_P sc fm) 480 F Lo 0 [(0, .ref 174), (1, .int a1), (2, .int a2), (3, .int a3), (4, .int a4)] [] (hq false c y w) Q := by
  unfold d_480 at h
  obtain ⟨lv, elv⟩ : ∃ lv : rx_L, lv = [(0, .ref 174), (1, .int a1), (2, .int a2), (3, .int a3), (4, .int a4)] := ⟨_, rfl⟩
  rw [← elv]
  have l0 : rx_ld lv 0 = some (.ref 174) := by rw [elv]; rfl
  have l1 : rx_ld lv 1 = some (.int a1) := by rw [elv]; rfl
  have l2 : rx_ld lv 2 = some (.int a2) := by rw [elv]; rfl
  have l3 : rx_ld lv 3 = some (.int a3) := by rw [elv]; rfl
  have l4 : rx_ld lv 4 = some (.int a4) := by rw [elv]; rfl
  refine rs_aldn wi_480_0 l0 ?_
  refine rs_ildn wi_480_1 l3 ?_
  refine rs_ild wi_480_2 l4 ?_
  refine rs_ldcl wi_480_4 wk_480_1000 ?_
  refine rs_V wi_480_7 wc_480_1002 rfl (dq_isa tf_174_0 wa_15_475) (by omega) (ml_le wm_475 (by omega)) rfl (sp_475 hw (by omega) (ml_sub wm_475 (by omega)) (wp_bind h) (fun r1 h => rs_back1 ?_))
  refine wp_jn (B := fun p2 : Int32 × cS => ∀ lv, rx_ld lv 0 = some (.ref 174) → rx_ld lv 1 = some (.int a1) → rx_ld lv 2 = some (.int a2) → rx_ld lv 3 = some (.int a3) → rx_ld lv 4 = some (.int a4) → rs (rt_P sc fm) 480 F Lo 31 lv [.int p2.1] (hq false p2.2 y w) Q) h (fun p2 h lv l0 l1 l2 l3 l4 => ?_) (fun j31 hj31 h => ?_)
  ·
    refine dl_ist wi_480_31 rfl (fun lv l5 t3 => ?_)
    have l0 := t3 _ _ (by decide) (Or.inl rfl) l0
    have l1 := t3 _ _ (by decide) (Or.inl rfl) l1
    have l2 := t3 _ _ (by decide) (Or.inl rfl) l2
    have l3 := t3 _ _ (by decide) (Or.inl rfl) l3
    have l4 := t3 _ _ (by decide) (Or.inl rfl) l4
    refine rs_aldn wi_480_33 l0 ?_
    refine rs_ildn wi_480_34 l3 ?_
    refine rs_ild wi_480_35 l4 ?_
    refine rs_ldcl wi_480_37 wk_480_983 ?_
    refine rs_V wi_480_40 wc_480_985 rfl (dq_isa tf_174_0 wa_15_474) (by omega) (ml_le wm_474 (by omega)) rfl (sp_474 hw (by omega) (ml_sub wm_474 (by omega)) (wp_bind h) (fun r4 h => rs_back1 ?_))
    refine dl_lst wi_480_43 rfl (fun lv l6 t5 => ?_)
    have l0 := t5 _ _ (by decide) (by decide) (Or.inl rfl) l0
    have l1 := t5 _ _ (by decide) (by decide) (Or.inl rfl) l1
    have l2 := t5 _ _ (by decide) (by decide) (Or.inl rfl) l2
    have l3 := t5 _ _ (by decide) (by decide) (Or.inl rfl) l3
    have l4 := t5 _ _ (by decide) (by decide) (Or.inl rfl) l4
    have l5 := t5 _ _ (by decide) (by decide) (Or.inl rfl) l5
    refine rs_aldn wi_480_45 l0 ?_
    refine rs_ild wi_480_46 l4 ?_
    refine rs_ldcl wi_480_48 wk_480_1005 ?_
    refine rs_V wi_480_51 wc_480_568 rfl (dq_isa tf_174_0 wa_15_378) (by omega) (ml_le wm_378 (by omega)) rfl (sp_378 hw (by omega) (ml_sub wm_378 (by omega)) (wp_bind h) (fun v6 h => rs_back1 ?_))
    refine dl_ist wi_480_54 rfl (fun lv l8 t7 => ?_)
    have l0 := t7 _ _ (by decide) (Or.inl rfl) l0
    have l1 := t7 _ _ (by decide) (Or.inl rfl) l1
    have l2 := t7 _ _ (by decide) (Or.inl rfl) l2
    have l3 := t7 _ _ (by decide) (Or.inl rfl) l3
    have l4 := t7 _ _ (by decide) (Or.inl rfl) l4
    have l5 := t7 _ _ (by decide) (Or.inl rfl) l5
    have l6 := t7 _ _ (by decide) (Or.inr (by decide)) l6
    refine rs_ild wi_480_56 l8 ?_
    refine wp_jn (B := fun p8 : Int32 × cS => ∀ lv, rx_ld lv 0 = some (.ref 174) → rx_ld lv 1 = some (.int a1) → rx_ld lv 2 = some (.int a2) → rx_ld lv 5 = some (.int p2.1) → rx_ld lv 6 = some (.long r4.1) → rs (rt_P sc fm) 480 F Lo 88 lv [.int p8.1] (hq false p8.2 y w) Q) h (fun p8 h lv l0 l1 l2 l5 l6 => ?_) (fun j88 hj88 h => ?_)
    ·
      refine dl_ist wi_480_88 rfl (fun lv l9 t9 => ?_)
      have l0 := t9 _ _ (by decide) (Or.inl rfl) l0
      have l1 := t9 _ _ (by decide) (Or.inl rfl) l1
      have l2 := t9 _ _ (by decide) (Or.inl rfl) l2
      have l5 := t9 _ _ (by decide) (Or.inl rfl) l5
      have l6 := t9 _ _ (by decide) (Or.inr (by decide)) l6
      refine rs_pure wi_480_90 rfl ?_
      refine rs_topi (v := 0) (by decide) ?_
      refine dl_ist wi_480_91 rfl (fun lv l10 t10 => ?_)
      have l0 := t10 _ _ (by decide) (Or.inl rfl) l0
      have l1 := t10 _ _ (by decide) (Or.inl rfl) l1
      have l2 := t10 _ _ (by decide) (Or.inl rfl) l2
      have l5 := t10 _ _ (by decide) (Or.inl rfl) l5
      have l6 := t10 _ _ (by decide) (Or.inr (by decide)) l6
      have l9 := t10 _ _ (by decide) (Or.inl rfl) l9
      refine rs_pure wi_480_93 rfl ?_
      refine rs_topi (v := (-1)) (by decide) ?_
      refine dl_ist wi_480_94 rfl (fun lv l11 t11 => ?_)
      have l0 := t11 _ _ (by decide) (Or.inl rfl) l0
      have l1 := t11 _ _ (by decide) (Or.inl rfl) l1
      have l2 := t11 _ _ (by decide) (Or.inl rfl) l2
      have l5 := t11 _ _ (by decide) (Or.inl rfl) l5
      have l6 := t11 _ _ (by decide) (Or.inr (by decide)) l6
      have l9 := t11 _ _ (by decide) (Or.inl rfl) l9
      have l10 := t11 _ _ (by decide) (Or.inl rfl) l10
      refine rs_pure wi_480_96 rfl ?_
      refine rs_topi (v := 0) (by decide) ?_
      refine dl_ist wi_480_97 rfl (fun lv l12 t12 => ?_)
      have l0 := t12 _ _ (by decide) (Or.inl rfl) l0
      have l1 := t12 _ _ (by decide) (Or.inl rfl) l1
      have l2 := t12 _ _ (by decide) (Or.inl rfl) l2
      have l5 := t12 _ _ (by decide) (Or.inl rfl) l5
      have l6 := t12 _ _ (by decide) (Or.inr (by decide)) l6
      have l9 := t12 _ _ (by decide) (Or.inl rfl) l9
      have l10 := t12 _ _ (by decide) (Or.inl rfl) l10
      have l11 := t12 _ _ (by decide) (Or.inl rfl) l11
      refine whl_ex (A := fun s13 : Int32 × Int32 × Int32 => ∀ lv, rx_ld lv 0 = some (.ref 174) → rx_ld lv 1 = some (.int a1) → rx_ld lv 2 = some (.int a2) → rx_ld lv 5 = some (.int p2.1) → rx_ld lv 6 = some (.long r4.1) → rx_ld lv 9 = some (.int p8.1) → rx_ld lv 10 = some (.int s13.1) → rx_ld lv 11 = some (.int s13.2.1) → rx_ld lv 12 = some (.int s13.2.2) → rs (rt_P sc fm) 480 F Lo 99 lv [] (hq false p8.2 y w) Q) (B := (fun x26 : Int32 × Int32 => ∀ lv, rx_ld lv 0 = some (.ref 174) → rx_ld lv 1 = some (.int a1) → rx_ld lv 2 = some (.int a2) → rx_ld lv 9 = some (.int p8.1) → rx_ld lv 10 = some (.int x26.1) → rx_ld lv 11 = some (.int x26.2) → rs (rt_P sc fm) 480 F Lo 170 lv [] (hq false p8.2 y w) Q)) ?_ ?_ _ _ (wp_bind h) _ l0 l1 l2 l5 l6 l9 l10 l11 l12
      · intro s13 h lv l0 l1 l2 l5 l6 l9 l10 l11 l12
        refine rs_ild wi_480_99 l12 ?_
        refine rs_aldn wi_480_101 l0 ?_
        refine dq_gi wi_480_102 wf_480_456 tf_174_37 ?_
        refine rs_icge (tg := 170) wi_480_105 ⟨by decide, by decide⟩ (fun q => ?_) (fun q => ?_)
        ·
          have h := wp_pos h q
          exact h _ l0 l1 l2 l9 l10 l11
        ·
          have h := wp_neg h q
          refine rs_ild wi_480_108 l5 ?_
          refine rs_iflt (tg := 170) wi_480_110 ⟨by decide, by decide⟩ (fun q => ?_) (fun q => ?_)
          ·
            have h := wp_pos h q
            exact h _ l0 l1 l2 l9 l10 l11
          ·
            have h := wp_neg h q
            refine rs_aldn wi_480_113 l0 ?_
            refine dq_gr wi_480_114 wf_480_350 tf_174_138 ?_
            refine rs_ild wi_480_117 l12 ?_
            obtain ⟨g14, h⟩ := wp_gd h
            refine dq_zald wi_480_119 t_264 g14 ?_
            refine wp_jn (B := fun p15 : Int32 × Int32 => ∀ lv, rx_ld lv 0 = some (.ref 174) → rx_ld lv 1 = some (.int a1) → rx_ld lv 2 = some (.int a2) → rx_ld lv 5 = some (.int p2.1) → rx_ld lv 6 = some (.long r4.1) → rx_ld lv 9 = some (.int p8.1) → rx_ld lv 10 = some (.int p15.1) → rx_ld lv 11 = some (.int p15.2) → rx_ld lv 12 = some (.int s13.2.2) → rs (rt_P sc fm) 480 F Lo 164 lv [] (hq false p8.2 y w) Q) h (fun p15 h lv l0 l1 l2 l5 l6 l9 l10 l11 l12 => ?_) (fun j164 hj164 h => ?_)
            ·
              obtain ⟨v17, e18, h⟩ := wp_lt h
              refine dl_inc wi_480_164 l12 rfl e18 (fun lv l12 t16 => ?_)
              have l0 := t16 _ _ (by decide) (Or.inl rfl) l0
              have l1 := t16 _ _ (by decide) (Or.inl rfl) l1
              have l2 := t16 _ _ (by decide) (Or.inl rfl) l2
              have l5 := t16 _ _ (by decide) (Or.inl rfl) l5
              have l6 := t16 _ _ (by decide) (Or.inr (by decide)) l6
              have l9 := t16 _ _ (by decide) (Or.inl rfl) l9
              have l10 := t16 _ _ (by decide) (Or.inl rfl) l10
              have l11 := t16 _ _ (by decide) (Or.inl rfl) l11
              refine rs_goto (tg := 99) wi_480_167 ⟨by decide, by decide⟩ ?_
              exact h _ l0 l1 l2 l5 l6 l9 l10 l11 l12
            refine rs_ifeq (tg := 164) wi_480_120 ⟨by decide, by decide⟩ (fun q => ?_) (fun q => ?_)
            ·
              have h := wp_pos h q
              exact hj164 _ h _ l0 l1 l2 l5 l6 l9 l10 l11 l12
            ·
              have h := wp_neg h q
              refine rs_aldn wi_480_123 l0 ?_
              refine rs_ild wi_480_124 l12 ?_
              refine rs_ild wi_480_126 l5 ?_
              refine rs_V wi_480_128 wc_480_1007 rfl (dq_isa tf_174_0 wa_15_476) (by omega) (ml_le wm_476 (by omega)) rfl (sp_476 hw (by omega) (ml_sub wm_476 (by omega)) (wp_bind h) (fun v19 h => rs_back1 ?_))
              refine rs_ifeq (tg := 164) wi_480_131 ⟨by decide, by decide⟩ (fun q => ?_) (fun q => ?_)
              ·
                have h := wp_pos h q
                exact hj164 _ h _ l0 l1 l2 l5 l6 l9 l10 l11 l12
              ·
                have h := wp_neg h q
                refine rs_lld wi_480_134 l6 ?_
                refine rs_pure wi_480_136 rfl ?_
                refine rs_topl (v := 0) (by decide) ?_
                refine rs_pure wi_480_137 rfl ?_
                refine wp_jn (B := fun p20 : Unit => ∀ lv, rx_ld lv 0 = some (.ref 174) → rx_ld lv 1 = some (.int a1) → rx_ld lv 2 = some (.int a2) → rx_ld lv 5 = some (.int p2.1) → rx_ld lv 6 = some (.long r4.1) → rx_ld lv 9 = some (.int p8.1) → rx_ld lv 10 = some (.int s13.1) → rx_ld lv 12 = some (.int s13.2.2) → rs (rt_P sc fm) 480 F Lo 157 lv [] (hq false p8.2 y w) Q) h (fun p20 h lv l0 l1 l2 l5 l6 l9 l10 l12 => ?_) (fun j157 hj157 h => ?_)
                ·
                  obtain ⟨v22, e23, h⟩ := wp_lt h
                  refine dl_inc wi_480_157 l10 rfl e23 (fun lv l10 t21 => ?_)
                  have l0 := t21 _ _ (by decide) (Or.inl rfl) l0
                  have l1 := t21 _ _ (by decide) (Or.inl rfl) l1
                  have l2 := t21 _ _ (by decide) (Or.inl rfl) l2
                  have l5 := t21 _ _ (by decide) (Or.inl rfl) l5
                  have l6 := t21 _ _ (by decide) (Or.inr (by decide)) l6
                  have l9 := t21 _ _ (by decide) (Or.inl rfl) l9
                  have l12 := t21 _ _ (by decide) (Or.inl rfl) l12
                  refine rs_ild wi_480_160 l12 ?_
                  refine dl_ist wi_480_162 rfl (fun lv l11 t24 => ?_)
                  have l0 := t24 _ _ (by decide) (Or.inl rfl) l0
                  have l1 := t24 _ _ (by decide) (Or.inl rfl) l1
                  have l2 := t24 _ _ (by decide) (Or.inl rfl) l2
                  have l5 := t24 _ _ (by decide) (Or.inl rfl) l5
                  have l6 := t24 _ _ (by decide) (Or.inr (by decide)) l6
                  have l9 := t24 _ _ (by decide) (Or.inl rfl) l9
                  have l10 := t24 _ _ (by decide) (Or.inl rfl) l10
                  have l12 := t24 _ _ (by decide) (Or.inl rfl) l12
                  exact hj164 _ h _ l0 l1 l2 l5 l6 l9 l10 l11 l12
                refine rs_ifeq (tg := 157) wi_480_138 ⟨by decide, by decide⟩ (fun q => ?_) (fun q => ?_)
                ·
                  have h := wp_pos h q
                  exact hj157 _ h _ l0 l1 l2 l5 l6 l9 l10 l12
                ·
                  have h := wp_neg h q
                  refine rs_aldn wi_480_141 l0 ?_
                  refine dq_gr wi_480_142 wf_480_353 tf_174_139 ?_
                  refine rs_ild wi_480_145 l12 ?_
                  obtain ⟨g25, h⟩ := wp_gd h
                  refine dq_lald wi_480_147 t_265 g25 ?_
                  refine rs_lld wi_480_148 l6 ?_
                  refine rs_pure wi_480_150 rfl ?_
                  refine rs_ifeq (tg := 157) wi_480_151 ⟨by decide, by decide⟩ (fun q => ?_) (fun q => ?_)
                  ·
                    have h := wp_pos h q
                    exact hj157 _ h _ l0 l1 l2 l5 l6 l9 l10 l12
                  ·
                    have h := wp_neg h q
                    refine rs_goto (tg := 164) wi_480_154 ⟨by decide, by decide⟩ ?_
                    exact hj164 _ h _ l0 l1 l2 l5 l6 l9 l10 l11 l12
      ·
        intro x26 h lv l0 l1 l2 l9 l10 l11
        refine rs_ild wi_480_170 l10 ?_
        refine wp_jn (B := fun p27 : cS => ∀ lv, rx_ld lv 0 = some (.ref 174) → rx_ld lv 1 = some (.int a1) → rx_ld lv 2 = some (.int a2) → rx_ld lv 9 = some (.int p8.1) → rx_ld lv 10 = some (.int x26.1) → rx_ld lv 11 = some (.int x26.2) → rs (rt_P sc fm) 480 F Lo 182 lv [] (hq false p27 y w) Q) h (fun p27 h lv l0 l1 l2 l9 l10 l11 => ?_) (fun j182 hj182 h => ?_)
        ·
          refine rs_ild wi_480_182 l10 ?_
          refine rs_pure wi_480_184 rfl ?_
          refine rs_topi (v := 1) (by decide) ?_
          refine wp_jn (B := fun p28 : cS => ∀ lv, rx_ld lv 0 = some (.ref 174) → rx_ld lv 1 = some (.int a1) → rx_ld lv 2 = some (.int a2) → rx_ld lv 9 = some (.int p8.1) → rx_ld lv 11 = some (.int x26.2) → rs (rt_P sc fm) 480 F Lo 195 lv [] (hq false p28 y w) Q) h (fun p28 h lv l0 l1 l2 l9 l11 => ?_) (fun j195 hj195 h => ?_)
          ·
            refine rs_aldn wi_480_195 l0 ?_
            refine dq_gi wi_480_196 wf_480_969 tf_174_131 ?_
            refine wp_jn (B := fun p29 : Unit => ∀ lv, rs (rt_P sc fm) 480 F Lo 207 lv [] (hq false p28 y w) Q) h (fun p29 h lv => ?_) (fun j207 hj207 h => ?_)
            ·
              exact rs_vret wi_480_207 wr_480 (hQ p28 h)
            refine rs_ifgt (tg := 207) wi_480_199 ⟨by decide, by decide⟩ (fun q => ?_) (fun q => ?_)
            ·
              have h := wp_pos h q
              exact hj207 _ h _
            ·
              have h := wp_neg h q
              refine rs_ild wi_480_202 l9 ?_
              refine rs_ifeq (tg := 208) wi_480_204 ⟨by decide, by decide⟩ (fun q => ?_) (fun q => ?_)
              ·
                have h := wp_pos h q
                refine rs_aldn wi_480_208 l0 ?_
                refine dq_gr wi_480_209 wf_480_347 tf_174_137 ?_
                refine rs_ild wi_480_212 l11 ?_
                obtain ⟨g30, h⟩ := wp_gd h
                refine dq_zald wi_480_214 t_263 g30 ?_
                refine wp_jn (B := fun p31 : cS => ∀ lv, rs (rt_P sc fm) 480 F Lo 244 lv [] (hq false p31 y w) Q) h (fun p31 h lv => ?_) (fun j244 hj244 h => ?_)
                ·
                  exact rs_vret wi_480_244 wr_480 (hQ p31 h)
                refine rs_ifeq (tg := 228) wi_480_215 ⟨by decide, by decide⟩ (fun q => ?_) (fun q => ?_)
                ·
                  have h := wp_pos h q
                  refine rs_aldn wi_480_228 l0 ?_
                  refine dq_gr wi_480_229 wf_480_344 tf_174_136 ?_
                  refine rs_ild wi_480_232 l11 ?_
                  obtain ⟨g32, h⟩ := wp_gd h
                  refine dq_zald wi_480_234 t_262 g32 ?_
                  refine rs_ifne (tg := 244) wi_480_235 ⟨by decide, by decide⟩ (fun q => ?_) (fun q => ?_)
                  ·
                    have h := wp_neg h q
                    exact hj244 _ h _
                  ·
                    have h := wp_pos h q
                    refine rs_aldn wi_480_238 l0 ?_
                    refine rs_ild wi_480_239 l11 ?_
                    refine rs_V wi_480_241 wc_480_989 rfl (dq_isa tf_174_0 wa_15_478) (by omega) (ml_le wm_478 (by omega)) rfl (sp_478 hw hrec (by omega) (ml_sub wm_478 (by omega)) (by omega) (ml_sub wm_478 (by omega)) (wp_bind h) (fun r33 h => rs_back0 ?_))
                    exact hj244 _ h _
                ·
                  have h := wp_neg h q
                  refine rs_aldn wi_480_218 l0 ?_
                  refine rs_pure wi_480_219 rfl ?_
                  refine rs_topi (v := 3) (by decide) ?_
                  refine rs_ildn wi_480_220 l2 ?_
                  refine rs_ildn wi_480_221 l1 ?_
                  refine rs_V wi_480_222 wc_480_1010 rfl (dq_isa tf_174_0 wa_15_477) (by omega) (ml_le wm_477 (by omega)) rfl (sp_477 hw (by omega) (ml_sub wm_477 (by omega)) (wp_bind h) (fun r34 h => rs_back0 ?_))
                  refine rs_goto (tg := 244) wi_480_225 ⟨by decide, by decide⟩ ?_
                  exact hj244 _ h _
              ·
                have h := wp_neg h q
                exact hj207 _ h _
          refine rs_icle (tg := 195) wi_480_185 ⟨by decide, by decide⟩ (fun q => ?_) (fun q => ?_)
          ·
            have h := wp_pos h q
            exact hj195 _ h _ l0 l1 l2 l9 l11
          ·
            have h := wp_neg h q
            refine rs_aldn wi_480_188 l0 ?_
            refine rs_pure wi_480_189 rfl ?_
            refine rs_topi (v := 2) (by decide) ?_
            refine rs_ildn wi_480_190 l2 ?_
            refine rs_ildn wi_480_191 l1 ?_
            refine rs_V wi_480_192 wc_480_1010 rfl (dq_isa tf_174_0 wa_15_477) (by omega) (ml_le wm_477 (by omega)) rfl (sp_477 hw (by omega) (ml_sub wm_477 (by omega)) (wp_bind h) (fun r35 h => rs_back0 ?_))
            exact hj195 _ h _ l0 l1 l2 l9 l11
        refine rs_ifne (tg := 182) wi_480_172 ⟨by decide, by decide⟩ (fun q => ?_) (fun q => ?_)
        ·
          have h := wp_neg h q
          exact hj182 _ h _ l0 l1 l2 l9 l10 l11
        ·
          have h := wp_pos h q
          refine rs_aldn wi_480_175 l0 ?_
          refine rs_pure wi_480_176 rfl ?_
          refine rs_topi (v := 1) (by decide) ?_
          refine rs_ildn wi_480_177 l2 ?_
          refine rs_ildn wi_480_178 l1 ?_
          refine rs_V wi_480_179 wc_480_1010 rfl (dq_isa tf_174_0 wa_15_477) (by omega) (ml_le wm_477 (by omega)) rfl (sp_477 hw (by omega) (ml_sub wm_477 (by omega)) (wp_bind h) (fun r36 h => rs_back0 ?_))
          exact hj182 _ h _ l0 l1 l2 l9 l10 l11
    refine wp_jn (B := fun p37 : cS => ∀ lv, rx_ld lv 0 = some (.ref 174) → rx_ld lv 1 = some (.int a1) → rx_ld lv 2 = some (.int a2) → rx_ld lv 5 = some (.int p2.1) → rx_ld lv 6 = some (.long r4.1) → rs (rt_P sc fm) 480 F Lo 87 lv [] (hq false p37 y w) Q) h (fun p37 h lv l0 l1 l2 l5 l6 => ?_) (fun j87 hj87 h => ?_)
    ·
      refine rs_pure wi_480_87 rfl ?_
      refine rs_topi (v := 0) (by decide) ?_
      exact hj88 _ h _ l0 l1 l2 l5 l6
    refine rs_iflt (tg := 87) wi_480_58 ⟨by decide, by decide⟩ (fun q => ?_) (fun q => ?_)
    ·
      have h := wp_pos h q
      exact hj87 _ h _ l0 l1 l2 l5 l6
    ·
      have h := wp_neg h q
      refine rs_aldn wi_480_61 l0 ?_
      refine rs_ildn wi_480_62 l3 ?_
      refine rs_ild wi_480_63 l4 ?_
      refine rs_ild wi_480_65 l8 ?_
      refine rs_V wi_480_67 wc_480_706 rfl (dq_isa tf_174_0 wa_15_429) (by omega) (ml_le wm_429 (by omega)) rfl (sp_429 hw (by omega) (ml_sub wm_429 (by omega)) (wp_bind h) (fun r38 h => rs_back1 ?_))
      refine rs_pure wi_480_70 rfl ?_
      refine rs_topi (v := 1) (by decide) ?_
      refine rs_icne (tg := 87) wi_480_71 ⟨by decide, by decide⟩ (fun q => ?_) (fun q => ?_)
      ·
        have h := wp_neg h q
        exact hj87 _ h _ l0 l1 l2 l5 l6
      ·
        have h := wp_pos h q
        refine rs_aldn wi_480_74 l0 ?_
        refine dq_gl wi_480_75 wf_480_697 tf_174_79 ?_
        refine rs_pure wi_480_78 rfl ?_
        refine rs_topl (v := 0) (by decide) ?_
        refine rs_pure wi_480_79 rfl ?_
        refine rs_ifeq (tg := 87) wi_480_80 ⟨by decide, by decide⟩ (fun q => ?_) (fun q => ?_)
        ·
          have h := wp_pos h q
          exact hj87 _ h _ l0 l1 l2 l5 l6
        ·
          have h := wp_neg h q
          refine rs_pure wi_480_83 rfl ?_
          refine rs_topi (v := 1) (by decide) ?_
          refine rs_goto (tg := 88) wi_480_84 ⟨by decide, by decide⟩ ?_
          exact hj88 _ h _ l0 l1 l2 l5 l6
  refine rs_ifeq (tg := 30) wi_480_10 ⟨by decide, by decide⟩ (fun q => ?_) (fun q => ?_)
  ·
    have h := wp_pos h q
    refine rs_pure wi_480_30 rfl ?_
    refine rs_topi (v := (-1)) (by decide) ?_
    exact hj31 _ h _ l0 l1 l2 l3 l4
  ·
    have h := wp_neg h q
    refine rs_aldn wi_480_13 l0 ?_
    refine rs_aldn wi_480_14 l0 ?_
    refine rs_ildn wi_480_15 l3 ?_
    refine rs_ild wi_480_16 l4 ?_
    refine rs_ldcl wi_480_18 wk_480_1000 ?_
    refine rs_V wi_480_21 wc_480_985 rfl (dq_isa tf_174_0 wa_15_474) (by omega) (ml_le wm_474 (by omega)) rfl (sp_474 hw (by omega) (ml_sub wm_474 (by omega)) (wp_bind h) (fun r39 h => rs_back1 ?_))
    refine rs_V wi_480_24 wc_480_468 rfl (dq_isa tf_174_0 wa_15_375) (by omega) (ml_le wm_375 (by omega)) rfl (sp_375 hw (by omega) (ml_sub wm_375 (by omega)) (wp_bind h) (fun v40 h => rs_back1 ?_))
    refine rs_goto (tg := 31) wi_480_27 ⟨by decide, by decide⟩ ?_
    exact hj31 _ h _ l0 l1 l2 l3 l4
theorem wa_15_480 : rz_cn 15 (rx_yn (rt_P sc fm) 480).cls = true := (by decide +kernel : rz_cn 15 (rt_yn 480).cls = true)
theorem wc_479_462 : rx_ct (rt_P sc fm) 479 462 = some (0, 373, 1) := (by decide +kernel : rt_ct 479 462 = some (0, 373, 1))
theorem wc_479_712 : rx_ct (rt_P sc fm) 479 712 = some (0, 428, 2) := (by decide +kernel : rt_ct 479 712 = some (0, 428, 2))
theorem wc_479_838 : rx_ct (rt_P sc fm) 479 838 = some (1, 451, 2) := (by decide +kernel : rt_ct 479 838 = some (1, 451, 2))
theorem wc_479_992 : rx_ct (rt_P sc fm) 479 992 = some (0, 479, 2) := (by decide +kernel : rt_ct 479 992 = some (0, 479, 2))
theorem wc_479_997 : rx_ct (rt_P sc fm) 479 997 = some (0, 480, 4) := (by decide +kernel : rt_ct 479 997 = some (0, 480, 4))
theorem wf_479_155 : rx_ft (rt_P sc fm) 479 155 = some (15, 39) := (by decide +kernel : rt_ft 479 155 = some (15, 39))
theorem wf_479_158 : rx_ft (rt_P sc fm) 479 158 = some (15, 40) := (by decide +kernel : rt_ft 479 158 = some (15, 40))
theorem wf_479_252 : rx_ft (rt_P sc fm) 479 252 = some (15, 75) := (by decide +kernel : rt_ft 479 252 = some (15, 75))
theorem wf_479_678 : rx_ft (rt_P sc fm) 479 678 = some (15, 74) := (by decide +kernel : rt_ft 479 678 = some (15, 74))
theorem wf_479_969 : rx_ft (rt_P sc fm) 479 969 = some (15, 131) := (by decide +kernel : rt_ft 479 969 = some (15, 131))
theorem wi_479_0 : ri (rt_P sc fm) 479 0 (.aload_n 0) (1) := ri_of (by decide +kernel) rfl
theorem wi_479_1 : ri (rt_P sc fm) 479 1 (.getfield 155) (4) := ri_of (by decide +kernel) rfl
theorem wi_479_10 : ri (rt_P sc fm) 479 10 (.iload_n 1) (11) := ri_of (by decide +kernel) rfl
theorem wi_479_11 : ri (rt_P sc fm) 479 11 (.aload_n 0) (12) := ri_of (by decide +kernel) rfl
theorem wi_479_12 : ri (rt_P sc fm) 479 12 (.getfield 155) (15) := ri_of (by decide +kernel) rfl
theorem wi_479_15 : ri (rt_P sc fm) 479 15 (.iload_n 2) (16) := ri_of (by decide +kernel) rfl
theorem wi_479_16 : ri (rt_P sc fm) 479 16 (.iaload) (17) := ri_of (by decide +kernel) rfl
theorem wi_479_17 : ri (rt_P sc fm) 479 17 (.invokevirtual 992) (20) := ri_of (by decide +kernel) rfl
theorem wi_479_20 : ri (rt_P sc fm) 479 20 (.aload_n 0) (21) := ri_of (by decide +kernel) rfl
theorem wi_479_21 : ri (rt_P sc fm) 479 21 (.ldc2_w 995) (24) := ri_of (by decide +kernel) rfl
theorem wi_479_24 : ri (rt_P sc fm) 479 24 (.invokevirtual 462) (27) := ri_of (by decide +kernel) rfl
theorem wi_479_27 : ri (rt_P sc fm) 479 27 (.istore_n 3) (28) := ri_of (by decide +kernel) rfl
theorem wi_479_28 : ri (rt_P sc fm) 479 28 (.iconst 0) (29) := ri_of (by decide +kernel) rfl
theorem wi_479_29 : ri (rt_P sc fm) 479 29 (.istore 4) (31) := ri_of (by decide +kernel) rfl
theorem wi_479_31 : ri (rt_P sc fm) 479 31 (.iload 4) (33) := ri_of (by decide +kernel) rfl
theorem wi_479_33 : ri (rt_P sc fm) 479 33 (.aload_n 0) (34) := ri_of (by decide +kernel) rfl
theorem wi_479_34 : ri (rt_P sc fm) 479 34 (.getfield 158) (37) := ri_of (by decide +kernel) rfl
theorem wi_479_37 : ri (rt_P sc fm) 479 37 (.iload_n 2) (38) := ri_of (by decide +kernel) rfl
theorem wi_479_38 : ri (rt_P sc fm) 479 38 (.iaload) (39) := ri_of (by decide +kernel) rfl
theorem wi_479_39 : ri (rt_P sc fm) 479 39 (.if_icmp .ge 56) (42) := ri_of (by decide +kernel) rfl
theorem wi_479_4 : ri (rt_P sc fm) 479 4 (.iload_n 2) (5) := ri_of (by decide +kernel) rfl
theorem wi_479_42 : ri (rt_P sc fm) 479 42 (.iload_n 3) (43) := ri_of (by decide +kernel) rfl
theorem wi_479_43 : ri (rt_P sc fm) 479 43 (.ifCond .lt 52) (46) := ri_of (by decide +kernel) rfl
theorem wi_479_46 : ri (rt_P sc fm) 479 46 (.aload_n 0) (47) := ri_of (by decide +kernel) rfl
theorem wi_479_47 : ri (rt_P sc fm) 479 47 (.getfield 969) (50) := ri_of (by decide +kernel) rfl
theorem wi_479_5 : ri (rt_P sc fm) 479 5 (.iaload) (6) := ri_of (by decide +kernel) rfl
theorem wi_479_50 : ri (rt_P sc fm) 479 50 (.ifCond .ne 45) (53) := ri_of (by decide +kernel) rfl
theorem wi_479_53 : ri (rt_P sc fm) 479 53 (.iload_n 2) (54) := ri_of (by decide +kernel) rfl
theorem wi_479_54 : ri (rt_P sc fm) 479 54 (.iload 4) (56) := ri_of (by decide +kernel) rfl
theorem wi_479_56 : ri (rt_P sc fm) 479 56 (.invokestatic 838) (59) := ri_of (by decide +kernel) rfl
theorem wi_479_59 : ri (rt_P sc fm) 479 59 (.istore 5) (61) := ri_of (by decide +kernel) rfl
theorem wi_479_6 : ri (rt_P sc fm) 479 6 (.ifCond .lt 14) (9) := ri_of (by decide +kernel) rfl
theorem wi_479_61 : ri (rt_P sc fm) 479 61 (.aload_n 0) (62) := ri_of (by decide +kernel) rfl
theorem wi_479_62 : ri (rt_P sc fm) 479 62 (.iload 5) (64) := ri_of (by decide +kernel) rfl
theorem wi_479_64 : ri (rt_P sc fm) 479 64 (.iload_n 3) (65) := ri_of (by decide +kernel) rfl
theorem wi_479_65 : ri (rt_P sc fm) 479 65 (.invokevirtual 712) (68) := ri_of (by decide +kernel) rfl
theorem wi_479_68 : ri (rt_P sc fm) 479 68 (.aload_n 0) (69) := ri_of (by decide +kernel) rfl
theorem wi_479_69 : ri (rt_P sc fm) 479 69 (.getfield 678) (72) := ri_of (by decide +kernel) rfl
theorem wi_479_72 : ri (rt_P sc fm) 479 72 (.ifCond .le 17) (75) := ri_of (by decide +kernel) rfl
theorem wi_479_75 : ri (rt_P sc fm) 479 75 (.aload_n 0) (76) := ri_of (by decide +kernel) rfl
theorem wi_479_76 : ri (rt_P sc fm) 479 76 (.iload_n 1) (77) := ri_of (by decide +kernel) rfl
theorem wi_479_77 : ri (rt_P sc fm) 479 77 (.iload 5) (79) := ri_of (by decide +kernel) rfl
theorem wi_479_79 : ri (rt_P sc fm) 479 79 (.aload_n 0) (80) := ri_of (by decide +kernel) rfl
theorem wi_479_80 : ri (rt_P sc fm) 479 80 (.getfield 252) (83) := ri_of (by decide +kernel) rfl
theorem wi_479_83 : ri (rt_P sc fm) 479 83 (.iconst 0) (84) := ri_of (by decide +kernel) rfl
theorem wi_479_84 : ri (rt_P sc fm) 479 84 (.iaload) (85) := ri_of (by decide +kernel) rfl
theorem wi_479_85 : ri (rt_P sc fm) 479 85 (.iload_n 3) (86) := ri_of (by decide +kernel) rfl
theorem wi_479_86 : ri (rt_P sc fm) 479 86 (.invokevirtual 997) (89) := ri_of (by decide +kernel) rfl
theorem wi_479_89 : ri (rt_P sc fm) 479 89 (.iinc 4 1) (92) := ri_of (by decide +kernel) rfl
theorem wi_479_9 : ri (rt_P sc fm) 479 9 (.aload_n 0) (10) := ri_of (by decide +kernel) rfl
theorem wi_479_92 : ri (rt_P sc fm) 479 92 (.goto (-61)) (95) := ri_of (by decide +kernel) rfl
theorem wi_479_95 : ri (rt_P sc fm) 479 95 (.return_) (96) := ri_of (by decide +kernel) rfl
theorem wk_479_995 : rx_kt (rt_P sc fm) 479 995 = some (.long (2002873972)) := (by decide +kernel : rt_kt 479 995 = some (.long (2002873972)))
theorem wm_480 : rx_ml (rt_P sc fm) 480 = 13 := (by decide +kernel : rt_ml 480 = 13)
theorem wr_479 : rx_rt (rt_P sc fm) 479 = none := (by decide +kernel : rt_rt 479 = none)
/-- MarkHouseModel.wantsOf(II)V -/
def d_479 : Nat → Nat → Int32 → Int32 → cS → Option (cS)
  | 0, _, _, _, _ => none
  | e + 1, n, a1, a2, c =>
  if ib a2 12 then
  jn (fun p2 : cS =>
    Option.bind (d_373 n 2002873972 p2) (fun v3 =>
    Option.bind (whl (R := (cS)) (fun s6 : Int32 × cS =>
      if ib a2 12 then
      if (s6.2.1 202 (ix a2)) ≤ s6.1 then
        some (.inr s6.2)
      else
        if v3 < 0 then
          some (.inr s6.2)
        else
          if (s6.2.1 174 131) = 0 then
            Option.bind (d_451 n a2 s6.1) (fun v8 =>
            Option.bind (d_428 n v8 v3 s6.2) (fun r10 =>
            jn (fun p11 : cS =>
              lt (s6.1 + 1 : Int32) (fun v13 =>
              some (.inl (v13, p11))))
            (fun j89 =>
            if (r10.1 174 74) ≤ 0 then
              j89 r10
            else
              if ib 0 20 then
              Option.bind (d_480 (d_479 e n) n a1 v8 (r10.1 233 (ix 0)) v3 r10) (fun r16 =>
              j89 r16)
              else none)))
          else
            some (.inr s6.2)
      else none) n (0, p2))
    (fun x17 : cS =>
      some x17)))
  (fun j20 =>
  if (c.1 201 (ix a2)) < 0 then
    j20 c
  else
    if ib a2 12 then
    Option.bind (d_479 e n a1 (c.1 201 (ix a2)) c) (fun r19 =>
    j20 r19)
    else none)
  else none
theorem sp_479 {n : Nat} {y : cS} {w : cW} (hw : rOK fm w) : ∀ (e : Nat) {F Lo : Nat} {a1 : Int32} {a2 : Int32} {c : cS} {K : cS → Prop} {Q : ((Option Value) ⊕ String) → List va_E → Prop}, 4 + 3 * e ≤ F → 105 + 78 * e ≤ Lo → wp (d_479 e n a1 a2 c) K → (∀ r, K r → Q (.inl none) (hq false r y w)) → rs (rt_P sc fm) 479 F Lo 0 [(0, .ref 174), (1, .int a1), (2, .int a2)] [] (hq false c y w) Q
  | 0, _, _, _, _, _, _, _, _, _, h, _ => h.elim
  | e + 1, F, Lo, a1, a2, c, K, Q, hF, hLo, h, hQ => by
  unfold d_479 at h
  obtain ⟨lv, elv⟩ : ∃ lv : rx_L, lv = [(0, .ref 174), (1, .int a1), (2, .int a2)] := ⟨_, rfl⟩
  rw [← elv]
  have l0 : rx_ld lv 0 = some (.ref 174) := by rw [elv]; rfl
  have l1 : rx_ld lv 1 = some (.int a1) := by rw [elv]; rfl
  have l2 : rx_ld lv 2 = some (.int a2) := by rw [elv]; rfl
  refine rs_aldn wi_479_0 l0 ?_
  refine dq_gr wi_479_1 wf_479_155 tf_174_39 ?_
  refine rs_ildn wi_479_4 l2 ?_
  obtain ⟨g1, h⟩ := wp_gd h
  refine dq_iald wi_479_5 t_201 g1 ?_
  refine wp_jn (B := fun p2 : cS => ∀ lv, rx_ld lv 0 = some (.ref 174) → rx_ld lv 1 = some (.int a1) → rx_ld lv 2 = some (.int a2) → rs (rt_P sc fm) 479 F Lo 20 lv [] (hq false p2 y w) Q) h (fun p2 h lv l0 l1 l2 => ?_) (fun j20 hj20 h => ?_)
  ·
    refine rs_aldn wi_479_20 l0 ?_
    refine rs_ldcl wi_479_21 wk_479_995 ?_
    refine rs_V wi_479_24 wc_479_462 rfl (dq_isa tf_174_0 wa_15_373) (by omega) (ml_le wm_373 (by omega)) rfl (sp_373 hw (by omega) (ml_sub wm_373 (by omega)) (wp_bind h) (fun v3 h => rs_back1 ?_))
    refine dl_istn wi_479_27 rfl (fun lv l3 t4 => ?_)
    have l0 := t4 _ _ (by decide) (Or.inl rfl) l0
    have l1 := t4 _ _ (by decide) (Or.inl rfl) l1
    have l2 := t4 _ _ (by decide) (Or.inl rfl) l2
    refine rs_pure wi_479_28 rfl ?_
    refine rs_topi (v := 0) (by decide) ?_
    refine dl_ist wi_479_29 rfl (fun lv l4 t5 => ?_)
    have l0 := t5 _ _ (by decide) (Or.inl rfl) l0
    have l1 := t5 _ _ (by decide) (Or.inl rfl) l1
    have l2 := t5 _ _ (by decide) (Or.inl rfl) l2
    have l3 := t5 _ _ (by decide) (Or.inl rfl) l3
    refine whl_ex (A := fun s6 : Int32 × cS => ∀ lv, rx_ld lv 0 = some (.ref 174) → rx_ld lv 1 = some (.int a1) → rx_ld lv 2 = some (.int a2) → rx_ld lv 3 = some (.int v3) → rx_ld lv 4 = some (.int s6.1) → rs (rt_P sc fm) 479 F Lo 31 lv [] (hq false s6.2 y w) Q) (B := (fun x17 : cS => ∀ lv, rs (rt_P sc fm) 479 F Lo 95 lv [] (hq false x17 y w) Q)) ?_ ?_ _ _ (wp_bind h) _ l0 l1 l2 l3 l4
    · intro s6 h lv l0 l1 l2 l3 l4
      refine rs_ild wi_479_31 l4 ?_
      refine rs_aldn wi_479_33 l0 ?_
      refine dq_gr wi_479_34 wf_479_158 tf_174_40 ?_
      refine rs_ildn wi_479_37 l2 ?_
      obtain ⟨g7, h⟩ := wp_gd h
      refine dq_iald wi_479_38 t_202 g7 ?_
      refine rs_icge (tg := 95) wi_479_39 ⟨by decide, by decide⟩ (fun q => ?_) (fun q => ?_)
      ·
        have h := wp_pos h q
        exact h _
      ·
        have h := wp_neg h q
        refine rs_ildn wi_479_42 l3 ?_
        refine rs_iflt (tg := 95) wi_479_43 ⟨by decide, by decide⟩ (fun q => ?_) (fun q => ?_)
        ·
          have h := wp_pos h q
          exact h _
        ·
          have h := wp_neg h q
          refine rs_aldn wi_479_46 l0 ?_
          refine dq_gi wi_479_47 wf_479_969 tf_174_131 ?_
          refine rs_ifne (tg := 95) wi_479_50 ⟨by decide, by decide⟩ (fun q => ?_) (fun q => ?_)
          ·
            have h := wp_neg h q
            exact h _
          ·
            have h := wp_pos h q
            refine rs_ildn wi_479_53 l2 ?_
            refine rs_ild wi_479_54 l4 ?_
            refine rs_S wi_479_56 wc_479_838 (Or.inl rfl) rfl (by omega) (ml_le wm_451 (by omega)) rfl (sp_451 (by omega) (ml_sub wm_451 (by omega)) (wp_bind h) (fun v8 h => rs_back1 ?_))
            refine dl_ist wi_479_59 rfl (fun lv l5 t9 => ?_)
            have l0 := t9 _ _ (by decide) (Or.inl rfl) l0
            have l1 := t9 _ _ (by decide) (Or.inl rfl) l1
            have l2 := t9 _ _ (by decide) (Or.inl rfl) l2
            have l3 := t9 _ _ (by decide) (Or.inl rfl) l3
            have l4 := t9 _ _ (by decide) (Or.inl rfl) l4
            refine rs_aldn wi_479_61 l0 ?_
            refine rs_ild wi_479_62 l5 ?_
            refine rs_ildn wi_479_64 l3 ?_
            refine rs_V wi_479_65 wc_479_712 rfl (dq_isa tf_174_0 wa_15_428) (by omega) (ml_le wm_428 (by omega)) rfl (sp_428 hw (by omega) (ml_sub wm_428 (by omega)) (wp_bind h) (fun r10 h => rs_back0 ?_))
            refine rs_aldn wi_479_68 l0 ?_
            refine dq_gi wi_479_69 wf_479_678 tf_174_74 ?_
            refine wp_jn (B := fun p11 : cS => ∀ lv, rx_ld lv 0 = some (.ref 174) → rx_ld lv 1 = some (.int a1) → rx_ld lv 2 = some (.int a2) → rx_ld lv 3 = some (.int v3) → rx_ld lv 4 = some (.int s6.1) → rs (rt_P sc fm) 479 F Lo 89 lv [] (hq false p11 y w) Q) h (fun p11 h lv l0 l1 l2 l3 l4 => ?_) (fun j89 hj89 h => ?_)
            ·
              obtain ⟨v13, e14, h⟩ := wp_lt h
              refine dl_inc wi_479_89 l4 rfl e14 (fun lv l4 t12 => ?_)
              have l0 := t12 _ _ (by decide) (Or.inl rfl) l0
              have l1 := t12 _ _ (by decide) (Or.inl rfl) l1
              have l2 := t12 _ _ (by decide) (Or.inl rfl) l2
              have l3 := t12 _ _ (by decide) (Or.inl rfl) l3
              refine rs_goto (tg := 31) wi_479_92 ⟨by decide, by decide⟩ ?_
              exact h _ l0 l1 l2 l3 l4
            refine rs_ifle (tg := 89) wi_479_72 ⟨by decide, by decide⟩ (fun q => ?_) (fun q => ?_)
            ·
              have h := wp_pos h q
              exact hj89 _ h _ l0 l1 l2 l3 l4
            ·
              have h := wp_neg h q
              refine rs_aldn wi_479_75 l0 ?_
              refine rs_ildn wi_479_76 l1 ?_
              refine rs_ild wi_479_77 l5 ?_
              refine rs_aldn wi_479_79 l0 ?_
              refine dq_gr wi_479_80 wf_479_252 tf_174_75 ?_
              refine rs_pure wi_479_83 rfl ?_
              refine rs_topi (v := 0) (by decide) ?_
              obtain ⟨g15, h⟩ := wp_gd h
              refine dq_iald wi_479_84 t_233 g15 ?_
              refine rs_ildn wi_479_85 l3 ?_
              refine rs_V wi_479_86 wc_479_997 rfl (dq_isa tf_174_0 wa_15_480) (by omega) (ml_le wm_480 (by omega)) rfl (sp_480 (Fr := 4 + 3 * e) (Lr := 105 + 78 * e) hw (sp_479 hw e) (by omega) (ml_sub wm_480 (by omega)) (by omega) (ml_sub wm_480 (by omega)) (wp_bind h) (fun r16 h => rs_back0 ?_))
              exact hj89 _ h _ l0 l1 l2 l3 l4
    ·
      intro x17 h lv
      exact rs_vret wi_479_95 wr_479 (hQ x17 h)
  refine rs_iflt (tg := 20) wi_479_6 ⟨by decide, by decide⟩ (fun q => ?_) (fun q => ?_)
  ·
    have h := wp_pos h q
    exact hj20 _ h _ l0 l1 l2
  ·
    have h := wp_neg h q
    refine rs_aldn wi_479_9 l0 ?_
    refine rs_ildn wi_479_10 l1 ?_
    refine rs_aldn wi_479_11 l0 ?_
    refine dq_gr wi_479_12 wf_479_155 tf_174_39 ?_
    refine rs_ildn wi_479_15 l2 ?_
    obtain ⟨g18, h⟩ := wp_gd h
    refine dq_iald wi_479_16 t_201 g18 ?_
    refine rs_V wi_479_17 wc_479_992 rfl (dq_isa tf_174_0 wa_15_479) (by omega) (ml_le wm_479 (by omega)) rfl (sp_479 hw e (by omega) (ml_sub wm_479 (by omega)) (wp_bind h) (fun r19 h => rs_back0 ?_))
    exact hj20 _ h _ l0 l1 l2
theorem wi_488_0 : ri (rt_P sc fm) 488 0 (.iload_n 1) (1) := ri_of (by decide +kernel) rfl
theorem wi_488_1 : ri (rt_P sc fm) 488 1 (.i2b) (2) := ri_of (by decide +kernel) rfl
theorem wi_488_10 : ri (rt_P sc fm) 488 10 (.if_icmp .ge 21) (13) := ri_of (by decide +kernel) rfl
theorem wi_488_13 : ri (rt_P sc fm) 488 13 (.aload_n 0) (14) := ri_of (by decide +kernel) rfl
theorem wi_488_14 : ri (rt_P sc fm) 488 14 (.iload 5) (16) := ri_of (by decide +kernel) rfl
theorem wi_488_16 : ri (rt_P sc fm) 488 16 (.baload) (17) := ri_of (by decide +kernel) rfl
theorem wi_488_17 : ri (rt_P sc fm) 488 17 (.iload 4) (19) := ri_of (by decide +kernel) rfl
theorem wi_488_19 : ri (rt_P sc fm) 488 19 (.if_icmp .ne 6) (22) := ri_of (by decide +kernel) rfl
theorem wi_488_2 : ri (rt_P sc fm) 488 2 (.istore 4) (4) := ri_of (by decide +kernel) rfl
theorem wi_488_22 : ri (rt_P sc fm) 488 22 (.iload 5) (24) := ri_of (by decide +kernel) rfl
theorem wi_488_24 : ri (rt_P sc fm) 488 24 (.ireturn) (25) := ri_of (by decide +kernel) rfl
theorem wi_488_25 : ri (rt_P sc fm) 488 25 (.iinc 5 1) (28) := ri_of (by decide +kernel) rfl
theorem wi_488_28 : ri (rt_P sc fm) 488 28 (.goto (-21)) (31) := ri_of (by decide +kernel) rfl
theorem wi_488_31 : ri (rt_P sc fm) 488 31 (.iconst (-1)) (32) := ri_of (by decide +kernel) rfl
theorem wi_488_32 : ri (rt_P sc fm) 488 32 (.ireturn) (33) := ri_of (by decide +kernel) rfl
theorem wi_488_4 : ri (rt_P sc fm) 488 4 (.iload_n 2) (5) := ri_of (by decide +kernel) rfl
theorem wi_488_5 : ri (rt_P sc fm) 488 5 (.istore 5) (7) := ri_of (by decide +kernel) rfl
theorem wi_488_7 : ri (rt_P sc fm) 488 7 (.iload 5) (9) := ri_of (by decide +kernel) rfl
theorem wi_488_9 : ri (rt_P sc fm) 488 9 (.iload_n 3) (10) := ri_of (by decide +kernel) rfl
theorem wr_488 : rx_rt (rt_P sc fm) 488 = (some FieldType.int) := (by decide +kernel : rt_rt 488 = (some FieldType.int))
/-- java/lang/StringLatin1.indexOfChar([BIII)I -/
def d_488 (n : Nat) (j0 : Nat) (a1 : Int32) (a2 : Int32) (a3 : Int32) : Option (Int32) :=
  lt ((a1 : Int32).toInt8.toInt32 : Int32) (fun v2 =>
  Option.bind (whl (R := (Unit) ⊕ (Int32)) (fun s5 : Int32 =>
    if a3 ≤ s5 then
      some (.inr (.inl ()))
    else
      if ib s5 (sB j0).length then
      if ((sB j0).getD (ix s5) 0) = v2 then
        some (.inr (.inr s5))
      else
        lt (s5 + 1 : Int32) (fun v8 =>
        some (.inl v8))
      else none) n a2)
  (Sum.elim (fun x10 : Unit =>
    some (-1))
  (fun x11 : Int32 =>
    some x11)))
theorem sp_488 {F Lo n : Nat} {j0 : Nat} {a1 : Int32} {a2 : Int32} {a3 : Int32} {L : List va_E} {K : Int32 → Prop} {Q : ((Option Value) ⊕ String) → List va_E → Prop} (hL : L.length ≤ rx_B) (hfm : fm = .null ∨ fm = .ref rx_Fm) (hF : 0 ≤ F) (hLo : 0 ≤ Lo) (hj0 : (rt_sb j0).isSome = true) (h : wp (d_488 n j0 a1 a2 a3) K) (hQ : ∀ r, K r → Q (.inl (some (.int r))) L) : rs (rt_P sc fm) 488 F Lo 0 [(0, .ref (rx_V j0)), (1, .int a1), (2, .int a2), (3, .int a3)] [] L Q := by
  unfold d_488 at h
  obtain ⟨lv, elv⟩ : ∃ lv : rx_L, lv = [(0, .ref (rx_V j0)), (1, .int a1), (2, .int a2), (3, .int a3)] := ⟨_, rfl⟩
  rw [← elv]
  have l0 : rx_ld lv 0 = some (.ref (rx_V j0)) := by rw [elv]; rfl
  have l1 : rx_ld lv 1 = some (.int a1) := by rw [elv]; rfl
  have l2 : rx_ld lv 2 = some (.int a2) := by rw [elv]; rfl
  have l3 : rx_ld lv 3 = some (.int a3) := by rw [elv]; rfl
  refine rs_ildn wi_488_0 l1 ?_
  refine rs_pure wi_488_1 rfl ?_
  obtain ⟨v2, e3, h⟩ := wp_lt h
  refine rs_topi e3 ?_
  refine dl_ist wi_488_2 rfl (fun lv l4 t1 => ?_)
  have l0 := t1 _ _ (by decide) (Or.inl rfl) l0
  have l2 := t1 _ _ (by decide) (Or.inl rfl) l2
  have l3 := t1 _ _ (by decide) (Or.inl rfl) l3
  refine rs_ildn wi_488_4 l2 ?_
  refine dl_ist wi_488_5 rfl (fun lv l5 t4 => ?_)
  have l0 := t4 _ _ (by decide) (Or.inl rfl) l0
  have l3 := t4 _ _ (by decide) (Or.inl rfl) l3
  have l4 := t4 _ _ (by decide) (Or.inl rfl) l4
  refine whl_ex (A := fun s5 : Int32 => ∀ lv, rx_ld lv 0 = some (.ref (rx_V j0)) → rx_ld lv 3 = some (.int a3) → rx_ld lv 4 = some (.int v2) → rx_ld lv 5 = some (.int s5) → rs (rt_P sc fm) 488 F Lo 7 lv [] L Q) (B := (Sum.elim (fun x10 : Unit => ∀ lv, rs (rt_P sc fm) 488 F Lo 31 lv [] L Q) (fun x11 : Int32 => ∀ lv, rx_ld lv 5 = some (.int x11) → rs (rt_P sc fm) 488 F Lo 22 lv [] L Q))) ?_ ?_ _ _ (wp_bind h) _ l0 l3 l4 l5
  · intro s5 h lv l0 l3 l4 l5
    refine rs_ild wi_488_7 l5 ?_
    refine rs_ildn wi_488_9 l3 ?_
    refine rs_icge (tg := 31) wi_488_10 ⟨by decide, by decide⟩ (fun q => ?_) (fun q => ?_)
    ·
      have h := wp_pos h q
      exact h _
    ·
      have h := wp_neg h q
      refine rs_aldn wi_488_13 l0 ?_
      refine rs_ild wi_488_14 l5 ?_
      obtain ⟨g6, h⟩ := wp_gd h
      refine dq_svb wi_488_16 hL hj0 g6 ?_
      refine rs_ild wi_488_17 l4 ?_
      refine rs_icne (tg := 25) wi_488_19 ⟨by decide, by decide⟩ (fun q => ?_) (fun q => ?_)
      ·
        have h := wp_neg h q
        obtain ⟨v8, e9, h⟩ := wp_lt h
        refine dl_inc wi_488_25 l5 rfl e9 (fun lv l5 t7 => ?_)
        have l0 := t7 _ _ (by decide) (Or.inl rfl) l0
        have l3 := t7 _ _ (by decide) (Or.inl rfl) l3
        have l4 := t7 _ _ (by decide) (Or.inl rfl) l4
        refine rs_goto (tg := 7) wi_488_28 ⟨by decide, by decide⟩ ?_
        exact h _ l0 l3 l4 l5
      ·
        have h := wp_pos h q
        exact h _ l5
  ·
    refine sum_all ?_ ?_
    ·
      intro x10 h lv
      refine rs_pure wi_488_31 rfl ?_
      refine rs_topi (v := (-1)) (by decide) ?_
      exact rs_iret wi_488_32 wr_488 rfl (hQ (-1) h)
    ·
      intro x11 h lv l5
      refine rs_ild wi_488_22 l5 ?_
      exact rs_iret wi_488_24 wr_488 rfl (hQ x11 h)
end D60
