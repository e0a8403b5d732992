/-! THE CODE AS PURE PROGRAMS, 20: by wip/whole/dc.py -/
section D61
variable {sc : Nat × (Nat → Int32)} {fm : Value}
theorem wa_15_480 : rz_cn 15 (rx_yn (rt_P sc fm) 480).cls = true := (by decide +kernel : rz_cn 15 (rt_yn 480).cls = true)
theorem wc_479_462 : rx_ct (rt_P sc fm) 479 462 = some (0, 373, 1) := (by decide +kernel : rt_ct 479 462 = some (0, 373, 1))
theorem wc_479_712 : rx_ct (rt_P sc fm) 479 712 = some (0, 428, 2) := (by decide +kernel : rt_ct 479 712 = some (0, 428, 2))
theorem wc_479_838 : rx_ct (rt_P sc fm) 479 838 = some (1, 451, 2) := (by decide +kernel : rt_ct 479 838 = some (1, 451, 2))
theorem wc_479_992 : rx_ct (rt_P sc fm) 479 992 = some (0, 479, 2) := (by decide +kernel : rt_ct 479 992 = some (0, 479, 2))
theorem wc_479_997 : rx_ct (rt_P sc fm) 479 997 = some (0, 480, 4) := (by decide +kernel : rt_ct 479 997 = some (0, 480, 4))
theorem wf_479_155 : rx_ft (rt_P sc fm) 479 155 = some (15, 39) := (by decide +kernel : rt_ft 479 155 = some (15, 39))
theorem wf_479_158 : rx_ft (rt_P sc fm) 479 158 = some (15, 40) := (by decide +kernel : rt_ft 479 158 = some (15, 40))
theorem wf_479_252 : rx_ft (rt_P sc fm) 479 252 = some (15, 75) := (by decide +kernel : rt_ft 479 252 = some (15, 75))
theorem wf_479_678 : rx_ft (rt_P sc fm) 479 678 = some (15, 74) := (by decide +kernel : rt_ft 479 678 = some (15, 74))
theorem wf_479_969 : rx_ft (rt_P sc fm) 479 969 = some (15, 131) := (by decide +kernel : rt_ft 479 969 = some (15, 131))
theorem wi_479_0 : ri (rt_P sc fm) 479 0 (.aload_n 0) (1) := ri_of (by decide +kernel) rfl
theorem wi_479_1 : ri (rt_P sc fm) 479 1 (.getfield 155) (4) := ri_of (by decide +kernel) rfl
theorem wi_479_10 : ri (rt_P sc fm) 479 10 (.iload_n 1) (11) := ri_of (by decide +kernel) rfl
theorem wi_479_11 : ri (rt_P sc fm) 479 11 (.aload_n 0) (12) := ri_of (by decide +kernel) rfl
theorem wi_479_12 : ri (rt_P sc fm) 479 12 (.getfield 155) (15) := ri_of (by decide +kernel) rfl
theorem wi_479_15 : ri (rt_P sc fm) 479 15 (.iload_n 2) (16) := ri_of (by decide +kernel) rfl
theorem wi_479_16 : ri (rt_P sc fm) 479 16 (.iaload) (17) := ri_of (by decide +kernel) rfl
theorem wi_479_17 : ri (rt_P sc fm) 479 17 (.invokevirtual 992) (20) := ri_of (by decide +kernel) rfl
theorem wi_479_20 : ri (rt_P sc fm) 479 20 (.aload_n 0) (21) := ri_of (by decide +kernel) rfl
theorem wi_479_21 : ri (rt_P sc fm) 479 21 (.ldc2_w 995) (24) := ri_of (by decide +kernel) rfl
theorem wi_479_24 : ri (rt_P sc fm) 479 24 (.invokevirtual 462) (27) := ri_of (by decide +kernel) rfl
theorem wi_479_27 : ri (rt_P sc fm) 479 27 (.istore_n 3) (28) := ri_of (by decide +kernel) rfl
theorem wi_479_28 : ri (rt_P sc fm) 479 28 (.iconst 0) (29) := ri_of (by decide +kernel) rfl
theorem wi_479_29 : ri (rt_P sc fm) 479 29 (.istore 4) (31) := ri_of (by decide +kernel) rfl
theorem wi_479_31 : ri (rt_P sc fm) 479 31 (.iload 4) (33) := ri_of (by decide +kernel) rfl
theorem wi_479_33 : ri (rt_P sc fm) 479 33 (.aload_n 0) (34) := ri_of (by decide +kernel) rfl
theorem wi_479_34 : ri (rt_P sc fm) 479 34 (.getfield 158) (37) := ri_of (by decide +kernel) rfl
theorem wi_479_37 : ri (rt_P sc fm) 479 37 (.iload_n 2) (38) := ri_of (by decide +kernel) rfl
theorem wi_479_38 : ri (rt_P sc fm) 479 38 (.iaload) (39) := ri_of (by decide +kernel) rfl
theorem wi_479_39 : ri (rt_P sc fm) 479 39 (.if_icmp .ge 56) (42) := ri_of (by decide +kernel) rfl
theorem wi_479_4 : ri (rt_P sc fm) 479 4 (.iload_n 2) (5) := ri_of (by decide +kernel) rfl
theorem wi_479_42 : ri (rt_P sc fm) 479 42 (.iload_n 3) (43) := ri_of (by decide +kernel) rfl
theorem wi_479_43 : ri (rt_P sc fm) 479 43 (.ifCond .lt 52) (46) := ri_of (by decide +kernel) rfl
theorem wi_479_46 : ri (rt_P sc fm) 479 46 (.aload_n 0) (47) := ri_of (by decide +kernel) rfl
theorem wi_479_47 : ri (rt_P sc fm) 479 47 (.getfield 969) (50) := ri_of (by decide +kernel) rfl
theorem wi_479_5 : ri (rt_P sc fm) 479 5 (.iaload) (6) := ri_of (by decide +kernel) rfl
theorem wi_479_50 : ri (rt_P sc fm) 479 50 (.ifCond .ne 45) (53) := ri_of (by decide +kernel) rfl
theorem wi_479_53 : ri (rt_P sc fm) 479 53 (.iload_n 2) (54) := ri_of (by decide +kernel) rfl
theorem wi_479_54 : ri (rt_P sc fm) 479 54 (.iload 4) (56) := ri_of (by decide +kernel) rfl
theorem wi_479_56 : ri (rt_P sc fm) 479 56 (.invokestatic 838) (59) := ri_of (by decide +kernel) rfl
theorem wi_479_59 : ri (rt_P sc fm) 479 59 (.istore 5) (61) := ri_of (by decide +kernel) rfl
theorem wi_479_6 : ri (rt_P sc fm) 479 6 (.ifCond .lt 14) (9) := ri_of (by decide +kernel) rfl
theorem wi_479_61 : ri (rt_P sc fm) 479 61 (.aload_n 0) (62) := ri_of (by decide +kernel) rfl
theorem wi_479_62 : ri (rt_P sc fm) 479 62 (.iload 5) (64) := ri_of (by decide +kernel) rfl
theorem wi_479_64 : ri (rt_P sc fm) 479 64 (.iload_n 3) (65) := ri_of (by decide +kernel) rfl
theorem wi_479_65 : ri (rt_P sc fm) 479 65 (.invokevirtual 712) (68) := ri_of (by decide +kernel) rfl
theorem wi_479_68 : ri (rt_P sc fm) 479 68 (.aload_n 0) (69) := ri_of (by decide +kernel) rfl
theorem wi_479_69 : ri (rt_P sc fm) 479 69 (.getfield 678) (72) := ri_of (by decide +kernel) rfl
theorem wi_479_72 : ri (rt_P sc fm) 479 72 (.ifCond .le 17) (75) := ri_of (by decide +kernel) rfl
theorem wi_479_75 : ri (rt_P sc fm) 479 75 (.aload_n 0) (76) := ri_of (by decide +kernel) rfl
theorem wi_479_76 : ri (rt_P sc fm) 479 76 (.iload_n 1) (77) := ri_of (by decide +kernel) rfl
theorem wi_479_77 : ri (rt_P sc fm) 479 77 (.iload 5) (79) := ri_of (by decide +kernel) rfl
theorem wi_479_79 : ri (rt_P sc fm) 479 79 (.aload_n 0) (80) := ri_of (by decide +kernel) rfl
theorem wi_479_80 : ri (rt_P sc fm) 479 80 (.getfield 252) (83) := ri_of (by decide +kernel) rfl
theorem wi_479_83 : ri (rt_P sc fm) 479 83 (.iconst 0) (84) := ri_of (by decide +kernel) rfl
theorem wi_479_84 : ri (rt_P sc fm) 479 84 (.iaload) (85) := ri_of (by decide +kernel) rfl
theorem wi_479_85 : ri (rt_P sc fm) 479 85 (.iload_n 3) (86) := ri_of (by decide +kernel) rfl
theorem wi_479_86 : ri (rt_P sc fm) 479 86 (.invokevirtual 997) (89) := ri_of (by decide +kernel) rfl
theorem wi_479_89 : ri (rt_P sc fm) 479 89 (.iinc 4 1) (92) := ri_of (by decide +kernel) rfl
theorem wi_479_9 : ri (rt_P sc fm) 479 9 (.aload_n 0) (10) := ri_of (by decide +kernel) rfl
theorem wi_479_92 : ri (rt_P sc fm) 479 92 (.goto (-61)) (95) := ri_of (by decide +kernel) rfl
theorem wi_479_95 : ri (rt_P sc fm) 479 95 (.return_) (96) := ri_of (by decide +kernel) rfl
theorem wk_479_995 : rx_kt (rt_P sc fm) 479 995 = some (.long (2002873972)) := (by decide +kernel : rt_kt 479 995 = some (.long (2002873972)))
theorem wm_480 : rx_ml (rt_P sc fm) 480 = 13 := (by decide +kernel : rt_ml 480 = 13)
theorem wr_479 : rx_rt (rt_P sc fm) 479 = none := (by decide +kernel : rt_rt 479 = none)
/-- MarkHouseModel.wantsOf(II)V -/
def d_479 : Nat → Nat → Int32 → Int32 → cS → Option (cS)
  | 0, _, _, _, _ => none
  | e + 1, n, a1, a2, c =>
  if ib a2 12 then
  jn (fun p2 : cS =>
    Option.bind (d_373 n 2002873972 p2) (fun v3 =>
    Option.bind (whl (R := (cS)) (fun s6 : Int32 × cS =>
      if ib a2 12 then
      if (s6.2.1 202 (ix a2)) ≤ s6.1 then
        some (.inr s6.2)
      else
        if v3 < 0 then
          some (.inr s6.2)
        else
          if (s6.2.1 174 131) = 0 then
            Option.bind (d_451 n a2 s6.1) (fun v8 =>
            Option.bind (d_428 n v8 v3 s6.2) (fun r10 =>
            jn (fun p11 : cS =>
              lt (s6.1 + 1 : Int32) (fun v13 =>
              some (.inl (v13, p11))))
            (fun j89 =>
            if (r10.1 174 74) ≤ 0 then
              j89 r10
            else
              if ib 0 20 then
              Option.bind (d_480 (d_479 e n) n a1 v8 (r10.1 233 (ix 0)) v3 r10) (fun r16 =>
              j89 r16)
              else none)))
          else
            some (.inr s6.2)
      else none) n (0, p2))
    (fun x17 : cS =>
      some x17)))
  (fun j20 =>
  if (c.1 201 (ix a2)) < 0 then
    j20 c
  else
    if ib a2 12 then
    Option.bind (d_479 e n a1 (c.1 201 (ix a2)) c) (fun r19 =>
    j20 r19)
    else none)
  else none
set_option maxRecDepth 100000 in
set_option maxHeartbeats 4000000 in
theorem sp_479 {n : Nat} {y : cS} {w : cW} (hw : rOK fm w) : ∀ (e : Nat) {F Lo : Nat} {a1 : Int32} {a2 : Int32} {c : cS} {K : cS → Prop} {Q : ((Option Value) ⊕ String) → List va_E → Prop}, 4 + 3 * e ≤ F → 105 + 78 * e ≤ Lo → wp (d_479 e n a1 a2 c) K → (∀ r, K r → Q (.inl none) (hq false r y w)) → rs (rt_P sc fm) 479 F Lo 0 [(0, .ref 174), (1, .int a1), (2, .int a2)] [] (hq false c y w) Q
  | 0, _, _, _, _, _, _, _, _, _, h, _ => h.elim
  | e + 1, F, Lo, a1, a2, c, K, Q, hF, hLo, h, hQ => by
    unfold d_479 at h
    obtain ⟨lv, elv⟩ : ∃ lv : rx_L, lv = [(0, .ref 174), (1, .int a1), (2, .int a2)] := ⟨_, rfl⟩
    rw [← elv]
    have l0 : rx_ld lv 0 = some (.ref 174) := by rw [elv]; rfl
    have l1 : rx_ld lv 1 = some (.int a1) := by rw [elv]; rfl
    have l2 : rx_ld lv 2 = some (.int a2) := by rw [elv]; rfl
    refine rs_aldn wi_479_0 l0 ?_
    refine dq_gr wi_479_1 wf_479_155 tf_174_39 ?_
    refine rs_ildn wi_479_4 l2 ?_
    obtain ⟨g1, h⟩ := wp_gd h
    refine dq_iald wi_479_5 t_201 g1 ?_
    refine wp_jn (B := fun p2 : cS => ∀ lv, rx_ld lv 0 = some (.ref 174) → rx_ld lv 1 = some (.int a1) → rx_ld lv 2 = some (.int a2) → rs (rt_P sc fm) 479 F Lo 20 lv [] (hq false p2 y w) Q) h (fun p2 h lv l0 l1 l2 => ?_) (fun j20 hj20 h => ?_)
    ·
      refine rs_aldn wi_479_20 l0 ?_
      refine rs_ldcl wi_479_21 wk_479_995 ?_
      refine rs_V wi_479_24 wc_479_462 rfl (dq_isa tf_174_0 wa_15_373) (by omega) (ml_le wm_373 (by omega)) rfl (sp_373 hw (by omega) (ml_sub wm_373 (by omega)) (wp_bind h) (fun v3 h => rs_back1 ?_))
      refine dl_istn wi_479_27 rfl (fun lv l3 t4 => ?_)
      have l0 := t4 _ _ (by decide) (Or.inl rfl) l0
      have l1 := t4 _ _ (by decide) (Or.inl rfl) l1
      have l2 := t4 _ _ (by decide) (Or.inl rfl) l2
      refine rs_pure wi_479_28 rfl ?_
      refine rs_topi (v := 0) (by decide) ?_
      refine dl_ist wi_479_29 rfl (fun lv l4 t5 => ?_)
      have l0 := t5 _ _ (by decide) (Or.inl rfl) l0
      have l1 := t5 _ _ (by decide) (Or.inl rfl) l1
      have l2 := t5 _ _ (by decide) (Or.inl rfl) l2
      have l3 := t5 _ _ (by decide) (Or.inl rfl) l3
      refine whl_ex (A := fun s6 : Int32 × cS => ∀ lv, rx_ld lv 0 = some (.ref 174) → rx_ld lv 1 = some (.int a1) → rx_ld lv 2 = some (.int a2) → rx_ld lv 3 = some (.int v3) → rx_ld lv 4 = some (.int s6.1) → rs (rt_P sc fm) 479 F Lo 31 lv [] (hq false s6.2 y w) Q) (B := (fun x17 : cS => ∀ lv, rs (rt_P sc fm) 479 F Lo 95 lv [] (hq false x17 y w) Q)) ?_ ?_ _ _ (wp_bind h) _ l0 l1 l2 l3 l4
      · intro s6 h lv l0 l1 l2 l3 l4
        refine rs_ild wi_479_31 l4 ?_
        refine rs_aldn wi_479_33 l0 ?_
        refine dq_gr wi_479_34 wf_479_158 tf_174_40 ?_
        refine rs_ildn wi_479_37 l2 ?_
        obtain ⟨g7, h⟩ := wp_gd h
        refine dq_iald wi_479_38 t_202 g7 ?_
        refine rs_icge (tg := 95) wi_479_39 ⟨by decide, by decide⟩ (fun q => ?_) (fun q => ?_)
        ·
          have h := wp_pos h q
          exact h _
        ·
          have h := wp_neg h q
          refine rs_ildn wi_479_42 l3 ?_
          refine rs_iflt (tg := 95) wi_479_43 ⟨by decide, by decide⟩ (fun q => ?_) (fun q => ?_)
          ·
            have h := wp_pos h q
            exact h _
          ·
            have h := wp_neg h q
            refine rs_aldn wi_479_46 l0 ?_
            refine dq_gi wi_479_47 wf_479_969 tf_174_131 ?_
            refine rs_ifne (tg := 95) wi_479_50 ⟨by decide, by decide⟩ (fun q => ?_) (fun q => ?_)
            ·
              have h := wp_neg h q
              exact h _
            ·
              have h := wp_pos h q
              refine rs_ildn wi_479_53 l2 ?_
              refine rs_ild wi_479_54 l4 ?_
              refine rs_S wi_479_56 wc_479_838 (Or.inl rfl) rfl (by omega) (ml_le wm_451 (by omega)) rfl (sp_451 (by omega) (ml_sub wm_451 (by omega)) (wp_bind h) (fun v8 h => rs_back1 ?_))
              refine dl_ist wi_479_59 rfl (fun lv l5 t9 => ?_)
              have l0 := t9 _ _ (by decide) (Or.inl rfl) l0
              have l1 := t9 _ _ (by decide) (Or.inl rfl) l1
              have l2 := t9 _ _ (by decide) (Or.inl rfl) l2
              have l3 := t9 _ _ (by decide) (Or.inl rfl) l3
              have l4 := t9 _ _ (by decide) (Or.inl rfl) l4
              refine rs_aldn wi_479_61 l0 ?_
              refine rs_ild wi_479_62 l5 ?_
              refine rs_ildn wi_479_64 l3 ?_
              refine rs_V wi_479_65 wc_479_712 rfl (dq_isa tf_174_0 wa_15_428) (by omega) (ml_le wm_428 (by omega)) rfl (sp_428 hw (by omega) (ml_sub wm_428 (by omega)) (wp_bind h) (fun r10 h => rs_back0 ?_))
              refine rs_aldn wi_479_68 l0 ?_
              refine dq_gi wi_479_69 wf_479_678 tf_174_74 ?_
              refine wp_jn (B := fun p11 : cS => ∀ lv, rx_ld lv 0 = some (.ref 174) → rx_ld lv 1 = some (.int a1) → rx_ld lv 2 = some (.int a2) → rx_ld lv 3 = some (.int v3) → rx_ld lv 4 = some (.int s6.1) → rs (rt_P sc fm) 479 F Lo 89 lv [] (hq false p11 y w) Q) h (fun p11 h lv l0 l1 l2 l3 l4 => ?_) (fun j89 hj89 h => ?_)
              ·
                obtain ⟨v13, e14, h⟩ := wp_lt h
                refine dl_inc wi_479_89 l4 rfl e14 (fun lv l4 t12 => ?_)
                have l0 := t12 _ _ (by decide) (Or.inl rfl) l0
                have l1 := t12 _ _ (by decide) (Or.inl rfl) l1
                have l2 := t12 _ _ (by decide) (Or.inl rfl) l2
                have l3 := t12 _ _ (by decide) (Or.inl rfl) l3
                refine rs_goto (tg := 31) wi_479_92 ⟨by decide, by decide⟩ ?_
                exact h _ l0 l1 l2 l3 l4
              refine rs_ifle (tg := 89) wi_479_72 ⟨by decide, by decide⟩ (fun q => ?_) (fun q => ?_)
              ·
                have h := wp_pos h q
                exact hj89 _ h _ l0 l1 l2 l3 l4
              ·
                have h := wp_neg h q
                refine rs_aldn wi_479_75 l0 ?_
                refine rs_ildn wi_479_76 l1 ?_
                refine rs_ild wi_479_77 l5 ?_
                refine rs_aldn wi_479_79 l0 ?_
                refine dq_gr wi_479_80 wf_479_252 tf_174_75 ?_
                refine rs_pure wi_479_83 rfl ?_
                refine rs_topi (v := 0) (by decide) ?_
                obtain ⟨g15, h⟩ := wp_gd h
                refine dq_iald wi_479_84 t_233 g15 ?_
                refine rs_ildn wi_479_85 l3 ?_
                refine rs_V wi_479_86 wc_479_997 rfl (dq_isa tf_174_0 wa_15_480) (by omega) (ml_le wm_480 (by omega)) rfl (sp_480 (Fr := 4 + 3 * e) (Lr := 105 + 78 * e) hw (sp_479 hw e) (by omega) (ml_sub wm_480 (by omega)) (by omega) (ml_sub wm_480 (by omega)) (wp_bind h) (fun r16 h => rs_back0 ?_))
                exact hj89 _ h _ l0 l1 l2 l3 l4
      ·
        intro x17 h lv
        exact rs_vret wi_479_95 wr_479 (hQ x17 h)
    refine rs_iflt (tg := 20) wi_479_6 ⟨by decide, by decide⟩ (fun q => ?_) (fun q => ?_)
    ·
      have h := wp_pos h q
      exact hj20 _ h _ l0 l1 l2
    ·
      have h := wp_neg h q
      refine rs_aldn wi_479_9 l0 ?_
      refine rs_ildn wi_479_10 l1 ?_
      refine rs_aldn wi_479_11 l0 ?_
      refine dq_gr wi_479_12 wf_479_155 tf_174_39 ?_
      refine rs_ildn wi_479_15 l2 ?_
      obtain ⟨g18, h⟩ := wp_gd h
      refine dq_iald wi_479_16 t_201 g18 ?_
      refine rs_V wi_479_17 wc_479_992 rfl (dq_isa tf_174_0 wa_15_479) (by omega) (ml_le wm_479 (by omega)) rfl (sp_479 hw e (by omega) (ml_sub wm_479 (by omega)) (wp_bind h) (fun r19 h => rs_back0 ?_))
      exact hj20 _ h _ l0 l1 l2
theorem wi_488_0 : ri (rt_P sc fm) 488 0 (.iload_n 1) (1) := ri_of (by decide +kernel) rfl
theorem wi_488_1 : ri (rt_P sc fm) 488 1 (.i2b) (2) := ri_of (by decide +kernel) rfl
theorem wi_488_10 : ri (rt_P sc fm) 488 10 (.if_icmp .ge 21) (13) := ri_of (by decide +kernel) rfl
theorem wi_488_13 : ri (rt_P sc fm) 488 13 (.aload_n 0) (14) := ri_of (by decide +kernel) rfl
theorem wi_488_14 : ri (rt_P sc fm) 488 14 (.iload 5) (16) := ri_of (by decide +kernel) rfl
theorem wi_488_16 : ri (rt_P sc fm) 488 16 (.baload) (17) := ri_of (by decide +kernel) rfl
theorem wi_488_17 : ri (rt_P sc fm) 488 17 (.iload 4) (19) := ri_of (by decide +kernel) rfl
theorem wi_488_19 : ri (rt_P sc fm) 488 19 (.if_icmp .ne 6) (22) := ri_of (by decide +kernel) rfl
theorem wi_488_2 : ri (rt_P sc fm) 488 2 (.istore 4) (4) := ri_of (by decide +kernel) rfl
theorem wi_488_22 : ri (rt_P sc fm) 488 22 (.iload 5) (24) := ri_of (by decide +kernel) rfl
theorem wi_488_24 : ri (rt_P sc fm) 488 24 (.ireturn) (25) := ri_of (by decide +kernel) rfl
theorem wi_488_25 : ri (rt_P sc fm) 488 25 (.iinc 5 1) (28) := ri_of (by decide +kernel) rfl
theorem wi_488_28 : ri (rt_P sc fm) 488 28 (.goto (-21)) (31) := ri_of (by decide +kernel) rfl
theorem wi_488_31 : ri (rt_P sc fm) 488 31 (.iconst (-1)) (32) := ri_of (by decide +kernel) rfl
theorem wi_488_32 : ri (rt_P sc fm) 488 32 (.ireturn) (33) := ri_of (by decide +kernel) rfl
theorem wi_488_4 : ri (rt_P sc fm) 488 4 (.iload_n 2) (5) := ri_of (by decide +kernel) rfl
theorem wi_488_5 : ri (rt_P sc fm) 488 5 (.istore 5) (7) := ri_of (by decide +kernel) rfl
theorem wi_488_7 : ri (rt_P sc fm) 488 7 (.iload 5) (9) := ri_of (by decide +kernel) rfl
theorem wi_488_9 : ri (rt_P sc fm) 488 9 (.iload_n 3) (10) := ri_of (by decide +kernel) rfl
theorem wr_488 : rx_rt (rt_P sc fm) 488 = (some FieldType.int) := (by decide +kernel : rt_rt 488 = (some FieldType.int))
/-- java/lang/StringLatin1.indexOfChar([BIII)I -/
def d_488 (n : Nat) (j0 : Nat) (a1 : Int32) (a2 : Int32) (a3 : Int32) : Option (Int32) :=
  lt ((a1 : Int32).toInt8.toInt32 : Int32) (fun v2 =>
  Option.bind (whl (R := (Unit) ⊕ (Int32)) (fun s5 : Int32 =>
    if a3 ≤ s5 then
      some (.inr (.inl ()))
    else
      if ib s5 (sB j0).length then
      if ((sB j0).getD (ix s5) 0) = v2 then
        some (.inr (.inr s5))
      else
        lt (s5 + 1 : Int32) (fun v8 =>
        some (.inl v8))
      else none) n a2)
  (Sum.elim (fun x10 : Unit =>
    some (-1))
  (fun x11 : Int32 =>
    some x11)))
set_option maxRecDepth 100000 in
set_option maxHeartbeats 4000000 in
theorem sp_488 {F Lo n : Nat} {j0 : Nat} {a1 : Int32} {a2 : Int32} {a3 : Int32} {L : List va_E} {K : Int32 → Prop} {Q : ((Option Value) ⊕ String) → List va_E → Prop} (hL : L.length ≤ rx_B) (hfm : fm = .null ∨ fm = .ref rx_Fm) (hF : 0 ≤ F) (hLo : 0 ≤ Lo) (hj0 : (rt_sb j0).isSome = true) (h : wp (d_488 n j0 a1 a2 a3) K) (hQ : ∀ r, K r → Q (.inl (some (.int r))) L) : rs (rt_P sc fm) 488 F Lo 0 [(0, .ref (rx_V j0)), (1, .int a1), (2, .int a2), (3, .int a3)] [] L Q := by
  unfold d_488 at h
  obtain ⟨lv, elv⟩ : ∃ lv : rx_L, lv = [(0, .ref (rx_V j0)), (1, .int a1), (2, .int a2), (3, .int a3)] := ⟨_, rfl⟩
  rw [← elv]
  have l0 : rx_ld lv 0 = some (.ref (rx_V j0)) := by rw [elv]; rfl
  have l1 : rx_ld lv 1 = some (.int a1) := by rw [elv]; rfl
  have l2 : rx_ld lv 2 = some (.int a2) := by rw [elv]; rfl
  have l3 : rx_ld lv 3 = some (.int a3) := by rw [elv]; rfl
  refine rs_ildn wi_488_0 l1 ?_
  refine rs_pure wi_488_1 rfl ?_
  obtain ⟨v2, e3, h⟩ := wp_lt h
  refine rs_topi e3 ?_
  refine dl_ist wi_488_2 rfl (fun lv l4 t1 => ?_)
  have l0 := t1 _ _ (by decide) (Or.inl rfl) l0
  have l2 := t1 _ _ (by decide) (Or.inl rfl) l2
  have l3 := t1 _ _ (by decide) (Or.inl rfl) l3
  refine rs_ildn wi_488_4 l2 ?_
  refine dl_ist wi_488_5 rfl (fun lv l5 t4 => ?_)
  have l0 := t4 _ _ (by decide) (Or.inl rfl) l0
  have l3 := t4 _ _ (by decide) (Or.inl rfl) l3
  have l4 := t4 _ _ (by decide) (Or.inl rfl) l4
  refine whl_ex (A := fun s5 : Int32 => ∀ lv, rx_ld lv 0 = some (.ref (rx_V j0)) → rx_ld lv 3 = some (.int a3) → rx_ld lv 4 = some (.int v2) → rx_ld lv 5 = some (.int s5) → rs (rt_P sc fm) 488 F Lo 7 lv [] L Q) (B := (Sum.elim (fun x10 : Unit => ∀ lv, rs (rt_P sc fm) 488 F Lo 31 lv [] L Q) (fun x11 : Int32 => ∀ lv, rx_ld lv 5 = some (.int x11) → rs (rt_P sc fm) 488 F Lo 22 lv [] L Q))) ?_ ?_ _ _ (wp_bind h) _ l0 l3 l4 l5
  · intro s5 h lv l0 l3 l4 l5
    refine rs_ild wi_488_7 l5 ?_
    refine rs_ildn wi_488_9 l3 ?_
    refine rs_icge (tg := 31) wi_488_10 ⟨by decide, by decide⟩ (fun q => ?_) (fun q => ?_)
    ·
      have h := wp_pos h q
      exact h _
    ·
      have h := wp_neg h q
      refine rs_aldn wi_488_13 l0 ?_
      refine rs_ild wi_488_14 l5 ?_
      obtain ⟨g6, h⟩ := wp_gd h
      refine dq_svb wi_488_16 hL hj0 g6 ?_
      refine rs_ild wi_488_17 l4 ?_
      refine rs_icne (tg := 25) wi_488_19 ⟨by decide, by decide⟩ (fun q => ?_) (fun q => ?_)
      ·
        have h := wp_neg h q
        obtain ⟨v8, e9, h⟩ := wp_lt h
        refine dl_inc wi_488_25 l5 rfl e9 (fun lv l5 t7 => ?_)
        have l0 := t7 _ _ (by decide) (Or.inl rfl) l0
        have l3 := t7 _ _ (by decide) (Or.inl rfl) l3
        have l4 := t7 _ _ (by decide) (Or.inl rfl) l4
        refine rs_goto (tg := 7) wi_488_28 ⟨by decide, by decide⟩ ?_
        exact h _ l0 l3 l4 l5
      ·
        have h := wp_pos h q
        exact h _ l5
  ·
    refine sum_all ?_ ?_
    ·
      intro x10 h lv
      have h := wp_inl h
      refine rs_pure wi_488_31 rfl ?_
      refine rs_topi (v := (-1)) (by decide) ?_
      exact rs_iret wi_488_32 wr_488 rfl (hQ (-1) h)
    ·
      intro x11 h lv l5
      have h := wp_inr h
      refine rs_ild wi_488_22 l5 ?_
      exact rs_iret wi_488_24 wr_488 rfl (hQ x11 h)
end D61
