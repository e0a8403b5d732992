/-! THE CODE AS PURE PROGRAMS, 5: by wip/whole/dc.py -/
section D46
variable {sc : Nat × (Nat → Int32)} {fm : Value}
theorem wa_10_287 : rz_cn 10 (rx_yn (rt_P sc fm) 287).cls = true := (by decide +kernel : rz_cn 10 (rt_yn 287).cls = true)
theorem wa_2_157 : rz_cn 2 (rx_yn (rt_P sc fm) 157).cls = true := (by decide +kernel : rz_cn 2 (rt_yn 157).cls = true)
theorem wa_2_158 : rz_cn 2 (rx_yn (rt_P sc fm) 158).cls = true := (by decide +kernel : rz_cn 2 (rt_yn 158).cls = true)
theorem wc_286_423 : rx_ct (rt_P sc fm) 286 423 = some (0, 158, 0) := (by decide +kernel : rt_ct 286 423 = some (0, 158, 0))
theorem wc_286_426 : rx_ct (rt_P sc fm) 286 426 = some (0, 157, 1) := (by decide +kernel : rt_ct 286 426 = some (0, 157, 1))
theorem wc_286_429 : rx_ct (rt_P sc fm) 286 429 = some (0, 287, 2) := (by decide +kernel : rt_ct 286 429 = some (0, 287, 2))
theorem wf_286_19 : rx_ft (rt_P sc fm) 286 19 = some (10, 2) := (by decide +kernel : rt_ft 286 19 = some (10, 2))
theorem wf_286_297 : rx_ft (rt_P sc fm) 286 297 = some (2, 5) := (by decide +kernel : rt_ft 286 297 = some (2, 5))
theorem wf_286_300 : rx_ft (rt_P sc fm) 286 300 = some (2, 6) := (by decide +kernel : rt_ft 286 300 = some (2, 6))
theorem wh0_286_52 : rx_ht (rt_P sc fm) 286 52 "java/lang/IllegalArgumentException" = none := (by decide +kernel : rt_ht 286 52 "java/lang/IllegalArgumentException" = none)
theorem whh_286 : rx_hh (rt_P sc fm) 286 = [] := (by decide +kernel : rt_hh 286 = [])
theorem wi_286_0 : ri (rt_P sc fm) 286 0 (.iconst 0) (1) := ri_of (by decide +kernel) rfl
theorem wi_286_1 : ri (rt_P sc fm) 286 1 (.istore_n 1) (2) := ri_of (by decide +kernel) rfl
theorem wi_286_10 : ri (rt_P sc fm) 286 10 (.if_icmp .ge 57) (13) := ri_of (by decide +kernel) rfl
theorem wi_286_13 : ri (rt_P sc fm) 286 13 (.iconst 0) (14) := ri_of (by decide +kernel) rfl
theorem wi_286_14 : ri (rt_P sc fm) 286 14 (.istore_n 2) (15) := ri_of (by decide +kernel) rfl
theorem wi_286_15 : ri (rt_P sc fm) 286 15 (.aload_n 0) (16) := ri_of (by decide +kernel) rfl
theorem wi_286_16 : ri (rt_P sc fm) 286 16 (.getfield 19) (19) := ri_of (by decide +kernel) rfl
theorem wi_286_19 : ri (rt_P sc fm) 286 19 (.iload_n 1) (20) := ri_of (by decide +kernel) rfl
theorem wi_286_2 : ri (rt_P sc fm) 286 2 (.iload_n 1) (3) := ri_of (by decide +kernel) rfl
theorem wi_286_20 : ri (rt_P sc fm) 286 20 (.invokevirtual 426) (23) := ri_of (by decide +kernel) rfl
theorem wi_286_23 : ri (rt_P sc fm) 286 23 (.ifCond .eq 38) (26) := ri_of (by decide +kernel) rfl
theorem wi_286_26 : ri (rt_P sc fm) 286 26 (.iload_n 2) (27) := ri_of (by decide +kernel) rfl
theorem wi_286_27 : ri (rt_P sc fm) 286 27 (.aload_n 0) (28) := ri_of (by decide +kernel) rfl
theorem wi_286_28 : ri (rt_P sc fm) 286 28 (.getfield 19) (31) := ri_of (by decide +kernel) rfl
theorem wi_286_3 : ri (rt_P sc fm) 286 3 (.aload_n 0) (4) := ri_of (by decide +kernel) rfl
theorem wi_286_31 : ri (rt_P sc fm) 286 31 (.getfield 300) (34) := ri_of (by decide +kernel) rfl
theorem wi_286_34 : ri (rt_P sc fm) 286 34 (.iload_n 1) (35) := ri_of (by decide +kernel) rfl
theorem wi_286_35 : ri (rt_P sc fm) 286 35 (.iaload) (36) := ri_of (by decide +kernel) rfl
theorem wi_286_36 : ri (rt_P sc fm) 286 36 (.if_icmp .ge 25) (39) := ri_of (by decide +kernel) rfl
theorem wi_286_39 : ri (rt_P sc fm) 286 39 (.aload_n 0) (40) := ri_of (by decide +kernel) rfl
theorem wi_286_4 : ri (rt_P sc fm) 286 4 (.getfield 19) (7) := ri_of (by decide +kernel) rfl
theorem wi_286_40 : ri (rt_P sc fm) 286 40 (.iload_n 1) (41) := ri_of (by decide +kernel) rfl
theorem wi_286_41 : ri (rt_P sc fm) 286 41 (.aload_n 0) (42) := ri_of (by decide +kernel) rfl
theorem wi_286_42 : ri (rt_P sc fm) 286 42 (.getfield 19) (45) := ri_of (by decide +kernel) rfl
theorem wi_286_45 : ri (rt_P sc fm) 286 45 (.getfield 297) (48) := ri_of (by decide +kernel) rfl
theorem wi_286_48 : ri (rt_P sc fm) 286 48 (.iload_n 1) (49) := ri_of (by decide +kernel) rfl
theorem wi_286_49 : ri (rt_P sc fm) 286 49 (.iaload) (50) := ri_of (by decide +kernel) rfl
theorem wi_286_50 : ri (rt_P sc fm) 286 50 (.iload_n 2) (51) := ri_of (by decide +kernel) rfl
theorem wi_286_51 : ri (rt_P sc fm) 286 51 (.iadd) (52) := ri_of (by decide +kernel) rfl
theorem wi_286_52 : ri (rt_P sc fm) 286 52 (.invokevirtual 429) (55) := ri_of (by decide +kernel) rfl
theorem wi_286_55 : ri (rt_P sc fm) 286 55 (.iinc 2 1) (58) := ri_of (by decide +kernel) rfl
theorem wi_286_58 : ri (rt_P sc fm) 286 58 (.goto (-43)) (61) := ri_of (by decide +kernel) rfl
theorem wi_286_61 : ri (rt_P sc fm) 286 61 (.iinc 1 1) (64) := ri_of (by decide +kernel) rfl
theorem wi_286_64 : ri (rt_P sc fm) 286 64 (.goto (-62)) (67) := ri_of (by decide +kernel) rfl
theorem wi_286_67 : ri (rt_P sc fm) 286 67 (.return_) (68) := ri_of (by decide +kernel) rfl
theorem wi_286_7 : ri (rt_P sc fm) 286 7 (.invokevirtual 423) (10) := ri_of (by decide +kernel) rfl
theorem wm_157 : rx_ml (rt_P sc fm) 157 = 2 := (by decide +kernel : rt_ml 157 = 2)
theorem wm_158 : rx_ml (rt_P sc fm) 158 = 1 := (by decide +kernel : rt_ml 158 = 1)
theorem wm_287 : rx_ml (rt_P sc fm) 287 = 7 := (by decide +kernel : rt_ml 287 = 7)
theorem wr_286 : rx_rt (rt_P sc fm) 286 = none := (by decide +kernel : rt_rt 286 = none)
/-- MarkHouse$Reader.settleNames()V -/
def d_286 (n : Nat)  (c : cS) : Option ((cS) ⊕ cS) :=
  Option.bind (whl (R := (cS) ⊕ ((cS) ⊕ cS)) (fun s2 : Int32 × cS =>
    Option.bind (d_158 n s2.2) (fun v3 =>
    if v3 ≤ s2.1 then
      some (.inr (.inl s2.2))
    else
      Option.bind (whl (R := (cS) ⊕ ((cS) ⊕ cS)) (fun s5 : Int32 × cS =>
        Option.bind (d_157 n s2.1 s5.2) (fun v6 =>
        if v6 = 0 then
          some (.inr (.inl s5.2))
        else
          if ib s2.1 96 then
          if (s5.2.1 120 (ix s2.1)) ≤ s5.1 then
            some (.inr (.inl s5.2))
          else
            if ib s2.1 96 then
            Option.bind (d_287 n s2.1 ((s5.2.1 119 (ix s2.1)) + s5.1) s5.2) (Sum.elim (fun r9 =>
            lt (s5.1 + 1 : Int32) (fun v12 =>
            some (.inl (v12, r9))))
            (fun z10 => some (.inr (.inr (.inr z10)))))
            else none
          else none)) n (0, s2.2))
      (Sum.elim (fun x14 : cS =>
        lt (s2.1 + 1 : Int32) (fun v16 =>
        some (.inl (v16, x14))))
      (fun x18 : (cS) ⊕ cS =>
        some (.inr (.inr x18)))))) n (0, c))
  (Sum.elim (fun x19 : cS =>
    some (.inl x19))
  (fun x20 : (cS) ⊕ cS =>
    some x20))
theorem sp_286 {F Lo n : Nat}  {c y : cS} {w : cW} {K : (cS) ⊕ cS → Prop} {Q : ((Option Value) ⊕ String) → List va_E → Prop} (hw : rOK fm w) (hF : 8 ≤ F) (hLo : 130 ≤ Lo)  (h : wp (d_286 n  c) K) (hQ : ∀ r, K (.inl r) → Q (.inl none) (hq true r y w)) (hT : ∀ r, K (.inr r) → Q (.inr "java/lang/IllegalArgumentException") (hq true r y w)) : rs (rt_P sc fm) 286 F Lo 0 [(0, .ref 145)] [] (hq true c y w) Q := by
  unfold d_286 at h
  obtain ⟨lv, elv⟩ : ∃ lv : rx_L, lv = [(0, .ref 145)] := ⟨_, rfl⟩
  rw [← elv]
  have l0 : rx_ld lv 0 = some (.ref 145) := by rw [elv]; rfl
  refine rs_pure wi_286_0 rfl ?_
  refine rs_topi (v := 0) (by decide) ?_
  refine dl_istn wi_286_1 rfl (fun lv l1 t1 => ?_)
  have l0 := t1 _ _ (by decide) (Or.inl rfl) l0
  refine whl_ex (A := fun s2 : Int32 × cS => ∀ lv, rx_ld lv 0 = some (.ref 145) → rx_ld lv 1 = some (.int s2.1) → rs (rt_P sc fm) 286 F Lo 2 lv [] (hq true s2.2 y w) Q) (B := (Sum.elim (fun x19 : cS => ∀ lv, rs (rt_P sc fm) 286 F Lo 67 lv [] (hq true x19 y w) Q) K)) ?_ ?_ _ _ (wp_bind h) _ l0 l1
  · intro s2 h lv l0 l1
    refine rs_ildn wi_286_2 l1 ?_
    refine rs_aldn wi_286_3 l0 ?_
    refine dq_gr wi_286_4 wf_286_19 tf_145_2 ?_
    refine rs_V wi_286_7 wc_286_423 rfl (dq_isa tf_114_0 wa_2_158) (Nat.le_trans (by decide) hF) (ml_le wm_158 (Nat.le_trans (by decide) hLo)) rfl (sp_158 hw (Nat.le_trans (by decide : 0 ≤ 8 - 1) (Nat.sub_le_sub_right hF 1)) (ml_sub wm_158 (Nat.le_trans (by decide : 0 ≤ 130 - 20) (Nat.sub_le_sub_right hLo 20))) (wp_bind h) (fun v3 h => rs_back1 ?_))
    refine rs_icge (tg := 67) wi_286_10 ⟨by decide, by decide⟩ (fun q => ?_) (fun q => ?_)
    ·
      have h := wp_pos h q
      exact h _
    ·
      have h := wp_neg h q
      refine rs_pure wi_286_13 rfl ?_
      refine rs_topi (v := 0) (by decide) ?_
      refine dl_istn wi_286_14 rfl (fun lv l2 t4 => ?_)
      have l0 := t4 _ _ (by decide) (Or.inl rfl) l0
      have l1 := t4 _ _ (by decide) (Or.inl rfl) l1
      refine whl_ex (A := fun s5 : Int32 × cS => ∀ lv, rx_ld lv 0 = some (.ref 145) → rx_ld lv 1 = some (.int s2.1) → rx_ld lv 2 = some (.int s5.1) → rs (rt_P sc fm) 286 F Lo 15 lv [] (hq true s5.2 y w) Q) (B := (Sum.elim (fun x14 : cS => ∀ lv, rx_ld lv 0 = some (.ref 145) → rx_ld lv 1 = some (.int s2.1) → rs (rt_P sc fm) 286 F Lo 61 lv [] (hq true x14 y w) Q) K)) ?_ ?_ _ _ (wp_bind h) _ l0 l1 l2
      · intro s5 h lv l0 l1 l2
        refine rs_aldn wi_286_15 l0 ?_
        refine dq_gr wi_286_16 wf_286_19 tf_145_2 ?_
        refine rs_ildn wi_286_19 l1 ?_
        refine rs_V wi_286_20 wc_286_426 rfl (dq_isa tf_114_0 wa_2_157) (Nat.le_trans (by decide) hF) (ml_le wm_157 (Nat.le_trans (by decide) hLo)) rfl (sp_157 hw (Nat.le_trans (by decide : 0 ≤ 8 - 1) (Nat.sub_le_sub_right hF 1)) (ml_sub wm_157 (Nat.le_trans (by decide : 0 ≤ 130 - 21) (Nat.sub_le_sub_right hLo 21))) (wp_bind h) (fun v6 h => rs_back1 ?_))
        refine rs_ifeq (tg := 61) wi_286_23 ⟨by decide, by decide⟩ (fun q => ?_) (fun q => ?_)
        ·
          have h := wp_pos h q
          exact h _ l0 l1
        ·
          have h := wp_neg h q
          refine rs_ildn wi_286_26 l2 ?_
          refine rs_aldn wi_286_27 l0 ?_
          refine dq_gr wi_286_28 wf_286_19 tf_145_2 ?_
          refine dq_gr wi_286_31 wf_286_300 tf_114_6 ?_
          refine rs_ildn wi_286_34 l1 ?_
          obtain ⟨g7, h⟩ := wp_gd h
          refine dq_iald wi_286_35 t_120 g7 ?_
          refine rs_icge (tg := 61) wi_286_36 ⟨by decide, by decide⟩ (fun q => ?_) (fun q => ?_)
          ·
            have h := wp_pos h q
            exact h _ l0 l1
          ·
            have h := wp_neg h q
            refine rs_aldn wi_286_39 l0 ?_
            refine rs_ildn wi_286_40 l1 ?_
            refine rs_aldn wi_286_41 l0 ?_
            refine dq_gr wi_286_42 wf_286_19 tf_145_2 ?_
            refine dq_gr wi_286_45 wf_286_297 tf_114_5 ?_
            refine rs_ildn wi_286_48 l1 ?_
            obtain ⟨g8, h⟩ := wp_gd h
            refine dq_iald wi_286_49 t_119 g8 ?_
            refine rs_ildn wi_286_50 l2 ?_
            refine rs_pure wi_286_51 rfl ?_
            refine rs_V wi_286_52 wc_286_429 rfl (dq_isa tf_145_0 wa_10_287) (Nat.le_trans (by decide) hF) (ml_le wm_287 (Nat.le_trans (by decide) hLo)) rfl (sp_287 hw (Nat.le_trans (by decide : 7 ≤ 8 - 1) (Nat.sub_le_sub_right hF 1)) (ml_sub wm_287 (Nat.le_trans (by decide : 104 ≤ 130 - 26) (Nat.sub_le_sub_right hLo 26))) (wp_bind h) (fun r9 h => rs_back0 ?_) (fun z10 h => rs_up wh0_286_52 whh_286 (hT z10 (wp_inr h))))
            have h := wp_inl h
            obtain ⟨v12, e13, h⟩ := wp_lt h
            refine dl_inc wi_286_55 l2 rfl e13 (fun lv l2 t11 => ?_)
            have l0 := t11 _ _ (by decide) (Or.inl rfl) l0
            have l1 := t11 _ _ (by decide) (Or.inl rfl) l1
            refine rs_goto (tg := 15) wi_286_58 ⟨by decide, by decide⟩ ?_
            exact h _ l0 l1 l2
      ·
        refine sum_all ?_ ?_
        ·
          intro x14 h lv l0 l1
          have h := wp_inl h
          obtain ⟨v16, e17, h⟩ := wp_lt h
          refine dl_inc wi_286_61 l1 rfl e17 (fun lv l1 t15 => ?_)
          have l0 := t15 _ _ (by decide) (Or.inl rfl) l0
          refine rs_goto (tg := 2) wi_286_64 ⟨by decide, by decide⟩ ?_
          exact h _ l0 l1
        ·
          intro x18 h
          exact h
  ·
    refine sum_all ?_ ?_
    ·
      intro x19 h lv
      have h := wp_inl h
      exact rs_vret wi_286_67 wr_286 (hQ x19 h)
    ·
      intro x20 h
      exact h
theorem wi_481_0 : ri (rt_P sc fm) 481 0 (.iload_n 0) (1) := ri_of (by decide +kernel) rfl
theorem wi_481_1 : ri (rt_P sc fm) 481 1 (.iconst (-1)) (2) := ri_of (by decide +kernel) rfl
theorem wi_481_12 : ri (rt_P sc fm) 481 12 (.iload_n 0) (13) := ri_of (by decide +kernel) rfl
theorem wi_481_13 : ri (rt_P sc fm) 481 13 (.bipush 32) (15) := ri_of (by decide +kernel) rfl
theorem wi_481_15 : ri (rt_P sc fm) 481 15 (.iand) (16) := ri_of (by decide +kernel) rfl
theorem wi_481_16 : ri (rt_P sc fm) 481 16 (.ireturn) (17) := ri_of (by decide +kernel) rfl
theorem wi_481_17 : ri (rt_P sc fm) 481 17 (.iconst 1) (18) := ri_of (by decide +kernel) rfl
theorem wi_481_18 : ri (rt_P sc fm) 481 18 (.istore_n 1) (19) := ri_of (by decide +kernel) rfl
theorem wi_481_19 : ri (rt_P sc fm) 481 19 (.iload_n 0) (20) := ri_of (by decide +kernel) rfl
theorem wi_481_2 : ri (rt_P sc fm) 481 2 (.ixor) (3) := ri_of (by decide +kernel) rfl
theorem wi_481_20 : ri (rt_P sc fm) 481 20 (.ldc_w 264) (23) := ri_of (by decide +kernel) rfl
theorem wi_481_23 : ri (rt_P sc fm) 481 23 (.if_icmp .le 11) (26) := ri_of (by decide +kernel) rfl
theorem wi_481_26 : ri (rt_P sc fm) 481 26 (.iinc 1 16) (29) := ri_of (by decide +kernel) rfl
theorem wi_481_29 : ri (rt_P sc fm) 481 29 (.iload_n 0) (30) := ri_of (by decide +kernel) rfl
theorem wi_481_3 : ri (rt_P sc fm) 481 3 (.iload_n 0) (4) := ri_of (by decide +kernel) rfl
theorem wi_481_30 : ri (rt_P sc fm) 481 30 (.bipush 16) (32) := ri_of (by decide +kernel) rfl
theorem wi_481_32 : ri (rt_P sc fm) 481 32 (.iushr) (33) := ri_of (by decide +kernel) rfl
theorem wi_481_33 : ri (rt_P sc fm) 481 33 (.istore_n 0) (34) := ri_of (by decide +kernel) rfl
theorem wi_481_34 : ri (rt_P sc fm) 481 34 (.iload_n 0) (35) := ri_of (by decide +kernel) rfl
theorem wi_481_35 : ri (rt_P sc fm) 481 35 (.sipush 256) (38) := ri_of (by decide +kernel) rfl
theorem wi_481_38 : ri (rt_P sc fm) 481 38 (.if_icmp .le 11) (41) := ri_of (by decide +kernel) rfl
theorem wi_481_4 : ri (rt_P sc fm) 481 4 (.iconst 1) (5) := ri_of (by decide +kernel) rfl
theorem wi_481_41 : ri (rt_P sc fm) 481 41 (.iinc 1 8) (44) := ri_of (by decide +kernel) rfl
theorem wi_481_44 : ri (rt_P sc fm) 481 44 (.iload_n 0) (45) := ri_of (by decide +kernel) rfl
theorem wi_481_45 : ri (rt_P sc fm) 481 45 (.bipush 8) (47) := ri_of (by decide +kernel) rfl
theorem wi_481_47 : ri (rt_P sc fm) 481 47 (.iushr) (48) := ri_of (by decide +kernel) rfl
theorem wi_481_48 : ri (rt_P sc fm) 481 48 (.istore_n 0) (49) := ri_of (by decide +kernel) rfl
theorem wi_481_49 : ri (rt_P sc fm) 481 49 (.iload_n 0) (50) := ri_of (by decide +kernel) rfl
theorem wi_481_5 : ri (rt_P sc fm) 481 5 (.isub) (6) := ri_of (by decide +kernel) rfl
theorem wi_481_50 : ri (rt_P sc fm) 481 50 (.bipush 16) (52) := ri_of (by decide +kernel) rfl
theorem wi_481_52 : ri (rt_P sc fm) 481 52 (.if_icmp .le 10) (55) := ri_of (by decide +kernel) rfl
theorem wi_481_55 : ri (rt_P sc fm) 481 55 (.iinc 1 4) (58) := ri_of (by decide +kernel) rfl
theorem wi_481_58 : ri (rt_P sc fm) 481 58 (.iload_n 0) (59) := ri_of (by decide +kernel) rfl
theorem wi_481_59 : ri (rt_P sc fm) 481 59 (.iconst 4) (60) := ri_of (by decide +kernel) rfl
theorem wi_481_6 : ri (rt_P sc fm) 481 6 (.iand) (7) := ri_of (by decide +kernel) rfl
theorem wi_481_60 : ri (rt_P sc fm) 481 60 (.iushr) (61) := ri_of (by decide +kernel) rfl
theorem wi_481_61 : ri (rt_P sc fm) 481 61 (.istore_n 0) (62) := ri_of (by decide +kernel) rfl
theorem wi_481_62 : ri (rt_P sc fm) 481 62 (.iload_n 0) (63) := ri_of (by decide +kernel) rfl
theorem wi_481_63 : ri (rt_P sc fm) 481 63 (.iconst 4) (64) := ri_of (by decide +kernel) rfl
theorem wi_481_64 : ri (rt_P sc fm) 481 64 (.if_icmp .le 10) (67) := ri_of (by decide +kernel) rfl
theorem wi_481_67 : ri (rt_P sc fm) 481 67 (.iinc 1 2) (70) := ri_of (by decide +kernel) rfl
theorem wi_481_7 : ri (rt_P sc fm) 481 7 (.istore_n 0) (8) := ri_of (by decide +kernel) rfl
theorem wi_481_70 : ri (rt_P sc fm) 481 70 (.iload_n 0) (71) := ri_of (by decide +kernel) rfl
theorem wi_481_71 : ri (rt_P sc fm) 481 71 (.iconst 2) (72) := ri_of (by decide +kernel) rfl
theorem wi_481_72 : ri (rt_P sc fm) 481 72 (.iushr) (73) := ri_of (by decide +kernel) rfl
theorem wi_481_73 : ri (rt_P sc fm) 481 73 (.istore_n 0) (74) := ri_of (by decide +kernel) rfl
theorem wi_481_74 : ri (rt_P sc fm) 481 74 (.iload_n 1) (75) := ri_of (by decide +kernel) rfl
theorem wi_481_75 : ri (rt_P sc fm) 481 75 (.iload_n 0) (76) := ri_of (by decide +kernel) rfl
theorem wi_481_76 : ri (rt_P sc fm) 481 76 (.iconst 1) (77) := ri_of (by decide +kernel) rfl
theorem wi_481_77 : ri (rt_P sc fm) 481 77 (.iushr) (78) := ri_of (by decide +kernel) rfl
theorem wi_481_78 : ri (rt_P sc fm) 481 78 (.iadd) (79) := ri_of (by decide +kernel) rfl
theorem wi_481_79 : ri (rt_P sc fm) 481 79 (.ireturn) (80) := ri_of (by decide +kernel) rfl
theorem wi_481_8 : ri (rt_P sc fm) 481 8 (.iload_n 0) (9) := ri_of (by decide +kernel) rfl
theorem wi_481_9 : ri (rt_P sc fm) 481 9 (.ifCond .gt 8) (12) := ri_of (by decide +kernel) rfl
theorem wk_481_264 : rx_kt (rt_P sc fm) 481 264 = some (.int (65536)) := (by decide +kernel : rt_kt 481 264 = some (.int (65536)))
theorem wr_481 : rx_rt (rt_P sc fm) 481 = (some FieldType.int) := (by decide +kernel : rt_rt 481 = (some FieldType.int))
/-- java/lang/Integer.numberOfTrailingZeros(I)I -/
def d_481 (n : Nat) (a0 : Int32) : Option (Int32) :=
  lt (((a0 ^^^ (-1)) &&& (a0 - 1)) : Int32) (fun v2 =>
  if 0 < v2 then
    jn (fun p5 : Int32 × Int32 =>
      jn (fun p6 : Int32 × Int32 =>
        jn (fun p7 : Int32 × Int32 =>
          jn (fun p8 : Int32 × Int32 =>
            some (p8.2 + ((p8.1 : Int32).toUInt32 >>> ((1 : Int32).toUInt32 &&& Int32.toUInt32 31)).toInt32))
          (fun j74 =>
          if p7.1 ≤ 4 then
            j74 (p7.1, p7.2)
          else
            lt (p7.2 + 2 : Int32) (fun v10 =>
            lt (((p7.1 : Int32).toUInt32 >>> ((2 : Int32).toUInt32 &&& Int32.toUInt32 31)).toInt32 : Int32) (fun v13 =>
            j74 (v13, v10)))))
        (fun j62 =>
        if p6.1 ≤ 16 then
          j62 (p6.1, p6.2)
        else
          lt (p6.2 + 4 : Int32) (fun v16 =>
          lt (((p6.1 : Int32).toUInt32 >>> ((4 : Int32).toUInt32 &&& Int32.toUInt32 31)).toInt32 : Int32) (fun v19 =>
          j62 (v19, v16)))))
      (fun j49 =>
      if p5.1 ≤ 256 then
        j49 (p5.1, p5.2)
      else
        lt (p5.2 + 8 : Int32) (fun v22 =>
        lt (((p5.1 : Int32).toUInt32 >>> ((8 : Int32).toUInt32 &&& Int32.toUInt32 31)).toInt32 : Int32) (fun v25 =>
        j49 (v25, v22)))))
    (fun j34 =>
    if v2 ≤ 65536 then
      j34 (v2, 1)
    else
      lt (1 + 16 : Int32) (fun v28 =>
      lt (((v2 : Int32).toUInt32 >>> ((16 : Int32).toUInt32 &&& Int32.toUInt32 31)).toInt32 : Int32) (fun v31 =>
      j34 (v31, v28))))
  else
    some (v2 &&& 32))
theorem sp_481 {F Lo n : Nat} {a0 : Int32} {L : List va_E} {K : Int32 → Prop} {Q : ((Option Value) ⊕ String) → List va_E → Prop} (hF : 0 ≤ F) (hLo : 0 ≤ Lo)  (h : wp (d_481 n a0) K) (hQ : ∀ r, K r → Q (.inl (some (.int r))) L) : rs (rt_P sc fm) 481 F Lo 0 [(0, .int a0)] [] L Q := by
  unfold d_481 at h
  obtain ⟨lv, elv⟩ : ∃ lv : rx_L, lv = [(0, .int a0)] := ⟨_, rfl⟩
  rw [← elv]
  have l0 : rx_ld lv 0 = some (.int a0) := by rw [elv]; rfl
  refine rs_ildn wi_481_0 l0 ?_
  refine rs_pure wi_481_1 rfl ?_
  refine rs_topi (v := (-1)) (by decide) ?_
  refine rs_pure wi_481_2 rfl ?_
  refine rs_ildn wi_481_3 l0 ?_
  refine rs_pure wi_481_4 rfl ?_
  refine rs_topi (v := 1) (by decide) ?_
  refine rs_pure wi_481_5 rfl ?_
  refine rs_pure wi_481_6 rfl ?_
  obtain ⟨v2, e3, h⟩ := wp_lt h
  refine rs_topi e3 ?_
  refine dl_istn wi_481_7 rfl (fun lv l0 t1 => ?_)
  refine rs_ildn wi_481_8 l0 ?_
  refine rs_ifgt (tg := 17) wi_481_9 ⟨by decide, by decide⟩ (fun q => ?_) (fun q => ?_)
  ·
    have h := wp_pos h q
    refine rs_pure wi_481_17 rfl ?_
    refine rs_topi (v := 1) (by decide) ?_
    refine dl_istn wi_481_18 rfl (fun lv l1 t4 => ?_)
    have l0 := t4 _ _ (by decide) (Or.inl rfl) l0
    refine rs_ildn wi_481_19 l0 ?_
    refine rs_ldcw wi_481_20 wk_481_264 ?_
    refine wp_jn (B := fun p5 : Int32 × Int32 => ∀ lv, rx_ld lv 0 = some (.int p5.1) → rx_ld lv 1 = some (.int p5.2) → rs (rt_P sc fm) 481 F Lo 34 lv [] L Q) h (fun p5 h lv l0 l1 => ?_) (fun j34 hj34 h => ?_)
    ·
      refine rs_ildn wi_481_34 l0 ?_
      refine rs_pure wi_481_35 rfl ?_
      refine rs_topi (v := 256) (by decide) ?_
      refine wp_jn (B := fun p6 : Int32 × Int32 => ∀ lv, rx_ld lv 0 = some (.int p6.1) → rx_ld lv 1 = some (.int p6.2) → rs (rt_P sc fm) 481 F Lo 49 lv [] L Q) h (fun p6 h lv l0 l1 => ?_) (fun j49 hj49 h => ?_)
      ·
        refine rs_ildn wi_481_49 l0 ?_
        refine rs_pure wi_481_50 rfl ?_
        refine rs_topi (v := 16) (by decide) ?_
        refine wp_jn (B := fun p7 : Int32 × Int32 => ∀ lv, rx_ld lv 0 = some (.int p7.1) → rx_ld lv 1 = some (.int p7.2) → rs (rt_P sc fm) 481 F Lo 62 lv [] L Q) h (fun p7 h lv l0 l1 => ?_) (fun j62 hj62 h => ?_)
        ·
          refine rs_ildn wi_481_62 l0 ?_
          refine rs_pure wi_481_63 rfl ?_
          refine rs_topi (v := 4) (by decide) ?_
          refine wp_jn (B := fun p8 : Int32 × Int32 => ∀ lv, rx_ld lv 0 = some (.int p8.1) → rx_ld lv 1 = some (.int p8.2) → rs (rt_P sc fm) 481 F Lo 74 lv [] L Q) h (fun p8 h lv l0 l1 => ?_) (fun j74 hj74 h => ?_)
          ·
            refine rs_ildn wi_481_74 l1 ?_
            refine rs_ildn wi_481_75 l0 ?_
            refine rs_pure wi_481_76 rfl ?_
            refine rs_topi (v := 1) (by decide) ?_
            refine rs_pure wi_481_77 rfl ?_
            refine rs_pure wi_481_78 rfl ?_
            exact rs_iret wi_481_79 wr_481 rfl (hQ (p8.2 + ((p8.1 : Int32).toUInt32 >>> ((1 : Int32).toUInt32 &&& Int32.toUInt32 31)).toInt32) h)
          refine rs_icle (tg := 74) wi_481_64 ⟨by decide, by decide⟩ (fun q => ?_) (fun q => ?_)
          ·
            have h := wp_pos h q
            exact hj74 _ h _ l0 l1
          ·
            have h := wp_neg h q
            obtain ⟨v10, e11, h⟩ := wp_lt h
            refine dl_inc wi_481_67 l1 rfl e11 (fun lv l1 t9 => ?_)
            have l0 := t9 _ _ (by decide) (Or.inl rfl) l0
            refine rs_ildn wi_481_70 l0 ?_
            refine rs_pure wi_481_71 rfl ?_
            refine rs_topi (v := 2) (by decide) ?_
            refine rs_pure wi_481_72 rfl ?_
            obtain ⟨v13, e14, h⟩ := wp_lt h
            refine rs_topi e14 ?_
            refine dl_istn wi_481_73 rfl (fun lv l0 t12 => ?_)
            have l1 := t12 _ _ (by decide) (Or.inl rfl) l1
            exact hj74 _ h _ l0 l1
        refine rs_icle (tg := 62) wi_481_52 ⟨by decide, by decide⟩ (fun q => ?_) (fun q => ?_)
        ·
          have h := wp_pos h q
          exact hj62 _ h _ l0 l1
        ·
          have h := wp_neg h q
          obtain ⟨v16, e17, h⟩ := wp_lt h
          refine dl_inc wi_481_55 l1 rfl e17 (fun lv l1 t15 => ?_)
          have l0 := t15 _ _ (by decide) (Or.inl rfl) l0
          refine rs_ildn wi_481_58 l0 ?_
          refine rs_pure wi_481_59 rfl ?_
          refine rs_topi (v := 4) (by decide) ?_
          refine rs_pure wi_481_60 rfl ?_
          obtain ⟨v19, e20, h⟩ := wp_lt h
          refine rs_topi e20 ?_
          refine dl_istn wi_481_61 rfl (fun lv l0 t18 => ?_)
          have l1 := t18 _ _ (by decide) (Or.inl rfl) l1
          exact hj62 _ h _ l0 l1
      refine rs_icle (tg := 49) wi_481_38 ⟨by decide, by decide⟩ (fun q => ?_) (fun q => ?_)
      ·
        have h := wp_pos h q
        exact hj49 _ h _ l0 l1
      ·
        have h := wp_neg h q
        obtain ⟨v22, e23, h⟩ := wp_lt h
        refine dl_inc wi_481_41 l1 rfl e23 (fun lv l1 t21 => ?_)
        have l0 := t21 _ _ (by decide) (Or.inl rfl) l0
        refine rs_ildn wi_481_44 l0 ?_
        refine rs_pure wi_481_45 rfl ?_
        refine rs_topi (v := 8) (by decide) ?_
        refine rs_pure wi_481_47 rfl ?_
        obtain ⟨v25, e26, h⟩ := wp_lt h
        refine rs_topi e26 ?_
        refine dl_istn wi_481_48 rfl (fun lv l0 t24 => ?_)
        have l1 := t24 _ _ (by decide) (Or.inl rfl) l1
        exact hj49 _ h _ l0 l1
    refine rs_icle (tg := 34) wi_481_23 ⟨by decide, by decide⟩ (fun q => ?_) (fun q => ?_)
    ·
      have h := wp_pos h q
      exact hj34 _ h _ l0 l1
    ·
      have h := wp_neg h q
      obtain ⟨v28, e29, h⟩ := wp_lt h
      refine dl_inc wi_481_26 l1 rfl e29 (fun lv l1 t27 => ?_)
      have l0 := t27 _ _ (by decide) (Or.inl rfl) l0
      refine rs_ildn wi_481_29 l0 ?_
      refine rs_pure wi_481_30 rfl ?_
      refine rs_topi (v := 16) (by decide) ?_
      refine rs_pure wi_481_32 rfl ?_
      obtain ⟨v31, e32, h⟩ := wp_lt h
      refine rs_topi e32 ?_
      refine dl_istn wi_481_33 rfl (fun lv l0 t30 => ?_)
      have l1 := t30 _ _ (by decide) (Or.inl rfl) l1
      exact hj34 _ h _ l0 l1
  ·
    have h := wp_neg h q
    refine rs_ildn wi_481_12 l0 ?_
    refine rs_pure wi_481_13 rfl ?_
    refine rs_topi (v := 32) (by decide) ?_
    refine rs_pure wi_481_15 rfl ?_
    exact rs_iret wi_481_16 wr_481 rfl (hQ (v2 &&& 32) h)
theorem wc_483_311 : rx_ct (rt_P sc fm) 483 311 = some (1, 481, 1) := (by decide +kernel : rt_ct 483 311 = some (1, 481, 1))
theorem wi_483_0 : ri (rt_P sc fm) 483 0 (.lload_n 0) (1) := ri_of (by decide +kernel) rfl
theorem wi_483_1 : ri (rt_P sc fm) 483 1 (.l2i) (2) := ri_of (by decide +kernel) rfl
theorem wi_483_10 : ri (rt_P sc fm) 483 10 (.bipush 32) (12) := ri_of (by decide +kernel) rfl
theorem wi_483_12 : ri (rt_P sc fm) 483 12 (.lushr) (13) := ri_of (by decide +kernel) rfl
theorem wi_483_13 : ri (rt_P sc fm) 483 13 (.l2i) (14) := ri_of (by decide +kernel) rfl
theorem wi_483_14 : ri (rt_P sc fm) 483 14 (.invokestatic 311) (17) := ri_of (by decide +kernel) rfl
theorem wi_483_17 : ri (rt_P sc fm) 483 17 (.iadd) (18) := ri_of (by decide +kernel) rfl
theorem wi_483_18 : ri (rt_P sc fm) 483 18 (.goto 7) (21) := ri_of (by decide +kernel) rfl
theorem wi_483_2 : ri (rt_P sc fm) 483 2 (.istore_n 2) (3) := ri_of (by decide +kernel) rfl
theorem wi_483_21 : ri (rt_P sc fm) 483 21 (.iload_n 2) (22) := ri_of (by decide +kernel) rfl
theorem wi_483_22 : ri (rt_P sc fm) 483 22 (.invokestatic 311) (25) := ri_of (by decide +kernel) rfl
theorem wi_483_25 : ri (rt_P sc fm) 483 25 (.ireturn) (26) := ri_of (by decide +kernel) rfl
theorem wi_483_3 : ri (rt_P sc fm) 483 3 (.iload_n 2) (4) := ri_of (by decide +kernel) rfl
theorem wi_483_4 : ri (rt_P sc fm) 483 4 (.ifCond .ne 17) (7) := ri_of (by decide +kernel) rfl
theorem wi_483_7 : ri (rt_P sc fm) 483 7 (.bipush 32) (9) := ri_of (by decide +kernel) rfl
theorem wi_483_9 : ri (rt_P sc fm) 483 9 (.lload_n 0) (10) := ri_of (by decide +kernel) rfl
theorem wm_481 : rx_ml (rt_P sc fm) 481 = 2 := (by decide +kernel : rt_ml 481 = 2)
theorem wr_483 : rx_rt (rt_P sc fm) 483 = (some FieldType.int) := (by decide +kernel : rt_rt 483 = (some FieldType.int))
/-- java/lang/Long.numberOfTrailingZeros(J)I -/
def d_483 (n : Nat) (a0 : Int64) : Option (Int32) :=
  lt ((a0 : Int64).toInt32 : Int32) (fun v2 =>
  jn (fun p4 : Int32 =>
    some p4)
  (fun j25 =>
  if v2 = 0 then
    Option.bind (d_481 n ((((a0 : Int64).toUInt64 >>> ((32 : Int32).toInt64.toUInt64 &&& Int64.toUInt64 63)).toInt64 : Int64).toInt32)) (fun v6 =>
    j25 (32 + v6))
  else
    Option.bind (d_481 n v2) (fun v5 =>
    j25 v5)))
theorem sp_483 {F Lo n : Nat} {a0 : Int64} {L : List va_E} {K : Int32 → Prop} {Q : ((Option Value) ⊕ String) → List va_E → Prop} (hF : 1 ≤ F) (hLo : 21 ≤ Lo)  (h : wp (d_483 n a0) K) (hQ : ∀ r, K r → Q (.inl (some (.int r))) L) : rs (rt_P sc fm) 483 F Lo 0 [(0, .long a0)] [] L Q := by
  unfold d_483 at h
  obtain ⟨lv, elv⟩ : ∃ lv : rx_L, lv = [(0, .long a0)] := ⟨_, rfl⟩
  rw [← elv]
  have l0 : rx_ld lv 0 = some (.long a0) := by rw [elv]; rfl
  refine rs_lldn wi_483_0 l0 ?_
  refine rs_pure wi_483_1 rfl ?_
  obtain ⟨v2, e3, h⟩ := wp_lt h
  refine rs_topi e3 ?_
  refine dl_istn wi_483_2 rfl (fun lv l2 t1 => ?_)
  have l0 := t1 _ _ (by decide) (Or.inr (by decide)) l0
  refine rs_ildn wi_483_3 l2 ?_
  refine wp_jn (B := fun p4 : Int32 => ∀ lv, rs (rt_P sc fm) 483 F Lo 25 lv [.int p4] L Q) h (fun p4 h lv => ?_) (fun j25 hj25 h => ?_)
  ·
    exact rs_iret wi_483_25 wr_483 rfl (hQ p4 h)
  refine rs_ifne (tg := 21) wi_483_4 ⟨by decide, by decide⟩ (fun q => ?_) (fun q => ?_)
  ·
    have h := wp_neg h q
    refine rs_ildn wi_483_21 l2 ?_
    refine rs_S wi_483_22 wc_483_311 (Or.inl rfl) rfl (Nat.le_trans (by decide) hF) (ml_le wm_481 (Nat.le_trans (by decide) hLo)) rfl (sp_481 (Nat.le_trans (by decide : 0 ≤ 1 - 1) (Nat.sub_le_sub_right hF 1)) (ml_sub wm_481 (Nat.le_trans (by decide : 0 ≤ 21 - 21) (Nat.sub_le_sub_right hLo 21))) (wp_bind h) (fun v5 h => rs_back1 ?_))
    exact hj25 _ h _
  ·
    have h := wp_pos h q
    refine rs_pure wi_483_7 rfl ?_
    refine rs_topi (v := 32) (by decide) ?_
    refine rs_lldn wi_483_9 l0 ?_
    refine rs_pure wi_483_10 rfl ?_
    refine rs_topi (v := 32) (by decide) ?_
    refine rs_pure wi_483_12 rfl ?_
    refine rs_pure wi_483_13 rfl ?_
    refine rs_S wi_483_14 wc_483_311 (Or.inl rfl) rfl (Nat.le_trans (by decide) hF) (ml_le wm_481 (Nat.le_trans (by decide) hLo)) rfl (sp_481 (Nat.le_trans (by decide : 0 ≤ 1 - 1) (Nat.sub_le_sub_right hF 1)) (ml_sub wm_481 (Nat.le_trans (by decide : 0 ≤ 21 - 21) (Nat.sub_le_sub_right hLo 21))) (wp_bind h) (fun v6 h => rs_back1 ?_))
    refine rs_pure wi_483_17 rfl ?_
    refine rs_goto (tg := 25) wi_483_18 ⟨by decide, by decide⟩ ?_
    exact hj25 _ h _
theorem wf_165_31 : rx_ft (rt_P sc fm) 165 31 = some (2, 8) := (by decide +kernel : rt_ft 165 31 = some (2, 8))
theorem wf_165_34 : rx_ft (rt_P sc fm) 165 34 = some (2, 9) := (by decide +kernel : rt_ft 165 34 = some (2, 9))
theorem wg_165_110 : rx_gt (rt_P sc fm) 165 110 = some (.ref rx_Tk) := (by decide +kernel : rt_gt (.int 0) 165 110 = some (.ref rx_Tk))
theorem wi_165_0 : ri (rt_P sc fm) 165 0 (.aload_n 0) (1) := ri_of (by decide +kernel) rfl
theorem wi_165_1 : ri (rt_P sc fm) 165 1 (.getfield 31) (4) := ri_of (by decide +kernel) rfl
theorem wi_165_12 : ri (rt_P sc fm) 165 12 (.aload_n 0) (13) := ri_of (by decide +kernel) rfl
theorem wi_165_13 : ri (rt_P sc fm) 165 13 (.getfield 34) (16) := ri_of (by decide +kernel) rfl
theorem wi_165_16 : ri (rt_P sc fm) 165 16 (.iload_n 1) (17) := ri_of (by decide +kernel) rfl
theorem wi_165_17 : ri (rt_P sc fm) 165 17 (.iaload) (18) := ri_of (by decide +kernel) rfl
theorem wi_165_18 : ri (rt_P sc fm) 165 18 (.goto 17) (21) := ri_of (by decide +kernel) rfl
theorem wi_165_21 : ri (rt_P sc fm) 165 21 (.getstatic 110) (24) := ri_of (by decide +kernel) rfl
theorem wi_165_24 : ri (rt_P sc fm) 165 24 (.aload_n 0) (25) := ri_of (by decide +kernel) rfl
theorem wi_165_25 : ri (rt_P sc fm) 165 25 (.getfield 31) (28) := ri_of (by decide +kernel) rfl
theorem wi_165_28 : ri (rt_P sc fm) 165 28 (.iload_n 1) (29) := ri_of (by decide +kernel) rfl
theorem wi_165_29 : ri (rt_P sc fm) 165 29 (.iaload) (30) := ri_of (by decide +kernel) rfl
theorem wi_165_30 : ri (rt_P sc fm) 165 30 (.sipush 214) (33) := ri_of (by decide +kernel) rfl
theorem wi_165_33 : ri (rt_P sc fm) 165 33 (.isub) (34) := ri_of (by decide +kernel) rfl
theorem wi_165_34 : ri (rt_P sc fm) 165 34 (.iaload) (35) := ri_of (by decide +kernel) rfl
theorem wi_165_35 : ri (rt_P sc fm) 165 35 (.ireturn) (36) := ri_of (by decide +kernel) rfl
theorem wi_165_4 : ri (rt_P sc fm) 165 4 (.iload_n 1) (5) := ri_of (by decide +kernel) rfl
theorem wi_165_5 : ri (rt_P sc fm) 165 5 (.iaload) (6) := ri_of (by decide +kernel) rfl
theorem wi_165_6 : ri (rt_P sc fm) 165 6 (.sipush 220) (9) := ri_of (by decide +kernel) rfl
theorem wi_165_9 : ri (rt_P sc fm) 165 9 (.if_icmp .ne 12) (12) := ri_of (by decide +kernel) rfl
theorem wr_165 : rx_rt (rt_P sc fm) 165 = (some FieldType.int) := (by decide +kernel : rt_rt 165 = (some FieldType.int))
/-- MarkHouse$Code.takes(I)I -/
def d_165 (n : Nat) (a1 : Int32) (c : cS) : Option (Int32) :=
  if ib a1 1024 then
  jn (fun p2 : Int32 =>
    some p2)
  (fun j35 =>
  if (c.1 121 (ix a1)) = 220 then
    if ib a1 1024 then
    j35 (c.1 122 (ix a1))
    else none
  else
    if ib a1 1024 then
    if ib ((c.1 121 (ix a1)) - 214) 17 then
    j35 (rt_Tk.getD (ix ((c.1 121 (ix a1)) - 214)) 0)
    else none
    else none)
  else none
theorem sp_165 {F Lo n : Nat} {a1 : Int32} {c y : cS} {w : cW} {K : Int32 → Prop} {Q : ((Option Value) ⊕ String) → List va_E → Prop} (hw : rOK fm w) (hF : 0 ≤ F) (hLo : 0 ≤ Lo)  (h : wp (d_165 n a1 c) K) (hQ : ∀ r, K r → Q (.inl (some (.int r))) (hq true c y w)) : rs (rt_P sc fm) 165 F Lo 0 [(0, .ref 114), (1, .int a1)] [] (hq true c y w) Q := by
  unfold d_165 at h
  obtain ⟨lv, elv⟩ : ∃ lv : rx_L, lv = [(0, .ref 114), (1, .int a1)] := ⟨_, rfl⟩
  rw [← elv]
  have l0 : rx_ld lv 0 = some (.ref 114) := by rw [elv]; rfl
  have l1 : rx_ld lv 1 = some (.int a1) := by rw [elv]; rfl
  refine rs_aldn wi_165_0 l0 ?_
  refine dq_gr wi_165_1 wf_165_31 tf_114_8 ?_
  refine rs_ildn wi_165_4 l1 ?_
  obtain ⟨g1, h⟩ := wp_gd h
  refine dq_iald wi_165_5 t_121 g1 ?_
  refine rs_pure wi_165_6 rfl ?_
  refine rs_topi (v := 220) (by decide) ?_
  refine wp_jn (B := fun p2 : Int32 => ∀ lv, rs (rt_P sc fm) 165 F Lo 35 lv [.int p2] (hq true c y w) Q) h (fun p2 h lv => ?_) (fun j35 hj35 h => ?_)
  ·
    exact rs_iret wi_165_35 wr_165 rfl (hQ p2 h)
  refine rs_icne (tg := 21) wi_165_9 ⟨by decide, by decide⟩ (fun q => ?_) (fun q => ?_)
  ·
    have h := wp_neg h q
    refine dq_gs wi_165_21 wg_165_110 ?_
    refine rs_aldn wi_165_24 l0 ?_
    refine dq_gr wi_165_25 wf_165_31 tf_114_8 ?_
    refine rs_ildn wi_165_28 l1 ?_
    obtain ⟨g3, h⟩ := wp_gd h
    refine dq_iald wi_165_29 t_121 g3 ?_
    refine rs_pure wi_165_30 rfl ?_
    refine rs_topi (v := 214) (by decide) ?_
    refine rs_pure wi_165_33 rfl ?_
    obtain ⟨g4, h⟩ := wp_gd h
    refine dq_ciTk wi_165_34 hq_len g4 ?_
    exact hj35 _ h _
  ·
    have h := wp_pos h q
    refine rs_aldn wi_165_12 l0 ?_
    refine dq_gr wi_165_13 wf_165_34 tf_114_9 ?_
    refine rs_ildn wi_165_16 l1 ?_
    obtain ⟨g5, h⟩ := wp_gd h
    refine dq_iald wi_165_17 t_122 g5 ?_
    refine rs_goto (tg := 35) wi_165_18 ⟨by decide, by decide⟩ ?_
    exact hj35 _ h _
theorem wf_166_31 : rx_ft (rt_P sc fm) 166 31 = some (2, 8) := (by decide +kernel : rt_ft 166 31 = some (2, 8))
theorem wg_166_113 : rx_gt (rt_P sc fm) 166 113 = some (.ref rx_Gv) := (by decide +kernel : rt_gt (.int 0) 166 113 = some (.ref rx_Gv))
theorem wi_166_0 : ri (rt_P sc fm) 166 0 (.getstatic 113) (3) := ri_of (by decide +kernel) rfl
theorem wi_166_12 : ri (rt_P sc fm) 166 12 (.isub) (13) := ri_of (by decide +kernel) rfl
theorem wi_166_13 : ri (rt_P sc fm) 166 13 (.iaload) (14) := ri_of (by decide +kernel) rfl
theorem wi_166_14 : ri (rt_P sc fm) 166 14 (.ireturn) (15) := ri_of (by decide +kernel) rfl
theorem wi_166_3 : ri (rt_P sc fm) 166 3 (.aload_n 0) (4) := ri_of (by decide +kernel) rfl
theorem wi_166_4 : ri (rt_P sc fm) 166 4 (.getfield 31) (7) := ri_of (by decide +kernel) rfl
theorem wi_166_7 : ri (rt_P sc fm) 166 7 (.iload_n 1) (8) := ri_of (by decide +kernel) rfl
theorem wi_166_8 : ri (rt_P sc fm) 166 8 (.iaload) (9) := ri_of (by decide +kernel) rfl
theorem wi_166_9 : ri (rt_P sc fm) 166 9 (.sipush 214) (12) := ri_of (by decide +kernel) rfl
theorem wr_166 : rx_rt (rt_P sc fm) 166 = (some FieldType.int) := (by decide +kernel : rt_rt 166 = (some FieldType.int))
/-- MarkHouse$Code.gives(I)I -/
def d_166 (n : Nat) (a1 : Int32) (c : cS) : Option (Int32) :=
  if ib a1 1024 then
  if ib ((c.1 121 (ix a1)) - 214) 17 then
  some (rt_Gv.getD (ix ((c.1 121 (ix a1)) - 214)) 0)
  else none
  else none
theorem sp_166 {F Lo n : Nat} {a1 : Int32} {c y : cS} {w : cW} {K : Int32 → Prop} {Q : ((Option Value) ⊕ String) → List va_E → Prop} (hw : rOK fm w) (hF : 0 ≤ F) (hLo : 0 ≤ Lo)  (h : wp (d_166 n a1 c) K) (hQ : ∀ r, K r → Q (.inl (some (.int r))) (hq true c y w)) : rs (rt_P sc fm) 166 F Lo 0 [(0, .ref 114), (1, .int a1)] [] (hq true c y w) Q := by
  unfold d_166 at h
  obtain ⟨lv, elv⟩ : ∃ lv : rx_L, lv = [(0, .ref 114), (1, .int a1)] := ⟨_, rfl⟩
  rw [← elv]
  have l0 : rx_ld lv 0 = some (.ref 114) := by rw [elv]; rfl
  have l1 : rx_ld lv 1 = some (.int a1) := by rw [elv]; rfl
  refine dq_gs wi_166_0 wg_166_113 ?_
  refine rs_aldn wi_166_3 l0 ?_
  refine dq_gr wi_166_4 wf_166_31 tf_114_8 ?_
  refine rs_ildn wi_166_7 l1 ?_
  obtain ⟨g1, h⟩ := wp_gd h
  refine dq_iald wi_166_8 t_121 g1 ?_
  refine rs_pure wi_166_9 rfl ?_
  refine rs_topi (v := 214) (by decide) ?_
  refine rs_pure wi_166_12 rfl ?_
  obtain ⟨g2, h⟩ := wp_gd h
  refine dq_ciGv wi_166_13 hq_len g2 ?_
  exact rs_iret wi_166_14 wr_166 rfl (hQ (rt_Gv.getD (ix ((c.1 121 (ix a1)) - 214)) 0) h)
theorem wf_167_31 : rx_ft (rt_P sc fm) 167 31 = some (2, 8) := (by decide +kernel : rt_ft 167 31 = some (2, 8))
theorem wi_167_0 : ri (rt_P sc fm) 167 0 (.aload_n 0) (1) := ri_of (by decide +kernel) rfl
theorem wi_167_1 : ri (rt_P sc fm) 167 1 (.getfield 31) (4) := ri_of (by decide +kernel) rfl
theorem wi_167_12 : ri (rt_P sc fm) 167 12 (.aload_n 0) (13) := ri_of (by decide +kernel) rfl
theorem wi_167_13 : ri (rt_P sc fm) 167 13 (.getfield 31) (16) := ri_of (by decide +kernel) rfl
theorem wi_167_16 : ri (rt_P sc fm) 167 16 (.iload_n 1) (17) := ri_of (by decide +kernel) rfl
theorem wi_167_17 : ri (rt_P sc fm) 167 17 (.iaload) (18) := ri_of (by decide +kernel) rfl
theorem wi_167_18 : ri (rt_P sc fm) 167 18 (.sipush 227) (21) := ri_of (by decide +kernel) rfl
theorem wi_167_21 : ri (rt_P sc fm) 167 21 (.if_icmp .eq 7) (24) := ri_of (by decide +kernel) rfl
theorem wi_167_24 : ri (rt_P sc fm) 167 24 (.iconst 1) (25) := ri_of (by decide +kernel) rfl
theorem wi_167_25 : ri (rt_P sc fm) 167 25 (.goto 4) (28) := ri_of (by decide +kernel) rfl
theorem wi_167_28 : ri (rt_P sc fm) 167 28 (.iconst 0) (29) := ri_of (by decide +kernel) rfl
theorem wi_167_29 : ri (rt_P sc fm) 167 29 (.ireturn) (30) := ri_of (by decide +kernel) rfl
theorem wi_167_4 : ri (rt_P sc fm) 167 4 (.iload_n 1) (5) := ri_of (by decide +kernel) rfl
theorem wi_167_5 : ri (rt_P sc fm) 167 5 (.iaload) (6) := ri_of (by decide +kernel) rfl
theorem wi_167_6 : ri (rt_P sc fm) 167 6 (.sipush 221) (9) := ri_of (by decide +kernel) rfl
theorem wi_167_9 : ri (rt_P sc fm) 167 9 (.if_icmp .eq 19) (12) := ri_of (by decide +kernel) rfl
theorem wr_167 : rx_rt (rt_P sc fm) 167 = (some FieldType.boolean) := (by decide +kernel : rt_rt 167 = (some FieldType.boolean))
/-- MarkHouse$Code.goesOn(I)Z -/
def d_167 (n : Nat) (a1 : Int32) (c : cS) : Option (Int32) :=
  if ib a1 1024 then
  jn (fun p2 : Int32 =>
    if nb p2 then
    some p2
    else none)
  (fun j29 =>
  jn (fun p4 : Unit =>
    j29 0)
  (fun j28 =>
  if (c.1 121 (ix a1)) = 221 then
    j28 ()
  else
    if ib a1 1024 then
    if (c.1 121 (ix a1)) = 227 then
      j28 ()
    else
      j29 1
    else none))
  else none
theorem sp_167 {F Lo n : Nat} {a1 : Int32} {c y : cS} {w : cW} {K : Int32 → Prop} {Q : ((Option Value) ⊕ String) → List va_E → Prop} (hw : rOK fm w) (hF : 0 ≤ F) (hLo : 0 ≤ Lo)  (h : wp (d_167 n a1 c) K) (hQ : ∀ r, K r → Q (.inl (some (.int r))) (hq true c y w)) : rs (rt_P sc fm) 167 F Lo 0 [(0, .ref 114), (1, .int a1)] [] (hq true c y w) Q := by
  unfold d_167 at h
  obtain ⟨lv, elv⟩ : ∃ lv : rx_L, lv = [(0, .ref 114), (1, .int a1)] := ⟨_, rfl⟩
  rw [← elv]
  have l0 : rx_ld lv 0 = some (.ref 114) := by rw [elv]; rfl
  have l1 : rx_ld lv 1 = some (.int a1) := by rw [elv]; rfl
  refine rs_aldn wi_167_0 l0 ?_
  refine dq_gr wi_167_1 wf_167_31 tf_114_8 ?_
  refine rs_ildn wi_167_4 l1 ?_
  obtain ⟨g1, h⟩ := wp_gd h
  refine dq_iald wi_167_5 t_121 g1 ?_
  refine rs_pure wi_167_6 rfl ?_
  refine rs_topi (v := 221) (by decide) ?_
  refine wp_jn (B := fun p2 : Int32 => ∀ lv, rs (rt_P sc fm) 167 F Lo 29 lv [.int p2] (hq true c y w) Q) h (fun p2 h lv => ?_) (fun j29 hj29 h => ?_)
  ·
    obtain ⟨g3, h⟩ := wp_gd h
    exact rs_iret wi_167_29 wr_167 (nb_n g3) (hQ p2 h)
  refine wp_jn (B := fun p4 : Unit => ∀ lv, rs (rt_P sc fm) 167 F Lo 28 lv [] (hq true c y w) Q) h (fun p4 h lv => ?_) (fun j28 hj28 h => ?_)
  ·
    refine rs_pure wi_167_28 rfl ?_
    refine rs_topi (v := 0) (by decide) ?_
    exact hj29 _ h _
  refine rs_iceq (tg := 28) wi_167_9 ⟨by decide, by decide⟩ (fun q => ?_) (fun q => ?_)
  ·
    have h := wp_pos h q
    exact hj28 _ h _
  ·
    have h := wp_neg h q
    refine rs_aldn wi_167_12 l0 ?_
    refine dq_gr wi_167_13 wf_167_31 tf_114_8 ?_
    refine rs_ildn wi_167_16 l1 ?_
    obtain ⟨g5, h⟩ := wp_gd h
    refine dq_iald wi_167_17 t_121 g5 ?_
    refine rs_pure wi_167_18 rfl ?_
    refine rs_topi (v := 227) (by decide) ?_
    refine rs_iceq (tg := 28) wi_167_21 ⟨by decide, by decide⟩ (fun q => ?_) (fun q => ?_)
    ·
      have h := wp_pos h q
      exact hj28 _ h _
    ·
      have h := wp_neg h q
      refine rs_pure wi_167_24 rfl ?_
      refine rs_topi (v := 1) (by decide) ?_
      refine rs_goto (tg := 29) wi_167_25 ⟨by decide, by decide⟩ ?_
      exact hj29 _ h _
theorem wc_291_61 : rx_ct (rt_P sc fm) 291 61 = some (0, 41, 2) := (by decide +kernel : rt_ct 291 61 = some (0, 41, 2))
theorem wf_291_19 : rx_ft (rt_P sc fm) 291 19 = some (10, 2) := (by decide +kernel : rt_ft 291 19 = some (10, 2))
theorem wf_291_447 : rx_ft (rt_P sc fm) 291 447 = some (2, 12) := (by decide +kernel : rt_ft 291 447 = some (2, 12))
theorem wf_291_468 : rx_ft (rt_P sc fm) 291 468 = some (2, 17) := (by decide +kernel : rt_ft 291 468 = some (2, 17))
theorem wh0_291_45 : rx_ht (rt_P sc fm) 291 45 "java/lang/IllegalArgumentException" = none := (by decide +kernel : rt_ht 291 45 "java/lang/IllegalArgumentException" = none)
theorem whh_291 : rx_hh (rt_P sc fm) 291 = [] := (by decide +kernel : rt_hh 291 = [])
theorem wi_291_0 : ri (rt_P sc fm) 291 0 (.iload_n 1) (1) := ri_of (by decide +kernel) rfl
theorem wi_291_1 : ri (rt_P sc fm) 291 1 (.iload_n 2) (2) := ri_of (by decide +kernel) rfl
theorem wi_291_12 : ri (rt_P sc fm) 291 12 (.iload 4) (14) := ri_of (by decide +kernel) rfl
theorem wi_291_14 : ri (rt_P sc fm) 291 14 (.iaload) (15) := ri_of (by decide +kernel) rfl
theorem wi_291_15 : ri (rt_P sc fm) 291 15 (.ifCond .lt 33) (18) := ri_of (by decide +kernel) rfl
theorem wi_291_18 : ri (rt_P sc fm) 291 18 (.aload_n 0) (19) := ri_of (by decide +kernel) rfl
theorem wi_291_19 : ri (rt_P sc fm) 291 19 (.getfield 19) (22) := ri_of (by decide +kernel) rfl
theorem wi_291_2 : ri (rt_P sc fm) 291 2 (.iadd) (3) := ri_of (by decide +kernel) rfl
theorem wi_291_22 : ri (rt_P sc fm) 291 22 (.getfield 447) (25) := ri_of (by decide +kernel) rfl
theorem wi_291_25 : ri (rt_P sc fm) 291 25 (.iload 4) (27) := ri_of (by decide +kernel) rfl
theorem wi_291_27 : ri (rt_P sc fm) 291 27 (.iaload) (28) := ri_of (by decide +kernel) rfl
theorem wi_291_28 : ri (rt_P sc fm) 291 28 (.iload_n 3) (29) := ri_of (by decide +kernel) rfl
theorem wi_291_29 : ri (rt_P sc fm) 291 29 (.if_icmp .eq 19) (32) := ri_of (by decide +kernel) rfl
theorem wi_291_3 : ri (rt_P sc fm) 291 3 (.istore 4) (5) := ri_of (by decide +kernel) rfl
theorem wi_291_32 : ri (rt_P sc fm) 291 32 (.aload_n 0) (33) := ri_of (by decide +kernel) rfl
theorem wi_291_33 : ri (rt_P sc fm) 291 33 (.bipush 8) (35) := ri_of (by decide +kernel) rfl
theorem wi_291_35 : ri (rt_P sc fm) 291 35 (.aload_n 0) (36) := ri_of (by decide +kernel) rfl
theorem wi_291_36 : ri (rt_P sc fm) 291 36 (.getfield 19) (39) := ri_of (by decide +kernel) rfl
theorem wi_291_39 : ri (rt_P sc fm) 291 39 (.getfield 468) (42) := ri_of (by decide +kernel) rfl
theorem wi_291_42 : ri (rt_P sc fm) 291 42 (.iload 4) (44) := ri_of (by decide +kernel) rfl
theorem wi_291_44 : ri (rt_P sc fm) 291 44 (.iaload) (45) := ri_of (by decide +kernel) rfl
theorem wi_291_45 : ri (rt_P sc fm) 291 45 (.invokevirtual 61) (48) := ri_of (by decide +kernel) rfl
theorem wi_291_48 : ri (rt_P sc fm) 291 48 (.aload_n 0) (49) := ri_of (by decide +kernel) rfl
theorem wi_291_49 : ri (rt_P sc fm) 291 49 (.getfield 19) (52) := ri_of (by decide +kernel) rfl
theorem wi_291_5 : ri (rt_P sc fm) 291 5 (.aload_n 0) (6) := ri_of (by decide +kernel) rfl
theorem wi_291_52 : ri (rt_P sc fm) 291 52 (.getfield 447) (55) := ri_of (by decide +kernel) rfl
theorem wi_291_55 : ri (rt_P sc fm) 291 55 (.iload 4) (57) := ri_of (by decide +kernel) rfl
theorem wi_291_57 : ri (rt_P sc fm) 291 57 (.iaload) (58) := ri_of (by decide +kernel) rfl
theorem wi_291_58 : ri (rt_P sc fm) 291 58 (.ifCond .ge 7) (61) := ri_of (by decide +kernel) rfl
theorem wi_291_6 : ri (rt_P sc fm) 291 6 (.getfield 19) (9) := ri_of (by decide +kernel) rfl
theorem wi_291_61 : ri (rt_P sc fm) 291 61 (.iconst 1) (62) := ri_of (by decide +kernel) rfl
theorem wi_291_62 : ri (rt_P sc fm) 291 62 (.goto 4) (65) := ri_of (by decide +kernel) rfl
theorem wi_291_65 : ri (rt_P sc fm) 291 65 (.iconst 0) (66) := ri_of (by decide +kernel) rfl
theorem wi_291_66 : ri (rt_P sc fm) 291 66 (.istore 5) (68) := ri_of (by decide +kernel) rfl
theorem wi_291_68 : ri (rt_P sc fm) 291 68 (.aload_n 0) (69) := ri_of (by decide +kernel) rfl
theorem wi_291_69 : ri (rt_P sc fm) 291 69 (.getfield 19) (72) := ri_of (by decide +kernel) rfl
theorem wi_291_72 : ri (rt_P sc fm) 291 72 (.getfield 447) (75) := ri_of (by decide +kernel) rfl
theorem wi_291_75 : ri (rt_P sc fm) 291 75 (.iload 4) (77) := ri_of (by decide +kernel) rfl
theorem wi_291_77 : ri (rt_P sc fm) 291 77 (.iload_n 3) (78) := ri_of (by decide +kernel) rfl
theorem wi_291_78 : ri (rt_P sc fm) 291 78 (.iastore) (79) := ri_of (by decide +kernel) rfl
theorem wi_291_79 : ri (rt_P sc fm) 291 79 (.iload 5) (81) := ri_of (by decide +kernel) rfl
theorem wi_291_81 : ri (rt_P sc fm) 291 81 (.ifCond .eq 9) (84) := ri_of (by decide +kernel) rfl
theorem wi_291_84 : ri (rt_P sc fm) 291 84 (.lconst 1) (85) := ri_of (by decide +kernel) rfl
theorem wi_291_85 : ri (rt_P sc fm) 291 85 (.iload_n 2) (86) := ri_of (by decide +kernel) rfl
theorem wi_291_86 : ri (rt_P sc fm) 291 86 (.lshl) (87) := ri_of (by decide +kernel) rfl
theorem wi_291_87 : ri (rt_P sc fm) 291 87 (.goto 4) (90) := ri_of (by decide +kernel) rfl
theorem wi_291_9 : ri (rt_P sc fm) 291 9 (.getfield 447) (12) := ri_of (by decide +kernel) rfl
theorem wi_291_90 : ri (rt_P sc fm) 291 90 (.lconst 0) (91) := ri_of (by decide +kernel) rfl
theorem wi_291_91 : ri (rt_P sc fm) 291 91 (.lreturn) (92) := ri_of (by decide +kernel) rfl
theorem wr_291 : rx_rt (rt_P sc fm) 291 = (some FieldType.long) := (by decide +kernel : rt_rt 291 = (some FieldType.long))
/-- MarkHouse$Reader.comeTo(III)J -/
def d_291 (n : Nat) (a1 : Int32) (a2 : Int32) (a3 : Int32) (c : cS) : Option ((Int64 × cS) ⊕ cS) :=
  lt ((a1 + a2) : Int32) (fun v2 =>
  if ib v2 1024 then
  jn (fun p5 : cS =>
    if ib v2 1024 then
    jn (fun p7 : Int32 =>
      if ib v2 1024 then
      lt (pI p5 125 (ix v2) a3) (fun c10 =>
      jn (fun p12 : Int64 =>
        some (.inl (p12, c10)))
      (fun j91 =>
      if p7 = 0 then
        j91 0
      else
        j91 (1 <<< ((a2 : Int32).toInt64 &&& 63))))
      else none)
    (fun j66 =>
    if 0 ≤ (p5.1 125 (ix v2)) then
      j66 0
    else
      j66 1)
    else none)
  (fun j48 =>
  if (c.1 125 (ix v2)) < 0 then
    j48 c
  else
    if ib v2 1024 then
    if (c.1 125 (ix v2)) = a3 then
      j48 c
    else
      if ib v2 1024 then
      Option.bind (d_41 n 8 (c.1 130 (ix v2)) c) (Sum.elim (fun r15 =>
      j48 r15)
      (fun z16 => some (.inr z16)))
      else none
    else none)
  else none)
theorem sp_291 {F Lo n : Nat} {a1 : Int32} {a2 : Int32} {a3 : Int32} {c y : cS} {w : cW} {K : (Int64 × cS) ⊕ cS → Prop} {Q : ((Option Value) ⊕ String) → List va_E → Prop} (hw : rOK fm w) (hF : 7 ≤ F) (hLo : 104 ≤ Lo)  (h : wp (d_291 n a1 a2 a3 c) K) (hQ : ∀ r, K (.inl r) → Q (.inl (some (.long r.1))) (hq true r.2 y w)) (hT : ∀ r, K (.inr r) → Q (.inr "java/lang/IllegalArgumentException") (hq true r y w)) : rs (rt_P sc fm) 291 F Lo 0 [(0, .ref 145), (1, .int a1), (2, .int a2), (3, .int a3)] [] (hq true c y w) Q := by
  unfold d_291 at h
  obtain ⟨lv, elv⟩ : ∃ lv : rx_L, lv = [(0, .ref 145), (1, .int a1), (2, .int a2), (3, .int a3)] := ⟨_, rfl⟩
  rw [← elv]
  have l0 : rx_ld lv 0 = some (.ref 145) := by rw [elv]; rfl
  have l1 : rx_ld lv 1 = some (.int a1) := by rw [elv]; rfl
  have l2 : rx_ld lv 2 = some (.int a2) := by rw [elv]; rfl
  have l3 : rx_ld lv 3 = some (.int a3) := by rw [elv]; rfl
  refine rs_ildn wi_291_0 l1 ?_
  refine rs_ildn wi_291_1 l2 ?_
  refine rs_pure wi_291_2 rfl ?_
  obtain ⟨v2, e3, h⟩ := wp_lt h
  refine rs_topi e3 ?_
  refine dl_ist wi_291_3 rfl (fun lv l4 t1 => ?_)
  have l0 := t1 _ _ (by decide) (Or.inl rfl) l0
  have l2 := t1 _ _ (by decide) (Or.inl rfl) l2
  have l3 := t1 _ _ (by decide) (Or.inl rfl) l3
  refine rs_aldn wi_291_5 l0 ?_
  refine dq_gr wi_291_6 wf_291_19 tf_145_2 ?_
  refine dq_gr wi_291_9 wf_291_447 tf_114_12 ?_
  refine rs_ild wi_291_12 l4 ?_
  obtain ⟨g4, h⟩ := wp_gd h
  refine dq_iald wi_291_14 t_125 g4 ?_
  refine wp_jn (B := fun p5 : cS => ∀ lv, rx_ld lv 0 = some (.ref 145) → rx_ld lv 2 = some (.int a2) → rx_ld lv 3 = some (.int a3) → rx_ld lv 4 = some (.int v2) → rs (rt_P sc fm) 291 F Lo 48 lv [] (hq true p5 y w) Q) h (fun p5 h lv l0 l2 l3 l4 => ?_) (fun j48 hj48 h => ?_)
  ·
    refine rs_aldn wi_291_48 l0 ?_
    refine dq_gr wi_291_49 wf_291_19 tf_145_2 ?_
    refine dq_gr wi_291_52 wf_291_447 tf_114_12 ?_
    refine rs_ild wi_291_55 l4 ?_
    obtain ⟨g6, h⟩ := wp_gd h
    refine dq_iald wi_291_57 t_125 g6 ?_
    refine wp_jn (B := fun p7 : Int32 => ∀ lv, rx_ld lv 0 = some (.ref 145) → rx_ld lv 2 = some (.int a2) → rx_ld lv 3 = some (.int a3) → rx_ld lv 4 = some (.int v2) → rs (rt_P sc fm) 291 F Lo 66 lv [.int p7] (hq true p5 y w) Q) h (fun p7 h lv l0 l2 l3 l4 => ?_) (fun j66 hj66 h => ?_)
    ·
      refine dl_ist wi_291_66 rfl (fun lv l5 t8 => ?_)
      have l0 := t8 _ _ (by decide) (Or.inl rfl) l0
      have l2 := t8 _ _ (by decide) (Or.inl rfl) l2
      have l3 := t8 _ _ (by decide) (Or.inl rfl) l3
      have l4 := t8 _ _ (by decide) (Or.inl rfl) l4
      refine rs_aldn wi_291_68 l0 ?_
      refine dq_gr wi_291_69 wf_291_19 tf_145_2 ?_
      refine dq_gr wi_291_72 wf_291_447 tf_114_12 ?_
      refine rs_ild wi_291_75 l4 ?_
      refine rs_ildn wi_291_77 l3 ?_
      obtain ⟨g9, h⟩ := wp_gd h
      obtain ⟨c10, e11, h⟩ := wp_lt h
      refine dq_iast wi_291_78 t_125 g9 e11 ?_
      refine rs_ild wi_291_79 l5 ?_
      refine wp_jn (B := fun p12 : Int64 => ∀ lv, rs (rt_P sc fm) 291 F Lo 91 lv [.long p12] (hq true c10 y w) Q) h (fun p12 h lv => ?_) (fun j91 hj91 h => ?_)
      ·
        exact rs_lret wi_291_91 wr_291 (hQ (p12, c10) h)
      refine rs_ifeq (tg := 90) wi_291_81 ⟨by decide, by decide⟩ (fun q => ?_) (fun q => ?_)
      ·
        have h := wp_pos h q
        refine rs_pure wi_291_90 rfl ?_
        refine rs_topl (v := 0) (by decide) ?_
        exact hj91 _ h _
      ·
        have h := wp_neg h q
        refine rs_pure wi_291_84 rfl ?_
        refine rs_topl (v := 1) (by decide) ?_
        refine rs_ildn wi_291_85 l2 ?_
        refine rs_pure wi_291_86 rfl ?_
        refine rs_goto (tg := 91) wi_291_87 ⟨by decide, by decide⟩ ?_
        exact hj91 _ h _
    refine rs_ifge (tg := 65) wi_291_58 ⟨by decide, by decide⟩ (fun q => ?_) (fun q => ?_)
    ·
      have h := wp_pos h q
      refine rs_pure wi_291_65 rfl ?_
      refine rs_topi (v := 0) (by decide) ?_
      exact hj66 _ h _ l0 l2 l3 l4
    ·
      have h := wp_neg h q
      refine rs_pure wi_291_61 rfl ?_
      refine rs_topi (v := 1) (by decide) ?_
      refine rs_goto (tg := 66) wi_291_62 ⟨by decide, by decide⟩ ?_
      exact hj66 _ h _ l0 l2 l3 l4
  refine rs_iflt (tg := 48) wi_291_15 ⟨by decide, by decide⟩ (fun q => ?_) (fun q => ?_)
  ·
    have h := wp_pos h q
    exact hj48 _ h _ l0 l2 l3 l4
  ·
    have h := wp_neg h q
    refine rs_aldn wi_291_18 l0 ?_
    refine dq_gr wi_291_19 wf_291_19 tf_145_2 ?_
    refine dq_gr wi_291_22 wf_291_447 tf_114_12 ?_
    refine rs_ild wi_291_25 l4 ?_
    obtain ⟨g13, h⟩ := wp_gd h
    refine dq_iald wi_291_27 t_125 g13 ?_
    refine rs_ildn wi_291_28 l3 ?_
    refine rs_iceq (tg := 48) wi_291_29 ⟨by decide, by decide⟩ (fun q => ?_) (fun q => ?_)
    ·
      have h := wp_pos h q
      exact hj48 _ h _ l0 l2 l3 l4
    ·
      have h := wp_neg h q
      refine rs_aldn wi_291_32 l0 ?_
      refine rs_pure wi_291_33 rfl ?_
      refine rs_topi (v := 8) (by decide) ?_
      refine rs_aldn wi_291_35 l0 ?_
      refine dq_gr wi_291_36 wf_291_19 tf_145_2 ?_
      refine dq_gr wi_291_39 wf_291_468 tf_114_17 ?_
      refine rs_ild wi_291_42 l4 ?_
      obtain ⟨g14, h⟩ := wp_gd h
      refine dq_iald wi_291_44 t_130 g14 ?_
      refine rs_V wi_291_45 wc_291_61 rfl (dq_isa tf_145_0 wa_10_41) (Nat.le_trans (by decide) hF) (ml_le wm_41 (Nat.le_trans (by decide) hLo)) rfl (sp_41 hw (Nat.le_trans (by decide : 6 ≤ 7 - 1) (Nat.sub_le_sub_right hF 1)) (ml_sub wm_41 (Nat.le_trans (by decide : 82 ≤ 104 - 22) (Nat.sub_le_sub_right hLo 22))) (wp_bind h) (fun r15 h => rs_back0 ?_) (fun z16 h => rs_up wh0_291_45 whh_291 (hT z16 (wp_inr h))))
      have h := wp_inl h
      exact hj48 _ h _ l0 l2 l3 l4
theorem wa_10_291 : rz_cn 10 (rx_yn (rt_P sc fm) 291).cls = true := (by decide +kernel : rz_cn 10 (rt_yn 291).cls = true)
theorem wa_2_165 : rz_cn 2 (rx_yn (rt_P sc fm) 165).cls = true := (by decide +kernel : rz_cn 2 (rt_yn 165).cls = true)
theorem wa_2_166 : rz_cn 2 (rx_yn (rt_P sc fm) 166).cls = true := (by decide +kernel : rz_cn 2 (rt_yn 166).cls = true)
theorem wa_2_167 : rz_cn 2 (rx_yn (rt_P sc fm) 167).cls = true := (by decide +kernel : rz_cn 2 (rt_yn 167).cls = true)
theorem wc_290_459 : rx_ct (rt_P sc fm) 290 459 = some (0, 165, 1) := (by decide +kernel : rt_ct 290 459 = some (0, 165, 1))
theorem wc_290_462 : rx_ct (rt_P sc fm) 290 462 = some (0, 166, 1) := (by decide +kernel : rt_ct 290 462 = some (0, 166, 1))
theorem wc_290_465 : rx_ct (rt_P sc fm) 290 465 = some (0, 167, 1) := (by decide +kernel : rt_ct 290 465 = some (0, 167, 1))
theorem wc_290_471 : rx_ct (rt_P sc fm) 290 471 = some (0, 291, 3) := (by decide +kernel : rt_ct 290 471 = some (0, 291, 3))
theorem wc_290_61 : rx_ct (rt_P sc fm) 290 61 = some (0, 41, 2) := (by decide +kernel : rt_ct 290 61 = some (0, 41, 2))
theorem wf_290_19 : rx_ft (rt_P sc fm) 290 19 = some (10, 2) := (by decide +kernel : rt_ft 290 19 = some (10, 2))
theorem wf_290_432 : rx_ft (rt_P sc fm) 290 432 = some (2, 11) := (by decide +kernel : rt_ft 290 432 = some (2, 11))
theorem wf_290_447 : rx_ft (rt_P sc fm) 290 447 = some (2, 12) := (by decide +kernel : rt_ft 290 447 = some (2, 12))
theorem wf_290_468 : rx_ft (rt_P sc fm) 290 468 = some (2, 17) := (by decide +kernel : rt_ft 290 468 = some (2, 17))
theorem wh0_290_110 : rx_ht (rt_P sc fm) 290 110 "java/lang/IllegalArgumentException" = none := (by decide +kernel : rt_ht 290 110 "java/lang/IllegalArgumentException" = none)
theorem wh0_290_132 : rx_ht (rt_P sc fm) 290 132 "java/lang/IllegalArgumentException" = none := (by decide +kernel : rt_ht 290 132 "java/lang/IllegalArgumentException" = none)
theorem wh0_290_175 : rx_ht (rt_P sc fm) 290 175 "java/lang/IllegalArgumentException" = none := (by decide +kernel : rt_ht 290 175 "java/lang/IllegalArgumentException" = none)
theorem whh_290 : rx_hh (rt_P sc fm) 290 = [] := (by decide +kernel : rt_hh 290 = [])
theorem wi_290_0 : ri (rt_P sc fm) 290 0 (.iload_n 1) (1) := ri_of (by decide +kernel) rfl
theorem wi_290_1 : ri (rt_P sc fm) 290 1 (.iload_n 3) (2) := ri_of (by decide +kernel) rfl
theorem wi_290_100 : ri (rt_P sc fm) 290 100 (.aload_n 0) (101) := ri_of (by decide +kernel) rfl
theorem wi_290_101 : ri (rt_P sc fm) 290 101 (.getfield 19) (104) := ri_of (by decide +kernel) rfl
theorem wi_290_104 : ri (rt_P sc fm) 290 104 (.getfield 468) (107) := ri_of (by decide +kernel) rfl
theorem wi_290_107 : ri (rt_P sc fm) 290 107 (.iload 4) (109) := ri_of (by decide +kernel) rfl
theorem wi_290_109 : ri (rt_P sc fm) 290 109 (.iaload) (110) := ri_of (by decide +kernel) rfl
theorem wi_290_110 : ri (rt_P sc fm) 290 110 (.invokevirtual 61) (113) := ri_of (by decide +kernel) rfl
theorem wi_290_113 : ri (rt_P sc fm) 290 113 (.aload_n 0) (114) := ri_of (by decide +kernel) rfl
theorem wi_290_114 : ri (rt_P sc fm) 290 114 (.getfield 19) (117) := ri_of (by decide +kernel) rfl
theorem wi_290_117 : ri (rt_P sc fm) 290 117 (.iload 4) (119) := ri_of (by decide +kernel) rfl
theorem wi_290_119 : ri (rt_P sc fm) 290 119 (.invokevirtual 465) (122) := ri_of (by decide +kernel) rfl
theorem wi_290_12 : ri (rt_P sc fm) 290 12 (.iload 4) (14) := ri_of (by decide +kernel) rfl
theorem wi_290_122 : ri (rt_P sc fm) 290 122 (.ifCond .eq 16) (125) := ri_of (by decide +kernel) rfl
theorem wi_290_125 : ri (rt_P sc fm) 290 125 (.aload_n 0) (126) := ri_of (by decide +kernel) rfl
theorem wi_290_126 : ri (rt_P sc fm) 290 126 (.iload_n 1) (127) := ri_of (by decide +kernel) rfl
theorem wi_290_127 : ri (rt_P sc fm) 290 127 (.iload_n 3) (128) := ri_of (by decide +kernel) rfl
theorem wi_290_128 : ri (rt_P sc fm) 290 128 (.iconst 1) (129) := ri_of (by decide +kernel) rfl
theorem wi_290_129 : ri (rt_P sc fm) 290 129 (.iadd) (130) := ri_of (by decide +kernel) rfl
theorem wi_290_130 : ri (rt_P sc fm) 290 130 (.iload 5) (132) := ri_of (by decide +kernel) rfl
theorem wi_290_132 : ri (rt_P sc fm) 290 132 (.invokevirtual 471) (135) := ri_of (by decide +kernel) rfl
theorem wi_290_135 : ri (rt_P sc fm) 290 135 (.goto 4) (138) := ri_of (by decide +kernel) rfl
theorem wi_290_138 : ri (rt_P sc fm) 290 138 (.lconst 0) (139) := ri_of (by decide +kernel) rfl
theorem wi_290_139 : ri (rt_P sc fm) 290 139 (.lstore 7) (141) := ri_of (by decide +kernel) rfl
theorem wi_290_14 : ri (rt_P sc fm) 290 14 (.iaload) (15) := ri_of (by decide +kernel) rfl
theorem wi_290_141 : ri (rt_P sc fm) 290 141 (.aload_n 0) (142) := ri_of (by decide +kernel) rfl
theorem wi_290_142 : ri (rt_P sc fm) 290 142 (.getfield 19) (145) := ri_of (by decide +kernel) rfl
theorem wi_290_145 : ri (rt_P sc fm) 290 145 (.getfield 432) (148) := ri_of (by decide +kernel) rfl
theorem wi_290_148 : ri (rt_P sc fm) 290 148 (.iload 4) (150) := ri_of (by decide +kernel) rfl
theorem wi_290_15 : ri (rt_P sc fm) 290 15 (.aload_n 0) (16) := ri_of (by decide +kernel) rfl
theorem wi_290_150 : ri (rt_P sc fm) 290 150 (.iaload) (151) := ri_of (by decide +kernel) rfl
theorem wi_290_151 : ri (rt_P sc fm) 290 151 (.ifCond .ge 8) (154) := ri_of (by decide +kernel) rfl
theorem wi_290_154 : ri (rt_P sc fm) 290 154 (.lload 7) (156) := ri_of (by decide +kernel) rfl
theorem wi_290_156 : ri (rt_P sc fm) 290 156 (.goto 23) (159) := ri_of (by decide +kernel) rfl
theorem wi_290_159 : ri (rt_P sc fm) 290 159 (.lload 7) (161) := ri_of (by decide +kernel) rfl
theorem wi_290_16 : ri (rt_P sc fm) 290 16 (.getfield 19) (19) := ri_of (by decide +kernel) rfl
theorem wi_290_161 : ri (rt_P sc fm) 290 161 (.aload_n 0) (162) := ri_of (by decide +kernel) rfl
theorem wi_290_162 : ri (rt_P sc fm) 290 162 (.iload_n 1) (163) := ri_of (by decide +kernel) rfl
theorem wi_290_163 : ri (rt_P sc fm) 290 163 (.aload_n 0) (164) := ri_of (by decide +kernel) rfl
theorem wi_290_164 : ri (rt_P sc fm) 290 164 (.getfield 19) (167) := ri_of (by decide +kernel) rfl
theorem wi_290_167 : ri (rt_P sc fm) 290 167 (.getfield 432) (170) := ri_of (by decide +kernel) rfl
theorem wi_290_170 : ri (rt_P sc fm) 290 170 (.iload 4) (172) := ri_of (by decide +kernel) rfl
theorem wi_290_172 : ri (rt_P sc fm) 290 172 (.iaload) (173) := ri_of (by decide +kernel) rfl
theorem wi_290_173 : ri (rt_P sc fm) 290 173 (.iload 5) (175) := ri_of (by decide +kernel) rfl
theorem wi_290_175 : ri (rt_P sc fm) 290 175 (.invokevirtual 471) (178) := ri_of (by decide +kernel) rfl
theorem wi_290_178 : ri (rt_P sc fm) 290 178 (.lor) (179) := ri_of (by decide +kernel) rfl
theorem wi_290_179 : ri (rt_P sc fm) 290 179 (.lreturn) (180) := ri_of (by decide +kernel) rfl
theorem wi_290_19 : ri (rt_P sc fm) 290 19 (.iload 4) (21) := ri_of (by decide +kernel) rfl
theorem wi_290_2 : ri (rt_P sc fm) 290 2 (.iadd) (3) := ri_of (by decide +kernel) rfl
theorem wi_290_21 : ri (rt_P sc fm) 290 21 (.invokevirtual 459) (24) := ri_of (by decide +kernel) rfl
theorem wi_290_24 : ri (rt_P sc fm) 290 24 (.isub) (25) := ri_of (by decide +kernel) rfl
theorem wi_290_25 : ri (rt_P sc fm) 290 25 (.aload_n 0) (26) := ri_of (by decide +kernel) rfl
theorem wi_290_26 : ri (rt_P sc fm) 290 26 (.getfield 19) (29) := ri_of (by decide +kernel) rfl
theorem wi_290_29 : ri (rt_P sc fm) 290 29 (.iload 4) (31) := ri_of (by decide +kernel) rfl
theorem wi_290_3 : ri (rt_P sc fm) 290 3 (.istore 4) (5) := ri_of (by decide +kernel) rfl
theorem wi_290_31 : ri (rt_P sc fm) 290 31 (.invokevirtual 462) (34) := ri_of (by decide +kernel) rfl
theorem wi_290_34 : ri (rt_P sc fm) 290 34 (.iadd) (35) := ri_of (by decide +kernel) rfl
theorem wi_290_35 : ri (rt_P sc fm) 290 35 (.istore 5) (37) := ri_of (by decide +kernel) rfl
theorem wi_290_37 : ri (rt_P sc fm) 290 37 (.aload_n 0) (38) := ri_of (by decide +kernel) rfl
theorem wi_290_38 : ri (rt_P sc fm) 290 38 (.getfield 19) (41) := ri_of (by decide +kernel) rfl
theorem wi_290_41 : ri (rt_P sc fm) 290 41 (.iload 4) (43) := ri_of (by decide +kernel) rfl
theorem wi_290_43 : ri (rt_P sc fm) 290 43 (.invokevirtual 465) (46) := ri_of (by decide +kernel) rfl
theorem wi_290_46 : ri (rt_P sc fm) 290 46 (.ifCond .eq 14) (49) := ri_of (by decide +kernel) rfl
theorem wi_290_49 : ri (rt_P sc fm) 290 49 (.iload_n 3) (50) := ri_of (by decide +kernel) rfl
theorem wi_290_5 : ri (rt_P sc fm) 290 5 (.aload_n 0) (6) := ri_of (by decide +kernel) rfl
theorem wi_290_50 : ri (rt_P sc fm) 290 50 (.iconst 1) (51) := ri_of (by decide +kernel) rfl
theorem wi_290_51 : ri (rt_P sc fm) 290 51 (.iadd) (52) := ri_of (by decide +kernel) rfl
theorem wi_290_52 : ri (rt_P sc fm) 290 52 (.iload_n 2) (53) := ri_of (by decide +kernel) rfl
theorem wi_290_53 : ri (rt_P sc fm) 290 53 (.if_icmp .lt 7) (56) := ri_of (by decide +kernel) rfl
theorem wi_290_56 : ri (rt_P sc fm) 290 56 (.iconst 1) (57) := ri_of (by decide +kernel) rfl
theorem wi_290_57 : ri (rt_P sc fm) 290 57 (.goto 4) (60) := ri_of (by decide +kernel) rfl
theorem wi_290_6 : ri (rt_P sc fm) 290 6 (.getfield 19) (9) := ri_of (by decide +kernel) rfl
theorem wi_290_60 : ri (rt_P sc fm) 290 60 (.iconst 0) (61) := ri_of (by decide +kernel) rfl
theorem wi_290_61 : ri (rt_P sc fm) 290 61 (.istore 6) (63) := ri_of (by decide +kernel) rfl
theorem wi_290_63 : ri (rt_P sc fm) 290 63 (.aload_n 0) (64) := ri_of (by decide +kernel) rfl
theorem wi_290_64 : ri (rt_P sc fm) 290 64 (.getfield 19) (67) := ri_of (by decide +kernel) rfl
theorem wi_290_67 : ri (rt_P sc fm) 290 67 (.iload 4) (69) := ri_of (by decide +kernel) rfl
theorem wi_290_69 : ri (rt_P sc fm) 290 69 (.invokevirtual 459) (72) := ri_of (by decide +kernel) rfl
theorem wi_290_72 : ri (rt_P sc fm) 290 72 (.aload_n 0) (73) := ri_of (by decide +kernel) rfl
theorem wi_290_73 : ri (rt_P sc fm) 290 73 (.getfield 19) (76) := ri_of (by decide +kernel) rfl
theorem wi_290_76 : ri (rt_P sc fm) 290 76 (.getfield 447) (79) := ri_of (by decide +kernel) rfl
theorem wi_290_79 : ri (rt_P sc fm) 290 79 (.iload 4) (81) := ri_of (by decide +kernel) rfl
theorem wi_290_81 : ri (rt_P sc fm) 290 81 (.iaload) (82) := ri_of (by decide +kernel) rfl
theorem wi_290_82 : ri (rt_P sc fm) 290 82 (.if_icmp .gt 15) (85) := ri_of (by decide +kernel) rfl
theorem wi_290_85 : ri (rt_P sc fm) 290 85 (.iload 5) (87) := ri_of (by decide +kernel) rfl
theorem wi_290_87 : ri (rt_P sc fm) 290 87 (.bipush 8) (89) := ri_of (by decide +kernel) rfl
theorem wi_290_89 : ri (rt_P sc fm) 290 89 (.if_icmp .gt 8) (92) := ri_of (by decide +kernel) rfl
theorem wi_290_9 : ri (rt_P sc fm) 290 9 (.getfield 447) (12) := ri_of (by decide +kernel) rfl
theorem wi_290_92 : ri (rt_P sc fm) 290 92 (.iload 6) (94) := ri_of (by decide +kernel) rfl
theorem wi_290_94 : ri (rt_P sc fm) 290 94 (.ifCond .eq 19) (97) := ri_of (by decide +kernel) rfl
theorem wi_290_97 : ri (rt_P sc fm) 290 97 (.aload_n 0) (98) := ri_of (by decide +kernel) rfl
theorem wi_290_98 : ri (rt_P sc fm) 290 98 (.bipush 8) (100) := ri_of (by decide +kernel) rfl
theorem wm_165 : rx_ml (rt_P sc fm) 165 = 2 := (by decide +kernel : rt_ml 165 = 2)
theorem wm_166 : rx_ml (rt_P sc fm) 166 = 2 := (by decide +kernel : rt_ml 166 = 2)
theorem wm_167 : rx_ml (rt_P sc fm) 167 = 2 := (by decide +kernel : rt_ml 167 = 2)
theorem wm_291 : rx_ml (rt_P sc fm) 291 = 6 := (by decide +kernel : rt_ml 291 = 6)
theorem wr_290 : rx_rt (rt_P sc fm) 290 = (some FieldType.long) := (by decide +kernel : rt_rt 290 = (some FieldType.long))
/-- MarkHouse$Reader.goOver(III)J -/
def d_290 (n : Nat) (a1 : Int32) (a2 : Int32) (a3 : Int32) (c : cS) : Option ((Int64 × cS) ⊕ cS) :=
  lt ((a1 + a3) : Int32) (fun v2 =>
  if ib v2 1024 then
  Option.bind (d_165 n v2 c) (fun v5 =>
  Option.bind (d_166 n v2 c) (fun v6 =>
  lt ((((c.1 125 (ix v2)) - v5) + v6) : Int32) (fun v8 =>
  Option.bind (d_167 n v2 c) (fun v10 =>
  jn (fun p11 : Int32 =>
    Option.bind (d_165 n v2 c) (fun v13 =>
    if ib v2 1024 then
    jn (fun p15 : cS =>
      Option.bind (d_167 n v2 p15) (fun v16 =>
      jn (fun p17 : Int64 × cS =>
        if ib v2 1024 then
        jn (fun p20 : Int64 × cS =>
          some (.inl (p20.1, p20.2)))
        (fun j179 =>
        if 0 ≤ (p17.2.1 124 (ix v2)) then
          if ib v2 1024 then
          Option.bind (d_291 n a1 (p17.2.1 124 (ix v2)) v8 p17.2) (Sum.elim (fun r22 =>
          j179 ((p17.1 ||| r22.1), r22.2))
          (fun z23 => some (.inr z23)))
          else none
        else
          j179 (p17.1, p17.2))
        else none)
      (fun j139 =>
      if v16 = 0 then
        j139 (0, p15)
      else
        Option.bind (d_291 n a1 (a3 + 1) v8 p15) (Sum.elim (fun r24 =>
        j139 (r24.1, r24.2))
        (fun z25 => some (.inr z25))))))
    (fun j113 =>
    jn (fun p26 : Unit =>
      if ib v2 1024 then
      Option.bind (d_41 n 8 (c.1 130 (ix v2)) c) (Sum.elim (fun r28 =>
      j113 r28)
      (fun z29 => some (.inr z29)))
      else none)
    (fun j97 =>
    if (c.1 125 (ix v2)) < v13 then
      j97 ()
    else
      if 8 < v8 then
        j97 ()
      else
        if p11 = 0 then
          j113 c
        else
          j97 ()))
    else none))
  (fun j61 =>
  jn (fun p30 : Unit =>
    j61 0)
  (fun j60 =>
  if v10 = 0 then
    j60 ()
  else
    if (a3 + 1) < a2 then
      j60 ()
    else
      j61 1))))))
  else none)
theorem sp_290 {F Lo n : Nat} {a1 : Int32} {a2 : Int32} {a3 : Int32} {c y : cS} {w : cW} {K : (Int64 × cS) ⊕ cS → Prop} {Q : ((Option Value) ⊕ String) → List va_E → Prop} (hw : rOK fm w) (hF : 8 ≤ F) (hLo : 129 ≤ Lo)  (h : wp (d_290 n a1 a2 a3 c) K) (hQ : ∀ r, K (.inl r) → Q (.inl (some (.long r.1))) (hq true r.2 y w)) (hT : ∀ r, K (.inr r) → Q (.inr "java/lang/IllegalArgumentException") (hq true r y w)) : rs (rt_P sc fm) 290 F Lo 0 [(0, .ref 145), (1, .int a1), (2, .int a2), (3, .int a3)] [] (hq true c y w) Q := by
  unfold d_290 at h
  obtain ⟨lv, elv⟩ : ∃ lv : rx_L, lv = [(0, .ref 145), (1, .int a1), (2, .int a2), (3, .int a3)] := ⟨_, rfl⟩
  rw [← elv]
  have l0 : rx_ld lv 0 = some (.ref 145) := by rw [elv]; rfl
  have l1 : rx_ld lv 1 = some (.int a1) := by rw [elv]; rfl
  have l2 : rx_ld lv 2 = some (.int a2) := by rw [elv]; rfl
  have l3 : rx_ld lv 3 = some (.int a3) := by rw [elv]; rfl
  refine rs_ildn wi_290_0 l1 ?_
  refine rs_ildn wi_290_1 l3 ?_
  refine rs_pure wi_290_2 rfl ?_
  obtain ⟨v2, e3, h⟩ := wp_lt h
  refine rs_topi e3 ?_
  refine dl_ist wi_290_3 rfl (fun lv l4 t1 => ?_)
  have l0 := t1 _ _ (by decide) (Or.inl rfl) l0
  have l1 := t1 _ _ (by decide) (Or.inl rfl) l1
  have l2 := t1 _ _ (by decide) (Or.inl rfl) l2
  have l3 := t1 _ _ (by decide) (Or.inl rfl) l3
  refine rs_aldn wi_290_5 l0 ?_
  refine dq_gr wi_290_6 wf_290_19 tf_145_2 ?_
  refine dq_gr wi_290_9 wf_290_447 tf_114_12 ?_
  refine rs_ild wi_290_12 l4 ?_
  obtain ⟨g4, h⟩ := wp_gd h
  refine dq_iald wi_290_14 t_125 g4 ?_
  refine rs_aldn wi_290_15 l0 ?_
  refine dq_gr wi_290_16 wf_290_19 tf_145_2 ?_
  refine rs_ild wi_290_19 l4 ?_
  refine rs_V wi_290_21 wc_290_459 rfl (dq_isa tf_114_0 wa_2_165) (Nat.le_trans (by decide) hF) (ml_le wm_165 (Nat.le_trans (by decide) hLo)) rfl (sp_165 hw (Nat.le_trans (by decide : 0 ≤ 8 - 1) (Nat.sub_le_sub_right hF 1)) (ml_sub wm_165 (Nat.le_trans (by decide : 0 ≤ 129 - 21) (Nat.sub_le_sub_right hLo 21))) (wp_bind h) (fun v5 h => rs_back1 ?_))
  refine rs_pure wi_290_24 rfl ?_
  refine rs_aldn wi_290_25 l0 ?_
  refine dq_gr wi_290_26 wf_290_19 tf_145_2 ?_
  refine rs_ild wi_290_29 l4 ?_
  refine rs_V wi_290_31 wc_290_462 rfl (dq_isa tf_114_0 wa_2_166) (Nat.le_trans (by decide) hF) (ml_le wm_166 (Nat.le_trans (by decide) hLo)) rfl (sp_166 hw (Nat.le_trans (by decide : 0 ≤ 8 - 1) (Nat.sub_le_sub_right hF 1)) (ml_sub wm_166 (Nat.le_trans (by decide : 0 ≤ 129 - 21) (Nat.sub_le_sub_right hLo 21))) (wp_bind h) (fun v6 h => rs_back1 ?_))
  refine rs_pure wi_290_34 rfl ?_
  obtain ⟨v8, e9, h⟩ := wp_lt h
  refine rs_topi e9 ?_
  refine dl_ist wi_290_35 rfl (fun lv l5 t7 => ?_)
  have l0 := t7 _ _ (by decide) (Or.inl rfl) l0
  have l1 := t7 _ _ (by decide) (Or.inl rfl) l1
  have l2 := t7 _ _ (by decide) (Or.inl rfl) l2
  have l3 := t7 _ _ (by decide) (Or.inl rfl) l3
  have l4 := t7 _ _ (by decide) (Or.inl rfl) l4
  refine rs_aldn wi_290_37 l0 ?_
  refine dq_gr wi_290_38 wf_290_19 tf_145_2 ?_
  refine rs_ild wi_290_41 l4 ?_
  refine rs_V wi_290_43 wc_290_465 rfl (dq_isa tf_114_0 wa_2_167) (Nat.le_trans (by decide) hF) (ml_le wm_167 (Nat.le_trans (by decide) hLo)) rfl (sp_167 hw (Nat.le_trans (by decide : 0 ≤ 8 - 1) (Nat.sub_le_sub_right hF 1)) (ml_sub wm_167 (Nat.le_trans (by decide : 0 ≤ 129 - 21) (Nat.sub_le_sub_right hLo 21))) (wp_bind h) (fun v10 h => rs_back1 ?_))
  refine wp_jn (B := fun p11 : Int32 => ∀ lv, rx_ld lv 0 = some (.ref 145) → rx_ld lv 1 = some (.int a1) → rx_ld lv 3 = some (.int a3) → rx_ld lv 4 = some (.int v2) → rx_ld lv 5 = some (.int v8) → rs (rt_P sc fm) 290 F Lo 61 lv [.int p11] (hq true c y w) Q) h (fun p11 h lv l0 l1 l3 l4 l5 => ?_) (fun j61 hj61 h => ?_)
  ·
    refine dl_ist wi_290_61 rfl (fun lv l6 t12 => ?_)
    have l0 := t12 _ _ (by decide) (Or.inl rfl) l0
    have l1 := t12 _ _ (by decide) (Or.inl rfl) l1
    have l3 := t12 _ _ (by decide) (Or.inl rfl) l3
    have l4 := t12 _ _ (by decide) (Or.inl rfl) l4
    have l5 := t12 _ _ (by decide) (Or.inl rfl) l5
    refine rs_aldn wi_290_63 l0 ?_
    refine dq_gr wi_290_64 wf_290_19 tf_145_2 ?_
    refine rs_ild wi_290_67 l4 ?_
    refine rs_V wi_290_69 wc_290_459 rfl (dq_isa tf_114_0 wa_2_165) (Nat.le_trans (by decide) hF) (ml_le wm_165 (Nat.le_trans (by decide) hLo)) rfl (sp_165 hw (Nat.le_trans (by decide : 0 ≤ 8 - 1) (Nat.sub_le_sub_right hF 1)) (ml_sub wm_165 (Nat.le_trans (by decide : 0 ≤ 129 - 21) (Nat.sub_le_sub_right hLo 21))) (wp_bind h) (fun v13 h => rs_back1 ?_))
    refine rs_aldn wi_290_72 l0 ?_
    refine dq_gr wi_290_73 wf_290_19 tf_145_2 ?_
    refine dq_gr wi_290_76 wf_290_447 tf_114_12 ?_
    refine rs_ild wi_290_79 l4 ?_
    obtain ⟨g14, h⟩ := wp_gd h
    refine dq_iald wi_290_81 t_125 g14 ?_
    refine wp_jn (B := fun p15 : cS => ∀ lv, rx_ld lv 0 = some (.ref 145) → rx_ld lv 1 = some (.int a1) → rx_ld lv 3 = some (.int a3) → rx_ld lv 4 = some (.int v2) → rx_ld lv 5 = some (.int v8) → rs (rt_P sc fm) 290 F Lo 113 lv [] (hq true p15 y w) Q) h (fun p15 h lv l0 l1 l3 l4 l5 => ?_) (fun j113 hj113 h => ?_)
    ·
      refine rs_aldn wi_290_113 l0 ?_
      refine dq_gr wi_290_114 wf_290_19 tf_145_2 ?_
      refine rs_ild wi_290_117 l4 ?_
      refine rs_V wi_290_119 wc_290_465 rfl (dq_isa tf_114_0 wa_2_167) (Nat.le_trans (by decide) hF) (ml_le wm_167 (Nat.le_trans (by decide) hLo)) rfl (sp_167 hw (Nat.le_trans (by decide : 0 ≤ 8 - 1) (Nat.sub_le_sub_right hF 1)) (ml_sub wm_167 (Nat.le_trans (by decide : 0 ≤ 129 - 21) (Nat.sub_le_sub_right hLo 21))) (wp_bind h) (fun v16 h => rs_back1 ?_))
      refine wp_jn (B := fun p17 : Int64 × cS => ∀ lv, rx_ld lv 0 = some (.ref 145) → rx_ld lv 1 = some (.int a1) → rx_ld lv 4 = some (.int v2) → rx_ld lv 5 = some (.int v8) → rs (rt_P sc fm) 290 F Lo 139 lv [.long p17.1] (hq true p17.2 y w) Q) h (fun p17 h lv l0 l1 l4 l5 => ?_) (fun j139 hj139 h => ?_)
      ·
        refine dl_lst wi_290_139 rfl (fun lv l7 t18 => ?_)
        have l0 := t18 _ _ (by decide) (by decide) (Or.inl rfl) l0
        have l1 := t18 _ _ (by decide) (by decide) (Or.inl rfl) l1
        have l4 := t18 _ _ (by decide) (by decide) (Or.inl rfl) l4
        have l5 := t18 _ _ (by decide) (by decide) (Or.inl rfl) l5
        refine rs_aldn wi_290_141 l0 ?_
        refine dq_gr wi_290_142 wf_290_19 tf_145_2 ?_
        refine dq_gr wi_290_145 wf_290_432 tf_114_11 ?_
        refine rs_ild wi_290_148 l4 ?_
        obtain ⟨g19, h⟩ := wp_gd h
        refine dq_iald wi_290_150 t_124 g19 ?_
        refine wp_jn (B := fun p20 : Int64 × cS => ∀ lv, rs (rt_P sc fm) 290 F Lo 179 lv [.long p20.1] (hq true p20.2 y w) Q) h (fun p20 h lv => ?_) (fun j179 hj179 h => ?_)
        ·
          exact rs_lret wi_290_179 wr_290 (hQ (p20.1, p20.2) h)
        refine rs_ifge (tg := 159) wi_290_151 ⟨by decide, by decide⟩ (fun q => ?_) (fun q => ?_)
        ·
          have h := wp_pos h q
          refine rs_lld wi_290_159 l7 ?_
          refine rs_aldn wi_290_161 l0 ?_
          refine rs_ildn wi_290_162 l1 ?_
          refine rs_aldn wi_290_163 l0 ?_
          refine dq_gr wi_290_164 wf_290_19 tf_145_2 ?_
          refine dq_gr wi_290_167 wf_290_432 tf_114_11 ?_
          refine rs_ild wi_290_170 l4 ?_
          obtain ⟨g21, h⟩ := wp_gd h
          refine dq_iald wi_290_172 t_124 g21 ?_
          refine rs_ild wi_290_173 l5 ?_
          refine rs_V wi_290_175 wc_290_471 rfl (dq_isa tf_145_0 wa_10_291) (Nat.le_trans (by decide) hF) (ml_le wm_291 (Nat.le_trans (by decide) hLo)) rfl (sp_291 hw (Nat.le_trans (by decide : 7 ≤ 8 - 1) (Nat.sub_le_sub_right hF 1)) (ml_sub wm_291 (Nat.le_trans (by decide : 104 ≤ 129 - 25) (Nat.sub_le_sub_right hLo 25))) (wp_bind h) (fun r22 h => rs_back1 ?_) (fun z23 h => rs_up wh0_290_175 whh_290 (hT z23 (wp_inr h))))
          have h := wp_inl h
          refine rs_pure wi_290_178 rfl ?_
          exact hj179 _ h _
        ·
          have h := wp_neg h q
          refine rs_lld wi_290_154 l7 ?_
          refine rs_goto (tg := 179) wi_290_156 ⟨by decide, by decide⟩ ?_
          exact hj179 _ h _
      refine rs_ifeq (tg := 138) wi_290_122 ⟨by decide, by decide⟩ (fun q => ?_) (fun q => ?_)
      ·
        have h := wp_pos h q
        refine rs_pure wi_290_138 rfl ?_
        refine rs_topl (v := 0) (by decide) ?_
        exact hj139 _ h _ l0 l1 l4 l5
      ·
        have h := wp_neg h q
        refine rs_aldn wi_290_125 l0 ?_
        refine rs_ildn wi_290_126 l1 ?_
        refine rs_ildn wi_290_127 l3 ?_
        refine rs_pure wi_290_128 rfl ?_
        refine rs_topi (v := 1) (by decide) ?_
        refine rs_pure wi_290_129 rfl ?_
        refine rs_ild wi_290_130 l5 ?_
        refine rs_V wi_290_132 wc_290_471 rfl (dq_isa tf_145_0 wa_10_291) (Nat.le_trans (by decide) hF) (ml_le wm_291 (Nat.le_trans (by decide) hLo)) rfl (sp_291 hw (Nat.le_trans (by decide : 7 ≤ 8 - 1) (Nat.sub_le_sub_right hF 1)) (ml_sub wm_291 (Nat.le_trans (by decide : 104 ≤ 129 - 25) (Nat.sub_le_sub_right hLo 25))) (wp_bind h) (fun r24 h => rs_back1 ?_) (fun z25 h => rs_up wh0_290_132 whh_290 (hT z25 (wp_inr h))))
        have h := wp_inl h
        refine rs_goto (tg := 139) wi_290_135 ⟨by decide, by decide⟩ ?_
        exact hj139 _ h _ l0 l1 l4 l5
    refine wp_jn (B := fun p26 : Unit => ∀ lv, rx_ld lv 0 = some (.ref 145) → rx_ld lv 1 = some (.int a1) → rx_ld lv 3 = some (.int a3) → rx_ld lv 4 = some (.int v2) → rx_ld lv 5 = some (.int v8) → rs (rt_P sc fm) 290 F Lo 97 lv [] (hq true c y w) Q) h (fun p26 h lv l0 l1 l3 l4 l5 => ?_) (fun j97 hj97 h => ?_)
    ·
      refine rs_aldn wi_290_97 l0 ?_
      refine rs_pure wi_290_98 rfl ?_
      refine rs_topi (v := 8) (by decide) ?_
      refine rs_aldn wi_290_100 l0 ?_
      refine dq_gr wi_290_101 wf_290_19 tf_145_2 ?_
      refine dq_gr wi_290_104 wf_290_468 tf_114_17 ?_
      refine rs_ild wi_290_107 l4 ?_
      obtain ⟨g27, h⟩ := wp_gd h
      refine dq_iald wi_290_109 t_130 g27 ?_
      refine rs_V wi_290_110 wc_290_61 rfl (dq_isa tf_145_0 wa_10_41) (Nat.le_trans (by decide) hF) (ml_le wm_41 (Nat.le_trans (by decide) hLo)) rfl (sp_41 hw (Nat.le_trans (by decide : 6 ≤ 8 - 1) (Nat.sub_le_sub_right hF 1)) (ml_sub wm_41 (Nat.le_trans (by decide : 82 ≤ 129 - 22) (Nat.sub_le_sub_right hLo 22))) (wp_bind h) (fun r28 h => rs_back0 ?_) (fun z29 h => rs_up wh0_290_110 whh_290 (hT z29 (wp_inr h))))
      have h := wp_inl h
      exact hj113 _ h _ l0 l1 l3 l4 l5
    refine rs_icgt (tg := 97) wi_290_82 ⟨by decide, by decide⟩ (fun q => ?_) (fun q => ?_)
    ·
      have h := wp_pos h q
      exact hj97 _ h _ l0 l1 l3 l4 l5
    ·
      have h := wp_neg h q
      refine rs_ild wi_290_85 l5 ?_
      refine rs_pure wi_290_87 rfl ?_
      refine rs_topi (v := 8) (by decide) ?_
      refine rs_icgt (tg := 97) wi_290_89 ⟨by decide, by decide⟩ (fun q => ?_) (fun q => ?_)
      ·
        have h := wp_pos h q
        exact hj97 _ h _ l0 l1 l3 l4 l5
      ·
        have h := wp_neg h q
        refine rs_ild wi_290_92 l6 ?_
        refine rs_ifeq (tg := 113) wi_290_94 ⟨by decide, by decide⟩ (fun q => ?_) (fun q => ?_)
        ·
          have h := wp_pos h q
          exact hj113 _ h _ l0 l1 l3 l4 l5
        ·
          have h := wp_neg h q
          exact hj97 _ h _ l0 l1 l3 l4 l5
  refine wp_jn (B := fun p30 : Unit => ∀ lv, rx_ld lv 0 = some (.ref 145) → rx_ld lv 1 = some (.int a1) → rx_ld lv 3 = some (.int a3) → rx_ld lv 4 = some (.int v2) → rx_ld lv 5 = some (.int v8) → rs (rt_P sc fm) 290 F Lo 60 lv [] (hq true c y w) Q) h (fun p30 h lv l0 l1 l3 l4 l5 => ?_) (fun j60 hj60 h => ?_)
  ·
    refine rs_pure wi_290_60 rfl ?_
    refine rs_topi (v := 0) (by decide) ?_
    exact hj61 _ h _ l0 l1 l3 l4 l5
  refine rs_ifeq (tg := 60) wi_290_46 ⟨by decide, by decide⟩ (fun q => ?_) (fun q => ?_)
  ·
    have h := wp_pos h q
    exact hj60 _ h _ l0 l1 l3 l4 l5
  ·
    have h := wp_neg h q
    refine rs_ildn wi_290_49 l3 ?_
    refine rs_pure wi_290_50 rfl ?_
    refine rs_topi (v := 1) (by decide) ?_
    refine rs_pure wi_290_51 rfl ?_
    refine rs_ildn wi_290_52 l2 ?_
    refine rs_iclt (tg := 60) wi_290_53 ⟨by decide, by decide⟩ (fun q => ?_) (fun q => ?_)
    ·
      have h := wp_pos h q
      exact hj60 _ h _ l0 l1 l3 l4 l5
    ·
      have h := wp_neg h q
      refine rs_pure wi_290_56 rfl ?_
      refine rs_topi (v := 1) (by decide) ?_
      refine rs_goto (tg := 61) wi_290_57 ⟨by decide, by decide⟩ ?_
      exact hj61 _ h _ l0 l1 l3 l4 l5
theorem wa_10_290 : rz_cn 10 (rx_yn (rt_P sc fm) 290).cls = true := (by decide +kernel : rz_cn 10 (rt_yn 290).cls = true)
theorem wc_289_450 : rx_ct (rt_P sc fm) 289 450 = some (1, 483, 1) := (by decide +kernel : rt_ct 289 450 = some (1, 483, 1))
theorem wc_289_455 : rx_ct (rt_P sc fm) 289 455 = some (0, 290, 3) := (by decide +kernel : rt_ct 289 455 = some (0, 290, 3))
theorem wf_289_19 : rx_ft (rt_P sc fm) 289 19 = some (10, 2) := (by decide +kernel : rt_ft 289 19 = some (10, 2))
theorem wf_289_447 : rx_ft (rt_P sc fm) 289 447 = some (2, 12) := (by decide +kernel : rt_ft 289 447 = some (2, 12))
theorem wh0_289_46 : rx_ht (rt_P sc fm) 289 46 "java/lang/IllegalArgumentException" = none := (by decide +kernel : rt_ht 289 46 "java/lang/IllegalArgumentException" = none)
theorem whh_289 : rx_hh (rt_P sc fm) 289 = [] := (by decide +kernel : rt_hh 289 = [])
theorem wi_289_0 : ri (rt_P sc fm) 289 0 (.aload_n 0) (1) := ri_of (by decide +kernel) rfl
theorem wi_289_1 : ri (rt_P sc fm) 289 1 (.getfield 19) (4) := ri_of (by decide +kernel) rfl
theorem wi_289_10 : ri (rt_P sc fm) 289 10 (.lconst 1) (11) := ri_of (by decide +kernel) rfl
theorem wi_289_11 : ri (rt_P sc fm) 289 11 (.lstore_n 3) (12) := ri_of (by decide +kernel) rfl
theorem wi_289_12 : ri (rt_P sc fm) 289 12 (.iconst 0) (13) := ri_of (by decide +kernel) rfl
theorem wi_289_13 : ri (rt_P sc fm) 289 13 (.istore 5) (15) := ri_of (by decide +kernel) rfl
theorem wi_289_15 : ri (rt_P sc fm) 289 15 (.iload 5) (17) := ri_of (by decide +kernel) rfl
theorem wi_289_17 : ri (rt_P sc fm) 289 17 (.bipush 40) (19) := ri_of (by decide +kernel) rfl
theorem wi_289_19 : ri (rt_P sc fm) 289 19 (.if_icmp .ge 38) (22) := ri_of (by decide +kernel) rfl
theorem wi_289_22 : ri (rt_P sc fm) 289 22 (.lload_n 3) (23) := ri_of (by decide +kernel) rfl
theorem wi_289_23 : ri (rt_P sc fm) 289 23 (.lconst 0) (24) := ri_of (by decide +kernel) rfl
theorem wi_289_24 : ri (rt_P sc fm) 289 24 (.lcmp) (25) := ri_of (by decide +kernel) rfl
theorem wi_289_25 : ri (rt_P sc fm) 289 25 (.ifCond .eq 32) (28) := ri_of (by decide +kernel) rfl
theorem wi_289_28 : ri (rt_P sc fm) 289 28 (.lload_n 3) (29) := ri_of (by decide +kernel) rfl
theorem wi_289_29 : ri (rt_P sc fm) 289 29 (.invokestatic 450) (32) := ri_of (by decide +kernel) rfl
theorem wi_289_32 : ri (rt_P sc fm) 289 32 (.istore 6) (34) := ri_of (by decide +kernel) rfl
theorem wi_289_34 : ri (rt_P sc fm) 289 34 (.lload_n 3) (35) := ri_of (by decide +kernel) rfl
theorem wi_289_35 : ri (rt_P sc fm) 289 35 (.lload_n 3) (36) := ri_of (by decide +kernel) rfl
theorem wi_289_36 : ri (rt_P sc fm) 289 36 (.lconst 1) (37) := ri_of (by decide +kernel) rfl
theorem wi_289_37 : ri (rt_P sc fm) 289 37 (.lsub) (38) := ri_of (by decide +kernel) rfl
theorem wi_289_38 : ri (rt_P sc fm) 289 38 (.land) (39) := ri_of (by decide +kernel) rfl
theorem wi_289_39 : ri (rt_P sc fm) 289 39 (.lstore_n 3) (40) := ri_of (by decide +kernel) rfl
theorem wi_289_4 : ri (rt_P sc fm) 289 4 (.getfield 447) (7) := ri_of (by decide +kernel) rfl
theorem wi_289_40 : ri (rt_P sc fm) 289 40 (.lload_n 3) (41) := ri_of (by decide +kernel) rfl
theorem wi_289_41 : ri (rt_P sc fm) 289 41 (.aload_n 0) (42) := ri_of (by decide +kernel) rfl
theorem wi_289_42 : ri (rt_P sc fm) 289 42 (.iload_n 1) (43) := ri_of (by decide +kernel) rfl
theorem wi_289_43 : ri (rt_P sc fm) 289 43 (.iload_n 2) (44) := ri_of (by decide +kernel) rfl
theorem wi_289_44 : ri (rt_P sc fm) 289 44 (.iload 6) (46) := ri_of (by decide +kernel) rfl
theorem wi_289_46 : ri (rt_P sc fm) 289 46 (.invokevirtual 455) (49) := ri_of (by decide +kernel) rfl
theorem wi_289_49 : ri (rt_P sc fm) 289 49 (.lor) (50) := ri_of (by decide +kernel) rfl
theorem wi_289_50 : ri (rt_P sc fm) 289 50 (.lstore_n 3) (51) := ri_of (by decide +kernel) rfl
theorem wi_289_51 : ri (rt_P sc fm) 289 51 (.iinc 5 1) (54) := ri_of (by decide +kernel) rfl
theorem wi_289_54 : ri (rt_P sc fm) 289 54 (.goto (-39)) (57) := ri_of (by decide +kernel) rfl
theorem wi_289_57 : ri (rt_P sc fm) 289 57 (.return_) (58) := ri_of (by decide +kernel) rfl
theorem wi_289_7 : ri (rt_P sc fm) 289 7 (.iload_n 1) (8) := ri_of (by decide +kernel) rfl
theorem wi_289_8 : ri (rt_P sc fm) 289 8 (.iconst 0) (9) := ri_of (by decide +kernel) rfl
theorem wi_289_9 : ri (rt_P sc fm) 289 9 (.iastore) (10) := ri_of (by decide +kernel) rfl
theorem wm_290 : rx_ml (rt_P sc fm) 290 = 9 := (by decide +kernel : rt_ml 290 = 9)
theorem wm_483 : rx_ml (rt_P sc fm) 483 = 3 := (by decide +kernel : rt_ml 483 = 3)
theorem wr_289 : rx_rt (rt_P sc fm) 289 = none := (by decide +kernel : rt_rt 289 = none)
/-- MarkHouse$Reader.settleDepthsOf(II)V -/
def d_289 (n : Nat) (a1 : Int32) (a2 : Int32) (c : cS) : Option ((cS) ⊕ cS) :=
  if ib a1 1024 then
  lt (pI c 125 (ix a1) 0) (fun c2 =>
  Option.bind (whl (R := (cS) ⊕ ((cS) ⊕ cS)) (fun s6 : Int64 × Int32 × cS =>
    if 40 ≤ s6.2.1 then
      some (.inr (.inl s6.2.2))
    else
      if (lg_cmp s6.1 0) = 0 then
        some (.inr (.inl s6.2.2))
      else
        Option.bind (d_483 n s6.1) (fun v7 =>
        lt ((s6.1 &&& (s6.1 - 1)) : Int64) (fun v10 =>
        Option.bind (d_290 n a1 a2 v7 s6.2.2) (Sum.elim (fun r12 =>
        lt ((v10 ||| r12.1) : Int64) (fun v15 =>
        lt (s6.2.1 + 1 : Int32) (fun v18 =>
        some (.inl (v15, v18, r12.2)))))
        (fun z13 => some (.inr (.inr (.inr z13)))))))) n (1, 0, c2))
  (Sum.elim (fun x20 : cS =>
    some (.inl x20))
  (fun x21 : (cS) ⊕ cS =>
    some x21)))
  else none
theorem sp_289 {F Lo n : Nat} {a1 : Int32} {a2 : Int32} {c y : cS} {w : cW} {K : (cS) ⊕ cS → Prop} {Q : ((Option Value) ⊕ String) → List va_E → Prop} (hw : rOK fm w) (hF : 9 ≤ F) (hLo : 157 ≤ Lo)  (h : wp (d_289 n a1 a2 c) K) (hQ : ∀ r, K (.inl r) → Q (.inl none) (hq true r y w)) (hT : ∀ r, K (.inr r) → Q (.inr "java/lang/IllegalArgumentException") (hq true r y w)) : rs (rt_P sc fm) 289 F Lo 0 [(0, .ref 145), (1, .int a1), (2, .int a2)] [] (hq true c y w) Q := by
  unfold d_289 at h
  obtain ⟨lv, elv⟩ : ∃ lv : rx_L, lv = [(0, .ref 145), (1, .int a1), (2, .int a2)] := ⟨_, rfl⟩
  rw [← elv]
  have l0 : rx_ld lv 0 = some (.ref 145) := by rw [elv]; rfl
  have l1 : rx_ld lv 1 = some (.int a1) := by rw [elv]; rfl
  have l2 : rx_ld lv 2 = some (.int a2) := by rw [elv]; rfl
  refine rs_aldn wi_289_0 l0 ?_
  refine dq_gr wi_289_1 wf_289_19 tf_145_2 ?_
  refine dq_gr wi_289_4 wf_289_447 tf_114_12 ?_
  refine rs_ildn wi_289_7 l1 ?_
  refine rs_pure wi_289_8 rfl ?_
  refine rs_topi (v := 0) (by decide) ?_
  obtain ⟨g1, h⟩ := wp_gd h
  obtain ⟨c2, e3, h⟩ := wp_lt h
  refine dq_iast wi_289_9 t_125 g1 e3 ?_
  refine rs_pure wi_289_10 rfl ?_
  refine rs_topl (v := 1) (by decide) ?_
  refine dl_lstn wi_289_11 rfl (fun lv l3 t4 => ?_)
  have l0 := t4 _ _ (by decide) (by decide) (Or.inl rfl) l0
  have l1 := t4 _ _ (by decide) (by decide) (Or.inl rfl) l1
  have l2 := t4 _ _ (by decide) (by decide) (Or.inl rfl) l2
  refine rs_pure wi_289_12 rfl ?_
  refine rs_topi (v := 0) (by decide) ?_
  refine dl_ist wi_289_13 rfl (fun lv l5 t5 => ?_)
  have l0 := t5 _ _ (by decide) (Or.inl rfl) l0
  have l1 := t5 _ _ (by decide) (Or.inl rfl) l1
  have l2 := t5 _ _ (by decide) (Or.inl rfl) l2
  have l3 := t5 _ _ (by decide) (Or.inr (by decide)) l3
  refine whl_ex (A := fun s6 : Int64 × Int32 × cS => ∀ lv, rx_ld lv 0 = some (.ref 145) → rx_ld lv 1 = some (.int a1) → rx_ld lv 2 = some (.int a2) → rx_ld lv 3 = some (.long s6.1) → rx_ld lv 5 = some (.int s6.2.1) → rs (rt_P sc fm) 289 F Lo 15 lv [] (hq true s6.2.2 y w) Q) (B := (Sum.elim (fun x20 : cS => ∀ lv, rs (rt_P sc fm) 289 F Lo 57 lv [] (hq true x20 y w) Q) K)) ?_ ?_ _ _ (wp_bind h) _ l0 l1 l2 l3 l5
  · intro s6 h lv l0 l1 l2 l3 l5
    refine rs_ild wi_289_15 l5 ?_
    refine rs_pure wi_289_17 rfl ?_
    refine rs_topi (v := 40) (by decide) ?_
    refine rs_icge (tg := 57) wi_289_19 ⟨by decide, by decide⟩ (fun q => ?_) (fun q => ?_)
    ·
      have h := wp_pos h q
      exact h _
    ·
      have h := wp_neg h q
      refine rs_lldn wi_289_22 l3 ?_
      refine rs_pure wi_289_23 rfl ?_
      refine rs_topl (v := 0) (by decide) ?_
      refine rs_pure wi_289_24 rfl ?_
      refine rs_ifeq (tg := 57) wi_289_25 ⟨by decide, by decide⟩ (fun q => ?_) (fun q => ?_)
      ·
        have h := wp_pos h q
        exact h _
      ·
        have h := wp_neg h q
        refine rs_lldn wi_289_28 l3 ?_
        refine rs_S wi_289_29 wc_289_450 (Or.inl rfl) rfl (Nat.le_trans (by decide) hF) (ml_le wm_483 (Nat.le_trans (by decide) hLo)) rfl (sp_483 (Nat.le_trans (by decide : 1 ≤ 9 - 1) (Nat.sub_le_sub_right hF 1)) (ml_sub wm_483 (Nat.le_trans (by decide : 21 ≤ 157 - 22) (Nat.sub_le_sub_right hLo 22))) (wp_bind h) (fun v7 h => rs_back1 ?_))
        refine dl_ist wi_289_32 rfl (fun lv l6 t8 => ?_)
        have l0 := t8 _ _ (by decide) (Or.inl rfl) l0
        have l1 := t8 _ _ (by decide) (Or.inl rfl) l1
        have l2 := t8 _ _ (by decide) (Or.inl rfl) l2
        have l3 := t8 _ _ (by decide) (Or.inr (by decide)) l3
        have l5 := t8 _ _ (by decide) (Or.inl rfl) l5
        refine rs_lldn wi_289_34 l3 ?_
        refine rs_lldn wi_289_35 l3 ?_
        refine rs_pure wi_289_36 rfl ?_
        refine rs_topl (v := 1) (by decide) ?_
        refine rs_pure wi_289_37 rfl ?_
        refine rs_pure wi_289_38 rfl ?_
        obtain ⟨v10, e11, h⟩ := wp_lt h
        refine rs_topl e11 ?_
        refine dl_lstn wi_289_39 rfl (fun lv l3 t9 => ?_)
        have l0 := t9 _ _ (by decide) (by decide) (Or.inl rfl) l0
        have l1 := t9 _ _ (by decide) (by decide) (Or.inl rfl) l1
        have l2 := t9 _ _ (by decide) (by decide) (Or.inl rfl) l2
        have l5 := t9 _ _ (by decide) (by decide) (Or.inl rfl) l5
        have l6 := t9 _ _ (by decide) (by decide) (Or.inl rfl) l6
        refine rs_lldn wi_289_40 l3 ?_
        refine rs_aldn wi_289_41 l0 ?_
        refine rs_ildn wi_289_42 l1 ?_
        refine rs_ildn wi_289_43 l2 ?_
        refine rs_ild wi_289_44 l6 ?_
        refine rs_V wi_289_46 wc_289_455 rfl (dq_isa tf_145_0 wa_10_290) (Nat.le_trans (by decide) hF) (ml_le wm_290 (Nat.le_trans (by decide) hLo)) rfl (sp_290 hw (Nat.le_trans (by decide : 8 ≤ 9 - 1) (Nat.sub_le_sub_right hF 1)) (ml_sub wm_290 (Nat.le_trans (by decide : 129 ≤ 157 - 28) (Nat.sub_le_sub_right hLo 28))) (wp_bind h) (fun r12 h => rs_back1 ?_) (fun z13 h => rs_up wh0_289_46 whh_289 (hT z13 (wp_inr h))))
        have h := wp_inl h
        refine rs_pure wi_289_49 rfl ?_
        obtain ⟨v15, e16, h⟩ := wp_lt h
        refine rs_topl e16 ?_
        refine dl_lstn wi_289_50 rfl (fun lv l3 t14 => ?_)
        have l0 := t14 _ _ (by decide) (by decide) (Or.inl rfl) l0
        have l1 := t14 _ _ (by decide) (by decide) (Or.inl rfl) l1
        have l2 := t14 _ _ (by decide) (by decide) (Or.inl rfl) l2
        have l5 := t14 _ _ (by decide) (by decide) (Or.inl rfl) l5
        obtain ⟨v18, e19, h⟩ := wp_lt h
        refine dl_inc wi_289_51 l5 rfl e19 (fun lv l5 t17 => ?_)
        have l0 := t17 _ _ (by decide) (Or.inl rfl) l0
        have l1 := t17 _ _ (by decide) (Or.inl rfl) l1
        have l2 := t17 _ _ (by decide) (Or.inl rfl) l2
        have l3 := t17 _ _ (by decide) (Or.inr (by decide)) l3
        refine rs_goto (tg := 15) wi_289_54 ⟨by decide, by decide⟩ ?_
        exact h _ l0 l1 l2 l3 l5
  ·
    refine sum_all ?_ ?_
    ·
      intro x20 h lv
      have h := wp_inl h
      exact rs_vret wi_289_57 wr_289 (hQ x20 h)
    ·
      intro x21 h
      exact h
theorem wa_10_289 : rz_cn 10 (rx_yn (rt_P sc fm) 289).cls = true := (by decide +kernel : rz_cn 10 (rt_yn 289).cls = true)
theorem wc_288_423 : rx_ct (rt_P sc fm) 288 423 = some (0, 158, 0) := (by decide +kernel : rt_ct 288 423 = some (0, 158, 0))
theorem wc_288_426 : rx_ct (rt_P sc fm) 288 426 = some (0, 157, 1) := (by decide +kernel : rt_ct 288 426 = some (0, 157, 1))
theorem wc_288_444 : rx_ct (rt_P sc fm) 288 444 = some (0, 289, 2) := (by decide +kernel : rt_ct 288 444 = some (0, 289, 2))
theorem wf_288_19 : rx_ft (rt_P sc fm) 288 19 = some (10, 2) := (by decide +kernel : rt_ft 288 19 = some (10, 2))
theorem wf_288_297 : rx_ft (rt_P sc fm) 288 297 = some (2, 5) := (by decide +kernel : rt_ft 288 297 = some (2, 5))
theorem wf_288_300 : rx_ft (rt_P sc fm) 288 300 = some (2, 6) := (by decide +kernel : rt_ft 288 300 = some (2, 6))
theorem wh0_288_43 : rx_ht (rt_P sc fm) 288 43 "java/lang/IllegalArgumentException" = none := (by decide +kernel : rt_ht 288 43 "java/lang/IllegalArgumentException" = none)
theorem whh_288 : rx_hh (rt_P sc fm) 288 = [] := (by decide +kernel : rt_hh 288 = [])
theorem wi_288_0 : ri (rt_P sc fm) 288 0 (.iconst 0) (1) := ri_of (by decide +kernel) rfl
theorem wi_288_1 : ri (rt_P sc fm) 288 1 (.istore_n 1) (2) := ri_of (by decide +kernel) rfl
theorem wi_288_10 : ri (rt_P sc fm) 288 10 (.if_icmp .ge 42) (13) := ri_of (by decide +kernel) rfl
theorem wi_288_13 : ri (rt_P sc fm) 288 13 (.aload_n 0) (14) := ri_of (by decide +kernel) rfl
theorem wi_288_14 : ri (rt_P sc fm) 288 14 (.getfield 19) (17) := ri_of (by decide +kernel) rfl
theorem wi_288_17 : ri (rt_P sc fm) 288 17 (.iload_n 1) (18) := ri_of (by decide +kernel) rfl
theorem wi_288_18 : ri (rt_P sc fm) 288 18 (.invokevirtual 426) (21) := ri_of (by decide +kernel) rfl
theorem wi_288_2 : ri (rt_P sc fm) 288 2 (.iload_n 1) (3) := ri_of (by decide +kernel) rfl
theorem wi_288_21 : ri (rt_P sc fm) 288 21 (.ifCond .eq 25) (24) := ri_of (by decide +kernel) rfl
theorem wi_288_24 : ri (rt_P sc fm) 288 24 (.aload_n 0) (25) := ri_of (by decide +kernel) rfl
theorem wi_288_25 : ri (rt_P sc fm) 288 25 (.aload_n 0) (26) := ri_of (by decide +kernel) rfl
theorem wi_288_26 : ri (rt_P sc fm) 288 26 (.getfield 19) (29) := ri_of (by decide +kernel) rfl
theorem wi_288_29 : ri (rt_P sc fm) 288 29 (.getfield 297) (32) := ri_of (by decide +kernel) rfl
theorem wi_288_3 : ri (rt_P sc fm) 288 3 (.aload_n 0) (4) := ri_of (by decide +kernel) rfl
theorem wi_288_32 : ri (rt_P sc fm) 288 32 (.iload_n 1) (33) := ri_of (by decide +kernel) rfl
theorem wi_288_33 : ri (rt_P sc fm) 288 33 (.iaload) (34) := ri_of (by decide +kernel) rfl
theorem wi_288_34 : ri (rt_P sc fm) 288 34 (.aload_n 0) (35) := ri_of (by decide +kernel) rfl
theorem wi_288_35 : ri (rt_P sc fm) 288 35 (.getfield 19) (38) := ri_of (by decide +kernel) rfl
theorem wi_288_38 : ri (rt_P sc fm) 288 38 (.getfield 300) (41) := ri_of (by decide +kernel) rfl
theorem wi_288_4 : ri (rt_P sc fm) 288 4 (.getfield 19) (7) := ri_of (by decide +kernel) rfl
theorem wi_288_41 : ri (rt_P sc fm) 288 41 (.iload_n 1) (42) := ri_of (by decide +kernel) rfl
theorem wi_288_42 : ri (rt_P sc fm) 288 42 (.iaload) (43) := ri_of (by decide +kernel) rfl
theorem wi_288_43 : ri (rt_P sc fm) 288 43 (.invokevirtual 444) (46) := ri_of (by decide +kernel) rfl
theorem wi_288_46 : ri (rt_P sc fm) 288 46 (.iinc 1 1) (49) := ri_of (by decide +kernel) rfl
theorem wi_288_49 : ri (rt_P sc fm) 288 49 (.goto (-47)) (52) := ri_of (by decide +kernel) rfl
theorem wi_288_52 : ri (rt_P sc fm) 288 52 (.return_) (53) := ri_of (by decide +kernel) rfl
theorem wi_288_7 : ri (rt_P sc fm) 288 7 (.invokevirtual 423) (10) := ri_of (by decide +kernel) rfl
theorem wm_289 : rx_ml (rt_P sc fm) 289 = 7 := (by decide +kernel : rt_ml 289 = 7)
theorem wr_288 : rx_rt (rt_P sc fm) 288 = none := (by decide +kernel : rt_rt 288 = none)
/-- MarkHouse$Reader.settleDepths()V -/
def d_288 (n : Nat)  (c : cS) : Option ((cS) ⊕ cS) :=
  Option.bind (whl (R := (cS) ⊕ ((cS) ⊕ cS)) (fun s2 : Int32 × cS =>
    Option.bind (d_158 n s2.2) (fun v3 =>
    if v3 ≤ s2.1 then
      some (.inr (.inl s2.2))
    else
      Option.bind (d_157 n s2.1 s2.2) (fun v4 =>
      jn (fun p5 : cS =>
        lt (s2.1 + 1 : Int32) (fun v7 =>
        some (.inl (v7, p5))))
      (fun j46 =>
      if v4 = 0 then
        j46 s2.2
      else
        if ib s2.1 96 then
        if ib s2.1 96 then
        Option.bind (d_289 n (s2.2.1 119 (ix s2.1)) (s2.2.1 120 (ix s2.1)) s2.2) (Sum.elim (fun r11 =>
        j46 r11)
        (fun z12 => some (.inr (.inr (.inr z12)))))
        else none
        else none)))) n (0, c))
  (Sum.elim (fun x13 : cS =>
    some (.inl x13))
  (fun x14 : (cS) ⊕ cS =>
    some x14))
theorem sp_288 {F Lo n : Nat}  {c y : cS} {w : cW} {K : (cS) ⊕ cS → Prop} {Q : ((Option Value) ⊕ String) → List va_E → Prop} (hw : rOK fm w) (hF : 10 ≤ F) (hLo : 183 ≤ Lo)  (h : wp (d_288 n  c) K) (hQ : ∀ r, K (.inl r) → Q (.inl none) (hq true r y w)) (hT : ∀ r, K (.inr r) → Q (.inr "java/lang/IllegalArgumentException") (hq true r y w)) : rs (rt_P sc fm) 288 F Lo 0 [(0, .ref 145)] [] (hq true c y w) Q := by
  unfold d_288 at h
  obtain ⟨lv, elv⟩ : ∃ lv : rx_L, lv = [(0, .ref 145)] := ⟨_, rfl⟩
  rw [← elv]
  have l0 : rx_ld lv 0 = some (.ref 145) := by rw [elv]; rfl
  refine rs_pure wi_288_0 rfl ?_
  refine rs_topi (v := 0) (by decide) ?_
  refine dl_istn wi_288_1 rfl (fun lv l1 t1 => ?_)
  have l0 := t1 _ _ (by decide) (Or.inl rfl) l0
  refine whl_ex (A := fun s2 : Int32 × cS => ∀ lv, rx_ld lv 0 = some (.ref 145) → rx_ld lv 1 = some (.int s2.1) → rs (rt_P sc fm) 288 F Lo 2 lv [] (hq true s2.2 y w) Q) (B := (Sum.elim (fun x13 : cS => ∀ lv, rs (rt_P sc fm) 288 F Lo 52 lv [] (hq true x13 y w) Q) K)) ?_ ?_ _ _ (wp_bind h) _ l0 l1
  · intro s2 h lv l0 l1
    refine rs_ildn wi_288_2 l1 ?_
    refine rs_aldn wi_288_3 l0 ?_
    refine dq_gr wi_288_4 wf_288_19 tf_145_2 ?_
    refine rs_V wi_288_7 wc_288_423 rfl (dq_isa tf_114_0 wa_2_158) (Nat.le_trans (by decide) hF) (ml_le wm_158 (Nat.le_trans (by decide) hLo)) rfl (sp_158 hw (Nat.le_trans (by decide : 0 ≤ 10 - 1) (Nat.sub_le_sub_right hF 1)) (ml_sub wm_158 (Nat.le_trans (by decide : 0 ≤ 183 - 20) (Nat.sub_le_sub_right hLo 20))) (wp_bind h) (fun v3 h => rs_back1 ?_))
    refine rs_icge (tg := 52) wi_288_10 ⟨by decide, by decide⟩ (fun q => ?_) (fun q => ?_)
    ·
      have h := wp_pos h q
      exact h _
    ·
      have h := wp_neg h q
      refine rs_aldn wi_288_13 l0 ?_
      refine dq_gr wi_288_14 wf_288_19 tf_145_2 ?_
      refine rs_ildn wi_288_17 l1 ?_
      refine rs_V wi_288_18 wc_288_426 rfl (dq_isa tf_114_0 wa_2_157) (Nat.le_trans (by decide) hF) (ml_le wm_157 (Nat.le_trans (by decide) hLo)) rfl (sp_157 hw (Nat.le_trans (by decide : 0 ≤ 10 - 1) (Nat.sub_le_sub_right hF 1)) (ml_sub wm_157 (Nat.le_trans (by decide : 0 ≤ 183 - 21) (Nat.sub_le_sub_right hLo 21))) (wp_bind h) (fun v4 h => rs_back1 ?_))
      refine wp_jn (B := fun p5 : cS => ∀ lv, rx_ld lv 0 = some (.ref 145) → rx_ld lv 1 = some (.int s2.1) → rs (rt_P sc fm) 288 F Lo 46 lv [] (hq true p5 y w) Q) h (fun p5 h lv l0 l1 => ?_) (fun j46 hj46 h => ?_)
      ·
        obtain ⟨v7, e8, h⟩ := wp_lt h
        refine dl_inc wi_288_46 l1 rfl e8 (fun lv l1 t6 => ?_)
        have l0 := t6 _ _ (by decide) (Or.inl rfl) l0
        refine rs_goto (tg := 2) wi_288_49 ⟨by decide, by decide⟩ ?_
        exact h _ l0 l1
      refine rs_ifeq (tg := 46) wi_288_21 ⟨by decide, by decide⟩ (fun q => ?_) (fun q => ?_)
      ·
        have h := wp_pos h q
        exact hj46 _ h _ l0 l1
      ·
        have h := wp_neg h q
        refine rs_aldn wi_288_24 l0 ?_
        refine rs_aldn wi_288_25 l0 ?_
        refine dq_gr wi_288_26 wf_288_19 tf_145_2 ?_
        refine dq_gr wi_288_29 wf_288_297 tf_114_5 ?_
        refine rs_ildn wi_288_32 l1 ?_
        obtain ⟨g9, h⟩ := wp_gd h
        refine dq_iald wi_288_33 t_119 g9 ?_
        refine rs_aldn wi_288_34 l0 ?_
        refine dq_gr wi_288_35 wf_288_19 tf_145_2 ?_
        refine dq_gr wi_288_38 wf_288_300 tf_114_6 ?_
        refine rs_ildn wi_288_41 l1 ?_
        obtain ⟨g10, h⟩ := wp_gd h
        refine dq_iald wi_288_42 t_120 g10 ?_
        refine rs_V wi_288_43 wc_288_444 rfl (dq_isa tf_145_0 wa_10_289) (Nat.le_trans (by decide) hF) (ml_le wm_289 (Nat.le_trans (by decide) hLo)) rfl (sp_289 hw (Nat.le_trans (by decide : 9 ≤ 10 - 1) (Nat.sub_le_sub_right hF 1)) (ml_sub wm_289 (Nat.le_trans (by decide : 157 ≤ 183 - 26) (Nat.sub_le_sub_right hLo 26))) (wp_bind h) (fun r11 h => rs_back0 ?_) (fun z12 h => rs_up wh0_288_43 whh_288 (hT z12 (wp_inr h))))
        have h := wp_inl h
        exact hj46 _ h _ l0 l1
  ·
    refine sum_all ?_ ?_
    ·
      intro x13 h lv
      have h := wp_inl h
      exact rs_vret wi_288_52 wr_288 (hQ x13 h)
    ·
      intro x14 h
      exact h
theorem t_148 : ta true 148 0 4800 := ⟨rfl, by decide, by decide⟩
theorem tf_146_0 : fo true 146 4 0 (.ref 7) := ⟨_, rfl, rfl, by decide, by decide⟩
theorem tf_146_7 : fo true 146 4 7 (.ref 148) := ⟨_, rfl, rfl, by decide, by decide⟩
theorem wf_177_15 : rx_ft (rt_P sc fm) 177 15 = some (4, 7) := (by decide +kernel : rt_ft 177 15 = some (4, 7))
theorem wf_177_21 : rx_ft (rt_P sc fm) 177 21 = some (4, 0) := (by decide +kernel : rt_ft 177 21 = some (4, 0))
theorem wf_177_56 : rx_ft (rt_P sc fm) 177 56 = some (9, 10) := (by decide +kernel : rt_ft 177 56 = some (9, 10))
theorem wi_177_0 : ri (rt_P sc fm) 177 0 (.iconst 0) (1) := ri_of (by decide +kernel) rfl
theorem wi_177_1 : ri (rt_P sc fm) 177 1 (.istore_n 3) (2) := ri_of (by decide +kernel) rfl
theorem wi_177_12 : ri (rt_P sc fm) 177 12 (.imul) (13) := ri_of (by decide +kernel) rfl
theorem wi_177_13 : ri (rt_P sc fm) 177 13 (.if_icmp .ge 20) (16) := ri_of (by decide +kernel) rfl
theorem wi_177_16 : ri (rt_P sc fm) 177 16 (.aload_n 0) (17) := ri_of (by decide +kernel) rfl
theorem wi_177_17 : ri (rt_P sc fm) 177 17 (.getfield 15) (20) := ri_of (by decide +kernel) rfl
theorem wi_177_2 : ri (rt_P sc fm) 177 2 (.iload_n 3) (3) := ri_of (by decide +kernel) rfl
theorem wi_177_20 : ri (rt_P sc fm) 177 20 (.iload_n 3) (21) := ri_of (by decide +kernel) rfl
theorem wi_177_21 : ri (rt_P sc fm) 177 21 (.iconst 4) (22) := ri_of (by decide +kernel) rfl
theorem wi_177_22 : ri (rt_P sc fm) 177 22 (.imul) (23) := ri_of (by decide +kernel) rfl
theorem wi_177_23 : ri (rt_P sc fm) 177 23 (.iload_n 1) (24) := ri_of (by decide +kernel) rfl
theorem wi_177_24 : ri (rt_P sc fm) 177 24 (.iadd) (25) := ri_of (by decide +kernel) rfl
theorem wi_177_25 : ri (rt_P sc fm) 177 25 (.iload_n 2) (26) := ri_of (by decide +kernel) rfl
theorem wi_177_26 : ri (rt_P sc fm) 177 26 (.iastore) (27) := ri_of (by decide +kernel) rfl
theorem wi_177_27 : ri (rt_P sc fm) 177 27 (.iinc 3 1) (30) := ri_of (by decide +kernel) rfl
theorem wi_177_3 : ri (rt_P sc fm) 177 3 (.bipush 100) (5) := ri_of (by decide +kernel) rfl
theorem wi_177_30 : ri (rt_P sc fm) 177 30 (.goto (-28)) (33) := ri_of (by decide +kernel) rfl
theorem wi_177_33 : ri (rt_P sc fm) 177 33 (.return_) (34) := ri_of (by decide +kernel) rfl
theorem wi_177_5 : ri (rt_P sc fm) 177 5 (.aload_n 0) (6) := ri_of (by decide +kernel) rfl
theorem wi_177_6 : ri (rt_P sc fm) 177 6 (.getfield 21) (9) := ri_of (by decide +kernel) rfl
theorem wi_177_9 : ri (rt_P sc fm) 177 9 (.getfield 56) (12) := ri_of (by decide +kernel) rfl
theorem wr_177 : rx_rt (rt_P sc fm) 177 = none := (by decide +kernel : rt_rt 177 = none)
/-- MarkHouse$Effects.fillFound(II)V -/
def d_177 (n : Nat) (a1 : Int32) (a2 : Int32) (c : cS) : Option (cS) :=
  Option.bind (whl (R := (cS)) (fun s2 : Int32 × cS =>
    if (100 * (s2.2.1 7 10)) ≤ s2.1 then
      some (.inr s2.2)
    else
      if ib ((s2.1 * 4) + a1) 4800 then
      lt (pI s2.2 148 (ix ((s2.1 * 4) + a1)) a2) (fun c4 =>
      lt (s2.1 + 1 : Int32) (fun v7 =>
      some (.inl (v7, c4))))
      else none) n (0, c))
  (fun x9 : cS =>
    some x9)
theorem sp_177 {F Lo n : Nat} {a1 : Int32} {a2 : Int32} {c y : cS} {w : cW} {K : cS → Prop} {Q : ((Option Value) ⊕ String) → List va_E → Prop} (hw : rOK fm w) (hF : 0 ≤ F) (hLo : 0 ≤ Lo)  (h : wp (d_177 n a1 a2 c) K) (hQ : ∀ r, K r → Q (.inl none) (hq true r y w)) : rs (rt_P sc fm) 177 F Lo 0 [(0, .ref 146), (1, .int a1), (2, .int a2)] [] (hq true c y w) Q := by
  unfold d_177 at h
  obtain ⟨lv, elv⟩ : ∃ lv : rx_L, lv = [(0, .ref 146), (1, .int a1), (2, .int a2)] := ⟨_, rfl⟩
  rw [← elv]
  have l0 : rx_ld lv 0 = some (.ref 146) := by rw [elv]; rfl
  have l1 : rx_ld lv 1 = some (.int a1) := by rw [elv]; rfl
  have l2 : rx_ld lv 2 = some (.int a2) := by rw [elv]; rfl
  refine rs_pure wi_177_0 rfl ?_
  refine rs_topi (v := 0) (by decide) ?_
  refine dl_istn wi_177_1 rfl (fun lv l3 t1 => ?_)
  have l0 := t1 _ _ (by decide) (Or.inl rfl) l0
  have l1 := t1 _ _ (by decide) (Or.inl rfl) l1
  have l2 := t1 _ _ (by decide) (Or.inl rfl) l2
  refine whl_ex (A := fun s2 : Int32 × cS => ∀ lv, rx_ld lv 0 = some (.ref 146) → rx_ld lv 1 = some (.int a1) → rx_ld lv 2 = some (.int a2) → rx_ld lv 3 = some (.int s2.1) → rs (rt_P sc fm) 177 F Lo 2 lv [] (hq true s2.2 y w) Q) (B := (fun x9 : cS => ∀ lv, rs (rt_P sc fm) 177 F Lo 33 lv [] (hq true x9 y w) Q)) ?_ ?_ _ _ (wp_bind h) _ l0 l1 l2 l3
  · intro s2 h lv l0 l1 l2 l3
    refine rs_ildn wi_177_2 l3 ?_
    refine rs_pure wi_177_3 rfl ?_
    refine rs_topi (v := 100) (by decide) ?_
    refine rs_aldn wi_177_5 l0 ?_
    refine dq_gr wi_177_6 wf_177_21 tf_146_0 ?_
    refine dq_gi wi_177_9 wf_177_56 tf_7_10 ?_
    refine rs_pure wi_177_12 rfl ?_
    refine rs_icge (tg := 33) wi_177_13 ⟨by decide, by decide⟩ (fun q => ?_) (fun q => ?_)
    ·
      have h := wp_pos h q
      exact h _
    ·
      have h := wp_neg h q
      refine rs_aldn wi_177_16 l0 ?_
      refine dq_gr wi_177_17 wf_177_15 tf_146_7 ?_
      refine rs_ildn wi_177_20 l3 ?_
      refine rs_pure wi_177_21 rfl ?_
      refine rs_topi (v := 4) (by decide) ?_
      refine rs_pure wi_177_22 rfl ?_
      refine rs_ildn wi_177_23 l1 ?_
      refine rs_pure wi_177_24 rfl ?_
      refine rs_ildn wi_177_25 l2 ?_
      obtain ⟨g3, h⟩ := wp_gd h
      obtain ⟨c4, e5, h⟩ := wp_lt h
      refine dq_iast wi_177_26 t_148 g3 e5 ?_
      obtain ⟨v7, e8, h⟩ := wp_lt h
      refine dl_inc wi_177_27 l3 rfl e8 (fun lv l3 t6 => ?_)
      have l0 := t6 _ _ (by decide) (Or.inl rfl) l0
      have l1 := t6 _ _ (by decide) (Or.inl rfl) l1
      have l2 := t6 _ _ (by decide) (Or.inl rfl) l2
      refine rs_goto (tg := 2) wi_177_30 ⟨by decide, by decide⟩ ?_
      exact h _ l0 l1 l2 l3
  ·
    intro x9 h lv
    exact rs_vret wi_177_33 wr_177 (hQ x9 h)
theorem tf_146_8 : fo true 146 4 8 (.int 0) := ⟨_, rfl, rfl, by decide, by decide⟩
theorem wa_4_177 : rz_cn 4 (rx_yn (rt_P sc fm) 177).cls = true := (by decide +kernel : rz_cn 4 (rt_yn 177).cls = true)
theorem wc_176_52 : rx_ct (rt_P sc fm) 176 52 = some (0, 177, 2) := (by decide +kernel : rt_ct 176 52 = some (0, 177, 2))
theorem wf_176_21 : rx_ft (rt_P sc fm) 176 21 = some (4, 0) := (by decide +kernel : rt_ft 176 21 = some (4, 0))
theorem wf_176_37 : rx_ft (rt_P sc fm) 176 37 = some (9, 2) := (by decide +kernel : rt_ft 176 37 = some (9, 2))
theorem wf_176_43 : rx_ft (rt_P sc fm) 176 43 = some (9, 1) := (by decide +kernel : rt_ft 176 43 = some (9, 1))
theorem wf_176_47 : rx_ft (rt_P sc fm) 176 47 = some (8, 2) := (by decide +kernel : rt_ft 176 47 = some (8, 2))
theorem wi_176_0 : ri (rt_P sc fm) 176 0 (.aload_n 0) (1) := ri_of (by decide +kernel) rfl
theorem wi_176_1 : ri (rt_P sc fm) 176 1 (.iconst 1) (2) := ri_of (by decide +kernel) rfl
theorem wi_176_12 : ri (rt_P sc fm) 176 12 (.getfield 37) (15) := ri_of (by decide +kernel) rfl
theorem wi_176_15 : ri (rt_P sc fm) 176 15 (.if_icmp .ge 26) (18) := ri_of (by decide +kernel) rfl
theorem wi_176_18 : ri (rt_P sc fm) 176 18 (.aload_n 0) (19) := ri_of (by decide +kernel) rfl
theorem wi_176_19 : ri (rt_P sc fm) 176 19 (.iload_n 1) (20) := ri_of (by decide +kernel) rfl
theorem wi_176_2 : ri (rt_P sc fm) 176 2 (.putfield 33) (5) := ri_of (by decide +kernel) rfl
theorem wi_176_20 : ri (rt_P sc fm) 176 20 (.aload_n 0) (21) := ri_of (by decide +kernel) rfl
theorem wi_176_21 : ri (rt_P sc fm) 176 21 (.getfield 21) (24) := ri_of (by decide +kernel) rfl
theorem wi_176_24 : ri (rt_P sc fm) 176 24 (.getfield 43) (27) := ri_of (by decide +kernel) rfl
theorem wi_176_27 : ri (rt_P sc fm) 176 27 (.iload_n 1) (28) := ri_of (by decide +kernel) rfl
theorem wi_176_28 : ri (rt_P sc fm) 176 28 (.aaload) (29) := ri_of (by decide +kernel) rfl
theorem wi_176_29 : ri (rt_P sc fm) 176 29 (.getfield 47) (32) := ri_of (by decide +kernel) rfl
theorem wi_176_32 : ri (rt_P sc fm) 176 32 (.invokevirtual 52) (35) := ri_of (by decide +kernel) rfl
theorem wi_176_35 : ri (rt_P sc fm) 176 35 (.iinc 1 1) (38) := ri_of (by decide +kernel) rfl
theorem wi_176_38 : ri (rt_P sc fm) 176 38 (.goto (-31)) (41) := ri_of (by decide +kernel) rfl
theorem wi_176_41 : ri (rt_P sc fm) 176 41 (.return_) (42) := ri_of (by decide +kernel) rfl
theorem wi_176_5 : ri (rt_P sc fm) 176 5 (.iconst 0) (6) := ri_of (by decide +kernel) rfl
theorem wi_176_6 : ri (rt_P sc fm) 176 6 (.istore_n 1) (7) := ri_of (by decide +kernel) rfl
theorem wi_176_7 : ri (rt_P sc fm) 176 7 (.iload_n 1) (8) := ri_of (by decide +kernel) rfl
theorem wi_176_8 : ri (rt_P sc fm) 176 8 (.aload_n 0) (9) := ri_of (by decide +kernel) rfl
theorem wi_176_9 : ri (rt_P sc fm) 176 9 (.getfield 21) (12) := ri_of (by decide +kernel) rfl
theorem wm_177 : rx_ml (rt_P sc fm) 177 = 4 := (by decide +kernel : rt_ml 177 = 4)
theorem wp_176_33 : rx_pt (rt_P sc fm) 176 33 = some (4, 8, .boolean) := (by decide +kernel : rt_pt 176 33 = some (4, 8, .boolean))
theorem wr_176 : rx_rt (rt_P sc fm) 176 = none := (by decide +kernel : rt_rt 176 = none)
/-- MarkHouse$Effects.startAnew()V -/
def d_176 (n : Nat)  (c : cS) : Option (cS) :=
  lt (pI c 146 8 1) (fun c1 =>
  Option.bind (whl (R := (cS)) (fun s4 : Int32 × cS =>
    if (s4.2.1 7 2) ≤ s4.1 then
      some (.inr s4.2)
    else
      if ib s4.1 4 then
      Option.bind (d_177 n s4.1 (s4.2.1 (oA (ix s4.1)) 2) s4.2) (fun r6 =>
      lt (s4.1 + 1 : Int32) (fun v8 =>
      some (.inl (v8, r6))))
      else none) n (0, c1))
  (fun x10 : cS =>
    some x10))
theorem sp_176 {F Lo n : Nat}  {c y : cS} {w : cW} {K : cS → Prop} {Q : ((Option Value) ⊕ String) → List va_E → Prop} (hw : rOK fm w) (hF : 1 ≤ F) (hLo : 23 ≤ Lo)  (h : wp (d_176 n  c) K) (hQ : ∀ r, K r → Q (.inl none) (hq true r y w)) : rs (rt_P sc fm) 176 F Lo 0 [(0, .ref 146)] [] (hq true c y w) Q := by
  unfold d_176 at h
  obtain ⟨lv, elv⟩ : ∃ lv : rx_L, lv = [(0, .ref 146)] := ⟨_, rfl⟩
  rw [← elv]
  have l0 : rx_ld lv 0 = some (.ref 146) := by rw [elv]; rfl
  refine rs_aldn wi_176_0 l0 ?_
  refine rs_pure wi_176_1 rfl ?_
  refine rs_topi (v := 1) (by decide) ?_
  obtain ⟨c1, e2, h⟩ := wp_lt h
  refine dq_pi wi_176_2 wp_176_33 tf_146_8 (nb_n (by decide)) (nb_f (by decide)) e2 ?_
  refine rs_pure wi_176_5 rfl ?_
  refine rs_topi (v := 0) (by decide) ?_
  refine dl_istn wi_176_6 rfl (fun lv l1 t3 => ?_)
  have l0 := t3 _ _ (by decide) (Or.inl rfl) l0
  refine whl_ex (A := fun s4 : Int32 × cS => ∀ lv, rx_ld lv 0 = some (.ref 146) → rx_ld lv 1 = some (.int s4.1) → rs (rt_P sc fm) 176 F Lo 7 lv [] (hq true s4.2 y w) Q) (B := (fun x10 : cS => ∀ lv, rs (rt_P sc fm) 176 F Lo 41 lv [] (hq true x10 y w) Q)) ?_ ?_ _ _ (wp_bind h) _ l0 l1
  · intro s4 h lv l0 l1
    refine rs_ildn wi_176_7 l1 ?_
    refine rs_aldn wi_176_8 l0 ?_
    refine dq_gr wi_176_9 wf_176_21 tf_146_0 ?_
    refine dq_gi wi_176_12 wf_176_37 tf_7_2 ?_
    refine rs_icge (tg := 41) wi_176_15 ⟨by decide, by decide⟩ (fun q => ?_) (fun q => ?_)
    ·
      have h := wp_pos h q
      exact h _
    ·
      have h := wp_neg h q
      refine rs_aldn wi_176_18 l0 ?_
      refine rs_ildn wi_176_19 l1 ?_
      refine rs_aldn wi_176_20 l0 ?_
      refine dq_gr wi_176_21 wf_176_21 tf_146_0 ?_
      refine dq_gr wi_176_24 wf_176_43 tf_7_1 ?_
      refine rs_ildn wi_176_27 l1 ?_
      obtain ⟨g5, h⟩ := wp_gd h
      refine dq_aald wi_176_28 (by decide) t_8 g5 (hw.1 _ (ib_lt g5)) ?_
      refine dq_gi wi_176_29 wf_176_47 (fO_2 (ib_lt g5)) ?_
      refine rs_V wi_176_32 wc_176_52 rfl (dq_isa tf_146_0 wa_4_177) (Nat.le_trans (by decide) hF) (ml_le wm_177 (Nat.le_trans (by decide) hLo)) rfl (sp_177 hw (Nat.le_trans (by decide : 0 ≤ 1 - 1) (Nat.sub_le_sub_right hF 1)) (ml_sub wm_177 (Nat.le_trans (by decide : 0 ≤ 23 - 23) (Nat.sub_le_sub_right hLo 23))) (wp_bind h) (fun r6 h => rs_back0 ?_))
      obtain ⟨v8, e9, h⟩ := wp_lt h
      refine dl_inc wi_176_35 l1 rfl e9 (fun lv l1 t7 => ?_)
      have l0 := t7 _ _ (by decide) (Or.inl rfl) l0
      refine rs_goto (tg := 7) wi_176_38 ⟨by decide, by decide⟩ ?_
      exact h _ l0 l1
  ·
    intro x10 h lv
    exact rs_vret wi_176_41 wr_176 (hQ x10 h)
theorem tf_0_1 : fo true 0 14 1 (.ref 7) := ⟨_, rfl, rfl, by decide, by decide⟩
theorem tf_0_4 : fo true 0 14 4 (.ref 145) := ⟨_, rfl, rfl, by decide, by decide⟩
theorem tf_0_5 : fo true 0 14 5 (.ref 146) := ⟨_, rfl, rfl, by decide, by decide⟩
theorem wa_10_286 : rz_cn 10 (rx_yn (rt_P sc fm) 286).cls = true := (by decide +kernel : rz_cn 10 (rt_yn 286).cls = true)
theorem wa_10_288 : rz_cn 10 (rx_yn (rt_P sc fm) 288).cls = true := (by decide +kernel : rz_cn 10 (rt_yn 288).cls = true)
theorem wa_10_40 : rz_cn 10 (rx_yn (rt_P sc fm) 40).cls = true := (by decide +kernel : rz_cn 10 (rt_yn 40).cls = true)
theorem wa_10_44 : rz_cn 10 (rx_yn (rt_P sc fm) 44).cls = true := (by decide +kernel : rz_cn 10 (rt_yn 44).cls = true)
theorem wa_10_45 : rz_cn 10 (rx_yn (rt_P sc fm) 45).cls = true := (by decide +kernel : rz_cn 10 (rt_yn 45).cls = true)
theorem wa_14_90 : rz_cn 14 (rx_yn (rt_P sc fm) 90).cls = true := (by decide +kernel : rz_cn 14 (rt_yn 90).cls = true)
theorem wa_4_176 : rz_cn 4 (rx_yn (rt_P sc fm) 176).cls = true := (by decide +kernel : rz_cn 4 (rt_yn 176).cls = true)
theorem wc_59_108 : rx_ct (rt_P sc fm) 59 108 = some (0, 90, 0) := (by decide +kernel : rt_ct 59 108 = some (0, 90, 0))
theorem wc_59_111 : rx_ct (rt_P sc fm) 59 111 = some (0, 40, 0) := (by decide +kernel : rt_ct 59 111 = some (0, 40, 0))
theorem wc_59_114 : rx_ct (rt_P sc fm) 59 114 = some (0, 44, 0) := (by decide +kernel : rt_ct 59 114 = some (0, 44, 0))
theorem wc_59_117 : rx_ct (rt_P sc fm) 59 117 = some (0, 45, 0) := (by decide +kernel : rt_ct 59 117 = some (0, 45, 0))
theorem wc_59_120 : rx_ct (rt_P sc fm) 59 120 = some (0, 286, 0) := (by decide +kernel : rt_ct 59 120 = some (0, 286, 0))
theorem wc_59_123 : rx_ct (rt_P sc fm) 59 123 = some (0, 288, 0) := (by decide +kernel : rt_ct 59 123 = some (0, 288, 0))
theorem wc_59_130 : rx_ct (rt_P sc fm) 59 130 = some (0, 176, 0) := (by decide +kernel : rt_ct 59 130 = some (0, 176, 0))
theorem wf_59_133 : rx_ft (rt_P sc fm) 59 133 = some (9, 10) := (by decide +kernel : rt_ft 59 133 = some (9, 10))
theorem wf_59_19 : rx_ft (rt_P sc fm) 59 19 = some (14, 1) := (by decide +kernel : rt_ft 59 19 = some (14, 1))
theorem wf_59_44 : rx_ft (rt_P sc fm) 59 44 = some (14, 4) := (by decide +kernel : rt_ft 59 44 = some (14, 4))
theorem wf_59_53 : rx_ft (rt_P sc fm) 59 53 = some (14, 5) := (by decide +kernel : rt_ft 59 53 = some (14, 5))
theorem wh0_59_15 : rx_ht (rt_P sc fm) 59 15 "java/lang/IllegalArgumentException" = none := (by decide +kernel : rt_ht 59 15 "java/lang/IllegalArgumentException" = none)
theorem wh0_59_22 : rx_ht (rt_P sc fm) 59 22 "java/lang/IllegalArgumentException" = none := (by decide +kernel : rt_ht 59 22 "java/lang/IllegalArgumentException" = none)
theorem wh0_59_29 : rx_ht (rt_P sc fm) 59 29 "java/lang/IllegalArgumentException" = none := (by decide +kernel : rt_ht 59 29 "java/lang/IllegalArgumentException" = none)
theorem wh0_59_36 : rx_ht (rt_P sc fm) 59 36 "java/lang/IllegalArgumentException" = none := (by decide +kernel : rt_ht 59 36 "java/lang/IllegalArgumentException" = none)
theorem wh0_59_8 : rx_ht (rt_P sc fm) 59 8 "java/lang/IllegalArgumentException" = none := (by decide +kernel : rt_ht 59 8 "java/lang/IllegalArgumentException" = none)
theorem whh_59 : rx_hh (rt_P sc fm) 59 = [] := (by decide +kernel : rt_hh 59 = [])
theorem wi_59_0 : ri (rt_P sc fm) 59 0 (.aload_n 0) (1) := ri_of (by decide +kernel) rfl
theorem wi_59_1 : ri (rt_P sc fm) 59 1 (.invokevirtual 108) (4) := ri_of (by decide +kernel) rfl
theorem wi_59_11 : ri (rt_P sc fm) 59 11 (.aload_n 0) (12) := ri_of (by decide +kernel) rfl
theorem wi_59_12 : ri (rt_P sc fm) 59 12 (.getfield 44) (15) := ri_of (by decide +kernel) rfl
theorem wi_59_15 : ri (rt_P sc fm) 59 15 (.invokevirtual 114) (18) := ri_of (by decide +kernel) rfl
theorem wi_59_18 : ri (rt_P sc fm) 59 18 (.aload_n 0) (19) := ri_of (by decide +kernel) rfl
theorem wi_59_19 : ri (rt_P sc fm) 59 19 (.getfield 44) (22) := ri_of (by decide +kernel) rfl
theorem wi_59_22 : ri (rt_P sc fm) 59 22 (.invokevirtual 117) (25) := ri_of (by decide +kernel) rfl
theorem wi_59_25 : ri (rt_P sc fm) 59 25 (.aload_n 0) (26) := ri_of (by decide +kernel) rfl
theorem wi_59_26 : ri (rt_P sc fm) 59 26 (.getfield 44) (29) := ri_of (by decide +kernel) rfl
theorem wi_59_29 : ri (rt_P sc fm) 59 29 (.invokevirtual 120) (32) := ri_of (by decide +kernel) rfl
theorem wi_59_32 : ri (rt_P sc fm) 59 32 (.aload_n 0) (33) := ri_of (by decide +kernel) rfl
theorem wi_59_33 : ri (rt_P sc fm) 59 33 (.getfield 44) (36) := ri_of (by decide +kernel) rfl
theorem wi_59_36 : ri (rt_P sc fm) 59 36 (.invokevirtual 123) (39) := ri_of (by decide +kernel) rfl
theorem wi_59_39 : ri (rt_P sc fm) 59 39 (.aload_n 0) (40) := ri_of (by decide +kernel) rfl
theorem wi_59_4 : ri (rt_P sc fm) 59 4 (.aload_n 0) (5) := ri_of (by decide +kernel) rfl
theorem wi_59_40 : ri (rt_P sc fm) 59 40 (.getfield 19) (43) := ri_of (by decide +kernel) rfl
theorem wi_59_43 : ri (rt_P sc fm) 59 43 (.iconst 1) (44) := ri_of (by decide +kernel) rfl
theorem wi_59_44 : ri (rt_P sc fm) 59 44 (.putfield 126) (47) := ri_of (by decide +kernel) rfl
theorem wi_59_47 : ri (rt_P sc fm) 59 47 (.aload_n 0) (48) := ri_of (by decide +kernel) rfl
theorem wi_59_48 : ri (rt_P sc fm) 59 48 (.getfield 53) (51) := ri_of (by decide +kernel) rfl
theorem wi_59_5 : ri (rt_P sc fm) 59 5 (.getfield 44) (8) := ri_of (by decide +kernel) rfl
theorem wi_59_51 : ri (rt_P sc fm) 59 51 (.invokevirtual 130) (54) := ri_of (by decide +kernel) rfl
theorem wi_59_54 : ri (rt_P sc fm) 59 54 (.aload_n 0) (55) := ri_of (by decide +kernel) rfl
theorem wi_59_55 : ri (rt_P sc fm) 59 55 (.getfield 19) (58) := ri_of (by decide +kernel) rfl
theorem wi_59_58 : ri (rt_P sc fm) 59 58 (.getfield 133) (61) := ri_of (by decide +kernel) rfl
theorem wi_59_61 : ri (rt_P sc fm) 59 61 (.ireturn) (62) := ri_of (by decide +kernel) rfl
theorem wi_59_8 : ri (rt_P sc fm) 59 8 (.invokevirtual 111) (11) := ri_of (by decide +kernel) rfl
theorem wm_176 : rx_ml (rt_P sc fm) 176 = 2 := (by decide +kernel : rt_ml 176 = 2)
theorem wm_286 : rx_ml (rt_P sc fm) 286 = 3 := (by decide +kernel : rt_ml 286 = 3)
theorem wm_288 : rx_ml (rt_P sc fm) 288 = 2 := (by decide +kernel : rt_ml 288 = 2)
theorem wm_40 : rx_ml (rt_P sc fm) 40 = 2 := (by decide +kernel : rt_ml 40 = 2)
theorem wm_44 : rx_ml (rt_P sc fm) 44 = 2 := (by decide +kernel : rt_ml 44 = 2)
theorem wm_45 : rx_ml (rt_P sc fm) 45 = 4 := (by decide +kernel : rt_ml 45 = 4)
theorem wm_90 : rx_ml (rt_P sc fm) 90 = 1 := (by decide +kernel : rt_ml 90 = 1)
theorem wp_59_126 : rx_pt (rt_P sc fm) 59 126 = some (9, 0, .boolean) := (by decide +kernel : rt_pt 59 126 = some (9, 0, .boolean))
theorem wr_59 : rx_rt (rt_P sc fm) 59 = (some FieldType.int) := (by decide +kernel : rt_rt 59 = (some FieldType.int))
/-- MarkHouse.compile()I -/
def d_59 (n : Nat)  (c : cS) : Option ((Int32 × cS) ⊕ cS) :=
  Option.bind (d_90 n c) (fun r1 =>
  Option.bind (d_40 n r1) (Sum.elim (fun r2 =>
  Option.bind (d_44 n r2) (Sum.elim (fun r4 =>
  Option.bind (d_45 n r4) (Sum.elim (fun r6 =>
  Option.bind (d_286 n r6) (Sum.elim (fun r8 =>
  Option.bind (d_288 n r8) (Sum.elim (fun r10 =>
  lt (pI r10 7 0 1) (fun c12 =>
  Option.bind (d_176 n c12) (fun r14 =>
  some (.inl ((r14.1 7 10), r14)))))
  (fun z11 => some (.inr z11))))
  (fun z9 => some (.inr z9))))
  (fun z7 => some (.inr z7))))
  (fun z5 => some (.inr z5))))
  (fun z3 => some (.inr z3))))
theorem sp_59 {F Lo n : Nat}  {c y : cS} {w : cW} {K : (Int32 × cS) ⊕ cS → Prop} {Q : ((Option Value) ⊕ String) → List va_E → Prop} (hw : rOK fm w) (hF : 13 ≤ F) (hLo : 250 ≤ Lo)  (h : wp (d_59 n  c) K) (hQ : ∀ r, K (.inl r) → Q (.inl (some (.int r.1))) (hq true r.2 y w)) (hT : ∀ r, K (.inr r) → Q (.inr "java/lang/IllegalArgumentException") (hq true r y w)) : rs (rt_P sc fm) 59 F Lo 0 [(0, .ref 0)] [] (hq true c y w) Q := by
  unfold d_59 at h
  obtain ⟨lv, elv⟩ : ∃ lv : rx_L, lv = [(0, .ref 0)] := ⟨_, rfl⟩
  rw [← elv]
  have l0 : rx_ld lv 0 = some (.ref 0) := by rw [elv]; rfl
  refine rs_aldn wi_59_0 l0 ?_
  refine rs_V wi_59_1 wc_59_108 rfl (dq_isa tf_0_0 wa_14_90) (Nat.le_trans (by decide) hF) (ml_le wm_90 (Nat.le_trans (by decide) hLo)) rfl (sp_90 hw (Nat.le_trans (by decide : 3 ≤ 13 - 1) (Nat.sub_le_sub_right hF 1)) (ml_sub wm_90 (Nat.le_trans (by decide : 66 ≤ 250 - 20) (Nat.sub_le_sub_right hLo 20))) (wp_bind h) (fun r1 h => rs_back0 ?_))
  refine rs_aldn wi_59_4 l0 ?_
  refine dq_gr wi_59_5 wf_59_44 tf_0_4 ?_
  refine rs_V wi_59_8 wc_59_111 rfl (dq_isa tf_145_0 wa_10_40) (Nat.le_trans (by decide) hF) (ml_le wm_40 (Nat.le_trans (by decide) hLo)) rfl (sp_40 hw (Nat.le_trans (by decide : 7 ≤ 13 - 1) (Nat.sub_le_sub_right hF 1)) (ml_sub wm_40 (Nat.le_trans (by decide : 134 ≤ 250 - 21) (Nat.sub_le_sub_right hLo 21))) (wp_bind h) (fun r2 h => rs_back0 ?_) (fun z3 h => rs_up wh0_59_8 whh_59 (hT z3 (wp_inr h))))
  have h := wp_inl h
  refine rs_aldn wi_59_11 l0 ?_
  refine dq_gr wi_59_12 wf_59_44 tf_0_4 ?_
  refine rs_V wi_59_15 wc_59_114 rfl (dq_isa tf_145_0 wa_10_44) (Nat.le_trans (by decide) hF) (ml_le wm_44 (Nat.le_trans (by decide) hLo)) rfl (sp_44 hw (Nat.le_trans (by decide : 12 ≤ 13 - 1) (Nat.sub_le_sub_right hF 1)) (ml_sub wm_44 (Nat.le_trans (by decide : 226 ≤ 250 - 21) (Nat.sub_le_sub_right hLo 21))) (wp_bind h) (fun r4 h => rs_back0 ?_) (fun z5 h => rs_up wh0_59_15 whh_59 (hT z5 (wp_inr h))))
  have h := wp_inl h
  refine rs_aldn wi_59_18 l0 ?_
  refine dq_gr wi_59_19 wf_59_44 tf_0_4 ?_
  refine rs_V wi_59_22 wc_59_117 rfl (dq_isa tf_145_0 wa_10_45) (Nat.le_trans (by decide) hF) (ml_le wm_45 (Nat.le_trans (by decide) hLo)) rfl (sp_45 hw (Nat.le_trans (by decide : 12 ≤ 13 - 1) (Nat.sub_le_sub_right hF 1)) (ml_sub wm_45 (Nat.le_trans (by decide : 227 ≤ 250 - 23) (Nat.sub_le_sub_right hLo 23))) (wp_bind h) (fun r6 h => rs_back0 ?_) (fun z7 h => rs_up wh0_59_22 whh_59 (hT z7 (wp_inr h))))
  have h := wp_inl h
  refine rs_aldn wi_59_25 l0 ?_
  refine dq_gr wi_59_26 wf_59_44 tf_0_4 ?_
  refine rs_V wi_59_29 wc_59_120 rfl (dq_isa tf_145_0 wa_10_286) (Nat.le_trans (by decide) hF) (ml_le wm_286 (Nat.le_trans (by decide) hLo)) rfl (sp_286 hw (Nat.le_trans (by decide : 8 ≤ 13 - 1) (Nat.sub_le_sub_right hF 1)) (ml_sub wm_286 (Nat.le_trans (by decide : 130 ≤ 250 - 22) (Nat.sub_le_sub_right hLo 22))) (wp_bind h) (fun r8 h => rs_back0 ?_) (fun z9 h => rs_up wh0_59_29 whh_59 (hT z9 (wp_inr h))))
  have h := wp_inl h
  refine rs_aldn wi_59_32 l0 ?_
  refine dq_gr wi_59_33 wf_59_44 tf_0_4 ?_
  refine rs_V wi_59_36 wc_59_123 rfl (dq_isa tf_145_0 wa_10_288) (Nat.le_trans (by decide) hF) (ml_le wm_288 (Nat.le_trans (by decide) hLo)) rfl (sp_288 hw (Nat.le_trans (by decide : 10 ≤ 13 - 1) (Nat.sub_le_sub_right hF 1)) (ml_sub wm_288 (Nat.le_trans (by decide : 183 ≤ 250 - 21) (Nat.sub_le_sub_right hLo 21))) (wp_bind h) (fun r10 h => rs_back0 ?_) (fun z11 h => rs_up wh0_59_36 whh_59 (hT z11 (wp_inr h))))
  have h := wp_inl h
  refine rs_aldn wi_59_39 l0 ?_
  refine dq_gr wi_59_40 wf_59_19 tf_0_1 ?_
  refine rs_pure wi_59_43 rfl ?_
  refine rs_topi (v := 1) (by decide) ?_
  obtain ⟨c12, e13, h⟩ := wp_lt h
  refine dq_pi wi_59_44 wp_59_126 tf_7_0 (nb_n (by decide)) (nb_f (by decide)) e13 ?_
  refine rs_aldn wi_59_47 l0 ?_
  refine dq_gr wi_59_48 wf_59_53 tf_0_5 ?_
  refine rs_V wi_59_51 wc_59_130 rfl (dq_isa tf_146_0 wa_4_176) (Nat.le_trans (by decide) hF) (ml_le wm_176 (Nat.le_trans (by decide) hLo)) rfl (sp_176 hw (Nat.le_trans (by decide : 1 ≤ 13 - 1) (Nat.sub_le_sub_right hF 1)) (ml_sub wm_176 (Nat.le_trans (by decide : 23 ≤ 250 - 21) (Nat.sub_le_sub_right hLo 21))) (wp_bind h) (fun r14 h => rs_back0 ?_))
  refine rs_aldn wi_59_54 l0 ?_
  refine dq_gr wi_59_55 wf_59_19 tf_0_1 ?_
  refine dq_gi wi_59_58 wf_59_133 tf_7_10 ?_
  exact rs_iret wi_59_61 wr_59 rfl (hQ ((r14.1 7 10), r14) h)
theorem wf_60_136 : rx_ft (rt_P sc fm) 60 136 = some (10, 4) := (by decide +kernel : rt_ft 60 136 = some (10, 4))
theorem wf_60_139 : rx_ft (rt_P sc fm) 60 139 = some (10, 5) := (by decide +kernel : rt_ft 60 139 = some (10, 5))
theorem wf_60_44 : rx_ft (rt_P sc fm) 60 44 = some (14, 4) := (by decide +kernel : rt_ft 60 44 = some (14, 4))
theorem wi_60_0 : ri (rt_P sc fm) 60 0 (.iload_n 1) (1) := ri_of (by decide +kernel) rfl
theorem wi_60_1 : ri (rt_P sc fm) 60 1 (.ifCond .ne 11) (4) := ri_of (by decide +kernel) rfl
theorem wi_60_11 : ri (rt_P sc fm) 60 11 (.ireturn) (12) := ri_of (by decide +kernel) rfl
theorem wi_60_12 : ri (rt_P sc fm) 60 12 (.iload_n 1) (13) := ri_of (by decide +kernel) rfl
theorem wi_60_13 : ri (rt_P sc fm) 60 13 (.iconst 1) (14) := ri_of (by decide +kernel) rfl
theorem wi_60_14 : ri (rt_P sc fm) 60 14 (.if_icmp .ne 13) (17) := ri_of (by decide +kernel) rfl
theorem wi_60_17 : ri (rt_P sc fm) 60 17 (.aload_n 0) (18) := ri_of (by decide +kernel) rfl
theorem wi_60_18 : ri (rt_P sc fm) 60 18 (.getfield 44) (21) := ri_of (by decide +kernel) rfl
theorem wi_60_21 : ri (rt_P sc fm) 60 21 (.getfield 139) (24) := ri_of (by decide +kernel) rfl
theorem wi_60_24 : ri (rt_P sc fm) 60 24 (.goto 4) (27) := ri_of (by decide +kernel) rfl
theorem wi_60_27 : ri (rt_P sc fm) 60 27 (.iconst (-1)) (28) := ri_of (by decide +kernel) rfl
theorem wi_60_28 : ri (rt_P sc fm) 60 28 (.ireturn) (29) := ri_of (by decide +kernel) rfl
theorem wi_60_4 : ri (rt_P sc fm) 60 4 (.aload_n 0) (5) := ri_of (by decide +kernel) rfl
theorem wi_60_5 : ri (rt_P sc fm) 60 5 (.getfield 44) (8) := ri_of (by decide +kernel) rfl
theorem wi_60_8 : ri (rt_P sc fm) 60 8 (.getfield 136) (11) := ri_of (by decide +kernel) rfl
theorem wr_60 : rx_rt (rt_P sc fm) 60 = (some FieldType.int) := (by decide +kernel : rt_rt 60 = (some FieldType.int))
/-- MarkHouse.fault(I)I -/
def d_60 (n : Nat) (a1 : Int32) (c : cS) : Option (Int32) :=
  if a1 = 0 then
    some (c.1 145 4)
  else
    jn (fun p1 : Int32 =>
      some p1)
    (fun j28 =>
    if a1 = 1 then
      j28 (c.1 145 5)
    else
      j28 (-1))
theorem sp_60 {F Lo n : Nat} {a1 : Int32} {c y : cS} {w : cW} {K : Int32 → Prop} {Q : ((Option Value) ⊕ String) → List va_E → Prop} (hw : rOK fm w) (hF : 0 ≤ F) (hLo : 0 ≤ Lo)  (h : wp (d_60 n a1 c) K) (hQ : ∀ r, K r → Q (.inl (some (.int r))) (hq true c y w)) : rs (rt_P sc fm) 60 F Lo 0 [(0, .ref 0), (1, .int a1)] [] (hq true c y w) Q := by
  unfold d_60 at h
  obtain ⟨lv, elv⟩ : ∃ lv : rx_L, lv = [(0, .ref 0), (1, .int a1)] := ⟨_, rfl⟩
  rw [← elv]
  have l0 : rx_ld lv 0 = some (.ref 0) := by rw [elv]; rfl
  have l1 : rx_ld lv 1 = some (.int a1) := by rw [elv]; rfl
  refine rs_ildn wi_60_0 l1 ?_
  refine rs_ifne (tg := 12) wi_60_1 ⟨by decide, by decide⟩ (fun q => ?_) (fun q => ?_)
  ·
    have h := wp_neg h q
    refine rs_ildn wi_60_12 l1 ?_
    refine rs_pure wi_60_13 rfl ?_
    refine rs_topi (v := 1) (by decide) ?_
    refine wp_jn (B := fun p1 : Int32 => ∀ lv, rs (rt_P sc fm) 60 F Lo 28 lv [.int p1] (hq true c y w) Q) h (fun p1 h lv => ?_) (fun j28 hj28 h => ?_)
    ·
      exact rs_iret wi_60_28 wr_60 rfl (hQ p1 h)
    refine rs_icne (tg := 27) wi_60_14 ⟨by decide, by decide⟩ (fun q => ?_) (fun q => ?_)
    ·
      have h := wp_neg h q
      refine rs_pure wi_60_27 rfl ?_
      refine rs_topi (v := (-1)) (by decide) ?_
      exact hj28 _ h _
    ·
      have h := wp_pos h q
      refine rs_aldn wi_60_17 l0 ?_
      refine dq_gr wi_60_18 wf_60_44 tf_0_4 ?_
      refine dq_gi wi_60_21 wf_60_139 tf_145_5 ?_
      refine rs_goto (tg := 28) wi_60_24 ⟨by decide, by decide⟩ ?_
      exact hj28 _ h _
  ·
    have h := wp_pos h q
    refine rs_aldn wi_60_4 l0 ?_
    refine dq_gr wi_60_5 wf_60_44 tf_0_4 ?_
    refine dq_gi wi_60_8 wf_60_136 tf_145_4 ?_
    exact rs_iret wi_60_11 wr_60 rfl (hQ (c.1 145 4) h)
theorem wf_317_35 : rx_ft (rt_P sc fm) 317 35 = some (12, 1) := (by decide +kernel : rt_ft 317 35 = some (12, 1))
theorem wf_317_9 : rx_ft (rt_P sc fm) 317 9 = some (12, 0) := (by decide +kernel : rt_ft 317 9 = some (12, 0))
theorem wi_317_0 : ri (rt_P sc fm) 317 0 (.aload_n 0) (1) := ri_of (by decide +kernel) rfl
theorem wi_317_1 : ri (rt_P sc fm) 317 1 (.getfield 35) (4) := ri_of (by decide +kernel) rfl
theorem wi_317_10 : ri (rt_P sc fm) 317 10 (.aload_n 0) (11) := ri_of (by decide +kernel) rfl
theorem wi_317_11 : ri (rt_P sc fm) 317 11 (.getfield 9) (14) := ri_of (by decide +kernel) rfl
theorem wi_317_14 : ri (rt_P sc fm) 317 14 (.aload_n 0) (15) := ri_of (by decide +kernel) rfl
theorem wi_317_15 : ri (rt_P sc fm) 317 15 (.dup) (16) := ri_of (by decide +kernel) rfl
theorem wi_317_16 : ri (rt_P sc fm) 317 16 (.getfield 35) (19) := ri_of (by decide +kernel) rfl
theorem wi_317_19 : ri (rt_P sc fm) 317 19 (.dup_x1) (20) := ri_of (by decide +kernel) rfl
theorem wi_317_20 : ri (rt_P sc fm) 317 20 (.iconst 1) (21) := ri_of (by decide +kernel) rfl
theorem wi_317_21 : ri (rt_P sc fm) 317 21 (.iadd) (22) := ri_of (by decide +kernel) rfl
theorem wi_317_22 : ri (rt_P sc fm) 317 22 (.putfield 35) (25) := ri_of (by decide +kernel) rfl
theorem wi_317_25 : ri (rt_P sc fm) 317 25 (.iload_n 1) (26) := ri_of (by decide +kernel) rfl
theorem wi_317_26 : ri (rt_P sc fm) 317 26 (.i2b) (27) := ri_of (by decide +kernel) rfl
theorem wi_317_27 : ri (rt_P sc fm) 317 27 (.bastore) (28) := ri_of (by decide +kernel) rfl
theorem wi_317_28 : ri (rt_P sc fm) 317 28 (.return_) (29) := ri_of (by decide +kernel) rfl
theorem wi_317_4 : ri (rt_P sc fm) 317 4 (.sipush 8000) (7) := ri_of (by decide +kernel) rfl
theorem wi_317_7 : ri (rt_P sc fm) 317 7 (.if_icmp .ge 21) (10) := ri_of (by decide +kernel) rfl
theorem wp_317_35 : rx_pt (rt_P sc fm) 317 35 = some (12, 1, .int) := (by decide +kernel : rt_pt 317 35 = some (12, 1, .int))
theorem wr_317 : rx_rt (rt_P sc fm) 317 = none := (by decide +kernel : rt_rt 317 = none)
/-- MarkHouse$Teller.put(I)V -/
def d_317 (n : Nat) (a1 : Int32) (c : cS) : Option (cS) :=
  jn (fun p1 : cS =>
    some p1)
  (fun j28 =>
  if 8000 ≤ (c.1 172 1) then
    j28 c
  else
    lt (pI c 172 1 ((c.1 172 1) + 1)) (fun c2 =>
    if ib (c.1 172 1) 8000 then
    lt (pI c2 173 (ix (c.1 172 1)) (vp_nar .byte ((a1 : Int32).toInt8.toInt32))) (fun c5 =>
    j28 c5)
    else none))
theorem sp_317 {F Lo n : Nat} {a1 : Int32} {c y : cS} {w : cW} {K : cS → Prop} {Q : ((Option Value) ⊕ String) → List va_E → Prop} (hw : rOK fm w) (hF : 0 ≤ F) (hLo : 0 ≤ Lo)  (h : wp (d_317 n a1 c) K) (hQ : ∀ r, K r → Q (.inl none) (hq true r y w)) : rs (rt_P sc fm) 317 F Lo 0 [(0, .ref 172), (1, .int a1)] [] (hq true c y w) Q := by
  unfold d_317 at h
  obtain ⟨lv, elv⟩ : ∃ lv : rx_L, lv = [(0, .ref 172), (1, .int a1)] := ⟨_, rfl⟩
  rw [← elv]
  have l0 : rx_ld lv 0 = some (.ref 172) := by rw [elv]; rfl
  have l1 : rx_ld lv 1 = some (.int a1) := by rw [elv]; rfl
  refine rs_aldn wi_317_0 l0 ?_
  refine dq_gi wi_317_1 wf_317_35 tf_172_1 ?_
  refine rs_pure wi_317_4 rfl ?_
  refine rs_topi (v := 8000) (by decide) ?_
  refine wp_jn (B := fun p1 : cS => ∀ lv, rs (rt_P sc fm) 317 F Lo 28 lv [] (hq true p1 y w) Q) h (fun p1 h lv => ?_) (fun j28 hj28 h => ?_)
  ·
    exact rs_vret wi_317_28 wr_317 (hQ p1 h)
  refine rs_icge (tg := 28) wi_317_7 ⟨by decide, by decide⟩ (fun q => ?_) (fun q => ?_)
  ·
    have h := wp_pos h q
    exact hj28 _ h _
  ·
    have h := wp_neg h q
    refine rs_aldn wi_317_10 l0 ?_
    refine dq_gr wi_317_11 wf_317_9 tf_172_0 ?_
    refine rs_aldn wi_317_14 l0 ?_
    refine rs_pure wi_317_15 rfl ?_
    refine dq_gi wi_317_16 wf_317_35 tf_172_1 ?_
    refine rs_pure wi_317_19 rfl ?_
    refine rs_pure wi_317_20 rfl ?_
    refine rs_topi (v := 1) (by decide) ?_
    refine rs_pure wi_317_21 rfl ?_
    obtain ⟨c2, e3, h⟩ := wp_lt h
    refine dq_pi wi_317_22 wp_317_35 tf_172_1 rfl rfl e3 ?_
    refine rs_ildn wi_317_25 l1 ?_
    refine rs_pure wi_317_26 rfl ?_
    obtain ⟨g4, h⟩ := wp_gd h
    obtain ⟨c5, e6, h⟩ := wp_lt h
    refine dq_bast wi_317_27 t_173 g4 e6 ?_
    exact hj28 _ h _
theorem wa_12_317 : rz_cn 12 (rx_yn (rt_P sc fm) 317).cls = true := (by decide +kernel : rz_cn 12 (rt_yn 317).cls = true)
theorem wc_318_39 : rx_ct (rt_P sc fm) 318 39 = some (0, 317, 1) := (by decide +kernel : rt_ct 318 39 = some (0, 317, 1))
theorem wi_318_0 : ri (rt_P sc fm) 318 0 (.bipush 56) (2) := ri_of (by decide +kernel) rfl
theorem wi_318_10 : ri (rt_P sc fm) 318 10 (.l2i) (11) := ri_of (by decide +kernel) rfl
theorem wi_318_11 : ri (rt_P sc fm) 318 11 (.sipush 255) (14) := ri_of (by decide +kernel) rfl
theorem wi_318_14 : ri (rt_P sc fm) 318 14 (.iand) (15) := ri_of (by decide +kernel) rfl
theorem wi_318_15 : ri (rt_P sc fm) 318 15 (.istore 4) (17) := ri_of (by decide +kernel) rfl
theorem wi_318_17 : ri (rt_P sc fm) 318 17 (.iload 4) (19) := ri_of (by decide +kernel) rfl
theorem wi_318_19 : ri (rt_P sc fm) 318 19 (.ifCond .eq 9) (22) := ri_of (by decide +kernel) rfl
theorem wi_318_2 : ri (rt_P sc fm) 318 2 (.istore_n 3) (3) := ri_of (by decide +kernel) rfl
theorem wi_318_22 : ri (rt_P sc fm) 318 22 (.aload_n 0) (23) := ri_of (by decide +kernel) rfl
theorem wi_318_23 : ri (rt_P sc fm) 318 23 (.iload 4) (25) := ri_of (by decide +kernel) rfl
theorem wi_318_25 : ri (rt_P sc fm) 318 25 (.invokevirtual 39) (28) := ri_of (by decide +kernel) rfl
theorem wi_318_28 : ri (rt_P sc fm) 318 28 (.iinc 3 (-8)) (31) := ri_of (by decide +kernel) rfl
theorem wi_318_3 : ri (rt_P sc fm) 318 3 (.iload_n 3) (4) := ri_of (by decide +kernel) rfl
theorem wi_318_31 : ri (rt_P sc fm) 318 31 (.goto (-28)) (34) := ri_of (by decide +kernel) rfl
theorem wi_318_34 : ri (rt_P sc fm) 318 34 (.return_) (35) := ri_of (by decide +kernel) rfl
theorem wi_318_4 : ri (rt_P sc fm) 318 4 (.ifCond .lt 30) (7) := ri_of (by decide +kernel) rfl
theorem wi_318_7 : ri (rt_P sc fm) 318 7 (.lload_n 1) (8) := ri_of (by decide +kernel) rfl
theorem wi_318_8 : ri (rt_P sc fm) 318 8 (.iload_n 3) (9) := ri_of (by decide +kernel) rfl
theorem wi_318_9 : ri (rt_P sc fm) 318 9 (.lushr) (10) := ri_of (by decide +kernel) rfl
theorem wm_317 : rx_ml (rt_P sc fm) 317 = 2 := (by decide +kernel : rt_ml 317 = 2)
theorem wr_318 : rx_rt (rt_P sc fm) 318 = none := (by decide +kernel : rt_rt 318 = none)
/-- MarkHouse$Teller.putSigns(J)V -/
def d_318 (n : Nat) (a1 : Int64) (c : cS) : Option (cS) :=
  Option.bind (whl (R := (cS)) (fun s2 : Int32 × cS =>
    if s2.1 < 0 then
      some (.inr s2.2)
    else
      lt (((((a1 : Int64).toUInt64 >>> ((s2.1 : Int32).toInt64.toUInt64 &&& Int64.toUInt64 63)).toInt64 : Int64).toInt32 &&& 255) : Int32) (fun v4 =>
      jn (fun p6 : cS =>
        lt (s2.1 + (-8) : Int32) (fun v8 =>
        some (.inl (v8, p6))))
      (fun j28 =>
      if v4 = 0 then
        j28 s2.2
      else
        Option.bind (d_317 n v4 s2.2) (fun r10 =>
        j28 r10)))) n (56, c))
  (fun x11 : cS =>
    some x11)
theorem sp_318 {F Lo n : Nat} {a1 : Int64} {c y : cS} {w : cW} {K : cS → Prop} {Q : ((Option Value) ⊕ String) → List va_E → Prop} (hw : rOK fm w) (hF : 1 ≤ F) (hLo : 21 ≤ Lo)  (h : wp (d_318 n a1 c) K) (hQ : ∀ r, K r → Q (.inl none) (hq true r y w)) : rs (rt_P sc fm) 318 F Lo 0 [(0, .ref 172), (1, .long a1)] [] (hq true c y w) Q := by
  unfold d_318 at h
  obtain ⟨lv, elv⟩ : ∃ lv : rx_L, lv = [(0, .ref 172), (1, .long a1)] := ⟨_, rfl⟩
  rw [← elv]
  have l0 : rx_ld lv 0 = some (.ref 172) := by rw [elv]; rfl
  have l1 : rx_ld lv 1 = some (.long a1) := by rw [elv]; rfl
  refine rs_pure wi_318_0 rfl ?_
  refine rs_topi (v := 56) (by decide) ?_
  refine dl_istn wi_318_2 rfl (fun lv l3 t1 => ?_)
  have l0 := t1 _ _ (by decide) (Or.inl rfl) l0
  have l1 := t1 _ _ (by decide) (Or.inr (by decide)) l1
  refine whl_ex (A := fun s2 : Int32 × cS => ∀ lv, rx_ld lv 0 = some (.ref 172) → rx_ld lv 1 = some (.long a1) → rx_ld lv 3 = some (.int s2.1) → rs (rt_P sc fm) 318 F Lo 3 lv [] (hq true s2.2 y w) Q) (B := (fun x11 : cS => ∀ lv, rs (rt_P sc fm) 318 F Lo 34 lv [] (hq true x11 y w) Q)) ?_ ?_ _ _ (wp_bind h) _ l0 l1 l3
  · intro s2 h lv l0 l1 l3
    refine rs_ildn wi_318_3 l3 ?_
    refine rs_iflt (tg := 34) wi_318_4 ⟨by decide, by decide⟩ (fun q => ?_) (fun q => ?_)
    ·
      have h := wp_pos h q
      exact h _
    ·
      have h := wp_neg h q
      refine rs_lldn wi_318_7 l1 ?_
      refine rs_ildn wi_318_8 l3 ?_
      refine rs_pure wi_318_9 rfl ?_
      refine rs_pure wi_318_10 rfl ?_
      refine rs_pure wi_318_11 rfl ?_
      refine rs_topi (v := 255) (by decide) ?_
      refine rs_pure wi_318_14 rfl ?_
      obtain ⟨v4, e5, h⟩ := wp_lt h
      refine rs_topi e5 ?_
      refine dl_ist wi_318_15 rfl (fun lv l4 t3 => ?_)
      have l0 := t3 _ _ (by decide) (Or.inl rfl) l0
      have l1 := t3 _ _ (by decide) (Or.inr (by decide)) l1
      have l3 := t3 _ _ (by decide) (Or.inl rfl) l3
      refine rs_ild wi_318_17 l4 ?_
      refine wp_jn (B := fun p6 : cS => ∀ lv, rx_ld lv 0 = some (.ref 172) → rx_ld lv 1 = some (.long a1) → rx_ld lv 3 = some (.int s2.1) → rs (rt_P sc fm) 318 F Lo 28 lv [] (hq true p6 y w) Q) h (fun p6 h lv l0 l1 l3 => ?_) (fun j28 hj28 h => ?_)
      ·
        obtain ⟨v8, e9, h⟩ := wp_lt h
        refine dl_inc wi_318_28 l3 rfl e9 (fun lv l3 t7 => ?_)
        have l0 := t7 _ _ (by decide) (Or.inl rfl) l0
        have l1 := t7 _ _ (by decide) (Or.inr (by decide)) l1
        refine rs_goto (tg := 3) wi_318_31 ⟨by decide, by decide⟩ ?_
        exact h _ l0 l1 l3
      refine rs_ifeq (tg := 28) wi_318_19 ⟨by decide, by decide⟩ (fun q => ?_) (fun q => ?_)
      ·
        have h := wp_pos h q
        exact hj28 _ h _ l0 l1 l3
      ·
        have h := wp_neg h q
        refine rs_aldn wi_318_22 l0 ?_
        refine rs_ild wi_318_23 l4 ?_
        refine rs_V wi_318_25 wc_318_39 rfl (dq_isa tf_172_0 wa_12_317) (Nat.le_trans (by decide) hF) (ml_le wm_317 (Nat.le_trans (by decide) hLo)) rfl (sp_317 hw (Nat.le_trans (by decide : 0 ≤ 1 - 1) (Nat.sub_le_sub_right hF 1)) (ml_sub wm_317 (Nat.le_trans (by decide : 0 ≤ 21 - 21) (Nat.sub_le_sub_right hLo 21))) (wp_bind h) (fun r10 h => rs_back0 ?_))
        exact hj28 _ h _ l0 l1 l3
  ·
    intro x11 h lv
    exact rs_vret wi_318_34 wr_318 (hQ x11 h)
theorem wa_12_318 : rz_cn 12 (rx_yn (rt_P sc fm) 318).cls = true := (by decide +kernel : rz_cn 12 (rt_yn 318).cls = true)
theorem wc_320_39 : rx_ct (rt_P sc fm) 320 39 = some (0, 317, 1) := (by decide +kernel : rt_ct 320 39 = some (0, 317, 1))
theorem wc_320_47 : rx_ct (rt_P sc fm) 320 47 = some (0, 318, 1) := (by decide +kernel : rt_ct 320 47 = some (0, 318, 1))
theorem wf_320_35 : rx_ft (rt_P sc fm) 320 35 = some (12, 1) := (by decide +kernel : rt_ft 320 35 = some (12, 1))
theorem wi_320_0 : ri (rt_P sc fm) 320 0 (.aload_n 0) (1) := ri_of (by decide +kernel) rfl
theorem wi_320_1 : ri (rt_P sc fm) 320 1 (.getfield 35) (4) := ri_of (by decide +kernel) rfl
theorem wi_320_10 : ri (rt_P sc fm) 320 10 (.invokevirtual 39) (13) := ri_of (by decide +kernel) rfl
theorem wi_320_13 : ri (rt_P sc fm) 320 13 (.aload_n 0) (14) := ri_of (by decide +kernel) rfl
theorem wi_320_14 : ri (rt_P sc fm) 320 14 (.lload_n 1) (15) := ri_of (by decide +kernel) rfl
theorem wi_320_15 : ri (rt_P sc fm) 320 15 (.invokevirtual 47) (18) := ri_of (by decide +kernel) rfl
theorem wi_320_18 : ri (rt_P sc fm) 320 18 (.return_) (19) := ri_of (by decide +kernel) rfl
theorem wi_320_4 : ri (rt_P sc fm) 320 4 (.ifCond .le 9) (7) := ri_of (by decide +kernel) rfl
theorem wi_320_7 : ri (rt_P sc fm) 320 7 (.aload_n 0) (8) := ri_of (by decide +kernel) rfl
theorem wi_320_8 : ri (rt_P sc fm) 320 8 (.bipush 32) (10) := ri_of (by decide +kernel) rfl
theorem wm_318 : rx_ml (rt_P sc fm) 318 = 5 := (by decide +kernel : rt_ml 318 = 5)
theorem wr_320 : rx_rt (rt_P sc fm) 320 = none := (by decide +kernel : rt_rt 320 = none)
/-- MarkHouse$Teller.putName(J)V -/
def d_320 (n : Nat) (a1 : Int64) (c : cS) : Option (cS) :=
  jn (fun p1 : cS =>
    Option.bind (d_318 n a1 p1) (fun r2 =>
    some r2))
  (fun j13 =>
  if (c.1 172 1) ≤ 0 then
    j13 c
  else
    Option.bind (d_317 n 32 c) (fun r3 =>
    j13 r3))
theorem sp_320 {F Lo n : Nat} {a1 : Int64} {c y : cS} {w : cW} {K : cS → Prop} {Q : ((Option Value) ⊕ String) → List va_E → Prop} (hw : rOK fm w) (hF : 2 ≤ F) (hLo : 45 ≤ Lo)  (h : wp (d_320 n a1 c) K) (hQ : ∀ r, K r → Q (.inl none) (hq true r y w)) : rs (rt_P sc fm) 320 F Lo 0 [(0, .ref 172), (1, .long a1)] [] (hq true c y w) Q := by
  unfold d_320 at h
  obtain ⟨lv, elv⟩ : ∃ lv : rx_L, lv = [(0, .ref 172), (1, .long a1)] := ⟨_, rfl⟩
  rw [← elv]
  have l0 : rx_ld lv 0 = some (.ref 172) := by rw [elv]; rfl
  have l1 : rx_ld lv 1 = some (.long a1) := by rw [elv]; rfl
  refine rs_aldn wi_320_0 l0 ?_
  refine dq_gi wi_320_1 wf_320_35 tf_172_1 ?_
  refine wp_jn (B := fun p1 : cS => ∀ lv, rx_ld lv 0 = some (.ref 172) → rx_ld lv 1 = some (.long a1) → rs (rt_P sc fm) 320 F Lo 13 lv [] (hq true p1 y w) Q) h (fun p1 h lv l0 l1 => ?_) (fun j13 hj13 h => ?_)
  ·
    refine rs_aldn wi_320_13 l0 ?_
    refine rs_lldn wi_320_14 l1 ?_
    refine rs_V wi_320_15 wc_320_47 rfl (dq_isa tf_172_0 wa_12_318) (Nat.le_trans (by decide) hF) (ml_le wm_318 (Nat.le_trans (by decide) hLo)) rfl (sp_318 hw (Nat.le_trans (by decide : 1 ≤ 2 - 1) (Nat.sub_le_sub_right hF 1)) (ml_sub wm_318 (Nat.le_trans (by decide : 21 ≤ 45 - 24) (Nat.sub_le_sub_right hLo 24))) (wp_bind h) (fun r2 h => rs_back0 ?_))
    exact rs_vret wi_320_18 wr_320 (hQ r2 h)
  refine rs_ifle (tg := 13) wi_320_4 ⟨by decide, by decide⟩ (fun q => ?_) (fun q => ?_)
  ·
    have h := wp_pos h q
    exact hj13 _ h _ l0 l1
  ·
    have h := wp_neg h q
    refine rs_aldn wi_320_7 l0 ?_
    refine rs_pure wi_320_8 rfl ?_
    refine rs_topi (v := 32) (by decide) ?_
    refine rs_V wi_320_10 wc_320_39 rfl (dq_isa tf_172_0 wa_12_317) (Nat.le_trans (by decide) hF) (ml_le wm_317 (Nat.le_trans (by decide) hLo)) rfl (sp_317 hw (Nat.le_trans (by decide : 0 ≤ 2 - 1) (Nat.sub_le_sub_right hF 1)) (ml_sub wm_317 (Nat.le_trans (by decide : 0 ≤ 45 - 21) (Nat.sub_le_sub_right hLo 21))) (wp_bind h) (fun r3 h => rs_back0 ?_))
    exact hj13 _ h _ l0 l1
theorem tf_172_2 : fo true 172 12 2 (.ref 6) := ⟨_, rfl, rfl, by decide, by decide⟩
theorem wa_12_320 : rz_cn 12 (rx_yn (rt_P sc fm) 320).cls = true := (by decide +kernel : rz_cn 12 (rt_yn 320).cls = true)
theorem wc_321_51 : rx_ct (rt_P sc fm) 321 51 = some (0, 320, 1) := (by decide +kernel : rt_ct 321 51 = some (0, 320, 1))
theorem wf_321_15 : rx_ft (rt_P sc fm) 321 15 = some (12, 2) := (by decide +kernel : rt_ft 321 15 = some (12, 2))
theorem wi_321_0 : ri (rt_P sc fm) 321 0 (.aload_n 0) (1) := ri_of (by decide +kernel) rfl
theorem wi_321_1 : ri (rt_P sc fm) 321 1 (.aload_n 0) (2) := ri_of (by decide +kernel) rfl
theorem wi_321_10 : ri (rt_P sc fm) 321 10 (.laload) (11) := ri_of (by decide +kernel) rfl
theorem wi_321_11 : ri (rt_P sc fm) 321 11 (.invokevirtual 51) (14) := ri_of (by decide +kernel) rfl
theorem wi_321_14 : ri (rt_P sc fm) 321 14 (.return_) (15) := ri_of (by decide +kernel) rfl
theorem wi_321_2 : ri (rt_P sc fm) 321 2 (.getfield 15) (5) := ri_of (by decide +kernel) rfl
theorem wi_321_5 : ri (rt_P sc fm) 321 5 (.iload_n 1) (6) := ri_of (by decide +kernel) rfl
theorem wi_321_6 : ri (rt_P sc fm) 321 6 (.sipush 200) (9) := ri_of (by decide +kernel) rfl
theorem wi_321_9 : ri (rt_P sc fm) 321 9 (.isub) (10) := ri_of (by decide +kernel) rfl
theorem wm_320 : rx_ml (rt_P sc fm) 320 = 3 := (by decide +kernel : rt_ml 320 = 3)
theorem wr_321 : rx_rt (rt_P sc fm) 321 = none := (by decide +kernel : rt_rt 321 = none)
/-- MarkHouse$Teller.putWord(I)V -/
def d_321 (n : Nat) (a1 : Int32) (c : cS) : Option (cS) :=
  if ib (a1 - 200) 31 then
  Option.bind (d_320 n (c.2 6 (ix (a1 - 200))) c) (fun r2 =>
  some r2)
  else none
theorem sp_321 {F Lo n : Nat} {a1 : Int32} {c y : cS} {w : cW} {K : cS → Prop} {Q : ((Option Value) ⊕ String) → List va_E → Prop} (hw : rOK fm w) (hF : 3 ≤ F) (hLo : 67 ≤ Lo)  (h : wp (d_321 n a1 c) K) (hQ : ∀ r, K r → Q (.inl none) (hq true r y w)) : rs (rt_P sc fm) 321 F Lo 0 [(0, .ref 172), (1, .int a1)] [] (hq true c y w) Q := by
  unfold d_321 at h
  obtain ⟨lv, elv⟩ : ∃ lv : rx_L, lv = [(0, .ref 172), (1, .int a1)] := ⟨_, rfl⟩
  rw [← elv]
  have l0 : rx_ld lv 0 = some (.ref 172) := by rw [elv]; rfl
  have l1 : rx_ld lv 1 = some (.int a1) := by rw [elv]; rfl
  refine rs_aldn wi_321_0 l0 ?_
  refine rs_aldn wi_321_1 l0 ?_
  refine dq_gr wi_321_2 wf_321_15 tf_172_2 ?_
  refine rs_ildn wi_321_5 l1 ?_
  refine rs_pure wi_321_6 rfl ?_
  refine rs_topi (v := 200) (by decide) ?_
  refine rs_pure wi_321_9 rfl ?_
  obtain ⟨g1, h⟩ := wp_gd h
  refine dq_lald wi_321_10 t_6 g1 ?_
  refine rs_V wi_321_11 wc_321_51 rfl (dq_isa tf_172_0 wa_12_320) (Nat.le_trans (by decide) hF) (ml_le wm_320 (Nat.le_trans (by decide) hLo)) rfl (sp_320 hw (Nat.le_trans (by decide : 2 ≤ 3 - 1) (Nat.sub_le_sub_right hF 1)) (ml_sub wm_320 (Nat.le_trans (by decide : 45 ≤ 67 - 22) (Nat.sub_le_sub_right hLo 22))) (wp_bind h) (fun r2 h => rs_back0 ?_))
  exact rs_vret wi_321_14 wr_321 (hQ r2 h)
theorem wc_322_39 : rx_ct (rt_P sc fm) 322 39 = some (0, 317, 1) := (by decide +kernel : rt_ct 322 39 = some (0, 317, 1))
theorem wf_322_35 : rx_ft (rt_P sc fm) 322 35 = some (12, 1) := (by decide +kernel : rt_ft 322 35 = some (12, 1))
theorem wi_322_0 : ri (rt_P sc fm) 322 0 (.aload_n 0) (1) := ri_of (by decide +kernel) rfl
theorem wi_322_1 : ri (rt_P sc fm) 322 1 (.getfield 35) (4) := ri_of (by decide +kernel) rfl
theorem wi_322_10 : ri (rt_P sc fm) 322 10 (.invokevirtual 39) (13) := ri_of (by decide +kernel) rfl
theorem wi_322_13 : ri (rt_P sc fm) 322 13 (.aload_n 0) (14) := ri_of (by decide +kernel) rfl
theorem wi_322_14 : ri (rt_P sc fm) 322 14 (.iload_n 1) (15) := ri_of (by decide +kernel) rfl
theorem wi_322_15 : ri (rt_P sc fm) 322 15 (.invokevirtual 39) (18) := ri_of (by decide +kernel) rfl
theorem wi_322_18 : ri (rt_P sc fm) 322 18 (.return_) (19) := ri_of (by decide +kernel) rfl
theorem wi_322_4 : ri (rt_P sc fm) 322 4 (.ifCond .le 9) (7) := ri_of (by decide +kernel) rfl
theorem wi_322_7 : ri (rt_P sc fm) 322 7 (.aload_n 0) (8) := ri_of (by decide +kernel) rfl
theorem wi_322_8 : ri (rt_P sc fm) 322 8 (.bipush 32) (10) := ri_of (by decide +kernel) rfl
theorem wr_322 : rx_rt (rt_P sc fm) 322 = none := (by decide +kernel : rt_rt 322 = none)
/-- MarkHouse$Teller.putSign(C)V -/
def d_322 (n : Nat) (a1 : Int32) (c : cS) : Option (cS) :=
  jn (fun p1 : cS =>
    Option.bind (d_317 n a1 p1) (fun r2 =>
    some r2))
  (fun j13 =>
  if (c.1 172 1) ≤ 0 then
    j13 c
  else
    Option.bind (d_317 n 32 c) (fun r3 =>
    j13 r3))
theorem sp_322 {F Lo n : Nat} {a1 : Int32} {c y : cS} {w : cW} {K : cS → Prop} {Q : ((Option Value) ⊕ String) → List va_E → Prop} (hw : rOK fm w) (hF : 1 ≤ F) (hLo : 21 ≤ Lo)  (h : wp (d_322 n a1 c) K) (hQ : ∀ r, K r → Q (.inl none) (hq true r y w)) : rs (rt_P sc fm) 322 F Lo 0 [(0, .ref 172), (1, .int a1)] [] (hq true c y w) Q := by
  unfold d_322 at h
  obtain ⟨lv, elv⟩ : ∃ lv : rx_L, lv = [(0, .ref 172), (1, .int a1)] := ⟨_, rfl⟩
  rw [← elv]
  have l0 : rx_ld lv 0 = some (.ref 172) := by rw [elv]; rfl
  have l1 : rx_ld lv 1 = some (.int a1) := by rw [elv]; rfl
  refine rs_aldn wi_322_0 l0 ?_
  refine dq_gi wi_322_1 wf_322_35 tf_172_1 ?_
  refine wp_jn (B := fun p1 : cS => ∀ lv, rx_ld lv 0 = some (.ref 172) → rx_ld lv 1 = some (.int a1) → rs (rt_P sc fm) 322 F Lo 13 lv [] (hq true p1 y w) Q) h (fun p1 h lv l0 l1 => ?_) (fun j13 hj13 h => ?_)
  ·
    refine rs_aldn wi_322_13 l0 ?_
    refine rs_ildn wi_322_14 l1 ?_
    refine rs_V wi_322_15 wc_322_39 rfl (dq_isa tf_172_0 wa_12_317) (Nat.le_trans (by decide) hF) (ml_le wm_317 (Nat.le_trans (by decide) hLo)) rfl (sp_317 hw (Nat.le_trans (by decide : 0 ≤ 1 - 1) (Nat.sub_le_sub_right hF 1)) (ml_sub wm_317 (Nat.le_trans (by decide : 0 ≤ 21 - 21) (Nat.sub_le_sub_right hLo 21))) (wp_bind h) (fun r2 h => rs_back0 ?_))
    exact rs_vret wi_322_18 wr_322 (hQ r2 h)
  refine rs_ifle (tg := 13) wi_322_4 ⟨by decide, by decide⟩ (fun q => ?_) (fun q => ?_)
  ·
    have h := wp_pos h q
    exact hj13 _ h _ l0 l1
  ·
    have h := wp_neg h q
    refine rs_aldn wi_322_7 l0 ?_
    refine rs_pure wi_322_8 rfl ?_
    refine rs_topi (v := 32) (by decide) ?_
    refine rs_V wi_322_10 wc_322_39 rfl (dq_isa tf_172_0 wa_12_317) (Nat.le_trans (by decide) hF) (ml_le wm_317 (Nat.le_trans (by decide) hLo)) rfl (sp_317 hw (Nat.le_trans (by decide : 0 ≤ 1 - 1) (Nat.sub_le_sub_right hF 1)) (ml_sub wm_317 (Nat.le_trans (by decide : 0 ≤ 21 - 21) (Nat.sub_le_sub_right hLo 21))) (wp_bind h) (fun r3 h => rs_back0 ?_))
    exact hj13 _ h _ l0 l1
theorem wc_240_36 : rx_ct (rt_P sc fm) 240 36 = some (0, 237, 2) := (by decide +kernel : rt_ct 240 36 = some (0, 237, 2))
theorem wf_240_15 : rx_ft (rt_P sc fm) 240 15 = some (8, 5) := (by decide +kernel : rt_ft 240 15 = some (8, 5))
theorem wf_240_19 : rx_ft (rt_P sc fm) 240 19 = some (8, 6) := (by decide +kernel : rt_ft 240 19 = some (8, 6))
theorem wi_240_0 : ri (rt_P sc fm) 240 0 (.iload_n 1) (1) := ri_of (by decide +kernel) rfl
theorem wi_240_1 : ri (rt_P sc fm) 240 1 (.iload_n 2) (2) := ri_of (by decide +kernel) rfl
theorem wi_240_11 : ri (rt_P sc fm) 240 11 (.ifCond .eq 30) (14) := ri_of (by decide +kernel) rfl
theorem wi_240_14 : ri (rt_P sc fm) 240 14 (.aload_n 0) (15) := ri_of (by decide +kernel) rfl
theorem wi_240_15 : ri (rt_P sc fm) 240 15 (.getfield 15) (18) := ri_of (by decide +kernel) rfl
theorem wi_240_18 : ri (rt_P sc fm) 240 18 (.iload_n 1) (19) := ri_of (by decide +kernel) rfl
theorem wi_240_19 : ri (rt_P sc fm) 240 19 (.iaload) (20) := ri_of (by decide +kernel) rfl
theorem wi_240_2 : ri (rt_P sc fm) 240 2 (.if_icmp .eq 39) (5) := ri_of (by decide +kernel) rfl
theorem wi_240_20 : ri (rt_P sc fm) 240 20 (.aload_n 0) (21) := ri_of (by decide +kernel) rfl
theorem wi_240_21 : ri (rt_P sc fm) 240 21 (.getfield 19) (24) := ri_of (by decide +kernel) rfl
theorem wi_240_24 : ri (rt_P sc fm) 240 24 (.iload_n 2) (25) := ri_of (by decide +kernel) rfl
theorem wi_240_25 : ri (rt_P sc fm) 240 25 (.iaload) (26) := ri_of (by decide +kernel) rfl
theorem wi_240_26 : ri (rt_P sc fm) 240 26 (.iand) (27) := ri_of (by decide +kernel) rfl
theorem wi_240_27 : ri (rt_P sc fm) 240 27 (.iconst 1) (28) := ri_of (by decide +kernel) rfl
theorem wi_240_28 : ri (rt_P sc fm) 240 28 (.iload_n 1) (29) := ri_of (by decide +kernel) rfl
theorem wi_240_29 : ri (rt_P sc fm) 240 29 (.ishl) (30) := ri_of (by decide +kernel) rfl
theorem wi_240_30 : ri (rt_P sc fm) 240 30 (.iconst 1) (31) := ri_of (by decide +kernel) rfl
theorem wi_240_31 : ri (rt_P sc fm) 240 31 (.iload_n 2) (32) := ri_of (by decide +kernel) rfl
theorem wi_240_32 : ri (rt_P sc fm) 240 32 (.ishl) (33) := ri_of (by decide +kernel) rfl
theorem wi_240_33 : ri (rt_P sc fm) 240 33 (.ior) (34) := ri_of (by decide +kernel) rfl
theorem wi_240_34 : ri (rt_P sc fm) 240 34 (.if_icmp .ne 7) (37) := ri_of (by decide +kernel) rfl
theorem wi_240_37 : ri (rt_P sc fm) 240 37 (.iconst 1) (38) := ri_of (by decide +kernel) rfl
theorem wi_240_38 : ri (rt_P sc fm) 240 38 (.goto 4) (41) := ri_of (by decide +kernel) rfl
theorem wi_240_41 : ri (rt_P sc fm) 240 41 (.iconst 0) (42) := ri_of (by decide +kernel) rfl
theorem wi_240_42 : ri (rt_P sc fm) 240 42 (.ireturn) (43) := ri_of (by decide +kernel) rfl
theorem wi_240_5 : ri (rt_P sc fm) 240 5 (.aload_n 0) (6) := ri_of (by decide +kernel) rfl
theorem wi_240_6 : ri (rt_P sc fm) 240 6 (.iload_n 1) (7) := ri_of (by decide +kernel) rfl
theorem wi_240_7 : ri (rt_P sc fm) 240 7 (.iload_n 2) (8) := ri_of (by decide +kernel) rfl
theorem wi_240_8 : ri (rt_P sc fm) 240 8 (.invokevirtual 36) (11) := ri_of (by decide +kernel) rfl
theorem wr_240 : rx_rt (rt_P sc fm) 240 = (some FieldType.boolean) := (by decide +kernel : rt_rt 240 = (some FieldType.boolean))
/-- MarkHouse$Order.isNextBelow(II)Z -/
def d_240 (n : Nat) (o0 : Nat) (a1 : Int32) (a2 : Int32) (c : cS) : Option (Int32) :=
  jn (fun p1 : Int32 =>
    if nb p1 then
    some p1
    else none)
  (fun j42 =>
  jn (fun p3 : Unit =>
    j42 0)
  (fun j41 =>
  if a1 = a2 then
    j41 ()
  else
    Option.bind (d_237 n o0 a1 a2 c) (fun v4 =>
    if v4 = 0 then
      j41 ()
    else
      if ib a1 12 then
      if ib a2 12 then
      if ((c.1 (oA o0 + 2) (ix a1)) &&& (c.1 (oA o0 + 3) (ix a2))) = ((1 <<< (a1 &&& 31)) ||| (1 <<< (a2 &&& 31))) then
        j42 1
      else
        j41 ()
      else none
      else none)))
theorem sp_240 {F Lo n : Nat} {o0 : Nat} {a1 : Int32} {a2 : Int32} {c y : cS} {w : cW} {K : Int32 → Prop} {Q : ((Option Value) ⊕ String) → List va_E → Prop} (hw : rOK fm w) (hF : 1 ≤ F) (hLo : 22 ≤ Lo) (ho0 : o0 < 4) (h : wp (d_240 n o0 a1 a2 c) K) (hQ : ∀ r, K r → Q (.inl (some (.int r))) (hq true c y w)) : rs (rt_P sc fm) 240 F Lo 0 [(0, .ref (oA o0)), (1, .int a1), (2, .int a2)] [] (hq true c y w) Q := by
  unfold d_240 at h
  obtain ⟨lv, elv⟩ : ∃ lv : rx_L, lv = [(0, .ref (oA o0)), (1, .int a1), (2, .int a2)] := ⟨_, rfl⟩
  rw [← elv]
  have l0 : rx_ld lv 0 = some (.ref (oA o0)) := by rw [elv]; rfl
  have l1 : rx_ld lv 1 = some (.int a1) := by rw [elv]; rfl
  have l2 : rx_ld lv 2 = some (.int a2) := by rw [elv]; rfl
  refine rs_ildn wi_240_0 l1 ?_
  refine rs_ildn wi_240_1 l2 ?_
  refine wp_jn (B := fun p1 : Int32 => ∀ lv, rs (rt_P sc fm) 240 F Lo 42 lv [.int p1] (hq true c y w) Q) h (fun p1 h lv => ?_) (fun j42 hj42 h => ?_)
  ·
    obtain ⟨g2, h⟩ := wp_gd h
    exact rs_iret wi_240_42 wr_240 (nb_n g2) (hQ p1 h)
  refine wp_jn (B := fun p3 : Unit => ∀ lv, rs (rt_P sc fm) 240 F Lo 41 lv [] (hq true c y w) Q) h (fun p3 h lv => ?_) (fun j41 hj41 h => ?_)
  ·
    refine rs_pure wi_240_41 rfl ?_
    refine rs_topi (v := 0) (by decide) ?_
    exact hj42 _ h _
  refine rs_iceq (tg := 41) wi_240_2 ⟨by decide, by decide⟩ (fun q => ?_) (fun q => ?_)
  ·
    have h := wp_pos h q
    exact hj41 _ h _
  ·
    have h := wp_neg h q
    refine rs_aldn wi_240_5 l0 ?_
    refine rs_ildn wi_240_6 l1 ?_
    refine rs_ildn wi_240_7 l2 ?_
    refine rs_V wi_240_8 wc_240_36 rfl (dq_isa (fO_0 ho0) wa_8_237) (Nat.le_trans (by decide) hF) (ml_le wm_237 (Nat.le_trans (by decide) hLo)) rfl (sp_237 hw (Nat.le_trans (by decide : 0 ≤ 1 - 1) (Nat.sub_le_sub_right hF 1)) (ml_sub wm_237 (Nat.le_trans (by decide : 0 ≤ 22 - 22) (Nat.sub_le_sub_right hLo 22))) ho0 (wp_bind h) (fun v4 h => rs_back1 ?_))
    refine rs_ifeq (tg := 41) wi_240_11 ⟨by decide, by decide⟩ (fun q => ?_) (fun q => ?_)
    ·
      have h := wp_pos h q
      exact hj41 _ h _
    ·
      have h := wp_neg h q
      refine rs_aldn wi_240_14 l0 ?_
      refine dq_gr wi_240_15 wf_240_15 (fO_5 ho0) ?_
      refine rs_ildn wi_240_18 l1 ?_
      obtain ⟨g5, h⟩ := wp_gd h
      refine dq_iald wi_240_19 (tO_2 ho0) g5 ?_
      refine rs_aldn wi_240_20 l0 ?_
      refine dq_gr wi_240_21 wf_240_19 (fO_6 ho0) ?_
      refine rs_ildn wi_240_24 l2 ?_
      obtain ⟨g6, h⟩ := wp_gd h
      refine dq_iald wi_240_25 (tO_3 ho0) g6 ?_
      refine rs_pure wi_240_26 rfl ?_
      refine rs_pure wi_240_27 rfl ?_
      refine rs_topi (v := 1) (by decide) ?_
      refine rs_ildn wi_240_28 l1 ?_
      refine rs_pure wi_240_29 rfl ?_
      refine rs_pure wi_240_30 rfl ?_
      refine rs_topi (v := 1) (by decide) ?_
      refine rs_ildn wi_240_31 l2 ?_
      refine rs_pure wi_240_32 rfl ?_
      refine rs_pure wi_240_33 rfl ?_
      refine rs_icne (tg := 41) wi_240_34 ⟨by decide, by decide⟩ (fun q => ?_) (fun q => ?_)
      ·
        have h := wp_neg h q
        exact hj41 _ h _
      ·
        have h := wp_pos h q
        refine rs_pure wi_240_37 rfl ?_
        refine rs_topi (v := 1) (by decide) ?_
        refine rs_goto (tg := 42) wi_240_38 ⟨by decide, by decide⟩ ?_
        exact hj42 _ h _
theorem wa_12_321 : rz_cn 12 (rx_yn (rt_P sc fm) 321).cls = true := (by decide +kernel : rz_cn 12 (rt_yn 321).cls = true)
theorem wa_12_322 : rz_cn 12 (rx_yn (rt_P sc fm) 322).cls = true := (by decide +kernel : rz_cn 12 (rt_yn 322).cls = true)
theorem wa_8_240 : rz_cn 8 (rx_yn (rt_P sc fm) 240).cls = true := (by decide +kernel : rz_cn 8 (rt_yn 240).cls = true)
theorem wc_325_140 : rx_ct (rt_P sc fm) 325 140 = some (0, 240, 2) := (by decide +kernel : rt_ct 325 140 = some (0, 240, 2))
theorem wc_325_51 : rx_ct (rt_P sc fm) 325 51 = some (0, 320, 1) := (by decide +kernel : rt_ct 325 51 = some (0, 320, 1))
theorem wc_325_54 : rx_ct (rt_P sc fm) 325 54 = some (0, 322, 1) := (by decide +kernel : rt_ct 325 54 = some (0, 322, 1))
theorem wc_325_88 : rx_ct (rt_P sc fm) 325 88 = some (0, 321, 1) := (by decide +kernel : rt_ct 325 88 = some (0, 321, 1))
theorem wf_325_131 : rx_ft (rt_P sc fm) 325 131 = some (8, 0) := (by decide +kernel : rt_ft 325 131 = some (8, 0))
theorem wf_325_134 : rx_ft (rt_P sc fm) 325 134 = some (8, 1) := (by decide +kernel : rt_ft 325 134 = some (8, 1))
theorem wf_325_137 : rx_ft (rt_P sc fm) 325 137 = some (8, 4) := (by decide +kernel : rt_ft 325 137 = some (8, 4))
theorem wi_325_0 : ri (rt_P sc fm) 325 0 (.aload_n 0) (1) := ri_of (by decide +kernel) rfl
theorem wi_325_1 : ri (rt_P sc fm) 325 1 (.sipush 200) (4) := ri_of (by decide +kernel) rfl
theorem wi_325_101 : ri (rt_P sc fm) 325 101 (.aload_n 0) (102) := ri_of (by decide +kernel) rfl
theorem wi_325_102 : ri (rt_P sc fm) 325 102 (.bipush 60) (104) := ri_of (by decide +kernel) rfl
theorem wi_325_104 : ri (rt_P sc fm) 325 104 (.invokevirtual 54) (107) := ri_of (by decide +kernel) rfl
theorem wi_325_107 : ri (rt_P sc fm) 325 107 (.aload_n 0) (108) := ri_of (by decide +kernel) rfl
theorem wi_325_108 : ri (rt_P sc fm) 325 108 (.aload_n 1) (109) := ri_of (by decide +kernel) rfl
theorem wi_325_109 : ri (rt_P sc fm) 325 109 (.getfield 137) (112) := ri_of (by decide +kernel) rfl
theorem wi_325_112 : ri (rt_P sc fm) 325 112 (.iload_n 3) (113) := ri_of (by decide +kernel) rfl
theorem wi_325_113 : ri (rt_P sc fm) 325 113 (.laload) (114) := ri_of (by decide +kernel) rfl
theorem wi_325_114 : ri (rt_P sc fm) 325 114 (.invokevirtual 51) (117) := ri_of (by decide +kernel) rfl
theorem wi_325_117 : ri (rt_P sc fm) 325 117 (.iinc 3 1) (120) := ri_of (by decide +kernel) rfl
theorem wi_325_12 : ri (rt_P sc fm) 325 12 (.invokevirtual 51) (15) := ri_of (by decide +kernel) rfl
theorem wi_325_120 : ri (rt_P sc fm) 325 120 (.goto (-52)) (123) := ri_of (by decide +kernel) rfl
theorem wi_325_123 : ri (rt_P sc fm) 325 123 (.iinc 2 1) (126) := ri_of (by decide +kernel) rfl
theorem wi_325_126 : ri (rt_P sc fm) 325 126 (.goto (-68)) (129) := ri_of (by decide +kernel) rfl
theorem wi_325_129 : ri (rt_P sc fm) 325 129 (.aload_n 0) (130) := ri_of (by decide +kernel) rfl
theorem wi_325_130 : ri (rt_P sc fm) 325 130 (.bipush 59) (132) := ri_of (by decide +kernel) rfl
theorem wi_325_132 : ri (rt_P sc fm) 325 132 (.invokevirtual 54) (135) := ri_of (by decide +kernel) rfl
theorem wi_325_135 : ri (rt_P sc fm) 325 135 (.return_) (136) := ri_of (by decide +kernel) rfl
theorem wi_325_15 : ri (rt_P sc fm) 325 15 (.iconst 0) (16) := ri_of (by decide +kernel) rfl
theorem wi_325_16 : ri (rt_P sc fm) 325 16 (.istore_n 2) (17) := ri_of (by decide +kernel) rfl
theorem wi_325_17 : ri (rt_P sc fm) 325 17 (.iload_n 2) (18) := ri_of (by decide +kernel) rfl
theorem wi_325_18 : ri (rt_P sc fm) 325 18 (.aload_n 1) (19) := ri_of (by decide +kernel) rfl
theorem wi_325_19 : ri (rt_P sc fm) 325 19 (.getfield 134) (22) := ri_of (by decide +kernel) rfl
theorem wi_325_22 : ri (rt_P sc fm) 325 22 (.if_icmp .ge 34) (25) := ri_of (by decide +kernel) rfl
theorem wi_325_25 : ri (rt_P sc fm) 325 25 (.aload_n 0) (26) := ri_of (by decide +kernel) rfl
theorem wi_325_26 : ri (rt_P sc fm) 325 26 (.iload_n 2) (27) := ri_of (by decide +kernel) rfl
theorem wi_325_27 : ri (rt_P sc fm) 325 27 (.ifCond .ne 8) (30) := ri_of (by decide +kernel) rfl
theorem wi_325_30 : ri (rt_P sc fm) 325 30 (.bipush 58) (32) := ri_of (by decide +kernel) rfl
theorem wi_325_32 : ri (rt_P sc fm) 325 32 (.goto 5) (35) := ri_of (by decide +kernel) rfl
theorem wi_325_35 : ri (rt_P sc fm) 325 35 (.bipush 44) (37) := ri_of (by decide +kernel) rfl
theorem wi_325_37 : ri (rt_P sc fm) 325 37 (.invokevirtual 54) (40) := ri_of (by decide +kernel) rfl
theorem wi_325_4 : ri (rt_P sc fm) 325 4 (.invokevirtual 88) (7) := ri_of (by decide +kernel) rfl
theorem wi_325_40 : ri (rt_P sc fm) 325 40 (.aload_n 0) (41) := ri_of (by decide +kernel) rfl
theorem wi_325_41 : ri (rt_P sc fm) 325 41 (.aload_n 1) (42) := ri_of (by decide +kernel) rfl
theorem wi_325_42 : ri (rt_P sc fm) 325 42 (.getfield 137) (45) := ri_of (by decide +kernel) rfl
theorem wi_325_45 : ri (rt_P sc fm) 325 45 (.iload_n 2) (46) := ri_of (by decide +kernel) rfl
theorem wi_325_46 : ri (rt_P sc fm) 325 46 (.laload) (47) := ri_of (by decide +kernel) rfl
theorem wi_325_47 : ri (rt_P sc fm) 325 47 (.invokevirtual 51) (50) := ri_of (by decide +kernel) rfl
theorem wi_325_50 : ri (rt_P sc fm) 325 50 (.iinc 2 1) (53) := ri_of (by decide +kernel) rfl
theorem wi_325_53 : ri (rt_P sc fm) 325 53 (.goto (-36)) (56) := ri_of (by decide +kernel) rfl
theorem wi_325_56 : ri (rt_P sc fm) 325 56 (.iconst 0) (57) := ri_of (by decide +kernel) rfl
theorem wi_325_57 : ri (rt_P sc fm) 325 57 (.istore_n 2) (58) := ri_of (by decide +kernel) rfl
theorem wi_325_58 : ri (rt_P sc fm) 325 58 (.iload_n 2) (59) := ri_of (by decide +kernel) rfl
theorem wi_325_59 : ri (rt_P sc fm) 325 59 (.aload_n 1) (60) := ri_of (by decide +kernel) rfl
theorem wi_325_60 : ri (rt_P sc fm) 325 60 (.getfield 134) (63) := ri_of (by decide +kernel) rfl
theorem wi_325_63 : ri (rt_P sc fm) 325 63 (.if_icmp .ge 66) (66) := ri_of (by decide +kernel) rfl
theorem wi_325_66 : ri (rt_P sc fm) 325 66 (.iconst 0) (67) := ri_of (by decide +kernel) rfl
theorem wi_325_67 : ri (rt_P sc fm) 325 67 (.istore_n 3) (68) := ri_of (by decide +kernel) rfl
theorem wi_325_68 : ri (rt_P sc fm) 325 68 (.iload_n 3) (69) := ri_of (by decide +kernel) rfl
theorem wi_325_69 : ri (rt_P sc fm) 325 69 (.aload_n 1) (70) := ri_of (by decide +kernel) rfl
theorem wi_325_7 : ri (rt_P sc fm) 325 7 (.aload_n 0) (8) := ri_of (by decide +kernel) rfl
theorem wi_325_70 : ri (rt_P sc fm) 325 70 (.getfield 134) (73) := ri_of (by decide +kernel) rfl
theorem wi_325_73 : ri (rt_P sc fm) 325 73 (.if_icmp .ge 50) (76) := ri_of (by decide +kernel) rfl
theorem wi_325_76 : ri (rt_P sc fm) 325 76 (.aload_n 1) (77) := ri_of (by decide +kernel) rfl
theorem wi_325_77 : ri (rt_P sc fm) 325 77 (.iload_n 2) (78) := ri_of (by decide +kernel) rfl
theorem wi_325_78 : ri (rt_P sc fm) 325 78 (.iload_n 3) (79) := ri_of (by decide +kernel) rfl
theorem wi_325_79 : ri (rt_P sc fm) 325 79 (.invokevirtual 140) (82) := ri_of (by decide +kernel) rfl
theorem wi_325_8 : ri (rt_P sc fm) 325 8 (.aload_n 1) (9) := ri_of (by decide +kernel) rfl
theorem wi_325_82 : ri (rt_P sc fm) 325 82 (.ifCond .eq 35) (85) := ri_of (by decide +kernel) rfl
theorem wi_325_85 : ri (rt_P sc fm) 325 85 (.aload_n 0) (86) := ri_of (by decide +kernel) rfl
theorem wi_325_86 : ri (rt_P sc fm) 325 86 (.bipush 44) (88) := ri_of (by decide +kernel) rfl
theorem wi_325_88 : ri (rt_P sc fm) 325 88 (.invokevirtual 54) (91) := ri_of (by decide +kernel) rfl
theorem wi_325_9 : ri (rt_P sc fm) 325 9 (.getfield 131) (12) := ri_of (by decide +kernel) rfl
theorem wi_325_91 : ri (rt_P sc fm) 325 91 (.aload_n 0) (92) := ri_of (by decide +kernel) rfl
theorem wi_325_92 : ri (rt_P sc fm) 325 92 (.aload_n 1) (93) := ri_of (by decide +kernel) rfl
theorem wi_325_93 : ri (rt_P sc fm) 325 93 (.getfield 137) (96) := ri_of (by decide +kernel) rfl
theorem wi_325_96 : ri (rt_P sc fm) 325 96 (.iload_n 2) (97) := ri_of (by decide +kernel) rfl
theorem wi_325_97 : ri (rt_P sc fm) 325 97 (.laload) (98) := ri_of (by decide +kernel) rfl
theorem wi_325_98 : ri (rt_P sc fm) 325 98 (.invokevirtual 51) (101) := ri_of (by decide +kernel) rfl
theorem wm_240 : rx_ml (rt_P sc fm) 240 = 3 := (by decide +kernel : rt_ml 240 = 3)
theorem wm_321 : rx_ml (rt_P sc fm) 321 = 2 := (by decide +kernel : rt_ml 321 = 2)
theorem wm_322 : rx_ml (rt_P sc fm) 322 = 2 := (by decide +kernel : rt_ml 322 = 2)
theorem wr_325 : rx_rt (rt_P sc fm) 325 = none := (by decide +kernel : rt_rt 325 = none)
/-- MarkHouse$Teller.writeOrder(LMarkHouse$Order;)V -/
def d_325 (n : Nat) (o1 : Nat) (c : cS) : Option (cS) :=
  Option.bind (d_321 n 200 c) (fun r1 =>
  Option.bind (d_320 n (r1.2 (oA o1) 0) r1) (fun r2 =>
  Option.bind (whl (R := (cS)) (fun s4 : Int32 × cS =>
    if (s4.2.1 (oA o1) 1) ≤ s4.1 then
      some (.inr s4.2)
    else
      jn (fun p5 : Int32 =>
        Option.bind (d_322 n p5 s4.2) (fun r6 =>
        if ib s4.1 12 then
        Option.bind (d_320 n (r6.2 (oA o1 + 1) (ix s4.1)) r6) (fun r8 =>
        lt (s4.1 + 1 : Int32) (fun v10 =>
        some (.inl (v10, r8))))
        else none))
      (fun j37 =>
      if s4.1 = 0 then
        j37 58
      else
        j37 44)) n (0, r2))
  (fun x12 : cS =>
    Option.bind (whl (R := (cS)) (fun s14 : Int32 × cS =>
      if (s14.2.1 (oA o1) 1) ≤ s14.1 then
        some (.inr s14.2)
      else
        Option.bind (whl (R := (cS)) (fun s16 : Int32 × cS =>
          if (s16.2.1 (oA o1) 1) ≤ s16.1 then
            some (.inr s16.2)
          else
            Option.bind (d_240 n o1 s14.1 s16.1 s16.2) (fun v17 =>
            jn (fun p18 : cS =>
              lt (s16.1 + 1 : Int32) (fun v20 =>
              some (.inl (v20, p18))))
            (fun j117 =>
            if v17 = 0 then
              j117 s16.2
            else
              Option.bind (d_322 n 44 s16.2) (fun r22 =>
              if ib s14.1 12 then
              Option.bind (d_320 n (r22.2 (oA o1 + 1) (ix s14.1)) r22) (fun r24 =>
              Option.bind (d_322 n 60 r24) (fun r25 =>
              if ib s16.1 12 then
              Option.bind (d_320 n (r25.2 (oA o1 + 1) (ix s16.1)) r25) (fun r27 =>
              j117 r27)
              else none))
              else none)))) n (0, s14.2))
        (fun x28 : cS =>
          lt (s14.1 + 1 : Int32) (fun v30 =>
          some (.inl (v30, x28))))) n (0, x12))
    (fun x32 : cS =>
      Option.bind (d_322 n 59 x32) (fun r33 =>
      some r33)))))
theorem sp_325 {F Lo n : Nat} {o1 : Nat} {c y : cS} {w : cW} {K : cS → Prop} {Q : ((Option Value) ⊕ String) → List va_E → Prop} (hw : rOK fm w) (hF : 4 ≤ F) (hLo : 88 ≤ Lo) (ho1 : o1 < 4) (h : wp (d_325 n o1 c) K) (hQ : ∀ r, K r → Q (.inl none) (hq true r y w)) : rs (rt_P sc fm) 325 F Lo 0 [(0, .ref 172), (1, .ref (oA o1))] [] (hq true c y w) Q := by
  unfold d_325 at h
  obtain ⟨lv, elv⟩ : ∃ lv : rx_L, lv = [(0, .ref 172), (1, .ref (oA o1))] := ⟨_, rfl⟩
  rw [← elv]
  have l0 : rx_ld lv 0 = some (.ref 172) := by rw [elv]; rfl
  have l1 : rx_ld lv 1 = some (.ref (oA o1)) := by rw [elv]; rfl
  refine rs_aldn wi_325_0 l0 ?_
  refine rs_pure wi_325_1 rfl ?_
  refine rs_topi (v := 200) (by decide) ?_
  refine rs_V wi_325_4 wc_325_88 rfl (dq_isa tf_172_0 wa_12_321) (Nat.le_trans (by decide) hF) (ml_le wm_321 (Nat.le_trans (by decide) hLo)) rfl (sp_321 hw (Nat.le_trans (by decide : 3 ≤ 4 - 1) (Nat.sub_le_sub_right hF 1)) (ml_sub wm_321 (Nat.le_trans (by decide : 67 ≤ 88 - 21) (Nat.sub_le_sub_right hLo 21))) (wp_bind h) (fun r1 h => rs_back0 ?_))
  refine rs_aldn wi_325_7 l0 ?_
  refine rs_aldn wi_325_8 l1 ?_
  refine dq_gl wi_325_9 wf_325_131 (fO_0 ho1) ?_
  refine rs_V wi_325_12 wc_325_51 rfl (dq_isa tf_172_0 wa_12_320) (Nat.le_trans (by decide) hF) (ml_le wm_320 (Nat.le_trans (by decide) hLo)) rfl (sp_320 hw (Nat.le_trans (by decide : 2 ≤ 4 - 1) (Nat.sub_le_sub_right hF 1)) (ml_sub wm_320 (Nat.le_trans (by decide : 45 ≤ 88 - 22) (Nat.sub_le_sub_right hLo 22))) (wp_bind h) (fun r2 h => rs_back0 ?_))
  refine rs_pure wi_325_15 rfl ?_
  refine rs_topi (v := 0) (by decide) ?_
  refine dl_istn wi_325_16 rfl (fun lv l2 t3 => ?_)
  have l0 := t3 _ _ (by decide) (Or.inl rfl) l0
  have l1 := t3 _ _ (by decide) (Or.inl rfl) l1
  refine whl_ex (A := fun s4 : Int32 × cS => ∀ lv, rx_ld lv 0 = some (.ref 172) → rx_ld lv 1 = some (.ref (oA o1)) → rx_ld lv 2 = some (.int s4.1) → rs (rt_P sc fm) 325 F Lo 17 lv [] (hq true s4.2 y w) Q) (B := (fun x12 : cS => ∀ lv, rx_ld lv 0 = some (.ref 172) → rx_ld lv 1 = some (.ref (oA o1)) → rs (rt_P sc fm) 325 F Lo 56 lv [] (hq true x12 y w) Q)) ?_ ?_ _ _ (wp_bind h) _ l0 l1 l2
  · intro s4 h lv l0 l1 l2
    refine rs_ildn wi_325_17 l2 ?_
    refine rs_aldn wi_325_18 l1 ?_
    refine dq_gi wi_325_19 wf_325_134 (fO_1 ho1) ?_
    refine rs_icge (tg := 56) wi_325_22 ⟨by decide, by decide⟩ (fun q => ?_) (fun q => ?_)
    ·
      have h := wp_pos h q
      exact h _ l0 l1
    ·
      have h := wp_neg h q
      refine rs_aldn wi_325_25 l0 ?_
      refine rs_ildn wi_325_26 l2 ?_
      refine wp_jn (B := fun p5 : Int32 => ∀ lv, rx_ld lv 0 = some (.ref 172) → rx_ld lv 1 = some (.ref (oA o1)) → rx_ld lv 2 = some (.int s4.1) → rs (rt_P sc fm) 325 F Lo 37 lv [.int p5, .ref 172] (hq true s4.2 y w) Q) h (fun p5 h lv l0 l1 l2 => ?_) (fun j37 hj37 h => ?_)
      ·
        refine rs_V wi_325_37 wc_325_54 rfl (dq_isa tf_172_0 wa_12_322) (Nat.le_trans (by decide) hF) (ml_le wm_322 (Nat.le_trans (by decide) hLo)) rfl (sp_322 hw (Nat.le_trans (by decide : 1 ≤ 4 - 1) (Nat.sub_le_sub_right hF 1)) (ml_sub wm_322 (Nat.le_trans (by decide : 21 ≤ 88 - 21) (Nat.sub_le_sub_right hLo 21))) (wp_bind h) (fun r6 h => rs_back0 ?_))
        refine rs_aldn wi_325_40 l0 ?_
        refine rs_aldn wi_325_41 l1 ?_
        refine dq_gr wi_325_42 wf_325_137 (fO_4 ho1) ?_
        refine rs_ildn wi_325_45 l2 ?_
        obtain ⟨g7, h⟩ := wp_gd h
        refine dq_lald wi_325_46 (tO_1 ho1) g7 ?_
        refine rs_V wi_325_47 wc_325_51 rfl (dq_isa tf_172_0 wa_12_320) (Nat.le_trans (by decide) hF) (ml_le wm_320 (Nat.le_trans (by decide) hLo)) rfl (sp_320 hw (Nat.le_trans (by decide : 2 ≤ 4 - 1) (Nat.sub_le_sub_right hF 1)) (ml_sub wm_320 (Nat.le_trans (by decide : 45 ≤ 88 - 22) (Nat.sub_le_sub_right hLo 22))) (wp_bind h) (fun r8 h => rs_back0 ?_))
        obtain ⟨v10, e11, h⟩ := wp_lt h
        refine dl_inc wi_325_50 l2 rfl e11 (fun lv l2 t9 => ?_)
        have l0 := t9 _ _ (by decide) (Or.inl rfl) l0
        have l1 := t9 _ _ (by decide) (Or.inl rfl) l1
        refine rs_goto (tg := 17) wi_325_53 ⟨by decide, by decide⟩ ?_
        exact h _ l0 l1 l2
      refine rs_ifne (tg := 35) wi_325_27 ⟨by decide, by decide⟩ (fun q => ?_) (fun q => ?_)
      ·
        have h := wp_neg h q
        refine rs_pure wi_325_35 rfl ?_
        refine rs_topi (v := 44) (by decide) ?_
        exact hj37 _ h _ l0 l1 l2
      ·
        have h := wp_pos h q
        refine rs_pure wi_325_30 rfl ?_
        refine rs_topi (v := 58) (by decide) ?_
        refine rs_goto (tg := 37) wi_325_32 ⟨by decide, by decide⟩ ?_
        exact hj37 _ h _ l0 l1 l2
  ·
    intro x12 h lv l0 l1
    refine rs_pure wi_325_56 rfl ?_
    refine rs_topi (v := 0) (by decide) ?_
    refine dl_istn wi_325_57 rfl (fun lv l2 t13 => ?_)
    have l0 := t13 _ _ (by decide) (Or.inl rfl) l0
    have l1 := t13 _ _ (by decide) (Or.inl rfl) l1
    refine whl_ex (A := fun s14 : Int32 × cS => ∀ lv, rx_ld lv 0 = some (.ref 172) → rx_ld lv 1 = some (.ref (oA o1)) → rx_ld lv 2 = some (.int s14.1) → rs (rt_P sc fm) 325 F Lo 58 lv [] (hq true s14.2 y w) Q) (B := (fun x32 : cS => ∀ lv, rx_ld lv 0 = some (.ref 172) → rs (rt_P sc fm) 325 F Lo 129 lv [] (hq true x32 y w) Q)) ?_ ?_ _ _ (wp_bind h) _ l0 l1 l2
    · intro s14 h lv l0 l1 l2
      refine rs_ildn wi_325_58 l2 ?_
      refine rs_aldn wi_325_59 l1 ?_
      refine dq_gi wi_325_60 wf_325_134 (fO_1 ho1) ?_
      refine rs_icge (tg := 129) wi_325_63 ⟨by decide, by decide⟩ (fun q => ?_) (fun q => ?_)
      ·
        have h := wp_pos h q
        exact h _ l0
      ·
        have h := wp_neg h q
        refine rs_pure wi_325_66 rfl ?_
        refine rs_topi (v := 0) (by decide) ?_
        refine dl_istn wi_325_67 rfl (fun lv l3 t15 => ?_)
        have l0 := t15 _ _ (by decide) (Or.inl rfl) l0
        have l1 := t15 _ _ (by decide) (Or.inl rfl) l1
        have l2 := t15 _ _ (by decide) (Or.inl rfl) l2
        refine whl_ex (A := fun s16 : Int32 × cS => ∀ lv, rx_ld lv 0 = some (.ref 172) → rx_ld lv 1 = some (.ref (oA o1)) → rx_ld lv 2 = some (.int s14.1) → rx_ld lv 3 = some (.int s16.1) → rs (rt_P sc fm) 325 F Lo 68 lv [] (hq true s16.2 y w) Q) (B := (fun x28 : cS => ∀ lv, rx_ld lv 0 = some (.ref 172) → rx_ld lv 1 = some (.ref (oA o1)) → rx_ld lv 2 = some (.int s14.1) → rs (rt_P sc fm) 325 F Lo 123 lv [] (hq true x28 y w) Q)) ?_ ?_ _ _ (wp_bind h) _ l0 l1 l2 l3
        · intro s16 h lv l0 l1 l2 l3
          refine rs_ildn wi_325_68 l3 ?_
          refine rs_aldn wi_325_69 l1 ?_
          refine dq_gi wi_325_70 wf_325_134 (fO_1 ho1) ?_
          refine rs_icge (tg := 123) wi_325_73 ⟨by decide, by decide⟩ (fun q => ?_) (fun q => ?_)
          ·
            have h := wp_pos h q
            exact h _ l0 l1 l2
          ·
            have h := wp_neg h q
            refine rs_aldn wi_325_76 l1 ?_
            refine rs_ildn wi_325_77 l2 ?_
            refine rs_ildn wi_325_78 l3 ?_
            refine rs_V wi_325_79 wc_325_140 rfl (dq_isa (fO_0 ho1) wa_8_240) (Nat.le_trans (by decide) hF) (ml_le wm_240 (Nat.le_trans (by decide) hLo)) rfl (sp_240 hw (Nat.le_trans (by decide : 1 ≤ 4 - 1) (Nat.sub_le_sub_right hF 1)) (ml_sub wm_240 (Nat.le_trans (by decide : 22 ≤ 88 - 22) (Nat.sub_le_sub_right hLo 22))) ho1 (wp_bind h) (fun v17 h => rs_back1 ?_))
            refine wp_jn (B := fun p18 : cS => ∀ lv, rx_ld lv 0 = some (.ref 172) → rx_ld lv 1 = some (.ref (oA o1)) → rx_ld lv 2 = some (.int s14.1) → rx_ld lv 3 = some (.int s16.1) → rs (rt_P sc fm) 325 F Lo 117 lv [] (hq true p18 y w) Q) h (fun p18 h lv l0 l1 l2 l3 => ?_) (fun j117 hj117 h => ?_)
            ·
              obtain ⟨v20, e21, h⟩ := wp_lt h
              refine dl_inc wi_325_117 l3 rfl e21 (fun lv l3 t19 => ?_)
              have l0 := t19 _ _ (by decide) (Or.inl rfl) l0
              have l1 := t19 _ _ (by decide) (Or.inl rfl) l1
              have l2 := t19 _ _ (by decide) (Or.inl rfl) l2
              refine rs_goto (tg := 68) wi_325_120 ⟨by decide, by decide⟩ ?_
              exact h _ l0 l1 l2 l3
            refine rs_ifeq (tg := 117) wi_325_82 ⟨by decide, by decide⟩ (fun q => ?_) (fun q => ?_)
            ·
              have h := wp_pos h q
              exact hj117 _ h _ l0 l1 l2 l3
            ·
              have h := wp_neg h q
              refine rs_aldn wi_325_85 l0 ?_
              refine rs_pure wi_325_86 rfl ?_
              refine rs_topi (v := 44) (by decide) ?_
              refine rs_V wi_325_88 wc_325_54 rfl (dq_isa tf_172_0 wa_12_322) (Nat.le_trans (by decide) hF) (ml_le wm_322 (Nat.le_trans (by decide) hLo)) rfl (sp_322 hw (Nat.le_trans (by decide : 1 ≤ 4 - 1) (Nat.sub_le_sub_right hF 1)) (ml_sub wm_322 (Nat.le_trans (by decide : 21 ≤ 88 - 21) (Nat.sub_le_sub_right hLo 21))) (wp_bind h) (fun r22 h => rs_back0 ?_))
              refine rs_aldn wi_325_91 l0 ?_
              refine rs_aldn wi_325_92 l1 ?_
              refine dq_gr wi_325_93 wf_325_137 (fO_4 ho1) ?_
              refine rs_ildn wi_325_96 l2 ?_
              obtain ⟨g23, h⟩ := wp_gd h
              refine dq_lald wi_325_97 (tO_1 ho1) g23 ?_
              refine rs_V wi_325_98 wc_325_51 rfl (dq_isa tf_172_0 wa_12_320) (Nat.le_trans (by decide) hF) (ml_le wm_320 (Nat.le_trans (by decide) hLo)) rfl (sp_320 hw (Nat.le_trans (by decide : 2 ≤ 4 - 1) (Nat.sub_le_sub_right hF 1)) (ml_sub wm_320 (Nat.le_trans (by decide : 45 ≤ 88 - 22) (Nat.sub_le_sub_right hLo 22))) (wp_bind h) (fun r24 h => rs_back0 ?_))
              refine rs_aldn wi_325_101 l0 ?_
              refine rs_pure wi_325_102 rfl ?_
              refine rs_topi (v := 60) (by decide) ?_
              refine rs_V wi_325_104 wc_325_54 rfl (dq_isa tf_172_0 wa_12_322) (Nat.le_trans (by decide) hF) (ml_le wm_322 (Nat.le_trans (by decide) hLo)) rfl (sp_322 hw (Nat.le_trans (by decide : 1 ≤ 4 - 1) (Nat.sub_le_sub_right hF 1)) (ml_sub wm_322 (Nat.le_trans (by decide : 21 ≤ 88 - 21) (Nat.sub_le_sub_right hLo 21))) (wp_bind h) (fun r25 h => rs_back0 ?_))
              refine rs_aldn wi_325_107 l0 ?_
              refine rs_aldn wi_325_108 l1 ?_
              refine dq_gr wi_325_109 wf_325_137 (fO_4 ho1) ?_
              refine rs_ildn wi_325_112 l3 ?_
              obtain ⟨g26, h⟩ := wp_gd h
              refine dq_lald wi_325_113 (tO_1 ho1) g26 ?_
              refine rs_V wi_325_114 wc_325_51 rfl (dq_isa tf_172_0 wa_12_320) (Nat.le_trans (by decide) hF) (ml_le wm_320 (Nat.le_trans (by decide) hLo)) rfl (sp_320 hw (Nat.le_trans (by decide : 2 ≤ 4 - 1) (Nat.sub_le_sub_right hF 1)) (ml_sub wm_320 (Nat.le_trans (by decide : 45 ≤ 88 - 22) (Nat.sub_le_sub_right hLo 22))) (wp_bind h) (fun r27 h => rs_back0 ?_))
              exact hj117 _ h _ l0 l1 l2 l3
        ·
          intro x28 h lv l0 l1 l2
          obtain ⟨v30, e31, h⟩ := wp_lt h
          refine dl_inc wi_325_123 l2 rfl e31 (fun lv l2 t29 => ?_)
          have l0 := t29 _ _ (by decide) (Or.inl rfl) l0
          have l1 := t29 _ _ (by decide) (Or.inl rfl) l1
          refine rs_goto (tg := 58) wi_325_126 ⟨by decide, by decide⟩ ?_
          exact h _ l0 l1 l2
    ·
      intro x32 h lv l0
      refine rs_aldn wi_325_129 l0 ?_
      refine rs_pure wi_325_130 rfl ?_
      refine rs_topi (v := 59) (by decide) ?_
      refine rs_V wi_325_132 wc_325_54 rfl (dq_isa tf_172_0 wa_12_322) (Nat.le_trans (by decide) hF) (ml_le wm_322 (Nat.le_trans (by decide) hLo)) rfl (sp_322 hw (Nat.le_trans (by decide : 1 ≤ 4 - 1) (Nat.sub_le_sub_right hF 1)) (ml_sub wm_322 (Nat.le_trans (by decide : 21 ≤ 88 - 21) (Nat.sub_le_sub_right hLo 21))) (wp_bind h) (fun r33 h => rs_back0 ?_))
      exact rs_vret wi_325_135 wr_325 (hQ r33 h)
theorem wc_319_39 : rx_ct (rt_P sc fm) 319 39 = some (0, 317, 1) := (by decide +kernel : rt_ct 319 39 = some (0, 317, 1))
theorem wi_319_0 : ri (rt_P sc fm) 319 0 (.iconst 0) (1) := ri_of (by decide +kernel) rfl
theorem wi_319_1 : ri (rt_P sc fm) 319 1 (.istore_n 3) (2) := ri_of (by decide +kernel) rfl
theorem wi_319_10 : ri (rt_P sc fm) 319 10 (.lcmp) (11) := ri_of (by decide +kernel) rfl
theorem wi_319_11 : ri (rt_P sc fm) 319 11 (.ifCond .lt 58) (14) := ri_of (by decide +kernel) rfl
theorem wi_319_14 : ri (rt_P sc fm) 319 14 (.lload_n 1) (15) := ri_of (by decide +kernel) rfl
theorem wi_319_15 : ri (rt_P sc fm) 319 15 (.lload 4) (17) := ri_of (by decide +kernel) rfl
theorem wi_319_17 : ri (rt_P sc fm) 319 17 (.ldiv) (18) := ri_of (by decide +kernel) rfl
theorem wi_319_18 : ri (rt_P sc fm) 319 18 (.ldc2_w 45) (21) := ri_of (by decide +kernel) rfl
theorem wi_319_2 : ri (rt_P sc fm) 319 2 (.ldc2_w 43) (5) := ri_of (by decide +kernel) rfl
theorem wi_319_21 : ri (rt_P sc fm) 319 21 (.lrem) (22) := ri_of (by decide +kernel) rfl
theorem wi_319_22 : ri (rt_P sc fm) 319 22 (.l2i) (23) := ri_of (by decide +kernel) rfl
theorem wi_319_23 : ri (rt_P sc fm) 319 23 (.istore 6) (25) := ri_of (by decide +kernel) rfl
theorem wi_319_25 : ri (rt_P sc fm) 319 25 (.iload_n 3) (26) := ri_of (by decide +kernel) rfl
theorem wi_319_26 : ri (rt_P sc fm) 319 26 (.iload 6) (28) := ri_of (by decide +kernel) rfl
theorem wi_319_28 : ri (rt_P sc fm) 319 28 (.ifCond .ne 10) (31) := ri_of (by decide +kernel) rfl
theorem wi_319_31 : ri (rt_P sc fm) 319 31 (.lload 4) (33) := ri_of (by decide +kernel) rfl
theorem wi_319_33 : ri (rt_P sc fm) 319 33 (.lconst 1) (34) := ri_of (by decide +kernel) rfl
theorem wi_319_34 : ri (rt_P sc fm) 319 34 (.lcmp) (35) := ri_of (by decide +kernel) rfl
theorem wi_319_35 : ri (rt_P sc fm) 319 35 (.ifCond .ne 7) (38) := ri_of (by decide +kernel) rfl
theorem wi_319_38 : ri (rt_P sc fm) 319 38 (.iconst 1) (39) := ri_of (by decide +kernel) rfl
theorem wi_319_39 : ri (rt_P sc fm) 319 39 (.goto 4) (42) := ri_of (by decide +kernel) rfl
theorem wi_319_42 : ri (rt_P sc fm) 319 42 (.iconst 0) (43) := ri_of (by decide +kernel) rfl
theorem wi_319_43 : ri (rt_P sc fm) 319 43 (.ior) (44) := ri_of (by decide +kernel) rfl
theorem wi_319_44 : ri (rt_P sc fm) 319 44 (.istore_n 3) (45) := ri_of (by decide +kernel) rfl
theorem wi_319_45 : ri (rt_P sc fm) 319 45 (.iload_n 3) (46) := ri_of (by decide +kernel) rfl
theorem wi_319_46 : ri (rt_P sc fm) 319 46 (.ifCond .eq 12) (49) := ri_of (by decide +kernel) rfl
theorem wi_319_49 : ri (rt_P sc fm) 319 49 (.aload_n 0) (50) := ri_of (by decide +kernel) rfl
theorem wi_319_5 : ri (rt_P sc fm) 319 5 (.lstore 4) (7) := ri_of (by decide +kernel) rfl
theorem wi_319_50 : ri (rt_P sc fm) 319 50 (.bipush 48) (52) := ri_of (by decide +kernel) rfl
theorem wi_319_52 : ri (rt_P sc fm) 319 52 (.iload 6) (54) := ri_of (by decide +kernel) rfl
theorem wi_319_54 : ri (rt_P sc fm) 319 54 (.iadd) (55) := ri_of (by decide +kernel) rfl
theorem wi_319_55 : ri (rt_P sc fm) 319 55 (.invokevirtual 39) (58) := ri_of (by decide +kernel) rfl
theorem wi_319_58 : ri (rt_P sc fm) 319 58 (.lload 4) (60) := ri_of (by decide +kernel) rfl
theorem wi_319_60 : ri (rt_P sc fm) 319 60 (.ldc2_w 45) (63) := ri_of (by decide +kernel) rfl
theorem wi_319_63 : ri (rt_P sc fm) 319 63 (.ldiv) (64) := ri_of (by decide +kernel) rfl
theorem wi_319_64 : ri (rt_P sc fm) 319 64 (.lstore 4) (66) := ri_of (by decide +kernel) rfl
theorem wi_319_66 : ri (rt_P sc fm) 319 66 (.goto (-59)) (69) := ri_of (by decide +kernel) rfl
theorem wi_319_69 : ri (rt_P sc fm) 319 69 (.return_) (70) := ri_of (by decide +kernel) rfl
theorem wi_319_7 : ri (rt_P sc fm) 319 7 (.lload 4) (9) := ri_of (by decide +kernel) rfl
theorem wi_319_9 : ri (rt_P sc fm) 319 9 (.lconst 1) (10) := ri_of (by decide +kernel) rfl
theorem wk_319_43 : rx_kt (rt_P sc fm) 319 43 = some (.long (1000000000)) := (by decide +kernel : rt_kt 319 43 = some (.long (1000000000)))
theorem wk_319_45 : rx_kt (rt_P sc fm) 319 45 = some (.long (10)) := (by decide +kernel : rt_kt 319 45 = some (.long (10)))
theorem wr_319 : rx_rt (rt_P sc fm) 319 = none := (by decide +kernel : rt_rt 319 = none)
/-- MarkHouse$Teller.putDigits(J)V -/
def d_319 (n : Nat) (a1 : Int64) (c : cS) : Option (cS) :=
  Option.bind (whl (R := (cS)) (fun s3 : Int32 × Int64 × cS =>
    if (lg_cmp s3.2.1 1) < 0 then
      some (.inr s3.2.2)
    else
      if s3.2.1 ≠ 0 then
      lt ((((a1 / s3.2.1) - (a1 / s3.2.1) / 10 * 10) : Int64).toInt32 : Int32) (fun v6 =>
      jn (fun p8 : Int32 =>
        lt ((s3.1 ||| p8) : Int32) (fun v10 =>
        jn (fun p12 : cS =>
          lt ((s3.2.1 / 10) : Int64) (fun v14 =>
          some (.inl (v10, v14, p12))))
        (fun j58 =>
        if v10 = 0 then
          j58 s3.2.2
        else
          Option.bind (d_317 n (48 + v6) s3.2.2) (fun r16 =>
          j58 r16))))
      (fun j43 =>
      jn (fun p17 : Unit =>
        j43 1)
      (fun j38 =>
      if v6 = 0 then
        if (lg_cmp s3.2.1 1) = 0 then
          j38 ()
        else
          j43 0
      else
        j38 ())))
      else none) n (0, 1000000000, c))
  (fun x18 : cS =>
    some x18)
theorem sp_319 {F Lo n : Nat} {a1 : Int64} {c y : cS} {w : cW} {K : cS → Prop} {Q : ((Option Value) ⊕ String) → List va_E → Prop} (hw : rOK fm w) (hF : 1 ≤ F) (hLo : 21 ≤ Lo)  (h : wp (d_319 n a1 c) K) (hQ : ∀ r, K r → Q (.inl none) (hq true r y w)) : rs (rt_P sc fm) 319 F Lo 0 [(0, .ref 172), (1, .long a1)] [] (hq true c y w) Q := by
  unfold d_319 at h
  obtain ⟨lv, elv⟩ : ∃ lv : rx_L, lv = [(0, .ref 172), (1, .long a1)] := ⟨_, rfl⟩
  rw [← elv]
  have l0 : rx_ld lv 0 = some (.ref 172) := by rw [elv]; rfl
  have l1 : rx_ld lv 1 = some (.long a1) := by rw [elv]; rfl
  refine rs_pure wi_319_0 rfl ?_
  refine rs_topi (v := 0) (by decide) ?_
  refine dl_istn wi_319_1 rfl (fun lv l3 t1 => ?_)
  have l0 := t1 _ _ (by decide) (Or.inl rfl) l0
  have l1 := t1 _ _ (by decide) (Or.inr (by decide)) l1
  refine rs_ldcl wi_319_2 wk_319_43 ?_
  refine dl_lst wi_319_5 rfl (fun lv l4 t2 => ?_)
  have l0 := t2 _ _ (by decide) (by decide) (Or.inl rfl) l0
  have l1 := t2 _ _ (by decide) (by decide) (Or.inr (by decide)) l1
  have l3 := t2 _ _ (by decide) (by decide) (Or.inl rfl) l3
  refine whl_ex (A := fun s3 : Int32 × Int64 × cS => ∀ lv, rx_ld lv 0 = some (.ref 172) → rx_ld lv 1 = some (.long a1) → rx_ld lv 3 = some (.int s3.1) → rx_ld lv 4 = some (.long s3.2.1) → rs (rt_P sc fm) 319 F Lo 7 lv [] (hq true s3.2.2 y w) Q) (B := (fun x18 : cS => ∀ lv, rs (rt_P sc fm) 319 F Lo 69 lv [] (hq true x18 y w) Q)) ?_ ?_ _ _ (wp_bind h) _ l0 l1 l3 l4
  · intro s3 h lv l0 l1 l3 l4
    refine rs_lld wi_319_7 l4 ?_
    refine rs_pure wi_319_9 rfl ?_
    refine rs_topl (v := 1) (by decide) ?_
    refine rs_pure wi_319_10 rfl ?_
    refine rs_iflt (tg := 69) wi_319_11 ⟨by decide, by decide⟩ (fun q => ?_) (fun q => ?_)
    ·
      have h := wp_pos h q
      exact h _
    ·
      have h := wp_neg h q
      refine rs_lldn wi_319_14 l1 ?_
      refine rs_lld wi_319_15 l4 ?_
      obtain ⟨g4, h⟩ := wp_gd h
      refine dl_ldiv wi_319_17 g4 ?_
      refine rs_ldcl wi_319_18 wk_319_45 ?_
      refine dl_lrem wi_319_21 (by decide) ?_
      refine rs_pure wi_319_22 rfl ?_
      obtain ⟨v6, e7, h⟩ := wp_lt h
      refine rs_topi e7 ?_
      refine dl_ist wi_319_23 rfl (fun lv l6 t5 => ?_)
      have l0 := t5 _ _ (by decide) (Or.inl rfl) l0
      have l1 := t5 _ _ (by decide) (Or.inr (by decide)) l1
      have l3 := t5 _ _ (by decide) (Or.inl rfl) l3
      have l4 := t5 _ _ (by decide) (Or.inr (by decide)) l4
      refine rs_ildn wi_319_25 l3 ?_
      refine rs_ild wi_319_26 l6 ?_
      refine wp_jn (B := fun p8 : Int32 => ∀ lv, rx_ld lv 0 = some (.ref 172) → rx_ld lv 1 = some (.long a1) → rx_ld lv 4 = some (.long s3.2.1) → rx_ld lv 6 = some (.int v6) → rs (rt_P sc fm) 319 F Lo 43 lv [.int p8, .int s3.1] (hq true s3.2.2 y w) Q) h (fun p8 h lv l0 l1 l4 l6 => ?_) (fun j43 hj43 h => ?_)
      ·
        refine rs_pure wi_319_43 rfl ?_
        obtain ⟨v10, e11, h⟩ := wp_lt h
        refine rs_topi e11 ?_
        refine dl_istn wi_319_44 rfl (fun lv l3 t9 => ?_)
        have l0 := t9 _ _ (by decide) (Or.inl rfl) l0
        have l1 := t9 _ _ (by decide) (Or.inr (by decide)) l1
        have l4 := t9 _ _ (by decide) (Or.inr (by decide)) l4
        have l6 := t9 _ _ (by decide) (Or.inl rfl) l6
        refine rs_ildn wi_319_45 l3 ?_
        refine wp_jn (B := fun p12 : cS => ∀ lv, rx_ld lv 0 = some (.ref 172) → rx_ld lv 1 = some (.long a1) → rx_ld lv 3 = some (.int v10) → rx_ld lv 4 = some (.long s3.2.1) → rs (rt_P sc fm) 319 F Lo 58 lv [] (hq true p12 y w) Q) h (fun p12 h lv l0 l1 l3 l4 => ?_) (fun j58 hj58 h => ?_)
        ·
          refine rs_lld wi_319_58 l4 ?_
          refine rs_ldcl wi_319_60 wk_319_45 ?_
          refine dl_ldiv wi_319_63 (by decide) ?_
          obtain ⟨v14, e15, h⟩ := wp_lt h
          refine rs_topl e15 ?_
          refine dl_lst wi_319_64 rfl (fun lv l4 t13 => ?_)
          have l0 := t13 _ _ (by decide) (by decide) (Or.inl rfl) l0
          have l1 := t13 _ _ (by decide) (by decide) (Or.inr (by decide)) l1
          have l3 := t13 _ _ (by decide) (by decide) (Or.inl rfl) l3
          refine rs_goto (tg := 7) wi_319_66 ⟨by decide, by decide⟩ ?_
          exact h _ l0 l1 l3 l4
        refine rs_ifeq (tg := 58) wi_319_46 ⟨by decide, by decide⟩ (fun q => ?_) (fun q => ?_)
        ·
          have h := wp_pos h q
          exact hj58 _ h _ l0 l1 l3 l4
        ·
          have h := wp_neg h q
          refine rs_aldn wi_319_49 l0 ?_
          refine rs_pure wi_319_50 rfl ?_
          refine rs_topi (v := 48) (by decide) ?_
          refine rs_ild wi_319_52 l6 ?_
          refine rs_pure wi_319_54 rfl ?_
          refine rs_V wi_319_55 wc_319_39 rfl (dq_isa tf_172_0 wa_12_317) (Nat.le_trans (by decide) hF) (ml_le wm_317 (Nat.le_trans (by decide) hLo)) rfl (sp_317 hw (Nat.le_trans (by decide : 0 ≤ 1 - 1) (Nat.sub_le_sub_right hF 1)) (ml_sub wm_317 (Nat.le_trans (by decide : 0 ≤ 21 - 21) (Nat.sub_le_sub_right hLo 21))) (wp_bind h) (fun r16 h => rs_back0 ?_))
          exact hj58 _ h _ l0 l1 l3 l4
      refine wp_jn (B := fun p17 : Unit => ∀ lv, rx_ld lv 0 = some (.ref 172) → rx_ld lv 1 = some (.long a1) → rx_ld lv 4 = some (.long s3.2.1) → rx_ld lv 6 = some (.int v6) → rs (rt_P sc fm) 319 F Lo 38 lv [.int s3.1] (hq true s3.2.2 y w) Q) h (fun p17 h lv l0 l1 l4 l6 => ?_) (fun j38 hj38 h => ?_)
      ·
        refine rs_pure wi_319_38 rfl ?_
        refine rs_topi (v := 1) (by decide) ?_
        refine rs_goto (tg := 43) wi_319_39 ⟨by decide, by decide⟩ ?_
        exact hj43 _ h _ l0 l1 l4 l6
      refine rs_ifne (tg := 38) wi_319_28 ⟨by decide, by decide⟩ (fun q => ?_) (fun q => ?_)
      ·
        have h := wp_neg h q
        exact hj38 _ h _ l0 l1 l4 l6
      ·
        have h := wp_pos h q
        refine rs_lld wi_319_31 l4 ?_
        refine rs_pure wi_319_33 rfl ?_
        refine rs_topl (v := 1) (by decide) ?_
        refine rs_pure wi_319_34 rfl ?_
        refine rs_ifne (tg := 42) wi_319_35 ⟨by decide, by decide⟩ (fun q => ?_) (fun q => ?_)
        ·
          have h := wp_neg h q
          refine rs_pure wi_319_42 rfl ?_
          refine rs_topi (v := 0) (by decide) ?_
          exact hj43 _ h _ l0 l1 l4 l6
        ·
          have h := wp_pos h q
          exact hj38 _ h _ l0 l1 l4 l6
  ·
    intro x18 h lv
    exact rs_vret wi_319_69 wr_319 (hQ x18 h)
theorem wa_12_319 : rz_cn 12 (rx_yn (rt_P sc fm) 319).cls = true := (by decide +kernel : rz_cn 12 (rt_yn 319).cls = true)
theorem wc_323_39 : rx_ct (rt_P sc fm) 323 39 = some (0, 317, 1) := (by decide +kernel : rt_ct 323 39 = some (0, 317, 1))
theorem wc_323_47 : rx_ct (rt_P sc fm) 323 47 = some (0, 318, 1) := (by decide +kernel : rt_ct 323 47 = some (0, 318, 1))
theorem wc_323_54 : rx_ct (rt_P sc fm) 323 54 = some (0, 322, 1) := (by decide +kernel : rt_ct 323 54 = some (0, 322, 1))
theorem wc_323_58 : rx_ct (rt_P sc fm) 323 58 = some (0, 319, 1) := (by decide +kernel : rt_ct 323 58 = some (0, 319, 1))
theorem wi_323_0 : ri (rt_P sc fm) 323 0 (.iload_n 1) (1) := ri_of (by decide +kernel) rfl
theorem wi_323_1 : ri (rt_P sc fm) 323 1 (.iconst 2) (2) := ri_of (by decide +kernel) rfl
theorem wi_323_11 : ri (rt_P sc fm) 323 11 (.aload_n 0) (12) := ri_of (by decide +kernel) rfl
theorem wi_323_12 : ri (rt_P sc fm) 323 12 (.lload_n 2) (13) := ri_of (by decide +kernel) rfl
theorem wi_323_13 : ri (rt_P sc fm) 323 13 (.invokevirtual 47) (16) := ri_of (by decide +kernel) rfl
theorem wi_323_16 : ri (rt_P sc fm) 323 16 (.aload_n 0) (17) := ri_of (by decide +kernel) rfl
theorem wi_323_17 : ri (rt_P sc fm) 323 17 (.bipush 39) (19) := ri_of (by decide +kernel) rfl
theorem wi_323_19 : ri (rt_P sc fm) 323 19 (.invokevirtual 39) (22) := ri_of (by decide +kernel) rfl
theorem wi_323_2 : ri (rt_P sc fm) 323 2 (.if_icmp .ne 21) (5) := ri_of (by decide +kernel) rfl
theorem wi_323_22 : ri (rt_P sc fm) 323 22 (.return_) (23) := ri_of (by decide +kernel) rfl
theorem wi_323_23 : ri (rt_P sc fm) 323 23 (.lload_n 2) (24) := ri_of (by decide +kernel) rfl
theorem wi_323_24 : ri (rt_P sc fm) 323 24 (.lconst 0) (25) := ri_of (by decide +kernel) rfl
theorem wi_323_25 : ri (rt_P sc fm) 323 25 (.lcmp) (26) := ri_of (by decide +kernel) rfl
theorem wi_323_26 : ri (rt_P sc fm) 323 26 (.ifCond .ge 9) (29) := ri_of (by decide +kernel) rfl
theorem wi_323_29 : ri (rt_P sc fm) 323 29 (.aload_n 0) (30) := ri_of (by decide +kernel) rfl
theorem wi_323_30 : ri (rt_P sc fm) 323 30 (.bipush 45) (32) := ri_of (by decide +kernel) rfl
theorem wi_323_32 : ri (rt_P sc fm) 323 32 (.invokevirtual 54) (35) := ri_of (by decide +kernel) rfl
theorem wi_323_35 : ri (rt_P sc fm) 323 35 (.aload_n 0) (36) := ri_of (by decide +kernel) rfl
theorem wi_323_36 : ri (rt_P sc fm) 323 36 (.bipush 32) (38) := ri_of (by decide +kernel) rfl
theorem wi_323_38 : ri (rt_P sc fm) 323 38 (.invokevirtual 39) (41) := ri_of (by decide +kernel) rfl
theorem wi_323_41 : ri (rt_P sc fm) 323 41 (.aload_n 0) (42) := ri_of (by decide +kernel) rfl
theorem wi_323_42 : ri (rt_P sc fm) 323 42 (.lload_n 2) (43) := ri_of (by decide +kernel) rfl
theorem wi_323_43 : ri (rt_P sc fm) 323 43 (.lconst 0) (44) := ri_of (by decide +kernel) rfl
theorem wi_323_44 : ri (rt_P sc fm) 323 44 (.lcmp) (45) := ri_of (by decide +kernel) rfl
theorem wi_323_45 : ri (rt_P sc fm) 323 45 (.ifCond .ge 8) (48) := ri_of (by decide +kernel) rfl
theorem wi_323_48 : ri (rt_P sc fm) 323 48 (.lload_n 2) (49) := ri_of (by decide +kernel) rfl
theorem wi_323_49 : ri (rt_P sc fm) 323 49 (.lneg) (50) := ri_of (by decide +kernel) rfl
theorem wi_323_5 : ri (rt_P sc fm) 323 5 (.aload_n 0) (6) := ri_of (by decide +kernel) rfl
theorem wi_323_50 : ri (rt_P sc fm) 323 50 (.goto 4) (53) := ri_of (by decide +kernel) rfl
theorem wi_323_53 : ri (rt_P sc fm) 323 53 (.lload_n 2) (54) := ri_of (by decide +kernel) rfl
theorem wi_323_54 : ri (rt_P sc fm) 323 54 (.invokevirtual 58) (57) := ri_of (by decide +kernel) rfl
theorem wi_323_57 : ri (rt_P sc fm) 323 57 (.return_) (58) := ri_of (by decide +kernel) rfl
theorem wi_323_6 : ri (rt_P sc fm) 323 6 (.bipush 39) (8) := ri_of (by decide +kernel) rfl
theorem wi_323_8 : ri (rt_P sc fm) 323 8 (.invokevirtual 54) (11) := ri_of (by decide +kernel) rfl
theorem wm_319 : rx_ml (rt_P sc fm) 319 = 7 := (by decide +kernel : rt_ml 319 = 7)
theorem wr_323 : rx_rt (rt_P sc fm) 323 = none := (by decide +kernel : rt_rt 323 = none)
/-- MarkHouse$Teller.putValue(IJ)V -/
def d_323 (n : Nat) (a1 : Int32) (a2 : Int64) (c : cS) : Option (cS) :=
  if a1 = 2 then
    Option.bind (d_322 n 39 c) (fun r6 =>
    Option.bind (d_318 n a2 r6) (fun r7 =>
    Option.bind (d_317 n 39 r7) (fun r8 =>
    some r8)))
  else
    jn (fun p1 : cS =>
      Option.bind (d_317 n 32 p1) (fun r2 =>
      jn (fun p3 : Int64 =>
        Option.bind (d_319 n p3 r2) (fun r4 =>
        some r4))
      (fun j54 =>
      if 0 ≤ (lg_cmp a2 0) then
        j54 a2
      else
        j54 (-a2))))
    (fun j35 =>
    if 0 ≤ (lg_cmp a2 0) then
      j35 c
    else
      Option.bind (d_322 n 45 c) (fun r5 =>
      j35 r5))
theorem sp_323 {F Lo n : Nat} {a1 : Int32} {a2 : Int64} {c y : cS} {w : cW} {K : cS → Prop} {Q : ((Option Value) ⊕ String) → List va_E → Prop} (hw : rOK fm w) (hF : 2 ≤ F) (hLo : 47 ≤ Lo)  (h : wp (d_323 n a1 a2 c) K) (hQ : ∀ r, K r → Q (.inl none) (hq true r y w)) : rs (rt_P sc fm) 323 F Lo 0 [(0, .ref 172), (1, .int a1), (2, .long a2)] [] (hq true c y w) Q := by
  unfold d_323 at h
  obtain ⟨lv, elv⟩ : ∃ lv : rx_L, lv = [(0, .ref 172), (1, .int a1), (2, .long a2)] := ⟨_, rfl⟩
  rw [← elv]
  have l0 : rx_ld lv 0 = some (.ref 172) := by rw [elv]; rfl
  have l1 : rx_ld lv 1 = some (.int a1) := by rw [elv]; rfl
  have l2 : rx_ld lv 2 = some (.long a2) := by rw [elv]; rfl
  refine rs_ildn wi_323_0 l1 ?_
  refine rs_pure wi_323_1 rfl ?_
  refine rs_topi (v := 2) (by decide) ?_
  refine rs_icne (tg := 23) wi_323_2 ⟨by decide, by decide⟩ (fun q => ?_) (fun q => ?_)
  ·
    have h := wp_neg h q
    refine rs_lldn wi_323_23 l2 ?_
    refine rs_pure wi_323_24 rfl ?_
    refine rs_topl (v := 0) (by decide) ?_
    refine rs_pure wi_323_25 rfl ?_
    refine wp_jn (B := fun p1 : cS => ∀ lv, rx_ld lv 0 = some (.ref 172) → rx_ld lv 2 = some (.long a2) → rs (rt_P sc fm) 323 F Lo 35 lv [] (hq true p1 y w) Q) h (fun p1 h lv l0 l2 => ?_) (fun j35 hj35 h => ?_)
    ·
      refine rs_aldn wi_323_35 l0 ?_
      refine rs_pure wi_323_36 rfl ?_
      refine rs_topi (v := 32) (by decide) ?_
      refine rs_V wi_323_38 wc_323_39 rfl (dq_isa tf_172_0 wa_12_317) (Nat.le_trans (by decide) hF) (ml_le wm_317 (Nat.le_trans (by decide) hLo)) rfl (sp_317 hw (Nat.le_trans (by decide : 0 ≤ 2 - 1) (Nat.sub_le_sub_right hF 1)) (ml_sub wm_317 (Nat.le_trans (by decide : 0 ≤ 47 - 21) (Nat.sub_le_sub_right hLo 21))) (wp_bind h) (fun r2 h => rs_back0 ?_))
      refine rs_aldn wi_323_41 l0 ?_
      refine rs_lldn wi_323_42 l2 ?_
      refine rs_pure wi_323_43 rfl ?_
      refine rs_topl (v := 0) (by decide) ?_
      refine rs_pure wi_323_44 rfl ?_
      refine wp_jn (B := fun p3 : Int64 => ∀ lv, rs (rt_P sc fm) 323 F Lo 54 lv [.long p3, .ref 172] (hq true r2 y w) Q) h (fun p3 h lv => ?_) (fun j54 hj54 h => ?_)
      ·
        refine rs_V wi_323_54 wc_323_58 rfl (dq_isa tf_172_0 wa_12_319) (Nat.le_trans (by decide) hF) (ml_le wm_319 (Nat.le_trans (by decide) hLo)) rfl (sp_319 hw (Nat.le_trans (by decide : 1 ≤ 2 - 1) (Nat.sub_le_sub_right hF 1)) (ml_sub wm_319 (Nat.le_trans (by decide : 21 ≤ 47 - 26) (Nat.sub_le_sub_right hLo 26))) (wp_bind h) (fun r4 h => rs_back0 ?_))
        exact rs_vret wi_323_57 wr_323 (hQ r4 h)
      refine rs_ifge (tg := 53) wi_323_45 ⟨by decide, by decide⟩ (fun q => ?_) (fun q => ?_)
      ·
        have h := wp_pos h q
        refine rs_lldn wi_323_53 l2 ?_
        exact hj54 _ h _
      ·
        have h := wp_neg h q
        refine rs_lldn wi_323_48 l2 ?_
        refine rs_pure wi_323_49 rfl ?_
        refine rs_goto (tg := 54) wi_323_50 ⟨by decide, by decide⟩ ?_
        exact hj54 _ h _
    refine rs_ifge (tg := 35) wi_323_26 ⟨by decide, by decide⟩ (fun q => ?_) (fun q => ?_)
    ·
      have h := wp_pos h q
      exact hj35 _ h _ l0 l2
    ·
      have h := wp_neg h q
      refine rs_aldn wi_323_29 l0 ?_
      refine rs_pure wi_323_30 rfl ?_
      refine rs_topi (v := 45) (by decide) ?_
      refine rs_V wi_323_32 wc_323_54 rfl (dq_isa tf_172_0 wa_12_322) (Nat.le_trans (by decide) hF) (ml_le wm_322 (Nat.le_trans (by decide) hLo)) rfl (sp_322 hw (Nat.le_trans (by decide : 1 ≤ 2 - 1) (Nat.sub_le_sub_right hF 1)) (ml_sub wm_322 (Nat.le_trans (by decide : 21 ≤ 47 - 21) (Nat.sub_le_sub_right hLo 21))) (wp_bind h) (fun r5 h => rs_back0 ?_))
      exact hj35 _ h _ l0 l2
  ·
    have h := wp_pos h q
    refine rs_aldn wi_323_5 l0 ?_
    refine rs_pure wi_323_6 rfl ?_
    refine rs_topi (v := 39) (by decide) ?_
    refine rs_V wi_323_8 wc_323_54 rfl (dq_isa tf_172_0 wa_12_322) (Nat.le_trans (by decide) hF) (ml_le wm_322 (Nat.le_trans (by decide) hLo)) rfl (sp_322 hw (Nat.le_trans (by decide : 1 ≤ 2 - 1) (Nat.sub_le_sub_right hF 1)) (ml_sub wm_322 (Nat.le_trans (by decide : 21 ≤ 47 - 21) (Nat.sub_le_sub_right hLo 21))) (wp_bind h) (fun r6 h => rs_back0 ?_))
    refine rs_aldn wi_323_11 l0 ?_
    refine rs_lldn wi_323_12 l2 ?_
    refine rs_V wi_323_13 wc_323_47 rfl (dq_isa tf_172_0 wa_12_318) (Nat.le_trans (by decide) hF) (ml_le wm_318 (Nat.le_trans (by decide) hLo)) rfl (sp_318 hw (Nat.le_trans (by decide : 1 ≤ 2 - 1) (Nat.sub_le_sub_right hF 1)) (ml_sub wm_318 (Nat.le_trans (by decide : 21 ≤ 47 - 24) (Nat.sub_le_sub_right hLo 24))) (wp_bind h) (fun r7 h => rs_back0 ?_))
    refine rs_aldn wi_323_16 l0 ?_
    refine rs_pure wi_323_17 rfl ?_
    refine rs_topi (v := 39) (by decide) ?_
    refine rs_V wi_323_19 wc_323_39 rfl (dq_isa tf_172_0 wa_12_317) (Nat.le_trans (by decide) hF) (ml_le wm_317 (Nat.le_trans (by decide) hLo)) rfl (sp_317 hw (Nat.le_trans (by decide : 0 ≤ 2 - 1) (Nat.sub_le_sub_right hF 1)) (ml_sub wm_317 (Nat.le_trans (by decide : 0 ≤ 47 - 21) (Nat.sub_le_sub_right hLo 21))) (wp_bind h) (fun r8 h => rs_back0 ?_))
    exact rs_vret wi_323_22 wr_323 (hQ r8 h)
theorem wc_327_88 : rx_ct (rt_P sc fm) 327 88 = some (0, 321, 1) := (by decide +kernel : rt_ct 327 88 = some (0, 321, 1))
theorem wi_327_0 : ri (rt_P sc fm) 327 0 (.iload_n 1) (1) := ri_of (by decide +kernel) rfl
theorem wi_327_1 : ri (rt_P sc fm) 327 1 (.bipush 15) (3) := ri_of (by decide +kernel) rfl
theorem wi_327_11 : ri (rt_P sc fm) 327 11 (.invokevirtual 88) (14) := ri_of (by decide +kernel) rfl
theorem wi_327_14 : ri (rt_P sc fm) 327 14 (.iconst 0) (15) := ri_of (by decide +kernel) rfl
theorem wi_327_15 : ri (rt_P sc fm) 327 15 (.istore_n 2) (16) := ri_of (by decide +kernel) rfl
theorem wi_327_16 : ri (rt_P sc fm) 327 16 (.iload_n 2) (17) := ri_of (by decide +kernel) rfl
theorem wi_327_17 : ri (rt_P sc fm) 327 17 (.iconst 3) (18) := ri_of (by decide +kernel) rfl
theorem wi_327_18 : ri (rt_P sc fm) 327 18 (.if_icmp .gt 26) (21) := ri_of (by decide +kernel) rfl
theorem wi_327_21 : ri (rt_P sc fm) 327 21 (.iload_n 1) (22) := ri_of (by decide +kernel) rfl
theorem wi_327_22 : ri (rt_P sc fm) 327 22 (.iload_n 2) (23) := ri_of (by decide +kernel) rfl
theorem wi_327_23 : ri (rt_P sc fm) 327 23 (.ishr) (24) := ri_of (by decide +kernel) rfl
theorem wi_327_24 : ri (rt_P sc fm) 327 24 (.iconst 1) (25) := ri_of (by decide +kernel) rfl
theorem wi_327_25 : ri (rt_P sc fm) 327 25 (.iand) (26) := ri_of (by decide +kernel) rfl
theorem wi_327_26 : ri (rt_P sc fm) 327 26 (.ifCond .eq 12) (29) := ri_of (by decide +kernel) rfl
theorem wi_327_29 : ri (rt_P sc fm) 327 29 (.aload_n 0) (30) := ri_of (by decide +kernel) rfl
theorem wi_327_3 : ri (rt_P sc fm) 327 3 (.if_icmp .ne 4) (6) := ri_of (by decide +kernel) rfl
theorem wi_327_30 : ri (rt_P sc fm) 327 30 (.sipush 202) (33) := ri_of (by decide +kernel) rfl
theorem wi_327_33 : ri (rt_P sc fm) 327 33 (.iload_n 2) (34) := ri_of (by decide +kernel) rfl
theorem wi_327_34 : ri (rt_P sc fm) 327 34 (.iadd) (35) := ri_of (by decide +kernel) rfl
theorem wi_327_35 : ri (rt_P sc fm) 327 35 (.invokevirtual 88) (38) := ri_of (by decide +kernel) rfl
theorem wi_327_38 : ri (rt_P sc fm) 327 38 (.iinc 2 1) (41) := ri_of (by decide +kernel) rfl
theorem wi_327_41 : ri (rt_P sc fm) 327 41 (.goto (-25)) (44) := ri_of (by decide +kernel) rfl
theorem wi_327_44 : ri (rt_P sc fm) 327 44 (.return_) (45) := ri_of (by decide +kernel) rfl
theorem wi_327_6 : ri (rt_P sc fm) 327 6 (.return_) (7) := ri_of (by decide +kernel) rfl
theorem wi_327_7 : ri (rt_P sc fm) 327 7 (.aload_n 0) (8) := ri_of (by decide +kernel) rfl
theorem wi_327_8 : ri (rt_P sc fm) 327 8 (.sipush 208) (11) := ri_of (by decide +kernel) rfl
theorem wr_327 : rx_rt (rt_P sc fm) 327 = none := (by decide +kernel : rt_rt 327 = none)
/-- MarkHouse$Teller.writeSorts(I)V -/
def d_327 (n : Nat) (a1 : Int32) (c : cS) : Option (cS) :=
  if a1 = 15 then
    some c
  else
    Option.bind (d_321 n 208 c) (fun r1 =>
    Option.bind (whl (R := (cS)) (fun s3 : Int32 × cS =>
      if 3 < s3.1 then
        some (.inr s3.2)
      else
        jn (fun p4 : cS =>
          lt (s3.1 + 1 : Int32) (fun v6 =>
          some (.inl (v6, p4))))
        (fun j38 =>
        if ((a1 >>> (s3.1 &&& 31)) &&& 1) = 0 then
          j38 s3.2
        else
          Option.bind (d_321 n (202 + s3.1) s3.2) (fun r8 =>
          j38 r8))) n (0, r1))
    (fun x9 : cS =>
      some x9))
theorem sp_327 {F Lo n : Nat} {a1 : Int32} {c y : cS} {w : cW} {K : cS → Prop} {Q : ((Option Value) ⊕ String) → List va_E → Prop} (hw : rOK fm w) (hF : 4 ≤ F) (hLo : 88 ≤ Lo)  (h : wp (d_327 n a1 c) K) (hQ : ∀ r, K r → Q (.inl none) (hq true r y w)) : rs (rt_P sc fm) 327 F Lo 0 [(0, .ref 172), (1, .int a1)] [] (hq true c y w) Q := by
  unfold d_327 at h
  obtain ⟨lv, elv⟩ : ∃ lv : rx_L, lv = [(0, .ref 172), (1, .int a1)] := ⟨_, rfl⟩
  rw [← elv]
  have l0 : rx_ld lv 0 = some (.ref 172) := by rw [elv]; rfl
  have l1 : rx_ld lv 1 = some (.int a1) := by rw [elv]; rfl
  refine rs_ildn wi_327_0 l1 ?_
  refine rs_pure wi_327_1 rfl ?_
  refine rs_topi (v := 15) (by decide) ?_
  refine rs_icne (tg := 7) wi_327_3 ⟨by decide, by decide⟩ (fun q => ?_) (fun q => ?_)
  ·
    have h := wp_neg h q
    refine rs_aldn wi_327_7 l0 ?_
    refine rs_pure wi_327_8 rfl ?_
    refine rs_topi (v := 208) (by decide) ?_
    refine rs_V wi_327_11 wc_327_88 rfl (dq_isa tf_172_0 wa_12_321) (Nat.le_trans (by decide) hF) (ml_le wm_321 (Nat.le_trans (by decide) hLo)) rfl (sp_321 hw (Nat.le_trans (by decide : 3 ≤ 4 - 1) (Nat.sub_le_sub_right hF 1)) (ml_sub wm_321 (Nat.le_trans (by decide : 67 ≤ 88 - 21) (Nat.sub_le_sub_right hLo 21))) (wp_bind h) (fun r1 h => rs_back0 ?_))
    refine rs_pure wi_327_14 rfl ?_
    refine rs_topi (v := 0) (by decide) ?_
    refine dl_istn wi_327_15 rfl (fun lv l2 t2 => ?_)
    have l0 := t2 _ _ (by decide) (Or.inl rfl) l0
    have l1 := t2 _ _ (by decide) (Or.inl rfl) l1
    refine whl_ex (A := fun s3 : Int32 × cS => ∀ lv, rx_ld lv 0 = some (.ref 172) → rx_ld lv 1 = some (.int a1) → rx_ld lv 2 = some (.int s3.1) → rs (rt_P sc fm) 327 F Lo 16 lv [] (hq true s3.2 y w) Q) (B := (fun x9 : cS => ∀ lv, rs (rt_P sc fm) 327 F Lo 44 lv [] (hq true x9 y w) Q)) ?_ ?_ _ _ (wp_bind h) _ l0 l1 l2
    · intro s3 h lv l0 l1 l2
      refine rs_ildn wi_327_16 l2 ?_
      refine rs_pure wi_327_17 rfl ?_
      refine rs_topi (v := 3) (by decide) ?_
      refine rs_icgt (tg := 44) wi_327_18 ⟨by decide, by decide⟩ (fun q => ?_) (fun q => ?_)
      ·
        have h := wp_pos h q
        exact h _
      ·
        have h := wp_neg h q
        refine rs_ildn wi_327_21 l1 ?_
        refine rs_ildn wi_327_22 l2 ?_
        refine rs_pure wi_327_23 rfl ?_
        refine rs_pure wi_327_24 rfl ?_
        refine rs_topi (v := 1) (by decide) ?_
        refine rs_pure wi_327_25 rfl ?_
        refine wp_jn (B := fun p4 : cS => ∀ lv, rx_ld lv 0 = some (.ref 172) → rx_ld lv 1 = some (.int a1) → rx_ld lv 2 = some (.int s3.1) → rs (rt_P sc fm) 327 F Lo 38 lv [] (hq true p4 y w) Q) h (fun p4 h lv l0 l1 l2 => ?_) (fun j38 hj38 h => ?_)
        ·
          obtain ⟨v6, e7, h⟩ := wp_lt h
          refine dl_inc wi_327_38 l2 rfl e7 (fun lv l2 t5 => ?_)
          have l0 := t5 _ _ (by decide) (Or.inl rfl) l0
          have l1 := t5 _ _ (by decide) (Or.inl rfl) l1
          refine rs_goto (tg := 16) wi_327_41 ⟨by decide, by decide⟩ ?_
          exact h _ l0 l1 l2
        refine rs_ifeq (tg := 38) wi_327_26 ⟨by decide, by decide⟩ (fun q => ?_) (fun q => ?_)
        ·
          have h := wp_pos h q
          exact hj38 _ h _ l0 l1 l2
        ·
          have h := wp_neg h q
          refine rs_aldn wi_327_29 l0 ?_
          refine rs_pure wi_327_30 rfl ?_
          refine rs_topi (v := 202) (by decide) ?_
          refine rs_ildn wi_327_33 l2 ?_
          refine rs_pure wi_327_34 rfl ?_
          refine rs_V wi_327_35 wc_327_88 rfl (dq_isa tf_172_0 wa_12_321) (Nat.le_trans (by decide) hF) (ml_le wm_321 (Nat.le_trans (by decide) hLo)) rfl (sp_321 hw (Nat.le_trans (by decide : 3 ≤ 4 - 1) (Nat.sub_le_sub_right hF 1)) (ml_sub wm_321 (Nat.le_trans (by decide : 67 ≤ 88 - 21) (Nat.sub_le_sub_right hLo 21))) (wp_bind h) (fun r8 h => rs_back0 ?_))
          exact hj38 _ h _ l0 l1 l2
    ·
      intro x9 h lv
      exact rs_vret wi_327_44 wr_327 (hQ x9 h)
  ·
    have h := wp_pos h q
    exact rs_vret wi_327_6 wr_327 (hQ c h)
theorem tf_172_3 : fo true 172 12 3 (.ref 7) := ⟨_, rfl, rfl, by decide, by decide⟩
theorem tf_172_5 : fo true 172 12 5 (.ref 133) := ⟨_, rfl, rfl, by decide, by decide⟩
theorem wc_331_224 : rx_ct (rt_P sc fm) 331 224 = some (0, 227, 1) := (by decide +kernel : rt_ct 331 224 = some (0, 227, 1))
theorem wc_331_230 : rx_ct (rt_P sc fm) 331 230 = some (0, 231, 2) := (by decide +kernel : rt_ct 331 230 = some (0, 231, 2))
theorem wc_331_234 : rx_ct (rt_P sc fm) 331 234 = some (0, 232, 3) := (by decide +kernel : rt_ct 331 234 = some (0, 232, 3))
theorem wf_331_144 : rx_ft (rt_P sc fm) 331 144 = some (6, 1) := (by decide +kernel : rt_ft 331 144 = some (6, 1))
theorem wf_331_19 : rx_ft (rt_P sc fm) 331 19 = some (12, 3) := (by decide +kernel : rt_ft 331 19 = some (12, 3))
theorem wf_331_227 : rx_ft (rt_P sc fm) 331 227 = some (7, 1) := (by decide +kernel : rt_ft 331 227 = some (7, 1))
theorem wf_331_27 : rx_ft (rt_P sc fm) 331 27 = some (12, 5) := (by decide +kernel : rt_ft 331 27 = some (12, 5))
theorem wf_331_66 : rx_ft (rt_P sc fm) 331 66 = some (9, 1) := (by decide +kernel : rt_ft 331 66 = some (9, 1))
theorem wf_331_77 : rx_ft (rt_P sc fm) 331 77 = some (9, 3) := (by decide +kernel : rt_ft 331 77 = some (9, 3))
theorem wi_331_0 : ri (rt_P sc fm) 331 0 (.aload_n 0) (1) := ri_of (by decide +kernel) rfl
theorem wi_331_1 : ri (rt_P sc fm) 331 1 (.getfield 27) (4) := ri_of (by decide +kernel) rfl
theorem wi_331_102 : ri (rt_P sc fm) 331 102 (.ifCond .ge 5) (105) := ri_of (by decide +kernel) rfl
theorem wi_331_105 : ri (rt_P sc fm) 331 105 (.iconst 0) (106) := ri_of (by decide +kernel) rfl
theorem wi_331_106 : ri (rt_P sc fm) 331 106 (.ireturn) (107) := ri_of (by decide +kernel) rfl
theorem wi_331_107 : ri (rt_P sc fm) 331 107 (.iinc 3 1) (110) := ri_of (by decide +kernel) rfl
theorem wi_331_11 : ri (rt_P sc fm) 331 11 (.iconst 1) (12) := ri_of (by decide +kernel) rfl
theorem wi_331_110 : ri (rt_P sc fm) 331 110 (.goto (-26)) (113) := ri_of (by decide +kernel) rfl
theorem wi_331_113 : ri (rt_P sc fm) 331 113 (.iconst 1) (114) := ri_of (by decide +kernel) rfl
theorem wi_331_114 : ri (rt_P sc fm) 331 114 (.ireturn) (115) := ri_of (by decide +kernel) rfl
theorem wi_331_12 : ri (rt_P sc fm) 331 12 (.ireturn) (13) := ri_of (by decide +kernel) rfl
theorem wi_331_13 : ri (rt_P sc fm) 331 13 (.aload_n 0) (14) := ri_of (by decide +kernel) rfl
theorem wi_331_14 : ri (rt_P sc fm) 331 14 (.getfield 27) (17) := ri_of (by decide +kernel) rfl
theorem wi_331_17 : ri (rt_P sc fm) 331 17 (.getfield 227) (20) := ri_of (by decide +kernel) rfl
theorem wi_331_20 : ri (rt_P sc fm) 331 20 (.iload_n 1) (21) := ri_of (by decide +kernel) rfl
theorem wi_331_21 : ri (rt_P sc fm) 331 21 (.iaload) (22) := ri_of (by decide +kernel) rfl
theorem wi_331_22 : ri (rt_P sc fm) 331 22 (.bipush 100) (24) := ri_of (by decide +kernel) rfl
theorem wi_331_24 : ri (rt_P sc fm) 331 24 (.if_icmp .lt 40) (27) := ri_of (by decide +kernel) rfl
theorem wi_331_27 : ri (rt_P sc fm) 331 27 (.aload_n 0) (28) := ri_of (by decide +kernel) rfl
theorem wi_331_28 : ri (rt_P sc fm) 331 28 (.getfield 27) (31) := ri_of (by decide +kernel) rfl
theorem wi_331_31 : ri (rt_P sc fm) 331 31 (.iload_n 1) (32) := ri_of (by decide +kernel) rfl
theorem wi_331_32 : ri (rt_P sc fm) 331 32 (.aload_n 0) (33) := ri_of (by decide +kernel) rfl
theorem wi_331_33 : ri (rt_P sc fm) 331 33 (.getfield 19) (36) := ri_of (by decide +kernel) rfl
theorem wi_331_36 : ri (rt_P sc fm) 331 36 (.getfield 66) (39) := ri_of (by decide +kernel) rfl
theorem wi_331_39 : ri (rt_P sc fm) 331 39 (.aload_n 0) (40) := ri_of (by decide +kernel) rfl
theorem wi_331_4 : ri (rt_P sc fm) 331 4 (.iload_n 1) (5) := ri_of (by decide +kernel) rfl
theorem wi_331_40 : ri (rt_P sc fm) 331 40 (.getfield 27) (43) := ri_of (by decide +kernel) rfl
theorem wi_331_43 : ri (rt_P sc fm) 331 43 (.getfield 227) (46) := ri_of (by decide +kernel) rfl
theorem wi_331_46 : ri (rt_P sc fm) 331 46 (.iload_n 1) (47) := ri_of (by decide +kernel) rfl
theorem wi_331_47 : ri (rt_P sc fm) 331 47 (.iaload) (48) := ri_of (by decide +kernel) rfl
theorem wi_331_48 : ri (rt_P sc fm) 331 48 (.bipush 100) (50) := ri_of (by decide +kernel) rfl
theorem wi_331_5 : ri (rt_P sc fm) 331 5 (.invokevirtual 224) (8) := ri_of (by decide +kernel) rfl
theorem wi_331_50 : ri (rt_P sc fm) 331 50 (.isub) (51) := ri_of (by decide +kernel) rfl
theorem wi_331_51 : ri (rt_P sc fm) 331 51 (.aaload) (52) := ri_of (by decide +kernel) rfl
theorem wi_331_52 : ri (rt_P sc fm) 331 52 (.invokevirtual 230) (55) := ri_of (by decide +kernel) rfl
theorem wi_331_55 : ri (rt_P sc fm) 331 55 (.ifCond .lt 7) (58) := ri_of (by decide +kernel) rfl
theorem wi_331_58 : ri (rt_P sc fm) 331 58 (.iconst 1) (59) := ri_of (by decide +kernel) rfl
theorem wi_331_59 : ri (rt_P sc fm) 331 59 (.goto 4) (62) := ri_of (by decide +kernel) rfl
theorem wi_331_62 : ri (rt_P sc fm) 331 62 (.iconst 0) (63) := ri_of (by decide +kernel) rfl
theorem wi_331_63 : ri (rt_P sc fm) 331 63 (.ireturn) (64) := ri_of (by decide +kernel) rfl
theorem wi_331_64 : ri (rt_P sc fm) 331 64 (.aload_n 0) (65) := ri_of (by decide +kernel) rfl
theorem wi_331_65 : ri (rt_P sc fm) 331 65 (.getfield 19) (68) := ri_of (by decide +kernel) rfl
theorem wi_331_68 : ri (rt_P sc fm) 331 68 (.getfield 77) (71) := ri_of (by decide +kernel) rfl
theorem wi_331_71 : ri (rt_P sc fm) 331 71 (.aload_n 0) (72) := ri_of (by decide +kernel) rfl
theorem wi_331_72 : ri (rt_P sc fm) 331 72 (.getfield 27) (75) := ri_of (by decide +kernel) rfl
theorem wi_331_75 : ri (rt_P sc fm) 331 75 (.getfield 227) (78) := ri_of (by decide +kernel) rfl
theorem wi_331_78 : ri (rt_P sc fm) 331 78 (.iload_n 1) (79) := ri_of (by decide +kernel) rfl
theorem wi_331_79 : ri (rt_P sc fm) 331 79 (.iaload) (80) := ri_of (by decide +kernel) rfl
theorem wi_331_8 : ri (rt_P sc fm) 331 8 (.ifCond .eq 5) (11) := ri_of (by decide +kernel) rfl
theorem wi_331_80 : ri (rt_P sc fm) 331 80 (.aaload) (81) := ri_of (by decide +kernel) rfl
theorem wi_331_81 : ri (rt_P sc fm) 331 81 (.astore_n 2) (82) := ri_of (by decide +kernel) rfl
theorem wi_331_82 : ri (rt_P sc fm) 331 82 (.iconst 0) (83) := ri_of (by decide +kernel) rfl
theorem wi_331_83 : ri (rt_P sc fm) 331 83 (.istore_n 3) (84) := ri_of (by decide +kernel) rfl
theorem wi_331_84 : ri (rt_P sc fm) 331 84 (.iload_n 3) (85) := ri_of (by decide +kernel) rfl
theorem wi_331_85 : ri (rt_P sc fm) 331 85 (.aload_n 2) (86) := ri_of (by decide +kernel) rfl
theorem wi_331_86 : ri (rt_P sc fm) 331 86 (.getfield 144) (89) := ri_of (by decide +kernel) rfl
theorem wi_331_89 : ri (rt_P sc fm) 331 89 (.if_icmp .ge 24) (92) := ri_of (by decide +kernel) rfl
theorem wi_331_92 : ri (rt_P sc fm) 331 92 (.aload_n 0) (93) := ri_of (by decide +kernel) rfl
theorem wi_331_93 : ri (rt_P sc fm) 331 93 (.getfield 27) (96) := ri_of (by decide +kernel) rfl
theorem wi_331_96 : ri (rt_P sc fm) 331 96 (.iload_n 1) (97) := ri_of (by decide +kernel) rfl
theorem wi_331_97 : ri (rt_P sc fm) 331 97 (.aload_n 2) (98) := ri_of (by decide +kernel) rfl
theorem wi_331_98 : ri (rt_P sc fm) 331 98 (.iload_n 3) (99) := ri_of (by decide +kernel) rfl
theorem wi_331_99 : ri (rt_P sc fm) 331 99 (.invokevirtual 234) (102) := ri_of (by decide +kernel) rfl
theorem wr_331 : rx_rt (rt_P sc fm) 331 = (some FieldType.boolean) := (by decide +kernel : rt_rt 331 = (some FieldType.boolean))
/-- MarkHouse$Teller.isWhole(I)Z -/
def d_331 (n : Nat) (a1 : Int32) (c : cS) : Option (Int32) :=
  Option.bind (d_227 n a1 c) (fun v1 =>
  if v1 = 0 then
    if ib a1 4096 then
    if (c.1 135 (ix a1)) < 100 then
      if ib a1 4096 then
      if ib (c.1 135 (ix a1)) 12 then
      Option.bind (whl (R := (Unit) ⊕ (Unit)) (fun s7 : Int32 =>
        if (c.1 (kA (ix (c.1 135 (ix a1)))) 1) ≤ s7 then
          some (.inr (.inl ()))
        else
          Option.bind (d_232 n a1 (ix (c.1 135 (ix a1))) s7 c) (fun v8 =>
          if 0 ≤ v8 then
            lt (s7 + 1 : Int32) (fun v10 =>
            some (.inl v10))
          else
            some (.inr (.inr ())))) n 0)
      (Sum.elim (fun x12 : Unit =>
        some 1)
      (fun x13 : Unit =>
        some 0))
      else none
      else none
    else
      if ib a1 4096 then
      if ib ((c.1 135 (ix a1)) - 100) 4 then
      Option.bind (d_231 n a1 (ix ((c.1 135 (ix a1)) - 100)) c) (fun v16 =>
      jn (fun p17 : Int32 =>
        if nb p17 then
        some p17
        else none)
      (fun j63 =>
      if v16 < 0 then
        j63 0
      else
        j63 1))
      else none
      else none
    else none
  else
    some 1)
theorem sp_331 {F Lo n : Nat} {a1 : Int32} {c y : cS} {w : cW} {K : Int32 → Prop} {Q : ((Option Value) ⊕ String) → List va_E → Prop} (hw : rOK fm w) (hF : 6 ≤ F) (hLo : 131 ≤ Lo)  (h : wp (d_331 n a1 c) K) (hQ : ∀ r, K r → Q (.inl (some (.int r))) (hq true c y w)) : rs (rt_P sc fm) 331 F Lo 0 [(0, .ref 172), (1, .int a1)] [] (hq true c y w) Q := by
  unfold d_331 at h
  obtain ⟨lv, elv⟩ : ∃ lv : rx_L, lv = [(0, .ref 172), (1, .int a1)] := ⟨_, rfl⟩
  rw [← elv]
  have l0 : rx_ld lv 0 = some (.ref 172) := by rw [elv]; rfl
  have l1 : rx_ld lv 1 = some (.int a1) := by rw [elv]; rfl
  refine rs_aldn wi_331_0 l0 ?_
  refine dq_gr wi_331_1 wf_331_27 tf_172_5 ?_
  refine rs_ildn wi_331_4 l1 ?_
  refine rs_V wi_331_5 wc_331_224 rfl (dq_isa tf_133_0 wa_7_227) (Nat.le_trans (by decide) hF) (ml_le wm_227 (Nat.le_trans (by decide) hLo)) rfl (sp_227 hw (Nat.le_trans (by decide : 0 ≤ 6 - 1) (Nat.sub_le_sub_right hF 1)) (ml_sub wm_227 (Nat.le_trans (by decide : 0 ≤ 131 - 21) (Nat.sub_le_sub_right hLo 21))) (wp_bind h) (fun v1 h => rs_back1 ?_))
  refine rs_ifeq (tg := 13) wi_331_8 ⟨by decide, by decide⟩ (fun q => ?_) (fun q => ?_)
  ·
    have h := wp_pos h q
    refine rs_aldn wi_331_13 l0 ?_
    refine dq_gr wi_331_14 wf_331_27 tf_172_5 ?_
    refine dq_gr wi_331_17 wf_331_227 tf_133_1 ?_
    refine rs_ildn wi_331_20 l1 ?_
    obtain ⟨g2, h⟩ := wp_gd h
    refine dq_iald wi_331_21 t_135 g2 ?_
    refine rs_pure wi_331_22 rfl ?_
    refine rs_topi (v := 100) (by decide) ?_
    refine rs_iclt (tg := 64) wi_331_24 ⟨by decide, by decide⟩ (fun q => ?_) (fun q => ?_)
    ·
      have h := wp_pos h q
      refine rs_aldn wi_331_64 l0 ?_
      refine dq_gr wi_331_65 wf_331_19 tf_172_3 ?_
      refine dq_gr wi_331_68 wf_331_77 tf_7_3 ?_
      refine rs_aldn wi_331_71 l0 ?_
      refine dq_gr wi_331_72 wf_331_27 tf_172_5 ?_
      refine dq_gr wi_331_75 wf_331_227 tf_133_1 ?_
      refine rs_ildn wi_331_78 l1 ?_
      obtain ⟨g3, h⟩ := wp_gd h
      refine dq_iald wi_331_79 t_135 g3 ?_
      obtain ⟨g4, h⟩ := wp_gd h
      refine dq_aald wi_331_80 (by decide) t_9 g4 (hw.2.1 _ (ib_lt g4)) ?_
      refine dl_astn wi_331_81 rfl (fun lv l2 t5 => ?_)
      have l0 := t5 _ _ (by decide) (Or.inl rfl) l0
      have l1 := t5 _ _ (by decide) (Or.inl rfl) l1
      refine rs_pure wi_331_82 rfl ?_
      refine rs_topi (v := 0) (by decide) ?_
      refine dl_istn wi_331_83 rfl (fun lv l3 t6 => ?_)
      have l0 := t6 _ _ (by decide) (Or.inl rfl) l0
      have l1 := t6 _ _ (by decide) (Or.inl rfl) l1
      have l2 := t6 _ _ (by decide) (Or.inl rfl) l2
      refine whl_ex (A := fun s7 : Int32 => ∀ lv, rx_ld lv 0 = some (.ref 172) → rx_ld lv 1 = some (.int a1) → rx_ld lv 2 = some (.ref (kA (ix (c.1 135 (ix a1))))) → rx_ld lv 3 = some (.int s7) → rs (rt_P sc fm) 331 F Lo 84 lv [] (hq true c y w) Q) (B := (Sum.elim (fun x12 : Unit => ∀ lv, rs (rt_P sc fm) 331 F Lo 113 lv [] (hq true c y w) Q) (fun x13 : Unit => ∀ lv, rs (rt_P sc fm) 331 F Lo 105 lv [] (hq true c y w) Q))) ?_ ?_ _ _ (wp_bind h) _ l0 l1 l2 l3
      · intro s7 h lv l0 l1 l2 l3
        refine rs_ildn wi_331_84 l3 ?_
        refine rs_aldn wi_331_85 l2 ?_
        refine dq_gi wi_331_86 wf_331_144 (fK_1 (ib_lt g4)) ?_
        refine rs_icge (tg := 113) wi_331_89 ⟨by decide, by decide⟩ (fun q => ?_) (fun q => ?_)
        ·
          have h := wp_pos h q
          exact h _
        ·
          have h := wp_neg h q
          refine rs_aldn wi_331_92 l0 ?_
          refine dq_gr wi_331_93 wf_331_27 tf_172_5 ?_
          refine rs_ildn wi_331_96 l1 ?_
          refine rs_aldn wi_331_97 l2 ?_
          refine rs_ildn wi_331_98 l3 ?_
          refine rs_V wi_331_99 wc_331_234 rfl (dq_isa tf_133_0 wa_7_232) (Nat.le_trans (by decide) hF) (ml_le wm_232 (Nat.le_trans (by decide) hLo)) rfl (sp_232 hw (Nat.le_trans (by decide : 1 ≤ 6 - 1) (Nat.sub_le_sub_right hF 1)) (ml_sub wm_232 (Nat.le_trans (by decide : 24 ≤ 131 - 24) (Nat.sub_le_sub_right hLo 24))) (ib_lt g4) (wp_bind h) (fun v8 h => rs_back1 ?_))
          refine rs_ifge (tg := 107) wi_331_102 ⟨by decide, by decide⟩ (fun q => ?_) (fun q => ?_)
          ·
            have h := wp_pos h q
            obtain ⟨v10, e11, h⟩ := wp_lt h
            refine dl_inc wi_331_107 l3 rfl e11 (fun lv l3 t9 => ?_)
            have l0 := t9 _ _ (by decide) (Or.inl rfl) l0
            have l1 := t9 _ _ (by decide) (Or.inl rfl) l1
            have l2 := t9 _ _ (by decide) (Or.inl rfl) l2
            refine rs_goto (tg := 84) wi_331_110 ⟨by decide, by decide⟩ ?_
            exact h _ l0 l1 l2 l3
          ·
            have h := wp_neg h q
            exact h _
      ·
        refine sum_all ?_ ?_
        ·
          intro x12 h lv
          have h := wp_inl h
          refine rs_pure wi_331_113 rfl ?_
          refine rs_topi (v := 1) (by decide) ?_
          exact rs_iret wi_331_114 wr_331 (nb_n (by decide)) (hQ 1 h)
        ·
          intro x13 h lv
          have h := wp_inr h
          refine rs_pure wi_331_105 rfl ?_
          refine rs_topi (v := 0) (by decide) ?_
          exact rs_iret wi_331_106 wr_331 (nb_n (by decide)) (hQ 0 h)
    ·
      have h := wp_neg h q
      refine rs_aldn wi_331_27 l0 ?_
      refine dq_gr wi_331_28 wf_331_27 tf_172_5 ?_
      refine rs_ildn wi_331_31 l1 ?_
      refine rs_aldn wi_331_32 l0 ?_
      refine dq_gr wi_331_33 wf_331_19 tf_172_3 ?_
      refine dq_gr wi_331_36 wf_331_66 tf_7_1 ?_
      refine rs_aldn wi_331_39 l0 ?_
      refine dq_gr wi_331_40 wf_331_27 tf_172_5 ?_
      refine dq_gr wi_331_43 wf_331_227 tf_133_1 ?_
      refine rs_ildn wi_331_46 l1 ?_
      obtain ⟨g14, h⟩ := wp_gd h
      refine dq_iald wi_331_47 t_135 g14 ?_
      refine rs_pure wi_331_48 rfl ?_
      refine rs_topi (v := 100) (by decide) ?_
      refine rs_pure wi_331_50 rfl ?_
      obtain ⟨g15, h⟩ := wp_gd h
      refine dq_aald wi_331_51 (by decide) t_8 g15 (hw.1 _ (ib_lt g15)) ?_
      refine rs_V wi_331_52 wc_331_230 rfl (dq_isa tf_133_0 wa_7_231) (Nat.le_trans (by decide) hF) (ml_le wm_231 (Nat.le_trans (by decide) hLo)) rfl (sp_231 hw (Nat.le_trans (by decide : 5 ≤ 6 - 1) (Nat.sub_le_sub_right hF 1)) (ml_sub wm_231 (Nat.le_trans (by decide : 108 ≤ 131 - 23) (Nat.sub_le_sub_right hLo 23))) (ib_lt g15) (wp_bind h) (fun v16 h => rs_back1 ?_))
      refine wp_jn (B := fun p17 : Int32 => ∀ lv, rs (rt_P sc fm) 331 F Lo 63 lv [.int p17] (hq true c y w) Q) h (fun p17 h lv => ?_) (fun j63 hj63 h => ?_)
      ·
        obtain ⟨g18, h⟩ := wp_gd h
        exact rs_iret wi_331_63 wr_331 (nb_n g18) (hQ p17 h)
      refine rs_iflt (tg := 62) wi_331_55 ⟨by decide, by decide⟩ (fun q => ?_) (fun q => ?_)
      ·
        have h := wp_pos h q
        refine rs_pure wi_331_62 rfl ?_
        refine rs_topi (v := 0) (by decide) ?_
        exact hj63 _ h _
      ·
        have h := wp_neg h q
        refine rs_pure wi_331_58 rfl ?_
        refine rs_topi (v := 1) (by decide) ?_
        refine rs_goto (tg := 63) wi_331_59 ⟨by decide, by decide⟩ ?_
        exact hj63 _ h _
  ·
    have h := wp_neg h q
    refine rs_pure wi_331_11 rfl ?_
    refine rs_topi (v := 1) (by decide) ?_
    exact rs_iret wi_331_12 wr_331 (nb_n (by decide)) (hQ 1 h)
theorem wc_233_78 : rx_ct (rt_P sc fm) 233 78 = some (0, 230, 2) := (by decide +kernel : rt_ct 233 78 = some (0, 230, 2))
theorem wf_233_36 : rx_ft (rt_P sc fm) 233 36 = some (7, 7) := (by decide +kernel : rt_ft 233 36 = some (7, 7))
theorem wf_233_87 : rx_ft (rt_P sc fm) 233 87 = some (6, 2) := (by decide +kernel : rt_ft 233 87 = some (6, 2))
theorem wf_233_98 : rx_ft (rt_P sc fm) 233 98 = some (6, 5) := (by decide +kernel : rt_ft 233 98 = some (6, 5))
theorem wi_233_0 : ri (rt_P sc fm) 233 0 (.aload_n 0) (1) := ri_of (by decide +kernel) rfl
theorem wi_233_1 : ri (rt_P sc fm) 233 1 (.iload_n 1) (2) := ri_of (by decide +kernel) rfl
theorem wi_233_11 : ri (rt_P sc fm) 233 11 (.istore 4) (13) := ri_of (by decide +kernel) rfl
theorem wi_233_13 : ri (rt_P sc fm) 233 13 (.iload 4) (15) := ri_of (by decide +kernel) rfl
theorem wi_233_15 : ri (rt_P sc fm) 233 15 (.ifCond .ge 12) (18) := ri_of (by decide +kernel) rfl
theorem wi_233_18 : ri (rt_P sc fm) 233 18 (.aload_n 2) (19) := ri_of (by decide +kernel) rfl
theorem wi_233_19 : ri (rt_P sc fm) 233 19 (.getfield 98) (22) := ri_of (by decide +kernel) rfl
theorem wi_233_2 : ri (rt_P sc fm) 233 2 (.aload_n 2) (3) := ri_of (by decide +kernel) rfl
theorem wi_233_22 : ri (rt_P sc fm) 233 22 (.iload_n 3) (23) := ri_of (by decide +kernel) rfl
theorem wi_233_23 : ri (rt_P sc fm) 233 23 (.laload) (24) := ri_of (by decide +kernel) rfl
theorem wi_233_24 : ri (rt_P sc fm) 233 24 (.goto 10) (27) := ri_of (by decide +kernel) rfl
theorem wi_233_27 : ri (rt_P sc fm) 233 27 (.aload_n 0) (28) := ri_of (by decide +kernel) rfl
theorem wi_233_28 : ri (rt_P sc fm) 233 28 (.getfield 36) (31) := ri_of (by decide +kernel) rfl
theorem wi_233_3 : ri (rt_P sc fm) 233 3 (.getfield 87) (6) := ri_of (by decide +kernel) rfl
theorem wi_233_31 : ri (rt_P sc fm) 233 31 (.iload 4) (33) := ri_of (by decide +kernel) rfl
theorem wi_233_33 : ri (rt_P sc fm) 233 33 (.laload) (34) := ri_of (by decide +kernel) rfl
theorem wi_233_34 : ri (rt_P sc fm) 233 34 (.lreturn) (35) := ri_of (by decide +kernel) rfl
theorem wi_233_6 : ri (rt_P sc fm) 233 6 (.iload_n 3) (7) := ri_of (by decide +kernel) rfl
theorem wi_233_7 : ri (rt_P sc fm) 233 7 (.laload) (8) := ri_of (by decide +kernel) rfl
theorem wi_233_8 : ri (rt_P sc fm) 233 8 (.invokevirtual 78) (11) := ri_of (by decide +kernel) rfl
theorem wr_233 : rx_rt (rt_P sc fm) 233 = (some FieldType.long) := (by decide +kernel : rt_rt 233 = (some FieldType.long))
/-- MarkHouse$Marks.memberValue(ILMarkHouse$Kind;I)J -/
def d_233 (n : Nat) (a1 : Int32) (k2 : Nat) (a3 : Int32) (c : cS) : Option (Int64) :=
  if ib a3 4 then
  Option.bind (d_230 n a1 (c.2 (kA k2 + 1) (ix a3)) c) (fun v2 =>
  jn (fun p4 : Int64 =>
    some p4)
  (fun j34 =>
  if 0 ≤ v2 then
    if ib v2 16384 then
    j34 (c.2 141 (ix v2))
    else none
  else
    if ib a3 4 then
    j34 (c.2 (kA k2 + 4) (ix a3))
    else none))
  else none
theorem sp_233 {F Lo n : Nat} {a1 : Int32} {k2 : Nat} {a3 : Int32} {c y : cS} {w : cW} {K : Int64 → Prop} {Q : ((Option Value) ⊕ String) → List va_E → Prop} (hw : rOK fm w) (hF : 1 ≤ F) (hLo : 24 ≤ Lo) (hk2 : k2 < 12) (h : wp (d_233 n a1 k2 a3 c) K) (hQ : ∀ r, K r → Q (.inl (some (.long r))) (hq true c y w)) : rs (rt_P sc fm) 233 F Lo 0 [(0, .ref 133), (1, .int a1), (2, .ref (kA k2)), (3, .int a3)] [] (hq true c y w) Q := by
  unfold d_233 at h
  obtain ⟨lv, elv⟩ : ∃ lv : rx_L, lv = [(0, .ref 133), (1, .int a1), (2, .ref (kA k2)), (3, .int a3)] := ⟨_, rfl⟩
  rw [← elv]
  have l0 : rx_ld lv 0 = some (.ref 133) := by rw [elv]; rfl
  have l1 : rx_ld lv 1 = some (.int a1) := by rw [elv]; rfl
  have l2 : rx_ld lv 2 = some (.ref (kA k2)) := by rw [elv]; rfl
  have l3 : rx_ld lv 3 = some (.int a3) := by rw [elv]; rfl
  refine rs_aldn wi_233_0 l0 ?_
  refine rs_ildn wi_233_1 l1 ?_
  refine rs_aldn wi_233_2 l2 ?_
  refine dq_gr wi_233_3 wf_233_87 (fK_2 hk2) ?_
  refine rs_ildn wi_233_6 l3 ?_
  obtain ⟨g1, h⟩ := wp_gd h
  refine dq_lald wi_233_7 (tK_1 hk2) g1 ?_
  refine rs_V wi_233_8 wc_233_78 rfl (dq_isa tf_133_0 wa_7_230) (Nat.le_trans (by decide) hF) (ml_le wm_230 (Nat.le_trans (by decide) hLo)) rfl (sp_230 hw (Nat.le_trans (by decide : 0 ≤ 1 - 1) (Nat.sub_le_sub_right hF 1)) (ml_sub wm_230 (Nat.le_trans (by decide : 0 ≤ 24 - 24) (Nat.sub_le_sub_right hLo 24))) (wp_bind h) (fun v2 h => rs_back1 ?_))
  refine dl_ist wi_233_11 rfl (fun lv l4 t3 => ?_)
  have l0 := t3 _ _ (by decide) (Or.inl rfl) l0
  have l2 := t3 _ _ (by decide) (Or.inl rfl) l2
  have l3 := t3 _ _ (by decide) (Or.inl rfl) l3
  refine rs_ild wi_233_13 l4 ?_
  refine wp_jn (B := fun p4 : Int64 => ∀ lv, rs (rt_P sc fm) 233 F Lo 34 lv [.long p4] (hq true c y w) Q) h (fun p4 h lv => ?_) (fun j34 hj34 h => ?_)
  ·
    exact rs_lret wi_233_34 wr_233 (hQ p4 h)
  refine rs_ifge (tg := 27) wi_233_15 ⟨by decide, by decide⟩ (fun q => ?_) (fun q => ?_)
  ·
    have h := wp_pos h q
    refine rs_aldn wi_233_27 l0 ?_
    refine dq_gr wi_233_28 wf_233_36 tf_133_7 ?_
    refine rs_ild wi_233_31 l4 ?_
    obtain ⟨g5, h⟩ := wp_gd h
    refine dq_lald wi_233_33 t_141 g5 ?_
    exact hj34 _ h _
  ·
    have h := wp_neg h q
    refine rs_aldn wi_233_18 l2 ?_
    refine dq_gr wi_233_19 wf_233_98 (fK_5 hk2) ?_
    refine rs_ildn wi_233_22 l3 ?_
    obtain ⟨g6, h⟩ := wp_gd h
    refine dq_lald wi_233_23 (tK_4 hk2) g6 ?_
    refine rs_goto (tg := 34) wi_233_24 ⟨by decide, by decide⟩ ?_
    exact hj34 _ h _
theorem wa_12_323 : rz_cn 12 (rx_yn (rt_P sc fm) 323).cls = true := (by decide +kernel : rz_cn 12 (rt_yn 323).cls = true)
theorem wa_7_233 : rz_cn 7 (rx_yn (rt_P sc fm) 233).cls = true := (by decide +kernel : rz_cn 7 (rt_yn 233).cls = true)
theorem wc_332_158 : rx_ct (rt_P sc fm) 332 158 = some (0, 323, 2) := (by decide +kernel : rt_ct 332 158 = some (0, 323, 2))
theorem wc_332_224 : rx_ct (rt_P sc fm) 332 224 = some (0, 227, 1) := (by decide +kernel : rt_ct 332 224 = some (0, 227, 1))
theorem wc_332_230 : rx_ct (rt_P sc fm) 332 230 = some (0, 231, 2) := (by decide +kernel : rt_ct 332 230 = some (0, 231, 2))
theorem wc_332_240 : rx_ct (rt_P sc fm) 332 240 = some (0, 230, 2) := (by decide +kernel : rt_ct 332 240 = some (0, 230, 2))
theorem wc_332_244 : rx_ct (rt_P sc fm) 332 244 = some (0, 233, 3) := (by decide +kernel : rt_ct 332 244 = some (0, 233, 3))
theorem wc_332_51 : rx_ct (rt_P sc fm) 332 51 = some (0, 320, 1) := (by decide +kernel : rt_ct 332 51 = some (0, 320, 1))
theorem wc_332_54 : rx_ct (rt_P sc fm) 332 54 = some (0, 322, 1) := (by decide +kernel : rt_ct 332 54 = some (0, 322, 1))
theorem wf_332_137 : rx_ft (rt_P sc fm) 332 137 = some (8, 4) := (by decide +kernel : rt_ft 332 137 = some (8, 4))
theorem wf_332_144 : rx_ft (rt_P sc fm) 332 144 = some (6, 1) := (by decide +kernel : rt_ft 332 144 = some (6, 1))
theorem wf_332_145 : rx_ft (rt_P sc fm) 332 145 = some (6, 2) := (by decide +kernel : rt_ft 332 145 = some (6, 2))
theorem wf_332_148 : rx_ft (rt_P sc fm) 332 148 = some (6, 3) := (by decide +kernel : rt_ft 332 148 = some (6, 3))
theorem wf_332_15 : rx_ft (rt_P sc fm) 332 15 = some (12, 2) := (by decide +kernel : rt_ft 332 15 = some (12, 2))
theorem wf_332_19 : rx_ft (rt_P sc fm) 332 19 = some (12, 3) := (by decide +kernel : rt_ft 332 19 = some (12, 3))
theorem wf_332_227 : rx_ft (rt_P sc fm) 332 227 = some (7, 1) := (by decide +kernel : rt_ft 332 227 = some (7, 1))
theorem wf_332_238 : rx_ft (rt_P sc fm) 332 238 = some (7, 0) := (by decide +kernel : rt_ft 332 238 = some (7, 0))
theorem wf_332_27 : rx_ft (rt_P sc fm) 332 27 = some (12, 5) := (by decide +kernel : rt_ft 332 27 = some (12, 5))
theorem wf_332_66 : rx_ft (rt_P sc fm) 332 66 = some (9, 1) := (by decide +kernel : rt_ft 332 66 = some (9, 1))
theorem wf_332_77 : rx_ft (rt_P sc fm) 332 77 = some (9, 3) := (by decide +kernel : rt_ft 332 77 = some (9, 3))
theorem wi_332_0 : ri (rt_P sc fm) 332 0 (.aload_n 0) (1) := ri_of (by decide +kernel) rfl
theorem wi_332_1 : ri (rt_P sc fm) 332 1 (.bipush 64) (3) := ri_of (by decide +kernel) rfl
theorem wi_332_10 : ri (rt_P sc fm) 332 10 (.iload_n 1) (11) := ri_of (by decide +kernel) rfl
theorem wi_332_100 : ri (rt_P sc fm) 332 100 (.getfield 27) (103) := ri_of (by decide +kernel) rfl
theorem wi_332_103 : ri (rt_P sc fm) 332 103 (.iload_n 1) (104) := ri_of (by decide +kernel) rfl
theorem wi_332_104 : ri (rt_P sc fm) 332 104 (.aload_n 2) (105) := ri_of (by decide +kernel) rfl
theorem wi_332_105 : ri (rt_P sc fm) 332 105 (.invokevirtual 230) (108) := ri_of (by decide +kernel) rfl
theorem wi_332_108 : ri (rt_P sc fm) 332 108 (.laload) (109) := ri_of (by decide +kernel) rfl
theorem wi_332_109 : ri (rt_P sc fm) 332 109 (.invokevirtual 51) (112) := ri_of (by decide +kernel) rfl
theorem wi_332_11 : ri (rt_P sc fm) 332 11 (.invokevirtual 224) (14) := ri_of (by decide +kernel) rfl
theorem wi_332_112 : ri (rt_P sc fm) 332 112 (.return_) (113) := ri_of (by decide +kernel) rfl
theorem wi_332_113 : ri (rt_P sc fm) 332 113 (.aload_n 0) (114) := ri_of (by decide +kernel) rfl
theorem wi_332_114 : ri (rt_P sc fm) 332 114 (.getfield 19) (117) := ri_of (by decide +kernel) rfl
theorem wi_332_117 : ri (rt_P sc fm) 332 117 (.getfield 77) (120) := ri_of (by decide +kernel) rfl
theorem wi_332_120 : ri (rt_P sc fm) 332 120 (.aload_n 0) (121) := ri_of (by decide +kernel) rfl
theorem wi_332_121 : ri (rt_P sc fm) 332 121 (.getfield 27) (124) := ri_of (by decide +kernel) rfl
theorem wi_332_124 : ri (rt_P sc fm) 332 124 (.getfield 227) (127) := ri_of (by decide +kernel) rfl
theorem wi_332_127 : ri (rt_P sc fm) 332 127 (.iload_n 1) (128) := ri_of (by decide +kernel) rfl
theorem wi_332_128 : ri (rt_P sc fm) 332 128 (.iaload) (129) := ri_of (by decide +kernel) rfl
theorem wi_332_129 : ri (rt_P sc fm) 332 129 (.aaload) (130) := ri_of (by decide +kernel) rfl
theorem wi_332_130 : ri (rt_P sc fm) 332 130 (.astore_n 2) (131) := ri_of (by decide +kernel) rfl
theorem wi_332_131 : ri (rt_P sc fm) 332 131 (.iconst 0) (132) := ri_of (by decide +kernel) rfl
theorem wi_332_132 : ri (rt_P sc fm) 332 132 (.istore_n 3) (133) := ri_of (by decide +kernel) rfl
theorem wi_332_133 : ri (rt_P sc fm) 332 133 (.iconst 0) (134) := ri_of (by decide +kernel) rfl
theorem wi_332_134 : ri (rt_P sc fm) 332 134 (.istore 4) (136) := ri_of (by decide +kernel) rfl
theorem wi_332_136 : ri (rt_P sc fm) 332 136 (.iload 4) (138) := ri_of (by decide +kernel) rfl
theorem wi_332_138 : ri (rt_P sc fm) 332 138 (.aload_n 2) (139) := ri_of (by decide +kernel) rfl
theorem wi_332_139 : ri (rt_P sc fm) 332 139 (.getfield 144) (142) := ri_of (by decide +kernel) rfl
theorem wi_332_14 : ri (rt_P sc fm) 332 14 (.ifCond .eq 14) (17) := ri_of (by decide +kernel) rfl
theorem wi_332_142 : ri (rt_P sc fm) 332 142 (.if_icmp .ge 83) (145) := ri_of (by decide +kernel) rfl
theorem wi_332_145 : ri (rt_P sc fm) 332 145 (.aload_n 0) (146) := ri_of (by decide +kernel) rfl
theorem wi_332_146 : ri (rt_P sc fm) 332 146 (.getfield 27) (149) := ri_of (by decide +kernel) rfl
theorem wi_332_149 : ri (rt_P sc fm) 332 149 (.iload_n 1) (150) := ri_of (by decide +kernel) rfl
theorem wi_332_150 : ri (rt_P sc fm) 332 150 (.aload_n 2) (151) := ri_of (by decide +kernel) rfl
theorem wi_332_151 : ri (rt_P sc fm) 332 151 (.getfield 145) (154) := ri_of (by decide +kernel) rfl
theorem wi_332_154 : ri (rt_P sc fm) 332 154 (.iload 4) (156) := ri_of (by decide +kernel) rfl
theorem wi_332_156 : ri (rt_P sc fm) 332 156 (.laload) (157) := ri_of (by decide +kernel) rfl
theorem wi_332_157 : ri (rt_P sc fm) 332 157 (.invokevirtual 240) (160) := ri_of (by decide +kernel) rfl
theorem wi_332_160 : ri (rt_P sc fm) 332 160 (.ifCond .lt 59) (163) := ri_of (by decide +kernel) rfl
theorem wi_332_163 : ri (rt_P sc fm) 332 163 (.aload_n 0) (164) := ri_of (by decide +kernel) rfl
theorem wi_332_164 : ri (rt_P sc fm) 332 164 (.iload_n 3) (165) := ri_of (by decide +kernel) rfl
theorem wi_332_165 : ri (rt_P sc fm) 332 165 (.ifCond .eq 8) (168) := ri_of (by decide +kernel) rfl
theorem wi_332_168 : ri (rt_P sc fm) 332 168 (.bipush 44) (170) := ri_of (by decide +kernel) rfl
theorem wi_332_17 : ri (rt_P sc fm) 332 17 (.aload_n 0) (18) := ri_of (by decide +kernel) rfl
theorem wi_332_170 : ri (rt_P sc fm) 332 170 (.goto 5) (173) := ri_of (by decide +kernel) rfl
theorem wi_332_173 : ri (rt_P sc fm) 332 173 (.bipush 40) (175) := ri_of (by decide +kernel) rfl
theorem wi_332_175 : ri (rt_P sc fm) 332 175 (.invokevirtual 54) (178) := ri_of (by decide +kernel) rfl
theorem wi_332_178 : ri (rt_P sc fm) 332 178 (.iconst 1) (179) := ri_of (by decide +kernel) rfl
theorem wi_332_179 : ri (rt_P sc fm) 332 179 (.istore_n 3) (180) := ri_of (by decide +kernel) rfl
theorem wi_332_18 : ri (rt_P sc fm) 332 18 (.aload_n 0) (19) := ri_of (by decide +kernel) rfl
theorem wi_332_180 : ri (rt_P sc fm) 332 180 (.aload_n 0) (181) := ri_of (by decide +kernel) rfl
theorem wi_332_181 : ri (rt_P sc fm) 332 181 (.aload_n 2) (182) := ri_of (by decide +kernel) rfl
theorem wi_332_182 : ri (rt_P sc fm) 332 182 (.getfield 145) (185) := ri_of (by decide +kernel) rfl
theorem wi_332_185 : ri (rt_P sc fm) 332 185 (.iload 4) (187) := ri_of (by decide +kernel) rfl
theorem wi_332_187 : ri (rt_P sc fm) 332 187 (.laload) (188) := ri_of (by decide +kernel) rfl
theorem wi_332_188 : ri (rt_P sc fm) 332 188 (.invokevirtual 51) (191) := ri_of (by decide +kernel) rfl
theorem wi_332_19 : ri (rt_P sc fm) 332 19 (.getfield 15) (22) := ri_of (by decide +kernel) rfl
theorem wi_332_191 : ri (rt_P sc fm) 332 191 (.aload_n 0) (192) := ri_of (by decide +kernel) rfl
theorem wi_332_192 : ri (rt_P sc fm) 332 192 (.bipush 61) (194) := ri_of (by decide +kernel) rfl
theorem wi_332_194 : ri (rt_P sc fm) 332 194 (.invokevirtual 54) (197) := ri_of (by decide +kernel) rfl
theorem wi_332_197 : ri (rt_P sc fm) 332 197 (.aload_n 0) (198) := ri_of (by decide +kernel) rfl
theorem wi_332_198 : ri (rt_P sc fm) 332 198 (.aload_n 2) (199) := ri_of (by decide +kernel) rfl
theorem wi_332_199 : ri (rt_P sc fm) 332 199 (.getfield 148) (202) := ri_of (by decide +kernel) rfl
theorem wi_332_202 : ri (rt_P sc fm) 332 202 (.iload 4) (204) := ri_of (by decide +kernel) rfl
theorem wi_332_204 : ri (rt_P sc fm) 332 204 (.iaload) (205) := ri_of (by decide +kernel) rfl
theorem wi_332_205 : ri (rt_P sc fm) 332 205 (.aload_n 0) (206) := ri_of (by decide +kernel) rfl
theorem wi_332_206 : ri (rt_P sc fm) 332 206 (.getfield 27) (209) := ri_of (by decide +kernel) rfl
theorem wi_332_209 : ri (rt_P sc fm) 332 209 (.iload_n 1) (210) := ri_of (by decide +kernel) rfl
theorem wi_332_210 : ri (rt_P sc fm) 332 210 (.aload_n 2) (211) := ri_of (by decide +kernel) rfl
theorem wi_332_211 : ri (rt_P sc fm) 332 211 (.iload 4) (213) := ri_of (by decide +kernel) rfl
theorem wi_332_213 : ri (rt_P sc fm) 332 213 (.invokevirtual 244) (216) := ri_of (by decide +kernel) rfl
theorem wi_332_216 : ri (rt_P sc fm) 332 216 (.invokevirtual 158) (219) := ri_of (by decide +kernel) rfl
theorem wi_332_219 : ri (rt_P sc fm) 332 219 (.iinc 4 1) (222) := ri_of (by decide +kernel) rfl
theorem wi_332_22 : ri (rt_P sc fm) 332 22 (.bipush 11) (24) := ri_of (by decide +kernel) rfl
theorem wi_332_222 : ri (rt_P sc fm) 332 222 (.goto (-86)) (225) := ri_of (by decide +kernel) rfl
theorem wi_332_225 : ri (rt_P sc fm) 332 225 (.iload_n 3) (226) := ri_of (by decide +kernel) rfl
theorem wi_332_226 : ri (rt_P sc fm) 332 226 (.ifCond .eq 9) (229) := ri_of (by decide +kernel) rfl
theorem wi_332_229 : ri (rt_P sc fm) 332 229 (.aload_n 0) (230) := ri_of (by decide +kernel) rfl
theorem wi_332_230 : ri (rt_P sc fm) 332 230 (.bipush 41) (232) := ri_of (by decide +kernel) rfl
theorem wi_332_232 : ri (rt_P sc fm) 332 232 (.invokevirtual 54) (235) := ri_of (by decide +kernel) rfl
theorem wi_332_235 : ri (rt_P sc fm) 332 235 (.return_) (236) := ri_of (by decide +kernel) rfl
theorem wi_332_24 : ri (rt_P sc fm) 332 24 (.laload) (25) := ri_of (by decide +kernel) rfl
theorem wi_332_25 : ri (rt_P sc fm) 332 25 (.invokevirtual 51) (28) := ri_of (by decide +kernel) rfl
theorem wi_332_28 : ri (rt_P sc fm) 332 28 (.aload_n 0) (29) := ri_of (by decide +kernel) rfl
theorem wi_332_29 : ri (rt_P sc fm) 332 29 (.aload_n 0) (30) := ri_of (by decide +kernel) rfl
theorem wi_332_3 : ri (rt_P sc fm) 332 3 (.invokevirtual 54) (6) := ri_of (by decide +kernel) rfl
theorem wi_332_30 : ri (rt_P sc fm) 332 30 (.getfield 27) (33) := ri_of (by decide +kernel) rfl
theorem wi_332_33 : ri (rt_P sc fm) 332 33 (.getfield 238) (36) := ri_of (by decide +kernel) rfl
theorem wi_332_36 : ri (rt_P sc fm) 332 36 (.iload_n 1) (37) := ri_of (by decide +kernel) rfl
theorem wi_332_37 : ri (rt_P sc fm) 332 37 (.laload) (38) := ri_of (by decide +kernel) rfl
theorem wi_332_38 : ri (rt_P sc fm) 332 38 (.invokevirtual 51) (41) := ri_of (by decide +kernel) rfl
theorem wi_332_41 : ri (rt_P sc fm) 332 41 (.aload_n 0) (42) := ri_of (by decide +kernel) rfl
theorem wi_332_42 : ri (rt_P sc fm) 332 42 (.getfield 27) (45) := ri_of (by decide +kernel) rfl
theorem wi_332_45 : ri (rt_P sc fm) 332 45 (.iload_n 1) (46) := ri_of (by decide +kernel) rfl
theorem wi_332_46 : ri (rt_P sc fm) 332 46 (.invokevirtual 224) (49) := ri_of (by decide +kernel) rfl
theorem wi_332_49 : ri (rt_P sc fm) 332 49 (.ifCond .eq 4) (52) := ri_of (by decide +kernel) rfl
theorem wi_332_52 : ri (rt_P sc fm) 332 52 (.return_) (53) := ri_of (by decide +kernel) rfl
theorem wi_332_53 : ri (rt_P sc fm) 332 53 (.aload_n 0) (54) := ri_of (by decide +kernel) rfl
theorem wi_332_54 : ri (rt_P sc fm) 332 54 (.getfield 27) (57) := ri_of (by decide +kernel) rfl
theorem wi_332_57 : ri (rt_P sc fm) 332 57 (.getfield 227) (60) := ri_of (by decide +kernel) rfl
theorem wi_332_6 : ri (rt_P sc fm) 332 6 (.aload_n 0) (7) := ri_of (by decide +kernel) rfl
theorem wi_332_60 : ri (rt_P sc fm) 332 60 (.iload_n 1) (61) := ri_of (by decide +kernel) rfl
theorem wi_332_61 : ri (rt_P sc fm) 332 61 (.iaload) (62) := ri_of (by decide +kernel) rfl
theorem wi_332_62 : ri (rt_P sc fm) 332 62 (.bipush 100) (64) := ri_of (by decide +kernel) rfl
theorem wi_332_64 : ri (rt_P sc fm) 332 64 (.if_icmp .lt 49) (67) := ri_of (by decide +kernel) rfl
theorem wi_332_67 : ri (rt_P sc fm) 332 67 (.aload_n 0) (68) := ri_of (by decide +kernel) rfl
theorem wi_332_68 : ri (rt_P sc fm) 332 68 (.getfield 19) (71) := ri_of (by decide +kernel) rfl
theorem wi_332_7 : ri (rt_P sc fm) 332 7 (.getfield 27) (10) := ri_of (by decide +kernel) rfl
theorem wi_332_71 : ri (rt_P sc fm) 332 71 (.getfield 66) (74) := ri_of (by decide +kernel) rfl
theorem wi_332_74 : ri (rt_P sc fm) 332 74 (.aload_n 0) (75) := ri_of (by decide +kernel) rfl
theorem wi_332_75 : ri (rt_P sc fm) 332 75 (.getfield 27) (78) := ri_of (by decide +kernel) rfl
theorem wi_332_78 : ri (rt_P sc fm) 332 78 (.getfield 227) (81) := ri_of (by decide +kernel) rfl
theorem wi_332_81 : ri (rt_P sc fm) 332 81 (.iload_n 1) (82) := ri_of (by decide +kernel) rfl
theorem wi_332_82 : ri (rt_P sc fm) 332 82 (.iaload) (83) := ri_of (by decide +kernel) rfl
theorem wi_332_83 : ri (rt_P sc fm) 332 83 (.bipush 100) (85) := ri_of (by decide +kernel) rfl
theorem wi_332_85 : ri (rt_P sc fm) 332 85 (.isub) (86) := ri_of (by decide +kernel) rfl
theorem wi_332_86 : ri (rt_P sc fm) 332 86 (.aaload) (87) := ri_of (by decide +kernel) rfl
theorem wi_332_87 : ri (rt_P sc fm) 332 87 (.astore_n 2) (88) := ri_of (by decide +kernel) rfl
theorem wi_332_88 : ri (rt_P sc fm) 332 88 (.aload_n 0) (89) := ri_of (by decide +kernel) rfl
theorem wi_332_89 : ri (rt_P sc fm) 332 89 (.bipush 46) (91) := ri_of (by decide +kernel) rfl
theorem wi_332_91 : ri (rt_P sc fm) 332 91 (.invokevirtual 54) (94) := ri_of (by decide +kernel) rfl
theorem wi_332_94 : ri (rt_P sc fm) 332 94 (.aload_n 0) (95) := ri_of (by decide +kernel) rfl
theorem wi_332_95 : ri (rt_P sc fm) 332 95 (.aload_n 2) (96) := ri_of (by decide +kernel) rfl
theorem wi_332_96 : ri (rt_P sc fm) 332 96 (.getfield 137) (99) := ri_of (by decide +kernel) rfl
theorem wi_332_99 : ri (rt_P sc fm) 332 99 (.aload_n 0) (100) := ri_of (by decide +kernel) rfl
theorem wm_233 : rx_ml (rt_P sc fm) 233 = 5 := (by decide +kernel : rt_ml 233 = 5)
theorem wm_323 : rx_ml (rt_P sc fm) 323 = 4 := (by decide +kernel : rt_ml 323 = 4)
theorem wr_332 : rx_rt (rt_P sc fm) 332 = none := (by decide +kernel : rt_rt 332 = none)
/-- MarkHouse$Teller.writeMark(I)V -/
def d_332 (n : Nat) (a1 : Int32) (c : cS) : Option (cS) :=
  Option.bind (d_322 n 64 c) (fun r1 =>
  Option.bind (d_227 n a1 r1) (fun v2 =>
  jn (fun p3 : cS =>
    if ib a1 4096 then
    Option.bind (d_320 n (p3.2 134 (ix a1)) p3) (fun r5 =>
    Option.bind (d_227 n a1 r5) (fun v6 =>
    if v6 = 0 then
      if ib a1 4096 then
      if (r5.1 135 (ix a1)) < 100 then
        if ib a1 4096 then
        if ib (r5.1 135 (ix a1)) 12 then
        Option.bind (whl (R := (Int32 × cS)) (fun s13 : Int32 × Int32 × cS =>
          if (s13.2.2.1 (kA (ix (r5.1 135 (ix a1)))) 1) ≤ s13.2.1 then
            some (.inr (s13.1, s13.2.2))
          else
            if ib s13.2.1 4 then
            Option.bind (d_230 n a1 (s13.2.2.2 (kA (ix (r5.1 135 (ix a1))) + 1) (ix s13.2.1)) s13.2.2) (fun v15 =>
            jn (fun p16 : Int32 × cS =>
              lt (s13.2.1 + 1 : Int32) (fun v18 =>
              some (.inl (p16.1, v18, p16.2))))
            (fun j219 =>
            if v15 < 0 then
              j219 (s13.1, s13.2.2)
            else
              jn (fun p20 : Int32 =>
                Option.bind (d_322 n p20 s13.2.2) (fun r21 =>
                if ib s13.2.1 4 then
                Option.bind (d_320 n (r21.2 (kA (ix (r5.1 135 (ix a1))) + 1) (ix s13.2.1)) r21) (fun r24 =>
                Option.bind (d_322 n 61 r24) (fun r25 =>
                if ib s13.2.1 4 then
                Option.bind (d_233 n a1 (ix (r5.1 135 (ix a1))) s13.2.1 r25) (fun v27 =>
                Option.bind (d_323 n (r25.1 (kA (ix (r5.1 135 (ix a1))) + 2) (ix s13.2.1)) v27 r25) (fun r28 =>
                j219 (1, r28)))
                else none))
                else none))
              (fun j175 =>
              if s13.1 = 0 then
                j175 40
              else
                j175 44)))
            else none) n (0, 0, r5))
        (fun x29 : Int32 × cS =>
          jn (fun p30 : cS =>
            some p30)
          (fun j235 =>
          if x29.1 = 0 then
            j235 x29.2
          else
            Option.bind (d_322 n 41 x29.2) (fun r31 =>
            j235 r31)))
        else none
        else none
      else
        if ib a1 4096 then
        if ib ((r5.1 135 (ix a1)) - 100) 4 then
        Option.bind (d_322 n 46 r5) (fun r35 =>
        Option.bind (d_231 n a1 (ix ((r5.1 135 (ix a1)) - 100)) r35) (fun v36 =>
        if ib v36 12 then
        Option.bind (d_320 n (r35.2 (oA (ix ((r5.1 135 (ix a1)) - 100)) + 1) (ix v36)) r35) (fun r38 =>
        some r38)
        else none))
        else none
        else none
      else none
    else
      some r5))
    else none)
  (fun j28 =>
  if v2 = 0 then
    j28 r1
  else
    if ib 11 31 then
    Option.bind (d_320 n (r1.2 6 (ix 11)) r1) (fun r40 =>
    j28 r40)
    else none)))
theorem sp_332 {F Lo n : Nat} {a1 : Int32} {c y : cS} {w : cW} {K : cS → Prop} {Q : ((Option Value) ⊕ String) → List va_E → Prop} (hw : rOK fm w) (hF : 6 ≤ F) (hLo : 131 ≤ Lo)  (h : wp (d_332 n a1 c) K) (hQ : ∀ r, K r → Q (.inl none) (hq true r y w)) : rs (rt_P sc fm) 332 F Lo 0 [(0, .ref 172), (1, .int a1)] [] (hq true c y w) Q := by
  unfold d_332 at h
  obtain ⟨lv, elv⟩ : ∃ lv : rx_L, lv = [(0, .ref 172), (1, .int a1)] := ⟨_, rfl⟩
  rw [← elv]
  have l0 : rx_ld lv 0 = some (.ref 172) := by rw [elv]; rfl
  have l1 : rx_ld lv 1 = some (.int a1) := by rw [elv]; rfl
  refine rs_aldn wi_332_0 l0 ?_
  refine rs_pure wi_332_1 rfl ?_
  refine rs_topi (v := 64) (by decide) ?_
  refine rs_V wi_332_3 wc_332_54 rfl (dq_isa tf_172_0 wa_12_322) (Nat.le_trans (by decide) hF) (ml_le wm_322 (Nat.le_trans (by decide) hLo)) rfl (sp_322 hw (Nat.le_trans (by decide : 1 ≤ 6 - 1) (Nat.sub_le_sub_right hF 1)) (ml_sub wm_322 (Nat.le_trans (by decide : 21 ≤ 131 - 21) (Nat.sub_le_sub_right hLo 21))) (wp_bind h) (fun r1 h => rs_back0 ?_))
  refine rs_aldn wi_332_6 l0 ?_
  refine dq_gr wi_332_7 wf_332_27 tf_172_5 ?_
  refine rs_ildn wi_332_10 l1 ?_
  refine rs_V wi_332_11 wc_332_224 rfl (dq_isa tf_133_0 wa_7_227) (Nat.le_trans (by decide) hF) (ml_le wm_227 (Nat.le_trans (by decide) hLo)) rfl (sp_227 hw (Nat.le_trans (by decide : 0 ≤ 6 - 1) (Nat.sub_le_sub_right hF 1)) (ml_sub wm_227 (Nat.le_trans (by decide : 0 ≤ 131 - 21) (Nat.sub_le_sub_right hLo 21))) (wp_bind h) (fun v2 h => rs_back1 ?_))
  refine wp_jn (B := fun p3 : cS => ∀ lv, rx_ld lv 0 = some (.ref 172) → rx_ld lv 1 = some (.int a1) → rs (rt_P sc fm) 332 F Lo 28 lv [] (hq true p3 y w) Q) h (fun p3 h lv l0 l1 => ?_) (fun j28 hj28 h => ?_)
  ·
    refine rs_aldn wi_332_28 l0 ?_
    refine rs_aldn wi_332_29 l0 ?_
    refine dq_gr wi_332_30 wf_332_27 tf_172_5 ?_
    refine dq_gr wi_332_33 wf_332_238 tf_133_0 ?_
    refine rs_ildn wi_332_36 l1 ?_
    obtain ⟨g4, h⟩ := wp_gd h
    refine dq_lald wi_332_37 t_134 g4 ?_
    refine rs_V wi_332_38 wc_332_51 rfl (dq_isa tf_172_0 wa_12_320) (Nat.le_trans (by decide) hF) (ml_le wm_320 (Nat.le_trans (by decide) hLo)) rfl (sp_320 hw (Nat.le_trans (by decide : 2 ≤ 6 - 1) (Nat.sub_le_sub_right hF 1)) (ml_sub wm_320 (Nat.le_trans (by decide : 45 ≤ 131 - 22) (Nat.sub_le_sub_right hLo 22))) (wp_bind h) (fun r5 h => rs_back0 ?_))
    refine rs_aldn wi_332_41 l0 ?_
    refine dq_gr wi_332_42 wf_332_27 tf_172_5 ?_
    refine rs_ildn wi_332_45 l1 ?_
    refine rs_V wi_332_46 wc_332_224 rfl (dq_isa tf_133_0 wa_7_227) (Nat.le_trans (by decide) hF) (ml_le wm_227 (Nat.le_trans (by decide) hLo)) rfl (sp_227 hw (Nat.le_trans (by decide : 0 ≤ 6 - 1) (Nat.sub_le_sub_right hF 1)) (ml_sub wm_227 (Nat.le_trans (by decide : 0 ≤ 131 - 21) (Nat.sub_le_sub_right hLo 21))) (wp_bind h) (fun v6 h => rs_back1 ?_))
    refine rs_ifeq (tg := 53) wi_332_49 ⟨by decide, by decide⟩ (fun q => ?_) (fun q => ?_)
    ·
      have h := wp_pos h q
      refine rs_aldn wi_332_53 l0 ?_
      refine dq_gr wi_332_54 wf_332_27 tf_172_5 ?_
      refine dq_gr wi_332_57 wf_332_227 tf_133_1 ?_
      refine rs_ildn wi_332_60 l1 ?_
      obtain ⟨g7, h⟩ := wp_gd h
      refine dq_iald wi_332_61 t_135 g7 ?_
      refine rs_pure wi_332_62 rfl ?_
      refine rs_topi (v := 100) (by decide) ?_
      refine rs_iclt (tg := 113) wi_332_64 ⟨by decide, by decide⟩ (fun q => ?_) (fun q => ?_)
      ·
        have h := wp_pos h q
        refine rs_aldn wi_332_113 l0 ?_
        refine dq_gr wi_332_114 wf_332_19 tf_172_3 ?_
        refine dq_gr wi_332_117 wf_332_77 tf_7_3 ?_
        refine rs_aldn wi_332_120 l0 ?_
        refine dq_gr wi_332_121 wf_332_27 tf_172_5 ?_
        refine dq_gr wi_332_124 wf_332_227 tf_133_1 ?_
        refine rs_ildn wi_332_127 l1 ?_
        obtain ⟨g8, h⟩ := wp_gd h
        refine dq_iald wi_332_128 t_135 g8 ?_
        obtain ⟨g9, h⟩ := wp_gd h
        refine dq_aald wi_332_129 (by decide) t_9 g9 (hw.2.1 _ (ib_lt g9)) ?_
        refine dl_astn wi_332_130 rfl (fun lv l2 t10 => ?_)
        have l0 := t10 _ _ (by decide) (Or.inl rfl) l0
        have l1 := t10 _ _ (by decide) (Or.inl rfl) l1
        refine rs_pure wi_332_131 rfl ?_
        refine rs_topi (v := 0) (by decide) ?_
        refine dl_istn wi_332_132 rfl (fun lv l3 t11 => ?_)
        have l0 := t11 _ _ (by decide) (Or.inl rfl) l0
        have l1 := t11 _ _ (by decide) (Or.inl rfl) l1
        have l2 := t11 _ _ (by decide) (Or.inl rfl) l2
        refine rs_pure wi_332_133 rfl ?_
        refine rs_topi (v := 0) (by decide) ?_
        refine dl_ist wi_332_134 rfl (fun lv l4 t12 => ?_)
        have l0 := t12 _ _ (by decide) (Or.inl rfl) l0
        have l1 := t12 _ _ (by decide) (Or.inl rfl) l1
        have l2 := t12 _ _ (by decide) (Or.inl rfl) l2
        have l3 := t12 _ _ (by decide) (Or.inl rfl) l3
        refine whl_ex (A := fun s13 : Int32 × Int32 × cS => ∀ lv, rx_ld lv 0 = some (.ref 172) → rx_ld lv 1 = some (.int a1) → rx_ld lv 2 = some (.ref (kA (ix (r5.1 135 (ix a1))))) → rx_ld lv 3 = some (.int s13.1) → rx_ld lv 4 = some (.int s13.2.1) → rs (rt_P sc fm) 332 F Lo 136 lv [] (hq true s13.2.2 y w) Q) (B := (fun x29 : Int32 × cS => ∀ lv, rx_ld lv 0 = some (.ref 172) → rx_ld lv 3 = some (.int x29.1) → rs (rt_P sc fm) 332 F Lo 225 lv [] (hq true x29.2 y w) Q)) ?_ ?_ _ _ (wp_bind h) _ l0 l1 l2 l3 l4
        · intro s13 h lv l0 l1 l2 l3 l4
          refine rs_ild wi_332_136 l4 ?_
          refine rs_aldn wi_332_138 l2 ?_
          refine dq_gi wi_332_139 wf_332_144 (fK_1 (ib_lt g9)) ?_
          refine rs_icge (tg := 225) wi_332_142 ⟨by decide, by decide⟩ (fun q => ?_) (fun q => ?_)
          ·
            have h := wp_pos h q
            exact h _ l0 l3
          ·
            have h := wp_neg h q
            refine rs_aldn wi_332_145 l0 ?_
            refine dq_gr wi_332_146 wf_332_27 tf_172_5 ?_
            refine rs_ildn wi_332_149 l1 ?_
            refine rs_aldn wi_332_150 l2 ?_
            refine dq_gr wi_332_151 wf_332_145 (fK_2 (ib_lt g9)) ?_
            refine rs_ild wi_332_154 l4 ?_
            obtain ⟨g14, h⟩ := wp_gd h
            refine dq_lald wi_332_156 (tK_1 (ib_lt g9)) g14 ?_
            refine rs_V wi_332_157 wc_332_240 rfl (dq_isa tf_133_0 wa_7_230) (Nat.le_trans (by decide) hF) (ml_le wm_230 (Nat.le_trans (by decide) hLo)) rfl (sp_230 hw (Nat.le_trans (by decide : 0 ≤ 6 - 1) (Nat.sub_le_sub_right hF 1)) (ml_sub wm_230 (Nat.le_trans (by decide : 0 ≤ 131 - 24) (Nat.sub_le_sub_right hLo 24))) (wp_bind h) (fun v15 h => rs_back1 ?_))
            refine wp_jn (B := fun p16 : Int32 × cS => ∀ lv, rx_ld lv 0 = some (.ref 172) → rx_ld lv 1 = some (.int a1) → rx_ld lv 2 = some (.ref (kA (ix (r5.1 135 (ix a1))))) → rx_ld lv 3 = some (.int p16.1) → rx_ld lv 4 = some (.int s13.2.1) → rs (rt_P sc fm) 332 F Lo 219 lv [] (hq true p16.2 y w) Q) h (fun p16 h lv l0 l1 l2 l3 l4 => ?_) (fun j219 hj219 h => ?_)
            ·
              obtain ⟨v18, e19, h⟩ := wp_lt h
              refine dl_inc wi_332_219 l4 rfl e19 (fun lv l4 t17 => ?_)
              have l0 := t17 _ _ (by decide) (Or.inl rfl) l0
              have l1 := t17 _ _ (by decide) (Or.inl rfl) l1
              have l2 := t17 _ _ (by decide) (Or.inl rfl) l2
              have l3 := t17 _ _ (by decide) (Or.inl rfl) l3
              refine rs_goto (tg := 136) wi_332_222 ⟨by decide, by decide⟩ ?_
              exact h _ l0 l1 l2 l3 l4
            refine rs_iflt (tg := 219) wi_332_160 ⟨by decide, by decide⟩ (fun q => ?_) (fun q => ?_)
            ·
              have h := wp_pos h q
              exact hj219 _ h _ l0 l1 l2 l3 l4
            ·
              have h := wp_neg h q
              refine rs_aldn wi_332_163 l0 ?_
              refine rs_ildn wi_332_164 l3 ?_
              refine wp_jn (B := fun p20 : Int32 => ∀ lv, rx_ld lv 0 = some (.ref 172) → rx_ld lv 1 = some (.int a1) → rx_ld lv 2 = some (.ref (kA (ix (r5.1 135 (ix a1))))) → rx_ld lv 4 = some (.int s13.2.1) → rs (rt_P sc fm) 332 F Lo 175 lv [.int p20, .ref 172] (hq true s13.2.2 y w) Q) h (fun p20 h lv l0 l1 l2 l4 => ?_) (fun j175 hj175 h => ?_)
              ·
                refine rs_V wi_332_175 wc_332_54 rfl (dq_isa tf_172_0 wa_12_322) (Nat.le_trans (by decide) hF) (ml_le wm_322 (Nat.le_trans (by decide) hLo)) rfl (sp_322 hw (Nat.le_trans (by decide : 1 ≤ 6 - 1) (Nat.sub_le_sub_right hF 1)) (ml_sub wm_322 (Nat.le_trans (by decide : 21 ≤ 131 - 21) (Nat.sub_le_sub_right hLo 21))) (wp_bind h) (fun r21 h => rs_back0 ?_))
                refine rs_pure wi_332_178 rfl ?_
                refine rs_topi (v := 1) (by decide) ?_
                refine dl_istn wi_332_179 rfl (fun lv l3 t22 => ?_)
                have l0 := t22 _ _ (by decide) (Or.inl rfl) l0
                have l1 := t22 _ _ (by decide) (Or.inl rfl) l1
                have l2 := t22 _ _ (by decide) (Or.inl rfl) l2
                have l4 := t22 _ _ (by decide) (Or.inl rfl) l4
                refine rs_aldn wi_332_180 l0 ?_
                refine rs_aldn wi_332_181 l2 ?_
                refine dq_gr wi_332_182 wf_332_145 (fK_2 (ib_lt g9)) ?_
                refine rs_ild wi_332_185 l4 ?_
                obtain ⟨g23, h⟩ := wp_gd h
                refine dq_lald wi_332_187 (tK_1 (ib_lt g9)) g23 ?_
                refine rs_V wi_332_188 wc_332_51 rfl (dq_isa tf_172_0 wa_12_320) (Nat.le_trans (by decide) hF) (ml_le wm_320 (Nat.le_trans (by decide) hLo)) rfl (sp_320 hw (Nat.le_trans (by decide : 2 ≤ 6 - 1) (Nat.sub_le_sub_right hF 1)) (ml_sub wm_320 (Nat.le_trans (by decide : 45 ≤ 131 - 22) (Nat.sub_le_sub_right hLo 22))) (wp_bind h) (fun r24 h => rs_back0 ?_))
                refine rs_aldn wi_332_191 l0 ?_
                refine rs_pure wi_332_192 rfl ?_
                refine rs_topi (v := 61) (by decide) ?_
                refine rs_V wi_332_194 wc_332_54 rfl (dq_isa tf_172_0 wa_12_322) (Nat.le_trans (by decide) hF) (ml_le wm_322 (Nat.le_trans (by decide) hLo)) rfl (sp_322 hw (Nat.le_trans (by decide : 1 ≤ 6 - 1) (Nat.sub_le_sub_right hF 1)) (ml_sub wm_322 (Nat.le_trans (by decide : 21 ≤ 131 - 21) (Nat.sub_le_sub_right hLo 21))) (wp_bind h) (fun r25 h => rs_back0 ?_))
                refine rs_aldn wi_332_197 l0 ?_
                refine rs_aldn wi_332_198 l2 ?_
                refine dq_gr wi_332_199 wf_332_148 (fK_3 (ib_lt g9)) ?_
                refine rs_ild wi_332_202 l4 ?_
                obtain ⟨g26, h⟩ := wp_gd h
                refine dq_iald wi_332_204 (tK_2 (ib_lt g9)) g26 ?_
                refine rs_aldn wi_332_205 l0 ?_
                refine dq_gr wi_332_206 wf_332_27 tf_172_5 ?_
                refine rs_ildn wi_332_209 l1 ?_
                refine rs_aldn wi_332_210 l2 ?_
                refine rs_ild wi_332_211 l4 ?_
                refine rs_V wi_332_213 wc_332_244 rfl (dq_isa tf_133_0 wa_7_233) (Nat.le_trans (by decide) hF) (ml_le wm_233 (Nat.le_trans (by decide) hLo)) rfl (sp_233 hw (Nat.le_trans (by decide : 1 ≤ 6 - 1) (Nat.sub_le_sub_right hF 1)) (ml_sub wm_233 (Nat.le_trans (by decide : 24 ≤ 131 - 24) (Nat.sub_le_sub_right hLo 24))) (ib_lt g9) (wp_bind h) (fun v27 h => rs_back1 ?_))
                refine rs_V wi_332_216 wc_332_158 rfl (dq_isa tf_172_0 wa_12_323) (Nat.le_trans (by decide) hF) (ml_le wm_323 (Nat.le_trans (by decide) hLo)) rfl (sp_323 hw (Nat.le_trans (by decide : 2 ≤ 6 - 1) (Nat.sub_le_sub_right hF 1)) (ml_sub wm_323 (Nat.le_trans (by decide : 47 ≤ 131 - 23) (Nat.sub_le_sub_right hLo 23))) (wp_bind h) (fun r28 h => rs_back0 ?_))
                exact hj219 _ h _ l0 l1 l2 l3 l4
              refine rs_ifeq (tg := 173) wi_332_165 ⟨by decide, by decide⟩ (fun q => ?_) (fun q => ?_)
              ·
                have h := wp_pos h q
                refine rs_pure wi_332_173 rfl ?_
                refine rs_topi (v := 40) (by decide) ?_
                exact hj175 _ h _ l0 l1 l2 l4
              ·
                have h := wp_neg h q
                refine rs_pure wi_332_168 rfl ?_
                refine rs_topi (v := 44) (by decide) ?_
                refine rs_goto (tg := 175) wi_332_170 ⟨by decide, by decide⟩ ?_
                exact hj175 _ h _ l0 l1 l2 l4
        ·
          intro x29 h lv l0 l3
          refine rs_ildn wi_332_225 l3 ?_
          refine wp_jn (B := fun p30 : cS => ∀ lv, rs (rt_P sc fm) 332 F Lo 235 lv [] (hq true p30 y w) Q) h (fun p30 h lv => ?_) (fun j235 hj235 h => ?_)
          ·
            exact rs_vret wi_332_235 wr_332 (hQ p30 h)
          refine rs_ifeq (tg := 235) wi_332_226 ⟨by decide, by decide⟩ (fun q => ?_) (fun q => ?_)
          ·
            have h := wp_pos h q
            exact hj235 _ h _
          ·
            have h := wp_neg h q
            refine rs_aldn wi_332_229 l0 ?_
            refine rs_pure wi_332_230 rfl ?_
            refine rs_topi (v := 41) (by decide) ?_
            refine rs_V wi_332_232 wc_332_54 rfl (dq_isa tf_172_0 wa_12_322) (Nat.le_trans (by decide) hF) (ml_le wm_322 (Nat.le_trans (by decide) hLo)) rfl (sp_322 hw (Nat.le_trans (by decide : 1 ≤ 6 - 1) (Nat.sub_le_sub_right hF 1)) (ml_sub wm_322 (Nat.le_trans (by decide : 21 ≤ 131 - 21) (Nat.sub_le_sub_right hLo 21))) (wp_bind h) (fun r31 h => rs_back0 ?_))
            exact hj235 _ h _
      ·
        have h := wp_neg h q
        refine rs_aldn wi_332_67 l0 ?_
        refine dq_gr wi_332_68 wf_332_19 tf_172_3 ?_
        refine dq_gr wi_332_71 wf_332_66 tf_7_1 ?_
        refine rs_aldn wi_332_74 l0 ?_
        refine dq_gr wi_332_75 wf_332_27 tf_172_5 ?_
        refine dq_gr wi_332_78 wf_332_227 tf_133_1 ?_
        refine rs_ildn wi_332_81 l1 ?_
        obtain ⟨g32, h⟩ := wp_gd h
        refine dq_iald wi_332_82 t_135 g32 ?_
        refine rs_pure wi_332_83 rfl ?_
        refine rs_topi (v := 100) (by decide) ?_
        refine rs_pure wi_332_85 rfl ?_
        obtain ⟨g33, h⟩ := wp_gd h
        refine dq_aald wi_332_86 (by decide) t_8 g33 (hw.1 _ (ib_lt g33)) ?_
        refine dl_astn wi_332_87 rfl (fun lv l2 t34 => ?_)
        have l0 := t34 _ _ (by decide) (Or.inl rfl) l0
        have l1 := t34 _ _ (by decide) (Or.inl rfl) l1
        refine rs_aldn wi_332_88 l0 ?_
        refine rs_pure wi_332_89 rfl ?_
        refine rs_topi (v := 46) (by decide) ?_
        refine rs_V wi_332_91 wc_332_54 rfl (dq_isa tf_172_0 wa_12_322) (Nat.le_trans (by decide) hF) (ml_le wm_322 (Nat.le_trans (by decide) hLo)) rfl (sp_322 hw (Nat.le_trans (by decide : 1 ≤ 6 - 1) (Nat.sub_le_sub_right hF 1)) (ml_sub wm_322 (Nat.le_trans (by decide : 21 ≤ 131 - 21) (Nat.sub_le_sub_right hLo 21))) (wp_bind h) (fun r35 h => rs_back0 ?_))
        refine rs_aldn wi_332_94 l0 ?_
        refine rs_aldn wi_332_95 l2 ?_
        refine dq_gr wi_332_96 wf_332_137 (fO_4 (ib_lt g33)) ?_
        refine rs_aldn wi_332_99 l0 ?_
        refine dq_gr wi_332_100 wf_332_27 tf_172_5 ?_
        refine rs_ildn wi_332_103 l1 ?_
        refine rs_aldn wi_332_104 l2 ?_
        refine rs_V wi_332_105 wc_332_230 rfl (dq_isa tf_133_0 wa_7_231) (Nat.le_trans (by decide) hF) (ml_le wm_231 (Nat.le_trans (by decide) hLo)) rfl (sp_231 hw (Nat.le_trans (by decide : 5 ≤ 6 - 1) (Nat.sub_le_sub_right hF 1)) (ml_sub wm_231 (Nat.le_trans (by decide : 108 ≤ 131 - 23) (Nat.sub_le_sub_right hLo 23))) (ib_lt g33) (wp_bind h) (fun v36 h => rs_back1 ?_))
        obtain ⟨g37, h⟩ := wp_gd h
        refine dq_lald wi_332_108 (tO_1 (ib_lt g33)) g37 ?_
        refine rs_V wi_332_109 wc_332_51 rfl (dq_isa tf_172_0 wa_12_320) (Nat.le_trans (by decide) hF) (ml_le wm_320 (Nat.le_trans (by decide) hLo)) rfl (sp_320 hw (Nat.le_trans (by decide : 2 ≤ 6 - 1) (Nat.sub_le_sub_right hF 1)) (ml_sub wm_320 (Nat.le_trans (by decide : 45 ≤ 131 - 22) (Nat.sub_le_sub_right hLo 22))) (wp_bind h) (fun r38 h => rs_back0 ?_))
        exact rs_vret wi_332_112 wr_332 (hQ r38 h)
    ·
      have h := wp_neg h q
      exact rs_vret wi_332_52 wr_332 (hQ r5 h)
  refine rs_ifeq (tg := 28) wi_332_14 ⟨by decide, by decide⟩ (fun q => ?_) (fun q => ?_)
  ·
    have h := wp_pos h q
    exact hj28 _ h _ l0 l1
  ·
    have h := wp_neg h q
    refine rs_aldn wi_332_17 l0 ?_
    refine rs_aldn wi_332_18 l0 ?_
    refine dq_gr wi_332_19 wf_332_15 tf_172_2 ?_
    refine rs_pure wi_332_22 rfl ?_
    refine rs_topi (v := 11) (by decide) ?_
    obtain ⟨g39, h⟩ := wp_gd h
    refine dq_lald wi_332_24 t_6 g39 ?_
    refine rs_V wi_332_25 wc_332_51 rfl (dq_isa tf_172_0 wa_12_320) (Nat.le_trans (by decide) hF) (ml_le wm_320 (Nat.le_trans (by decide) hLo)) rfl (sp_320 hw (Nat.le_trans (by decide : 2 ≤ 6 - 1) (Nat.sub_le_sub_right hF 1)) (ml_sub wm_320 (Nat.le_trans (by decide : 45 ≤ 131 - 22) (Nat.sub_le_sub_right hLo 22))) (wp_bind h) (fun r40 h => rs_back0 ?_))
    exact hj28 _ h _ l0 l1
theorem wa_12_331 : rz_cn 12 (rx_yn (rt_P sc fm) 331).cls = true := (by decide +kernel : rz_cn 12 (rt_yn 331).cls = true)
theorem wa_12_332 : rz_cn 12 (rx_yn (rt_P sc fm) 332).cls = true := (by decide +kernel : rz_cn 12 (rt_yn 332).cls = true)
theorem wc_330_214 : rx_ct (rt_P sc fm) 330 214 = some (0, 331, 1) := (by decide +kernel : rt_ct 330 214 = some (0, 331, 1))
theorem wc_330_218 : rx_ct (rt_P sc fm) 330 218 = some (0, 332, 1) := (by decide +kernel : rt_ct 330 218 = some (0, 332, 1))
theorem wf_330_175 : rx_ft (rt_P sc fm) 330 175 = some (7, 10) := (by decide +kernel : rt_ft 330 175 = some (7, 10))
theorem wf_330_208 : rx_ft (rt_P sc fm) 330 208 = some (7, 8) := (by decide +kernel : rt_ft 330 208 = some (7, 8))
theorem wf_330_211 : rx_ft (rt_P sc fm) 330 211 = some (7, 3) := (by decide +kernel : rt_ft 330 211 = some (7, 3))
theorem wf_330_221 : rx_ft (rt_P sc fm) 330 221 = some (7, 4) := (by decide +kernel : rt_ft 330 221 = some (7, 4))
theorem wf_330_27 : rx_ft (rt_P sc fm) 330 27 = some (12, 5) := (by decide +kernel : rt_ft 330 27 = some (12, 5))
theorem wi_330_0 : ri (rt_P sc fm) 330 0 (.aload_n 0) (1) := ri_of (by decide +kernel) rfl
theorem wi_330_1 : ri (rt_P sc fm) 330 1 (.getfield 27) (4) := ri_of (by decide +kernel) rfl
theorem wi_330_10 : ri (rt_P sc fm) 330 10 (.iconst 0) (11) := ri_of (by decide +kernel) rfl
theorem wi_330_11 : ri (rt_P sc fm) 330 11 (.istore_n 3) (12) := ri_of (by decide +kernel) rfl
theorem wi_330_12 : ri (rt_P sc fm) 330 12 (.iload_n 3) (13) := ri_of (by decide +kernel) rfl
theorem wi_330_13 : ri (rt_P sc fm) 330 13 (.aload_n 0) (14) := ri_of (by decide +kernel) rfl
theorem wi_330_14 : ri (rt_P sc fm) 330 14 (.getfield 27) (17) := ri_of (by decide +kernel) rfl
theorem wi_330_17 : ri (rt_P sc fm) 330 17 (.getfield 175) (20) := ri_of (by decide +kernel) rfl
theorem wi_330_20 : ri (rt_P sc fm) 330 20 (.iload_n 1) (21) := ri_of (by decide +kernel) rfl
theorem wi_330_21 : ri (rt_P sc fm) 330 21 (.iaload) (22) := ri_of (by decide +kernel) rfl
theorem wi_330_22 : ri (rt_P sc fm) 330 22 (.if_icmp .ge 44) (25) := ri_of (by decide +kernel) rfl
theorem wi_330_25 : ri (rt_P sc fm) 330 25 (.aload_n 0) (26) := ri_of (by decide +kernel) rfl
theorem wi_330_26 : ri (rt_P sc fm) 330 26 (.getfield 27) (29) := ri_of (by decide +kernel) rfl
theorem wi_330_29 : ri (rt_P sc fm) 330 29 (.getfield 211) (32) := ri_of (by decide +kernel) rfl
theorem wi_330_32 : ri (rt_P sc fm) 330 32 (.iload_n 2) (33) := ri_of (by decide +kernel) rfl
theorem wi_330_33 : ri (rt_P sc fm) 330 33 (.baload) (34) := ri_of (by decide +kernel) rfl
theorem wi_330_34 : ri (rt_P sc fm) 330 34 (.ifCond .eq 16) (37) := ri_of (by decide +kernel) rfl
theorem wi_330_37 : ri (rt_P sc fm) 330 37 (.aload_n 0) (38) := ri_of (by decide +kernel) rfl
theorem wi_330_38 : ri (rt_P sc fm) 330 38 (.iload_n 2) (39) := ri_of (by decide +kernel) rfl
theorem wi_330_39 : ri (rt_P sc fm) 330 39 (.invokevirtual 214) (42) := ri_of (by decide +kernel) rfl
theorem wi_330_4 : ri (rt_P sc fm) 330 4 (.getfield 208) (7) := ri_of (by decide +kernel) rfl
theorem wi_330_42 : ri (rt_P sc fm) 330 42 (.ifCond .eq 8) (45) := ri_of (by decide +kernel) rfl
theorem wi_330_45 : ri (rt_P sc fm) 330 45 (.aload_n 0) (46) := ri_of (by decide +kernel) rfl
theorem wi_330_46 : ri (rt_P sc fm) 330 46 (.iload_n 2) (47) := ri_of (by decide +kernel) rfl
theorem wi_330_47 : ri (rt_P sc fm) 330 47 (.invokevirtual 218) (50) := ri_of (by decide +kernel) rfl
theorem wi_330_50 : ri (rt_P sc fm) 330 50 (.aload_n 0) (51) := ri_of (by decide +kernel) rfl
theorem wi_330_51 : ri (rt_P sc fm) 330 51 (.getfield 27) (54) := ri_of (by decide +kernel) rfl
theorem wi_330_54 : ri (rt_P sc fm) 330 54 (.getfield 221) (57) := ri_of (by decide +kernel) rfl
theorem wi_330_57 : ri (rt_P sc fm) 330 57 (.iload_n 2) (58) := ri_of (by decide +kernel) rfl
theorem wi_330_58 : ri (rt_P sc fm) 330 58 (.iaload) (59) := ri_of (by decide +kernel) rfl
theorem wi_330_59 : ri (rt_P sc fm) 330 59 (.istore_n 2) (60) := ri_of (by decide +kernel) rfl
theorem wi_330_60 : ri (rt_P sc fm) 330 60 (.iinc 3 1) (63) := ri_of (by decide +kernel) rfl
theorem wi_330_63 : ri (rt_P sc fm) 330 63 (.goto (-51)) (66) := ri_of (by decide +kernel) rfl
theorem wi_330_66 : ri (rt_P sc fm) 330 66 (.return_) (67) := ri_of (by decide +kernel) rfl
theorem wi_330_7 : ri (rt_P sc fm) 330 7 (.iload_n 1) (8) := ri_of (by decide +kernel) rfl
theorem wi_330_8 : ri (rt_P sc fm) 330 8 (.iaload) (9) := ri_of (by decide +kernel) rfl
theorem wi_330_9 : ri (rt_P sc fm) 330 9 (.istore_n 2) (10) := ri_of (by decide +kernel) rfl
theorem wm_331 : rx_ml (rt_P sc fm) 331 = 4 := (by decide +kernel : rt_ml 331 = 4)
theorem wm_332 : rx_ml (rt_P sc fm) 332 = 5 := (by decide +kernel : rt_ml 332 = 5)
theorem wr_330 : rx_rt (rt_P sc fm) 330 = none := (by decide +kernel : rt_rt 330 = none)
/-- MarkHouse$Teller.writeMarks(I)V -/
def d_330 (n : Nat) (a1 : Int32) (c : cS) : Option (cS) :=
  if ib a1 2242 then
  lt ((c.1 142 (ix a1)) : Int32) (fun v3 =>
  Option.bind (whl (R := (cS)) (fun s6 : Int32 × Int32 × cS =>
    if ib a1 2242 then
    if (s6.2.2.1 144 (ix a1)) ≤ s6.2.1 then
      some (.inr s6.2.2)
    else
      if ib s6.1 4096 then
      jn (fun p9 : cS =>
        if ib s6.1 4096 then
        lt ((p9.1 138 (ix s6.1)) : Int32) (fun v12 =>
        lt (s6.2.1 + 1 : Int32) (fun v15 =>
        some (.inl (v12, v15, p9))))
        else none)
      (fun j50 =>
      if (s6.2.2.1 137 (ix s6.1)) = 0 then
        j50 s6.2.2
      else
        Option.bind (d_331 n s6.1 s6.2.2) (fun v17 =>
        if v17 = 0 then
          j50 s6.2.2
        else
          Option.bind (d_332 n s6.1 s6.2.2) (fun r18 =>
          j50 r18)))
      else none
    else none) n (v3, 0, c))
  (fun x19 : cS =>
    some x19))
  else none
theorem sp_330 {F Lo n : Nat} {a1 : Int32} {c y : cS} {w : cW} {K : cS → Prop} {Q : ((Option Value) ⊕ String) → List va_E → Prop} (hw : rOK fm w) (hF : 7 ≤ F) (hLo : 155 ≤ Lo)  (h : wp (d_330 n a1 c) K) (hQ : ∀ r, K r → Q (.inl none) (hq true r y w)) : rs (rt_P sc fm) 330 F Lo 0 [(0, .ref 172), (1, .int a1)] [] (hq true c y w) Q := by
  unfold d_330 at h
  obtain ⟨lv, elv⟩ : ∃ lv : rx_L, lv = [(0, .ref 172), (1, .int a1)] := ⟨_, rfl⟩
  rw [← elv]
  have l0 : rx_ld lv 0 = some (.ref 172) := by rw [elv]; rfl
  have l1 : rx_ld lv 1 = some (.int a1) := by rw [elv]; rfl
  refine rs_aldn wi_330_0 l0 ?_
  refine dq_gr wi_330_1 wf_330_27 tf_172_5 ?_
  refine dq_gr wi_330_4 wf_330_208 tf_133_8 ?_
  refine rs_ildn wi_330_7 l1 ?_
  obtain ⟨g1, h⟩ := wp_gd h
  refine dq_iald wi_330_8 t_142 g1 ?_
  obtain ⟨v3, e4, h⟩ := wp_lt h
  refine rs_topi e4 ?_
  refine dl_istn wi_330_9 rfl (fun lv l2 t2 => ?_)
  have l0 := t2 _ _ (by decide) (Or.inl rfl) l0
  have l1 := t2 _ _ (by decide) (Or.inl rfl) l1
  refine rs_pure wi_330_10 rfl ?_
  refine rs_topi (v := 0) (by decide) ?_
  refine dl_istn wi_330_11 rfl (fun lv l3 t5 => ?_)
  have l0 := t5 _ _ (by decide) (Or.inl rfl) l0
  have l1 := t5 _ _ (by decide) (Or.inl rfl) l1
  have l2 := t5 _ _ (by decide) (Or.inl rfl) l2
  refine whl_ex (A := fun s6 : Int32 × Int32 × cS => ∀ lv, rx_ld lv 0 = some (.ref 172) → rx_ld lv 1 = some (.int a1) → rx_ld lv 2 = some (.int s6.1) → rx_ld lv 3 = some (.int s6.2.1) → rs (rt_P sc fm) 330 F Lo 12 lv [] (hq true s6.2.2 y w) Q) (B := (fun x19 : cS => ∀ lv, rs (rt_P sc fm) 330 F Lo 66 lv [] (hq true x19 y w) Q)) ?_ ?_ _ _ (wp_bind h) _ l0 l1 l2 l3
  · intro s6 h lv l0 l1 l2 l3
    refine rs_ildn wi_330_12 l3 ?_
    refine rs_aldn wi_330_13 l0 ?_
    refine dq_gr wi_330_14 wf_330_27 tf_172_5 ?_
    refine dq_gr wi_330_17 wf_330_175 tf_133_10 ?_
    refine rs_ildn wi_330_20 l1 ?_
    obtain ⟨g7, h⟩ := wp_gd h
    refine dq_iald wi_330_21 t_144 g7 ?_
    refine rs_icge (tg := 66) wi_330_22 ⟨by decide, by decide⟩ (fun q => ?_) (fun q => ?_)
    ·
      have h := wp_pos h q
      exact h _
    ·
      have h := wp_neg h q
      refine rs_aldn wi_330_25 l0 ?_
      refine dq_gr wi_330_26 wf_330_27 tf_172_5 ?_
      refine dq_gr wi_330_29 wf_330_211 tf_133_3 ?_
      refine rs_ildn wi_330_32 l2 ?_
      obtain ⟨g8, h⟩ := wp_gd h
      refine dq_zald wi_330_33 t_137 g8 ?_
      refine wp_jn (B := fun p9 : cS => ∀ lv, rx_ld lv 0 = some (.ref 172) → rx_ld lv 1 = some (.int a1) → rx_ld lv 2 = some (.int s6.1) → rx_ld lv 3 = some (.int s6.2.1) → rs (rt_P sc fm) 330 F Lo 50 lv [] (hq true p9 y w) Q) h (fun p9 h lv l0 l1 l2 l3 => ?_) (fun j50 hj50 h => ?_)
      ·
        refine rs_aldn wi_330_50 l0 ?_
        refine dq_gr wi_330_51 wf_330_27 tf_172_5 ?_
        refine dq_gr wi_330_54 wf_330_221 tf_133_4 ?_
        refine rs_ildn wi_330_57 l2 ?_
        obtain ⟨g10, h⟩ := wp_gd h
        refine dq_iald wi_330_58 t_138 g10 ?_
        obtain ⟨v12, e13, h⟩ := wp_lt h
        refine rs_topi e13 ?_
        refine dl_istn wi_330_59 rfl (fun lv l2 t11 => ?_)
        have l0 := t11 _ _ (by decide) (Or.inl rfl) l0
        have l1 := t11 _ _ (by decide) (Or.inl rfl) l1
        have l3 := t11 _ _ (by decide) (Or.inl rfl) l3
        obtain ⟨v15, e16, h⟩ := wp_lt h
        refine dl_inc wi_330_60 l3 rfl e16 (fun lv l3 t14 => ?_)
        have l0 := t14 _ _ (by decide) (Or.inl rfl) l0
        have l1 := t14 _ _ (by decide) (Or.inl rfl) l1
        have l2 := t14 _ _ (by decide) (Or.inl rfl) l2
        refine rs_goto (tg := 12) wi_330_63 ⟨by decide, by decide⟩ ?_
        exact h _ l0 l1 l2 l3
      refine rs_ifeq (tg := 50) wi_330_34 ⟨by decide, by decide⟩ (fun q => ?_) (fun q => ?_)
      ·
        have h := wp_pos h q
        exact hj50 _ h _ l0 l1 l2 l3
      ·
        have h := wp_neg h q
        refine rs_aldn wi_330_37 l0 ?_
        refine rs_ildn wi_330_38 l2 ?_
        refine rs_V wi_330_39 wc_330_214 rfl (dq_isa tf_172_0 wa_12_331) (Nat.le_trans (by decide) hF) (ml_le wm_331 (Nat.le_trans (by decide) hLo)) rfl (sp_331 hw (Nat.le_trans (by decide : 6 ≤ 7 - 1) (Nat.sub_le_sub_right hF 1)) (ml_sub wm_331 (Nat.le_trans (by decide : 131 ≤ 155 - 23) (Nat.sub_le_sub_right hLo 23))) (wp_bind h) (fun v17 h => rs_back1 ?_))
        refine rs_ifeq (tg := 50) wi_330_42 ⟨by decide, by decide⟩ (fun q => ?_) (fun q => ?_)
        ·
          have h := wp_pos h q
          exact hj50 _ h _ l0 l1 l2 l3
        ·
          have h := wp_neg h q
          refine rs_aldn wi_330_45 l0 ?_
          refine rs_ildn wi_330_46 l2 ?_
          refine rs_V wi_330_47 wc_330_218 rfl (dq_isa tf_172_0 wa_12_332) (Nat.le_trans (by decide) hF) (ml_le wm_332 (Nat.le_trans (by decide) hLo)) rfl (sp_332 hw (Nat.le_trans (by decide : 6 ≤ 7 - 1) (Nat.sub_le_sub_right hF 1)) (ml_sub wm_332 (Nat.le_trans (by decide : 131 ≤ 155 - 24) (Nat.sub_le_sub_right hLo 24))) (wp_bind h) (fun r18 h => rs_back0 ?_))
          exact hj50 _ h _ l0 l1 l2 l3
  ·
    intro x19 h lv
    exact rs_vret wi_330_66 wr_330 (hQ x19 h)
theorem wa_12_327 : rz_cn 12 (rx_yn (rt_P sc fm) 327).cls = true := (by decide +kernel : rz_cn 12 (rt_yn 327).cls = true)
theorem wa_12_330 : rz_cn 12 (rx_yn (rt_P sc fm) 330).cls = true := (by decide +kernel : rz_cn 12 (rt_yn 330).cls = true)
theorem wc_326_104 : rx_ct (rt_P sc fm) 326 104 = some (0, 330, 1) := (by decide +kernel : rt_ct 326 104 = some (0, 330, 1))
theorem wc_326_158 : rx_ct (rt_P sc fm) 326 158 = some (0, 323, 2) := (by decide +kernel : rt_ct 326 158 = some (0, 323, 2))
theorem wc_326_165 : rx_ct (rt_P sc fm) 326 165 = some (0, 327, 1) := (by decide +kernel : rt_ct 326 165 = some (0, 327, 1))
theorem wc_326_51 : rx_ct (rt_P sc fm) 326 51 = some (0, 320, 1) := (by decide +kernel : rt_ct 326 51 = some (0, 320, 1))
theorem wc_326_54 : rx_ct (rt_P sc fm) 326 54 = some (0, 322, 1) := (by decide +kernel : rt_ct 326 54 = some (0, 322, 1))
theorem wc_326_88 : rx_ct (rt_P sc fm) 326 88 = some (0, 321, 1) := (by decide +kernel : rt_ct 326 88 = some (0, 321, 1))
theorem wf_326_144 : rx_ft (rt_P sc fm) 326 144 = some (6, 1) := (by decide +kernel : rt_ft 326 144 = some (6, 1))
theorem wf_326_145 : rx_ft (rt_P sc fm) 326 145 = some (6, 2) := (by decide +kernel : rt_ft 326 145 = some (6, 2))
theorem wf_326_148 : rx_ft (rt_P sc fm) 326 148 = some (6, 3) := (by decide +kernel : rt_ft 326 148 = some (6, 3))
theorem wf_326_151 : rx_ft (rt_P sc fm) 326 151 = some (6, 4) := (by decide +kernel : rt_ft 326 151 = some (6, 4))
theorem wf_326_155 : rx_ft (rt_P sc fm) 326 155 = some (6, 5) := (by decide +kernel : rt_ft 326 155 = some (6, 5))
theorem wf_326_162 : rx_ft (rt_P sc fm) 326 162 = some (6, 6) := (by decide +kernel : rt_ft 326 162 = some (6, 6))
theorem wf_326_168 : rx_ft (rt_P sc fm) 326 168 = some (6, 7) := (by decide +kernel : rt_ft 326 168 = some (6, 7))
theorem wf_326_172 : rx_ft (rt_P sc fm) 326 172 = some (6, 8) := (by decide +kernel : rt_ft 326 172 = some (6, 8))
theorem wf_326_175 : rx_ft (rt_P sc fm) 326 175 = some (7, 10) := (by decide +kernel : rt_ft 326 175 = some (7, 10))
theorem wf_326_27 : rx_ft (rt_P sc fm) 326 27 = some (12, 5) := (by decide +kernel : rt_ft 326 27 = some (12, 5))
theorem wf_326_98 : rx_ft (rt_P sc fm) 326 98 = some (6, 0) := (by decide +kernel : rt_ft 326 98 = some (6, 0))
theorem wi_326_0 : ri (rt_P sc fm) 326 0 (.aload_n 0) (1) := ri_of (by decide +kernel) rfl
theorem wi_326_1 : ri (rt_P sc fm) 326 1 (.sipush 201) (4) := ri_of (by decide +kernel) rfl
theorem wi_326_100 : ri (rt_P sc fm) 326 100 (.iaload) (101) := ri_of (by decide +kernel) rfl
theorem wi_326_101 : ri (rt_P sc fm) 326 101 (.aload_n 2) (102) := ri_of (by decide +kernel) rfl
theorem wi_326_102 : ri (rt_P sc fm) 326 102 (.getfield 155) (105) := ri_of (by decide +kernel) rfl
theorem wi_326_105 : ri (rt_P sc fm) 326 105 (.iload_n 3) (106) := ri_of (by decide +kernel) rfl
theorem wi_326_106 : ri (rt_P sc fm) 326 106 (.laload) (107) := ri_of (by decide +kernel) rfl
theorem wi_326_107 : ri (rt_P sc fm) 326 107 (.invokevirtual 158) (110) := ri_of (by decide +kernel) rfl
theorem wi_326_110 : ri (rt_P sc fm) 326 110 (.iinc 3 1) (113) := ri_of (by decide +kernel) rfl
theorem wi_326_113 : ri (rt_P sc fm) 326 113 (.goto (-96)) (116) := ri_of (by decide +kernel) rfl
theorem wi_326_116 : ri (rt_P sc fm) 326 116 (.aload_n 2) (117) := ri_of (by decide +kernel) rfl
theorem wi_326_117 : ri (rt_P sc fm) 326 117 (.getfield 144) (120) := ri_of (by decide +kernel) rfl
theorem wi_326_12 : ri (rt_P sc fm) 326 12 (.invokevirtual 51) (15) := ri_of (by decide +kernel) rfl
theorem wi_326_120 : ri (rt_P sc fm) 326 120 (.ifCond .le 9) (123) := ri_of (by decide +kernel) rfl
theorem wi_326_123 : ri (rt_P sc fm) 326 123 (.aload_n 0) (124) := ri_of (by decide +kernel) rfl
theorem wi_326_124 : ri (rt_P sc fm) 326 124 (.bipush 41) (126) := ri_of (by decide +kernel) rfl
theorem wi_326_126 : ri (rt_P sc fm) 326 126 (.invokevirtual 54) (129) := ri_of (by decide +kernel) rfl
theorem wi_326_129 : ri (rt_P sc fm) 326 129 (.aload_n 0) (130) := ri_of (by decide +kernel) rfl
theorem wi_326_130 : ri (rt_P sc fm) 326 130 (.aload_n 2) (131) := ri_of (by decide +kernel) rfl
theorem wi_326_131 : ri (rt_P sc fm) 326 131 (.getfield 162) (134) := ri_of (by decide +kernel) rfl
theorem wi_326_134 : ri (rt_P sc fm) 326 134 (.invokevirtual 165) (137) := ri_of (by decide +kernel) rfl
theorem wi_326_137 : ri (rt_P sc fm) 326 137 (.aload_n 2) (138) := ri_of (by decide +kernel) rfl
theorem wi_326_138 : ri (rt_P sc fm) 326 138 (.getfield 168) (141) := ri_of (by decide +kernel) rfl
theorem wi_326_141 : ri (rt_P sc fm) 326 141 (.ifCond .eq 10) (144) := ri_of (by decide +kernel) rfl
theorem wi_326_144 : ri (rt_P sc fm) 326 144 (.aload_n 0) (145) := ri_of (by decide +kernel) rfl
theorem wi_326_145 : ri (rt_P sc fm) 326 145 (.sipush 209) (148) := ri_of (by decide +kernel) rfl
theorem wi_326_148 : ri (rt_P sc fm) 326 148 (.invokevirtual 88) (151) := ri_of (by decide +kernel) rfl
theorem wi_326_15 : ri (rt_P sc fm) 326 15 (.iconst 0) (16) := ri_of (by decide +kernel) rfl
theorem wi_326_151 : ri (rt_P sc fm) 326 151 (.aload_n 2) (152) := ri_of (by decide +kernel) rfl
theorem wi_326_152 : ri (rt_P sc fm) 326 152 (.getfield 172) (155) := ri_of (by decide +kernel) rfl
theorem wi_326_155 : ri (rt_P sc fm) 326 155 (.ifCond .eq 10) (158) := ri_of (by decide +kernel) rfl
theorem wi_326_158 : ri (rt_P sc fm) 326 158 (.aload_n 0) (159) := ri_of (by decide +kernel) rfl
theorem wi_326_159 : ri (rt_P sc fm) 326 159 (.sipush 210) (162) := ri_of (by decide +kernel) rfl
theorem wi_326_16 : ri (rt_P sc fm) 326 16 (.istore_n 3) (17) := ri_of (by decide +kernel) rfl
theorem wi_326_162 : ri (rt_P sc fm) 326 162 (.invokevirtual 88) (165) := ri_of (by decide +kernel) rfl
theorem wi_326_165 : ri (rt_P sc fm) 326 165 (.aload_n 0) (166) := ri_of (by decide +kernel) rfl
theorem wi_326_166 : ri (rt_P sc fm) 326 166 (.getfield 27) (169) := ri_of (by decide +kernel) rfl
theorem wi_326_169 : ri (rt_P sc fm) 326 169 (.getfield 175) (172) := ri_of (by decide +kernel) rfl
theorem wi_326_17 : ri (rt_P sc fm) 326 17 (.iload_n 3) (18) := ri_of (by decide +kernel) rfl
theorem wi_326_172 : ri (rt_P sc fm) 326 172 (.sipush 1200) (175) := ri_of (by decide +kernel) rfl
theorem wi_326_175 : ri (rt_P sc fm) 326 175 (.iload_n 1) (176) := ri_of (by decide +kernel) rfl
theorem wi_326_176 : ri (rt_P sc fm) 326 176 (.iadd) (177) := ri_of (by decide +kernel) rfl
theorem wi_326_177 : ri (rt_P sc fm) 326 177 (.iaload) (178) := ri_of (by decide +kernel) rfl
theorem wi_326_178 : ri (rt_P sc fm) 326 178 (.ifCond .le 18) (181) := ri_of (by decide +kernel) rfl
theorem wi_326_18 : ri (rt_P sc fm) 326 18 (.aload_n 2) (19) := ri_of (by decide +kernel) rfl
theorem wi_326_181 : ri (rt_P sc fm) 326 181 (.aload_n 0) (182) := ri_of (by decide +kernel) rfl
theorem wi_326_182 : ri (rt_P sc fm) 326 182 (.bipush 61) (184) := ri_of (by decide +kernel) rfl
theorem wi_326_184 : ri (rt_P sc fm) 326 184 (.invokevirtual 54) (187) := ri_of (by decide +kernel) rfl
theorem wi_326_187 : ri (rt_P sc fm) 326 187 (.aload_n 0) (188) := ri_of (by decide +kernel) rfl
theorem wi_326_188 : ri (rt_P sc fm) 326 188 (.sipush 1200) (191) := ri_of (by decide +kernel) rfl
theorem wi_326_19 : ri (rt_P sc fm) 326 19 (.getfield 144) (22) := ri_of (by decide +kernel) rfl
theorem wi_326_191 : ri (rt_P sc fm) 326 191 (.iload_n 1) (192) := ri_of (by decide +kernel) rfl
theorem wi_326_192 : ri (rt_P sc fm) 326 192 (.iadd) (193) := ri_of (by decide +kernel) rfl
theorem wi_326_193 : ri (rt_P sc fm) 326 193 (.invokevirtual 104) (196) := ri_of (by decide +kernel) rfl
theorem wi_326_196 : ri (rt_P sc fm) 326 196 (.aload_n 0) (197) := ri_of (by decide +kernel) rfl
theorem wi_326_197 : ri (rt_P sc fm) 326 197 (.bipush 59) (199) := ri_of (by decide +kernel) rfl
theorem wi_326_199 : ri (rt_P sc fm) 326 199 (.invokevirtual 54) (202) := ri_of (by decide +kernel) rfl
theorem wi_326_202 : ri (rt_P sc fm) 326 202 (.return_) (203) := ri_of (by decide +kernel) rfl
theorem wi_326_22 : ri (rt_P sc fm) 326 22 (.if_icmp .ge 94) (25) := ri_of (by decide +kernel) rfl
theorem wi_326_25 : ri (rt_P sc fm) 326 25 (.aload_n 0) (26) := ri_of (by decide +kernel) rfl
theorem wi_326_26 : ri (rt_P sc fm) 326 26 (.iload_n 3) (27) := ri_of (by decide +kernel) rfl
theorem wi_326_27 : ri (rt_P sc fm) 326 27 (.ifCond .ne 8) (30) := ri_of (by decide +kernel) rfl
theorem wi_326_30 : ri (rt_P sc fm) 326 30 (.bipush 40) (32) := ri_of (by decide +kernel) rfl
theorem wi_326_32 : ri (rt_P sc fm) 326 32 (.goto 5) (35) := ri_of (by decide +kernel) rfl
theorem wi_326_35 : ri (rt_P sc fm) 326 35 (.bipush 44) (37) := ri_of (by decide +kernel) rfl
theorem wi_326_37 : ri (rt_P sc fm) 326 37 (.invokevirtual 54) (40) := ri_of (by decide +kernel) rfl
theorem wi_326_4 : ri (rt_P sc fm) 326 4 (.invokevirtual 88) (7) := ri_of (by decide +kernel) rfl
theorem wi_326_40 : ri (rt_P sc fm) 326 40 (.aload_n 0) (41) := ri_of (by decide +kernel) rfl
theorem wi_326_41 : ri (rt_P sc fm) 326 41 (.aload_n 2) (42) := ri_of (by decide +kernel) rfl
theorem wi_326_42 : ri (rt_P sc fm) 326 42 (.getfield 145) (45) := ri_of (by decide +kernel) rfl
theorem wi_326_45 : ri (rt_P sc fm) 326 45 (.iload_n 3) (46) := ri_of (by decide +kernel) rfl
theorem wi_326_46 : ri (rt_P sc fm) 326 46 (.laload) (47) := ri_of (by decide +kernel) rfl
theorem wi_326_47 : ri (rt_P sc fm) 326 47 (.invokevirtual 51) (50) := ri_of (by decide +kernel) rfl
theorem wi_326_50 : ri (rt_P sc fm) 326 50 (.aload_n 0) (51) := ri_of (by decide +kernel) rfl
theorem wi_326_51 : ri (rt_P sc fm) 326 51 (.bipush 58) (53) := ri_of (by decide +kernel) rfl
theorem wi_326_53 : ri (rt_P sc fm) 326 53 (.invokevirtual 54) (56) := ri_of (by decide +kernel) rfl
theorem wi_326_56 : ri (rt_P sc fm) 326 56 (.aload_n 0) (57) := ri_of (by decide +kernel) rfl
theorem wi_326_57 : ri (rt_P sc fm) 326 57 (.aload_n 2) (58) := ri_of (by decide +kernel) rfl
theorem wi_326_58 : ri (rt_P sc fm) 326 58 (.getfield 148) (61) := ri_of (by decide +kernel) rfl
theorem wi_326_61 : ri (rt_P sc fm) 326 61 (.iload_n 3) (62) := ri_of (by decide +kernel) rfl
theorem wi_326_62 : ri (rt_P sc fm) 326 62 (.iaload) (63) := ri_of (by decide +kernel) rfl
theorem wi_326_63 : ri (rt_P sc fm) 326 63 (.iconst 1) (64) := ri_of (by decide +kernel) rfl
theorem wi_326_64 : ri (rt_P sc fm) 326 64 (.if_icmp .ne 9) (67) := ri_of (by decide +kernel) rfl
theorem wi_326_67 : ri (rt_P sc fm) 326 67 (.sipush 212) (70) := ri_of (by decide +kernel) rfl
theorem wi_326_7 : ri (rt_P sc fm) 326 7 (.aload_n 0) (8) := ri_of (by decide +kernel) rfl
theorem wi_326_70 : ri (rt_P sc fm) 326 70 (.goto 6) (73) := ri_of (by decide +kernel) rfl
theorem wi_326_73 : ri (rt_P sc fm) 326 73 (.sipush 213) (76) := ri_of (by decide +kernel) rfl
theorem wi_326_76 : ri (rt_P sc fm) 326 76 (.invokevirtual 88) (79) := ri_of (by decide +kernel) rfl
theorem wi_326_79 : ri (rt_P sc fm) 326 79 (.aload_n 2) (80) := ri_of (by decide +kernel) rfl
theorem wi_326_8 : ri (rt_P sc fm) 326 8 (.aload_n 2) (9) := ri_of (by decide +kernel) rfl
theorem wi_326_80 : ri (rt_P sc fm) 326 80 (.getfield 151) (83) := ri_of (by decide +kernel) rfl
theorem wi_326_83 : ri (rt_P sc fm) 326 83 (.iload_n 3) (84) := ri_of (by decide +kernel) rfl
theorem wi_326_84 : ri (rt_P sc fm) 326 84 (.baload) (85) := ri_of (by decide +kernel) rfl
theorem wi_326_85 : ri (rt_P sc fm) 326 85 (.ifCond .eq 25) (88) := ri_of (by decide +kernel) rfl
theorem wi_326_88 : ri (rt_P sc fm) 326 88 (.aload_n 0) (89) := ri_of (by decide +kernel) rfl
theorem wi_326_89 : ri (rt_P sc fm) 326 89 (.bipush 61) (91) := ri_of (by decide +kernel) rfl
theorem wi_326_9 : ri (rt_P sc fm) 326 9 (.getfield 98) (12) := ri_of (by decide +kernel) rfl
theorem wi_326_91 : ri (rt_P sc fm) 326 91 (.invokevirtual 54) (94) := ri_of (by decide +kernel) rfl
theorem wi_326_94 : ri (rt_P sc fm) 326 94 (.aload_n 0) (95) := ri_of (by decide +kernel) rfl
theorem wi_326_95 : ri (rt_P sc fm) 326 95 (.aload_n 2) (96) := ri_of (by decide +kernel) rfl
theorem wi_326_96 : ri (rt_P sc fm) 326 96 (.getfield 148) (99) := ri_of (by decide +kernel) rfl
theorem wi_326_99 : ri (rt_P sc fm) 326 99 (.iload_n 3) (100) := ri_of (by decide +kernel) rfl
theorem wm_327 : rx_ml (rt_P sc fm) 327 = 3 := (by decide +kernel : rt_ml 327 = 3)
theorem wm_330 : rx_ml (rt_P sc fm) 330 = 4 := (by decide +kernel : rt_ml 330 = 4)
theorem wr_326 : rx_rt (rt_P sc fm) 326 = none := (by decide +kernel : rt_rt 326 = none)
/-- MarkHouse$Teller.writeKind(ILMarkHouse$Kind;)V -/
def d_326 (n : Nat) (a1 : Int32) (k2 : Nat) (c : cS) : Option (cS) :=
  Option.bind (d_321 n 201 c) (fun r1 =>
  Option.bind (d_320 n (r1.2 (kA k2) 0) r1) (fun r2 =>
  Option.bind (whl (R := (cS)) (fun s4 : Int32 × cS =>
    if (s4.2.1 (kA k2) 1) ≤ s4.1 then
      some (.inr s4.2)
    else
      jn (fun p5 : Int32 =>
        Option.bind (d_322 n p5 s4.2) (fun r6 =>
        if ib s4.1 4 then
        Option.bind (d_320 n (r6.2 (kA k2 + 1) (ix s4.1)) r6) (fun r8 =>
        Option.bind (d_322 n 58 r8) (fun r9 =>
        if ib s4.1 4 then
        jn (fun p11 : Int32 =>
          Option.bind (d_321 n p11 r9) (fun r12 =>
          if ib s4.1 4 then
          jn (fun p14 : cS =>
            lt (s4.1 + 1 : Int32) (fun v16 =>
            some (.inl (v16, p14))))
          (fun j110 =>
          if (r12.1 (kA k2 + 3) (ix s4.1)) = 0 then
            j110 r12
          else
            Option.bind (d_322 n 61 r12) (fun r18 =>
            if ib s4.1 4 then
            if ib s4.1 4 then
            Option.bind (d_323 n (r18.1 (kA k2 + 2) (ix s4.1)) (r18.2 (kA k2 + 4) (ix s4.1)) r18) (fun r21 =>
            j110 r21)
            else none
            else none))
          else none))
        (fun j76 =>
        if (r9.1 (kA k2 + 2) (ix s4.1)) = 1 then
          j76 212
        else
          j76 213)
        else none))
        else none))
      (fun j37 =>
      if s4.1 = 0 then
        j37 40
      else
        j37 44)) n (0, r2))
  (fun x22 : cS =>
    jn (fun p23 : cS =>
      Option.bind (d_327 n (p23.1 (kA k2) 6) p23) (fun r24 =>
      jn (fun p25 : cS =>
        jn (fun p26 : cS =>
          if ib (1200 + a1) 2242 then
          jn (fun p28 : cS =>
            Option.bind (d_322 n 59 p28) (fun r29 =>
            some r29))
          (fun j196 =>
          if (p26.1 144 (ix (1200 + a1))) ≤ 0 then
            j196 p26
          else
            Option.bind (d_322 n 61 p26) (fun r30 =>
            Option.bind (d_330 n (1200 + a1) r30) (fun r31 =>
            j196 r31)))
          else none)
        (fun j165 =>
        if (p25.1 (kA k2) 8) = 0 then
          j165 p25
        else
          Option.bind (d_321 n 210 p25) (fun r32 =>
          j165 r32)))
      (fun j151 =>
      if (r24.1 (kA k2) 7) = 0 then
        j151 r24
      else
        Option.bind (d_321 n 209 r24) (fun r33 =>
        j151 r33))))
    (fun j129 =>
    if (x22.1 (kA k2) 1) ≤ 0 then
      j129 x22
    else
      Option.bind (d_322 n 41 x22) (fun r34 =>
      j129 r34)))))
theorem sp_326 {F Lo n : Nat} {a1 : Int32} {k2 : Nat} {c y : cS} {w : cW} {K : cS → Prop} {Q : ((Option Value) ⊕ String) → List va_E → Prop} (hw : rOK fm w) (hF : 8 ≤ F) (hLo : 178 ≤ Lo) (hk2 : k2 < 12) (h : wp (d_326 n a1 k2 c) K) (hQ : ∀ r, K r → Q (.inl none) (hq true r y w)) : rs (rt_P sc fm) 326 F Lo 0 [(0, .ref 172), (1, .int a1), (2, .ref (kA k2))] [] (hq true c y w) Q := by
  unfold d_326 at h
  obtain ⟨lv, elv⟩ : ∃ lv : rx_L, lv = [(0, .ref 172), (1, .int a1), (2, .ref (kA k2))] := ⟨_, rfl⟩
  rw [← elv]
  have l0 : rx_ld lv 0 = some (.ref 172) := by rw [elv]; rfl
  have l1 : rx_ld lv 1 = some (.int a1) := by rw [elv]; rfl
  have l2 : rx_ld lv 2 = some (.ref (kA k2)) := by rw [elv]; rfl
  refine rs_aldn wi_326_0 l0 ?_
  refine rs_pure wi_326_1 rfl ?_
  refine rs_topi (v := 201) (by decide) ?_
  refine rs_V wi_326_4 wc_326_88 rfl (dq_isa tf_172_0 wa_12_321) (Nat.le_trans (by decide) hF) (ml_le wm_321 (Nat.le_trans (by decide) hLo)) rfl (sp_321 hw (Nat.le_trans (by decide : 3 ≤ 8 - 1) (Nat.sub_le_sub_right hF 1)) (ml_sub wm_321 (Nat.le_trans (by decide : 67 ≤ 178 - 21) (Nat.sub_le_sub_right hLo 21))) (wp_bind h) (fun r1 h => rs_back0 ?_))
  refine rs_aldn wi_326_7 l0 ?_
  refine rs_aldn wi_326_8 l2 ?_
  refine dq_gl wi_326_9 wf_326_98 (fK_0 hk2) ?_
  refine rs_V wi_326_12 wc_326_51 rfl (dq_isa tf_172_0 wa_12_320) (Nat.le_trans (by decide) hF) (ml_le wm_320 (Nat.le_trans (by decide) hLo)) rfl (sp_320 hw (Nat.le_trans (by decide : 2 ≤ 8 - 1) (Nat.sub_le_sub_right hF 1)) (ml_sub wm_320 (Nat.le_trans (by decide : 45 ≤ 178 - 22) (Nat.sub_le_sub_right hLo 22))) (wp_bind h) (fun r2 h => rs_back0 ?_))
  refine rs_pure wi_326_15 rfl ?_
  refine rs_topi (v := 0) (by decide) ?_
  refine dl_istn wi_326_16 rfl (fun lv l3 t3 => ?_)
  have l0 := t3 _ _ (by decide) (Or.inl rfl) l0
  have l1 := t3 _ _ (by decide) (Or.inl rfl) l1
  have l2 := t3 _ _ (by decide) (Or.inl rfl) l2
  refine whl_ex (A := fun s4 : Int32 × cS => ∀ lv, rx_ld lv 0 = some (.ref 172) → rx_ld lv 1 = some (.int a1) → rx_ld lv 2 = some (.ref (kA k2)) → rx_ld lv 3 = some (.int s4.1) → rs (rt_P sc fm) 326 F Lo 17 lv [] (hq true s4.2 y w) Q) (B := (fun x22 : cS => ∀ lv, rx_ld lv 0 = some (.ref 172) → rx_ld lv 1 = some (.int a1) → rx_ld lv 2 = some (.ref (kA k2)) → rs (rt_P sc fm) 326 F Lo 116 lv [] (hq true x22 y w) Q)) ?_ ?_ _ _ (wp_bind h) _ l0 l1 l2 l3
  · intro s4 h lv l0 l1 l2 l3
    refine rs_ildn wi_326_17 l3 ?_
    refine rs_aldn wi_326_18 l2 ?_
    refine dq_gi wi_326_19 wf_326_144 (fK_1 hk2) ?_
    refine rs_icge (tg := 116) wi_326_22 ⟨by decide, by decide⟩ (fun q => ?_) (fun q => ?_)
    ·
      have h := wp_pos h q
      exact h _ l0 l1 l2
    ·
      have h := wp_neg h q
      refine rs_aldn wi_326_25 l0 ?_
      refine rs_ildn wi_326_26 l3 ?_
      refine wp_jn (B := fun p5 : Int32 => ∀ lv, rx_ld lv 0 = some (.ref 172) → rx_ld lv 1 = some (.int a1) → rx_ld lv 2 = some (.ref (kA k2)) → rx_ld lv 3 = some (.int s4.1) → rs (rt_P sc fm) 326 F Lo 37 lv [.int p5, .ref 172] (hq true s4.2 y w) Q) h (fun p5 h lv l0 l1 l2 l3 => ?_) (fun j37 hj37 h => ?_)
      ·
        refine rs_V wi_326_37 wc_326_54 rfl (dq_isa tf_172_0 wa_12_322) (Nat.le_trans (by decide) hF) (ml_le wm_322 (Nat.le_trans (by decide) hLo)) rfl (sp_322 hw (Nat.le_trans (by decide : 1 ≤ 8 - 1) (Nat.sub_le_sub_right hF 1)) (ml_sub wm_322 (Nat.le_trans (by decide : 21 ≤ 178 - 21) (Nat.sub_le_sub_right hLo 21))) (wp_bind h) (fun r6 h => rs_back0 ?_))
        refine rs_aldn wi_326_40 l0 ?_
        refine rs_aldn wi_326_41 l2 ?_
        refine dq_gr wi_326_42 wf_326_145 (fK_2 hk2) ?_
        refine rs_ildn wi_326_45 l3 ?_
        obtain ⟨g7, h⟩ := wp_gd h
        refine dq_lald wi_326_46 (tK_1 hk2) g7 ?_
        refine rs_V wi_326_47 wc_326_51 rfl (dq_isa tf_172_0 wa_12_320) (Nat.le_trans (by decide) hF) (ml_le wm_320 (Nat.le_trans (by decide) hLo)) rfl (sp_320 hw (Nat.le_trans (by decide : 2 ≤ 8 - 1) (Nat.sub_le_sub_right hF 1)) (ml_sub wm_320 (Nat.le_trans (by decide : 45 ≤ 178 - 22) (Nat.sub_le_sub_right hLo 22))) (wp_bind h) (fun r8 h => rs_back0 ?_))
        refine rs_aldn wi_326_50 l0 ?_
        refine rs_pure wi_326_51 rfl ?_
        refine rs_topi (v := 58) (by decide) ?_
        refine rs_V wi_326_53 wc_326_54 rfl (dq_isa tf_172_0 wa_12_322) (Nat.le_trans (by decide) hF) (ml_le wm_322 (Nat.le_trans (by decide) hLo)) rfl (sp_322 hw (Nat.le_trans (by decide : 1 ≤ 8 - 1) (Nat.sub_le_sub_right hF 1)) (ml_sub wm_322 (Nat.le_trans (by decide : 21 ≤ 178 - 21) (Nat.sub_le_sub_right hLo 21))) (wp_bind h) (fun r9 h => rs_back0 ?_))
        refine rs_aldn wi_326_56 l0 ?_
        refine rs_aldn wi_326_57 l2 ?_
        refine dq_gr wi_326_58 wf_326_148 (fK_3 hk2) ?_
        refine rs_ildn wi_326_61 l3 ?_
        obtain ⟨g10, h⟩ := wp_gd h
        refine dq_iald wi_326_62 (tK_2 hk2) g10 ?_
        refine rs_pure wi_326_63 rfl ?_
        refine rs_topi (v := 1) (by decide) ?_
        refine wp_jn (B := fun p11 : Int32 => ∀ lv, rx_ld lv 0 = some (.ref 172) → rx_ld lv 1 = some (.int a1) → rx_ld lv 2 = some (.ref (kA k2)) → rx_ld lv 3 = some (.int s4.1) → rs (rt_P sc fm) 326 F Lo 76 lv [.int p11, .ref 172] (hq true r9 y w) Q) h (fun p11 h lv l0 l1 l2 l3 => ?_) (fun j76 hj76 h => ?_)
        ·
          refine rs_V wi_326_76 wc_326_88 rfl (dq_isa tf_172_0 wa_12_321) (Nat.le_trans (by decide) hF) (ml_le wm_321 (Nat.le_trans (by decide) hLo)) rfl (sp_321 hw (Nat.le_trans (by decide : 3 ≤ 8 - 1) (Nat.sub_le_sub_right hF 1)) (ml_sub wm_321 (Nat.le_trans (by decide : 67 ≤ 178 - 21) (Nat.sub_le_sub_right hLo 21))) (wp_bind h) (fun r12 h => rs_back0 ?_))
          refine rs_aldn wi_326_79 l2 ?_
          refine dq_gr wi_326_80 wf_326_151 (fK_4 hk2) ?_
          refine rs_ildn wi_326_83 l3 ?_
          obtain ⟨g13, h⟩ := wp_gd h
          refine dq_zald wi_326_84 (tK_3 hk2) g13 ?_
          refine wp_jn (B := fun p14 : cS => ∀ lv, rx_ld lv 0 = some (.ref 172) → rx_ld lv 1 = some (.int a1) → rx_ld lv 2 = some (.ref (kA k2)) → rx_ld lv 3 = some (.int s4.1) → rs (rt_P sc fm) 326 F Lo 110 lv [] (hq true p14 y w) Q) h (fun p14 h lv l0 l1 l2 l3 => ?_) (fun j110 hj110 h => ?_)
          ·
            obtain ⟨v16, e17, h⟩ := wp_lt h
            refine dl_inc wi_326_110 l3 rfl e17 (fun lv l3 t15 => ?_)
            have l0 := t15 _ _ (by decide) (Or.inl rfl) l0
            have l1 := t15 _ _ (by decide) (Or.inl rfl) l1
            have l2 := t15 _ _ (by decide) (Or.inl rfl) l2
            refine rs_goto (tg := 17) wi_326_113 ⟨by decide, by decide⟩ ?_
            exact h _ l0 l1 l2 l3
          refine rs_ifeq (tg := 110) wi_326_85 ⟨by decide, by decide⟩ (fun q => ?_) (fun q => ?_)
          ·
            have h := wp_pos h q
            exact hj110 _ h _ l0 l1 l2 l3
          ·
            have h := wp_neg h q
            refine rs_aldn wi_326_88 l0 ?_
            refine rs_pure wi_326_89 rfl ?_
            refine rs_topi (v := 61) (by decide) ?_
            refine rs_V wi_326_91 wc_326_54 rfl (dq_isa tf_172_0 wa_12_322) (Nat.le_trans (by decide) hF) (ml_le wm_322 (Nat.le_trans (by decide) hLo)) rfl (sp_322 hw (Nat.le_trans (by decide : 1 ≤ 8 - 1) (Nat.sub_le_sub_right hF 1)) (ml_sub wm_322 (Nat.le_trans (by decide : 21 ≤ 178 - 21) (Nat.sub_le_sub_right hLo 21))) (wp_bind h) (fun r18 h => rs_back0 ?_))
            refine rs_aldn wi_326_94 l0 ?_
            refine rs_aldn wi_326_95 l2 ?_
            refine dq_gr wi_326_96 wf_326_148 (fK_3 hk2) ?_
            refine rs_ildn wi_326_99 l3 ?_
            obtain ⟨g19, h⟩ := wp_gd h
            refine dq_iald wi_326_100 (tK_2 hk2) g19 ?_
            refine rs_aldn wi_326_101 l2 ?_
            refine dq_gr wi_326_102 wf_326_155 (fK_5 hk2) ?_
            refine rs_ildn wi_326_105 l3 ?_
            obtain ⟨g20, h⟩ := wp_gd h
            refine dq_lald wi_326_106 (tK_4 hk2) g20 ?_
            refine rs_V wi_326_107 wc_326_158 rfl (dq_isa tf_172_0 wa_12_323) (Nat.le_trans (by decide) hF) (ml_le wm_323 (Nat.le_trans (by decide) hLo)) rfl (sp_323 hw (Nat.le_trans (by decide : 2 ≤ 8 - 1) (Nat.sub_le_sub_right hF 1)) (ml_sub wm_323 (Nat.le_trans (by decide : 47 ≤ 178 - 23) (Nat.sub_le_sub_right hLo 23))) (wp_bind h) (fun r21 h => rs_back0 ?_))
            exact hj110 _ h _ l0 l1 l2 l3
        refine rs_icne (tg := 73) wi_326_64 ⟨by decide, by decide⟩ (fun q => ?_) (fun q => ?_)
        ·
          have h := wp_neg h q
          refine rs_pure wi_326_73 rfl ?_
          refine rs_topi (v := 213) (by decide) ?_
          exact hj76 _ h _ l0 l1 l2 l3
        ·
          have h := wp_pos h q
          refine rs_pure wi_326_67 rfl ?_
          refine rs_topi (v := 212) (by decide) ?_
          refine rs_goto (tg := 76) wi_326_70 ⟨by decide, by decide⟩ ?_
          exact hj76 _ h _ l0 l1 l2 l3
      refine rs_ifne (tg := 35) wi_326_27 ⟨by decide, by decide⟩ (fun q => ?_) (fun q => ?_)
      ·
        have h := wp_neg h q
        refine rs_pure wi_326_35 rfl ?_
        refine rs_topi (v := 44) (by decide) ?_
        exact hj37 _ h _ l0 l1 l2 l3
      ·
        have h := wp_pos h q
        refine rs_pure wi_326_30 rfl ?_
        refine rs_topi (v := 40) (by decide) ?_
        refine rs_goto (tg := 37) wi_326_32 ⟨by decide, by decide⟩ ?_
        exact hj37 _ h _ l0 l1 l2 l3
  ·
    intro x22 h lv l0 l1 l2
    refine rs_aldn wi_326_116 l2 ?_
    refine dq_gi wi_326_117 wf_326_144 (fK_1 hk2) ?_
    refine wp_jn (B := fun p23 : cS => ∀ lv, rx_ld lv 0 = some (.ref 172) → rx_ld lv 1 = some (.int a1) → rx_ld lv 2 = some (.ref (kA k2)) → rs (rt_P sc fm) 326 F Lo 129 lv [] (hq true p23 y w) Q) h (fun p23 h lv l0 l1 l2 => ?_) (fun j129 hj129 h => ?_)
    ·
      refine rs_aldn wi_326_129 l0 ?_
      refine rs_aldn wi_326_130 l2 ?_
      refine dq_gi wi_326_131 wf_326_162 (fK_6 hk2) ?_
      refine rs_V wi_326_134 wc_326_165 rfl (dq_isa tf_172_0 wa_12_327) (Nat.le_trans (by decide) hF) (ml_le wm_327 (Nat.le_trans (by decide) hLo)) rfl (sp_327 hw (Nat.le_trans (by decide : 4 ≤ 8 - 1) (Nat.sub_le_sub_right hF 1)) (ml_sub wm_327 (Nat.le_trans (by decide : 88 ≤ 178 - 22) (Nat.sub_le_sub_right hLo 22))) (wp_bind h) (fun r24 h => rs_back0 ?_))
      refine rs_aldn wi_326_137 l2 ?_
      refine dq_gi wi_326_138 wf_326_168 (fK_7 hk2) ?_
      refine wp_jn (B := fun p25 : cS => ∀ lv, rx_ld lv 0 = some (.ref 172) → rx_ld lv 1 = some (.int a1) → rx_ld lv 2 = some (.ref (kA k2)) → rs (rt_P sc fm) 326 F Lo 151 lv [] (hq true p25 y w) Q) h (fun p25 h lv l0 l1 l2 => ?_) (fun j151 hj151 h => ?_)
      ·
        refine rs_aldn wi_326_151 l2 ?_
        refine dq_gi wi_326_152 wf_326_172 (fK_8 hk2) ?_
        refine wp_jn (B := fun p26 : cS => ∀ lv, rx_ld lv 0 = some (.ref 172) → rx_ld lv 1 = some (.int a1) → rs (rt_P sc fm) 326 F Lo 165 lv [] (hq true p26 y w) Q) h (fun p26 h lv l0 l1 => ?_) (fun j165 hj165 h => ?_)
        ·
          refine rs_aldn wi_326_165 l0 ?_
          refine dq_gr wi_326_166 wf_326_27 tf_172_5 ?_
          refine dq_gr wi_326_169 wf_326_175 tf_133_10 ?_
          refine rs_pure wi_326_172 rfl ?_
          refine rs_topi (v := 1200) (by decide) ?_
          refine rs_ildn wi_326_175 l1 ?_
          refine rs_pure wi_326_176 rfl ?_
          obtain ⟨g27, h⟩ := wp_gd h
          refine dq_iald wi_326_177 t_144 g27 ?_
          refine wp_jn (B := fun p28 : cS => ∀ lv, rx_ld lv 0 = some (.ref 172) → rs (rt_P sc fm) 326 F Lo 196 lv [] (hq true p28 y w) Q) h (fun p28 h lv l0 => ?_) (fun j196 hj196 h => ?_)
          ·
            refine rs_aldn wi_326_196 l0 ?_
            refine rs_pure wi_326_197 rfl ?_
            refine rs_topi (v := 59) (by decide) ?_
            refine rs_V wi_326_199 wc_326_54 rfl (dq_isa tf_172_0 wa_12_322) (Nat.le_trans (by decide) hF) (ml_le wm_322 (Nat.le_trans (by decide) hLo)) rfl (sp_322 hw (Nat.le_trans (by decide : 1 ≤ 8 - 1) (Nat.sub_le_sub_right hF 1)) (ml_sub wm_322 (Nat.le_trans (by decide : 21 ≤ 178 - 21) (Nat.sub_le_sub_right hLo 21))) (wp_bind h) (fun r29 h => rs_back0 ?_))
            exact rs_vret wi_326_202 wr_326 (hQ r29 h)
          refine rs_ifle (tg := 196) wi_326_178 ⟨by decide, by decide⟩ (fun q => ?_) (fun q => ?_)
          ·
            have h := wp_pos h q
            exact hj196 _ h _ l0
          ·
            have h := wp_neg h q
            refine rs_aldn wi_326_181 l0 ?_
            refine rs_pure wi_326_182 rfl ?_
            refine rs_topi (v := 61) (by decide) ?_
            refine rs_V wi_326_184 wc_326_54 rfl (dq_isa tf_172_0 wa_12_322) (Nat.le_trans (by decide) hF) (ml_le wm_322 (Nat.le_trans (by decide) hLo)) rfl (sp_322 hw (Nat.le_trans (by decide : 1 ≤ 8 - 1) (Nat.sub_le_sub_right hF 1)) (ml_sub wm_322 (Nat.le_trans (by decide : 21 ≤ 178 - 21) (Nat.sub_le_sub_right hLo 21))) (wp_bind h) (fun r30 h => rs_back0 ?_))
            refine rs_aldn wi_326_187 l0 ?_
            refine rs_pure wi_326_188 rfl ?_
            refine rs_topi (v := 1200) (by decide) ?_
            refine rs_ildn wi_326_191 l1 ?_
            refine rs_pure wi_326_192 rfl ?_
            refine rs_V wi_326_193 wc_326_104 rfl (dq_isa tf_172_0 wa_12_330) (Nat.le_trans (by decide) hF) (ml_le wm_330 (Nat.le_trans (by decide) hLo)) rfl (sp_330 hw (Nat.le_trans (by decide : 7 ≤ 8 - 1) (Nat.sub_le_sub_right hF 1)) (ml_sub wm_330 (Nat.le_trans (by decide : 155 ≤ 178 - 23) (Nat.sub_le_sub_right hLo 23))) (wp_bind h) (fun r31 h => rs_back0 ?_))
            exact hj196 _ h _ l0
        refine rs_ifeq (tg := 165) wi_326_155 ⟨by decide, by decide⟩ (fun q => ?_) (fun q => ?_)
        ·
          have h := wp_pos h q
          exact hj165 _ h _ l0 l1
        ·
          have h := wp_neg h q
          refine rs_aldn wi_326_158 l0 ?_
          refine rs_pure wi_326_159 rfl ?_
          refine rs_topi (v := 210) (by decide) ?_
          refine rs_V wi_326_162 wc_326_88 rfl (dq_isa tf_172_0 wa_12_321) (Nat.le_trans (by decide) hF) (ml_le wm_321 (Nat.le_trans (by decide) hLo)) rfl (sp_321 hw (Nat.le_trans (by decide : 3 ≤ 8 - 1) (Nat.sub_le_sub_right hF 1)) (ml_sub wm_321 (Nat.le_trans (by decide : 67 ≤ 178 - 21) (Nat.sub_le_sub_right hLo 21))) (wp_bind h) (fun r32 h => rs_back0 ?_))
          exact hj165 _ h _ l0 l1
      refine rs_ifeq (tg := 151) wi_326_141 ⟨by decide, by decide⟩ (fun q => ?_) (fun q => ?_)
      ·
        have h := wp_pos h q
        exact hj151 _ h _ l0 l1 l2
      ·
        have h := wp_neg h q
        refine rs_aldn wi_326_144 l0 ?_
        refine rs_pure wi_326_145 rfl ?_
        refine rs_topi (v := 209) (by decide) ?_
        refine rs_V wi_326_148 wc_326_88 rfl (dq_isa tf_172_0 wa_12_321) (Nat.le_trans (by decide) hF) (ml_le wm_321 (Nat.le_trans (by decide) hLo)) rfl (sp_321 hw (Nat.le_trans (by decide : 3 ≤ 8 - 1) (Nat.sub_le_sub_right hF 1)) (ml_sub wm_321 (Nat.le_trans (by decide : 67 ≤ 178 - 21) (Nat.sub_le_sub_right hLo 21))) (wp_bind h) (fun r33 h => rs_back0 ?_))
        exact hj151 _ h _ l0 l1 l2
    refine rs_ifle (tg := 129) wi_326_120 ⟨by decide, by decide⟩ (fun q => ?_) (fun q => ?_)
    ·
      have h := wp_pos h q
      exact hj129 _ h _ l0 l1 l2
    ·
      have h := wp_neg h q
      refine rs_aldn wi_326_123 l0 ?_
      refine rs_pure wi_326_124 rfl ?_
      refine rs_topi (v := 41) (by decide) ?_
      refine rs_V wi_326_126 wc_326_54 rfl (dq_isa tf_172_0 wa_12_322) (Nat.le_trans (by decide) hF) (ml_le wm_322 (Nat.le_trans (by decide) hLo)) rfl (sp_322 hw (Nat.le_trans (by decide : 1 ≤ 8 - 1) (Nat.sub_le_sub_right hF 1)) (ml_sub wm_322 (Nat.le_trans (by decide : 21 ≤ 178 - 21) (Nat.sub_le_sub_right hLo 21))) (wp_bind h) (fun r34 h => rs_back0 ?_))
      exact hj129 _ h _ l0 l1 l2
theorem wc_328_104 : rx_ct (rt_P sc fm) 328 104 = some (0, 330, 1) := (by decide +kernel : rt_ct 328 104 = some (0, 330, 1))
theorem wc_328_158 : rx_ct (rt_P sc fm) 328 158 = some (0, 323, 2) := (by decide +kernel : rt_ct 328 158 = some (0, 323, 2))
theorem wc_328_51 : rx_ct (rt_P sc fm) 328 51 = some (0, 320, 1) := (by decide +kernel : rt_ct 328 51 = some (0, 320, 1))
theorem wc_328_54 : rx_ct (rt_P sc fm) 328 54 = some (0, 322, 1) := (by decide +kernel : rt_ct 328 54 = some (0, 322, 1))
theorem wc_328_88 : rx_ct (rt_P sc fm) 328 88 = some (0, 321, 1) := (by decide +kernel : rt_ct 328 88 = some (0, 321, 1))
theorem wf_328_180 : rx_ft (rt_P sc fm) 328 180 = some (9, 8) := (by decide +kernel : rt_ft 328 180 = some (9, 8))
theorem wf_328_183 : rx_ft (rt_P sc fm) 328 183 = some (9, 9) := (by decide +kernel : rt_ft 328 183 = some (9, 9))
theorem wf_328_186 : rx_ft (rt_P sc fm) 328 186 = some (9, 11) := (by decide +kernel : rt_ft 328 186 = some (9, 11))
theorem wf_328_189 : rx_ft (rt_P sc fm) 328 189 = some (9, 12) := (by decide +kernel : rt_ft 328 189 = some (9, 12))
theorem wf_328_19 : rx_ft (rt_P sc fm) 328 19 = some (12, 3) := (by decide +kernel : rt_ft 328 19 = some (12, 3))
theorem wf_328_192 : rx_ft (rt_P sc fm) 328 192 = some (9, 13) := (by decide +kernel : rt_ft 328 192 = some (9, 13))
theorem wi_328_0 : ri (rt_P sc fm) 328 0 (.aload_n 0) (1) := ri_of (by decide +kernel) rfl
theorem wi_328_1 : ri (rt_P sc fm) 328 1 (.sipush 202) (4) := ri_of (by decide +kernel) rfl
theorem wi_328_100 : ri (rt_P sc fm) 328 100 (.getfield 189) (103) := ri_of (by decide +kernel) rfl
theorem wi_328_103 : ri (rt_P sc fm) 328 103 (.iload_n 1) (104) := ri_of (by decide +kernel) rfl
theorem wi_328_104 : ri (rt_P sc fm) 328 104 (.bipush 8) (106) := ri_of (by decide +kernel) rfl
theorem wi_328_106 : ri (rt_P sc fm) 328 106 (.imul) (107) := ri_of (by decide +kernel) rfl
theorem wi_328_107 : ri (rt_P sc fm) 328 107 (.iload_n 2) (108) := ri_of (by decide +kernel) rfl
theorem wi_328_108 : ri (rt_P sc fm) 328 108 (.iadd) (109) := ri_of (by decide +kernel) rfl
theorem wi_328_109 : ri (rt_P sc fm) 328 109 (.laload) (110) := ri_of (by decide +kernel) rfl
theorem wi_328_110 : ri (rt_P sc fm) 328 110 (.invokevirtual 51) (113) := ri_of (by decide +kernel) rfl
theorem wi_328_113 : ri (rt_P sc fm) 328 113 (.aload_n 0) (114) := ri_of (by decide +kernel) rfl
theorem wi_328_114 : ri (rt_P sc fm) 328 114 (.bipush 100) (116) := ri_of (by decide +kernel) rfl
theorem wi_328_116 : ri (rt_P sc fm) 328 116 (.iload_n 1) (117) := ri_of (by decide +kernel) rfl
theorem wi_328_117 : ri (rt_P sc fm) 328 117 (.imul) (118) := ri_of (by decide +kernel) rfl
theorem wi_328_118 : ri (rt_P sc fm) 328 118 (.iconst 1) (119) := ri_of (by decide +kernel) rfl
theorem wi_328_119 : ri (rt_P sc fm) 328 119 (.iadd) (120) := ri_of (by decide +kernel) rfl
theorem wi_328_12 : ri (rt_P sc fm) 328 12 (.getfield 180) (15) := ri_of (by decide +kernel) rfl
theorem wi_328_120 : ri (rt_P sc fm) 328 120 (.iload_n 2) (121) := ri_of (by decide +kernel) rfl
theorem wi_328_121 : ri (rt_P sc fm) 328 121 (.iadd) (122) := ri_of (by decide +kernel) rfl
theorem wi_328_122 : ri (rt_P sc fm) 328 122 (.invokevirtual 104) (125) := ri_of (by decide +kernel) rfl
theorem wi_328_125 : ri (rt_P sc fm) 328 125 (.aload_n 0) (126) := ri_of (by decide +kernel) rfl
theorem wi_328_126 : ri (rt_P sc fm) 328 126 (.getfield 19) (129) := ri_of (by decide +kernel) rfl
theorem wi_328_129 : ri (rt_P sc fm) 328 129 (.getfield 192) (132) := ri_of (by decide +kernel) rfl
theorem wi_328_132 : ri (rt_P sc fm) 328 132 (.iload_n 1) (133) := ri_of (by decide +kernel) rfl
theorem wi_328_133 : ri (rt_P sc fm) 328 133 (.bipush 8) (135) := ri_of (by decide +kernel) rfl
theorem wi_328_135 : ri (rt_P sc fm) 328 135 (.imul) (136) := ri_of (by decide +kernel) rfl
theorem wi_328_136 : ri (rt_P sc fm) 328 136 (.iload_n 2) (137) := ri_of (by decide +kernel) rfl
theorem wi_328_137 : ri (rt_P sc fm) 328 137 (.iadd) (138) := ri_of (by decide +kernel) rfl
theorem wi_328_138 : ri (rt_P sc fm) 328 138 (.iaload) (139) := ri_of (by decide +kernel) rfl
theorem wi_328_139 : ri (rt_P sc fm) 328 139 (.istore_n 3) (140) := ri_of (by decide +kernel) rfl
theorem wi_328_140 : ri (rt_P sc fm) 328 140 (.iload_n 3) (141) := ri_of (by decide +kernel) rfl
theorem wi_328_141 : ri (rt_P sc fm) 328 141 (.ifCond .eq 16) (144) := ri_of (by decide +kernel) rfl
theorem wi_328_144 : ri (rt_P sc fm) 328 144 (.aload_n 0) (145) := ri_of (by decide +kernel) rfl
theorem wi_328_145 : ri (rt_P sc fm) 328 145 (.bipush 61) (147) := ri_of (by decide +kernel) rfl
theorem wi_328_147 : ri (rt_P sc fm) 328 147 (.invokevirtual 54) (150) := ri_of (by decide +kernel) rfl
theorem wi_328_15 : ri (rt_P sc fm) 328 15 (.iload_n 1) (16) := ri_of (by decide +kernel) rfl
theorem wi_328_150 : ri (rt_P sc fm) 328 150 (.aload_n 0) (151) := ri_of (by decide +kernel) rfl
theorem wi_328_151 : ri (rt_P sc fm) 328 151 (.iconst 1) (152) := ri_of (by decide +kernel) rfl
theorem wi_328_152 : ri (rt_P sc fm) 328 152 (.iload_n 3) (153) := ri_of (by decide +kernel) rfl
theorem wi_328_153 : ri (rt_P sc fm) 328 153 (.i2l) (154) := ri_of (by decide +kernel) rfl
theorem wi_328_154 : ri (rt_P sc fm) 328 154 (.invokevirtual 158) (157) := ri_of (by decide +kernel) rfl
theorem wi_328_157 : ri (rt_P sc fm) 328 157 (.aload_n 0) (158) := ri_of (by decide +kernel) rfl
theorem wi_328_158 : ri (rt_P sc fm) 328 158 (.bipush 59) (160) := ri_of (by decide +kernel) rfl
theorem wi_328_16 : ri (rt_P sc fm) 328 16 (.laload) (17) := ri_of (by decide +kernel) rfl
theorem wi_328_160 : ri (rt_P sc fm) 328 160 (.invokevirtual 54) (163) := ri_of (by decide +kernel) rfl
theorem wi_328_163 : ri (rt_P sc fm) 328 163 (.iinc 2 1) (166) := ri_of (by decide +kernel) rfl
theorem wi_328_166 : ri (rt_P sc fm) 328 166 (.goto (-91)) (169) := ri_of (by decide +kernel) rfl
theorem wi_328_169 : ri (rt_P sc fm) 328 169 (.return_) (170) := ri_of (by decide +kernel) rfl
theorem wi_328_17 : ri (rt_P sc fm) 328 17 (.invokevirtual 51) (20) := ri_of (by decide +kernel) rfl
theorem wi_328_20 : ri (rt_P sc fm) 328 20 (.aload_n 0) (21) := ri_of (by decide +kernel) rfl
theorem wi_328_21 : ri (rt_P sc fm) 328 21 (.getfield 19) (24) := ri_of (by decide +kernel) rfl
theorem wi_328_24 : ri (rt_P sc fm) 328 24 (.getfield 183) (27) := ri_of (by decide +kernel) rfl
theorem wi_328_27 : ri (rt_P sc fm) 328 27 (.iload_n 1) (28) := ri_of (by decide +kernel) rfl
theorem wi_328_28 : ri (rt_P sc fm) 328 28 (.iaload) (29) := ri_of (by decide +kernel) rfl
theorem wi_328_29 : ri (rt_P sc fm) 328 29 (.ifCond .lt 30) (32) := ri_of (by decide +kernel) rfl
theorem wi_328_32 : ri (rt_P sc fm) 328 32 (.aload_n 0) (33) := ri_of (by decide +kernel) rfl
theorem wi_328_33 : ri (rt_P sc fm) 328 33 (.bipush 58) (35) := ri_of (by decide +kernel) rfl
theorem wi_328_35 : ri (rt_P sc fm) 328 35 (.invokevirtual 54) (38) := ri_of (by decide +kernel) rfl
theorem wi_328_38 : ri (rt_P sc fm) 328 38 (.aload_n 0) (39) := ri_of (by decide +kernel) rfl
theorem wi_328_39 : ri (rt_P sc fm) 328 39 (.aload_n 0) (40) := ri_of (by decide +kernel) rfl
theorem wi_328_4 : ri (rt_P sc fm) 328 4 (.invokevirtual 88) (7) := ri_of (by decide +kernel) rfl
theorem wi_328_40 : ri (rt_P sc fm) 328 40 (.getfield 19) (43) := ri_of (by decide +kernel) rfl
theorem wi_328_43 : ri (rt_P sc fm) 328 43 (.getfield 180) (46) := ri_of (by decide +kernel) rfl
theorem wi_328_46 : ri (rt_P sc fm) 328 46 (.aload_n 0) (47) := ri_of (by decide +kernel) rfl
theorem wi_328_47 : ri (rt_P sc fm) 328 47 (.getfield 19) (50) := ri_of (by decide +kernel) rfl
theorem wi_328_50 : ri (rt_P sc fm) 328 50 (.getfield 183) (53) := ri_of (by decide +kernel) rfl
theorem wi_328_53 : ri (rt_P sc fm) 328 53 (.iload_n 1) (54) := ri_of (by decide +kernel) rfl
theorem wi_328_54 : ri (rt_P sc fm) 328 54 (.iaload) (55) := ri_of (by decide +kernel) rfl
theorem wi_328_55 : ri (rt_P sc fm) 328 55 (.laload) (56) := ri_of (by decide +kernel) rfl
theorem wi_328_56 : ri (rt_P sc fm) 328 56 (.invokevirtual 51) (59) := ri_of (by decide +kernel) rfl
theorem wi_328_59 : ri (rt_P sc fm) 328 59 (.aload_n 0) (60) := ri_of (by decide +kernel) rfl
theorem wi_328_60 : ri (rt_P sc fm) 328 60 (.bipush 100) (62) := ri_of (by decide +kernel) rfl
theorem wi_328_62 : ri (rt_P sc fm) 328 62 (.iload_n 1) (63) := ri_of (by decide +kernel) rfl
theorem wi_328_63 : ri (rt_P sc fm) 328 63 (.imul) (64) := ri_of (by decide +kernel) rfl
theorem wi_328_64 : ri (rt_P sc fm) 328 64 (.invokevirtual 104) (67) := ri_of (by decide +kernel) rfl
theorem wi_328_67 : ri (rt_P sc fm) 328 67 (.aload_n 0) (68) := ri_of (by decide +kernel) rfl
theorem wi_328_68 : ri (rt_P sc fm) 328 68 (.bipush 123) (70) := ri_of (by decide +kernel) rfl
theorem wi_328_7 : ri (rt_P sc fm) 328 7 (.aload_n 0) (8) := ri_of (by decide +kernel) rfl
theorem wi_328_70 : ri (rt_P sc fm) 328 70 (.invokevirtual 54) (73) := ri_of (by decide +kernel) rfl
theorem wi_328_73 : ri (rt_P sc fm) 328 73 (.iconst 0) (74) := ri_of (by decide +kernel) rfl
theorem wi_328_74 : ri (rt_P sc fm) 328 74 (.istore_n 2) (75) := ri_of (by decide +kernel) rfl
theorem wi_328_75 : ri (rt_P sc fm) 328 75 (.iload_n 2) (76) := ri_of (by decide +kernel) rfl
theorem wi_328_76 : ri (rt_P sc fm) 328 76 (.aload_n 0) (77) := ri_of (by decide +kernel) rfl
theorem wi_328_77 : ri (rt_P sc fm) 328 77 (.getfield 19) (80) := ri_of (by decide +kernel) rfl
theorem wi_328_8 : ri (rt_P sc fm) 328 8 (.aload_n 0) (9) := ri_of (by decide +kernel) rfl
theorem wi_328_80 : ri (rt_P sc fm) 328 80 (.getfield 186) (83) := ri_of (by decide +kernel) rfl
theorem wi_328_83 : ri (rt_P sc fm) 328 83 (.iload_n 1) (84) := ri_of (by decide +kernel) rfl
theorem wi_328_84 : ri (rt_P sc fm) 328 84 (.iaload) (85) := ri_of (by decide +kernel) rfl
theorem wi_328_85 : ri (rt_P sc fm) 328 85 (.if_icmp .ge 84) (88) := ri_of (by decide +kernel) rfl
theorem wi_328_88 : ri (rt_P sc fm) 328 88 (.aload_n 0) (89) := ri_of (by decide +kernel) rfl
theorem wi_328_89 : ri (rt_P sc fm) 328 89 (.sipush 203) (92) := ri_of (by decide +kernel) rfl
theorem wi_328_9 : ri (rt_P sc fm) 328 9 (.getfield 19) (12) := ri_of (by decide +kernel) rfl
theorem wi_328_92 : ri (rt_P sc fm) 328 92 (.invokevirtual 88) (95) := ri_of (by decide +kernel) rfl
theorem wi_328_95 : ri (rt_P sc fm) 328 95 (.aload_n 0) (96) := ri_of (by decide +kernel) rfl
theorem wi_328_96 : ri (rt_P sc fm) 328 96 (.aload_n 0) (97) := ri_of (by decide +kernel) rfl
theorem wi_328_97 : ri (rt_P sc fm) 328 97 (.getfield 19) (100) := ri_of (by decide +kernel) rfl
theorem wr_328 : rx_rt (rt_P sc fm) 328 = none := (by decide +kernel : rt_rt 328 = none)
/-- MarkHouse$Teller.writeClassHead(I)V -/
def d_328 (n : Nat) (a1 : Int32) (c : cS) : Option (cS) :=
  Option.bind (d_321 n 202 c) (fun r1 =>
  if ib a1 12 then
  Option.bind (d_320 n (r1.2 12 (ix a1)) r1) (fun r3 =>
  if ib a1 12 then
  jn (fun p5 : cS =>
    Option.bind (d_330 n (100 * a1) p5) (fun r6 =>
    Option.bind (d_322 n 123 r6) (fun r7 =>
    Option.bind (whl (R := (cS)) (fun s9 : Int32 × cS =>
      if ib a1 12 then
      if (s9.2.1 14 (ix a1)) ≤ s9.1 then
        some (.inr s9.2)
      else
        Option.bind (d_321 n 203 s9.2) (fun r11 =>
        if ib ((a1 * 8) + s9.1) 96 then
        Option.bind (d_320 n (r11.2 15 (ix ((a1 * 8) + s9.1))) r11) (fun r13 =>
        Option.bind (d_330 n (((100 * a1) + 1) + s9.1) r13) (fun r14 =>
        if ib ((a1 * 8) + s9.1) 96 then
        lt ((r14.1 16 (ix ((a1 * 8) + s9.1))) : Int32) (fun v17 =>
        jn (fun p19 : cS =>
          Option.bind (d_322 n 59 p19) (fun r20 =>
          lt (s9.1 + 1 : Int32) (fun v22 =>
          some (.inl (v22, r20)))))
        (fun j157 =>
        if v17 = 0 then
          j157 r14
        else
          Option.bind (d_322 n 61 r14) (fun r24 =>
          Option.bind (d_323 n 1 ((v17 : Int32).toInt64) r24) (fun r25 =>
          j157 r25))))
        else none))
        else none)
      else none) n (0, r7))
    (fun x26 : cS =>
      some x26))))
  (fun j59 =>
  if (r3.1 13 (ix a1)) < 0 then
    j59 r3
  else
    Option.bind (d_322 n 58 r3) (fun r27 =>
    if ib a1 12 then
    if ib (r27.1 13 (ix a1)) 12 then
    Option.bind (d_320 n (r27.2 12 (ix (r27.1 13 (ix a1)))) r27) (fun r30 =>
    j59 r30)
    else none
    else none))
  else none)
  else none)
theorem sp_328 {F Lo n : Nat} {a1 : Int32} {c y : cS} {w : cW} {K : cS → Prop} {Q : ((Option Value) ⊕ String) → List va_E → Prop} (hw : rOK fm w) (hF : 8 ≤ F) (hLo : 178 ≤ Lo)  (h : wp (d_328 n a1 c) K) (hQ : ∀ r, K r → Q (.inl none) (hq true r y w)) : rs (rt_P sc fm) 328 F Lo 0 [(0, .ref 172), (1, .int a1)] [] (hq true c y w) Q := by
  unfold d_328 at h
  obtain ⟨lv, elv⟩ : ∃ lv : rx_L, lv = [(0, .ref 172), (1, .int a1)] := ⟨_, rfl⟩
  rw [← elv]
  have l0 : rx_ld lv 0 = some (.ref 172) := by rw [elv]; rfl
  have l1 : rx_ld lv 1 = some (.int a1) := by rw [elv]; rfl
  refine rs_aldn wi_328_0 l0 ?_
  refine rs_pure wi_328_1 rfl ?_
  refine rs_topi (v := 202) (by decide) ?_
  refine rs_V wi_328_4 wc_328_88 rfl (dq_isa tf_172_0 wa_12_321) (Nat.le_trans (by decide) hF) (ml_le wm_321 (Nat.le_trans (by decide) hLo)) rfl (sp_321 hw (Nat.le_trans (by decide : 3 ≤ 8 - 1) (Nat.sub_le_sub_right hF 1)) (ml_sub wm_321 (Nat.le_trans (by decide : 67 ≤ 178 - 21) (Nat.sub_le_sub_right hLo 21))) (wp_bind h) (fun r1 h => rs_back0 ?_))
  refine rs_aldn wi_328_7 l0 ?_
  refine rs_aldn wi_328_8 l0 ?_
  refine dq_gr wi_328_9 wf_328_19 tf_172_3 ?_
  refine dq_gr wi_328_12 wf_328_180 tf_7_8 ?_
  refine rs_ildn wi_328_15 l1 ?_
  obtain ⟨g2, h⟩ := wp_gd h
  refine dq_lald wi_328_16 t_12 g2 ?_
  refine rs_V wi_328_17 wc_328_51 rfl (dq_isa tf_172_0 wa_12_320) (Nat.le_trans (by decide) hF) (ml_le wm_320 (Nat.le_trans (by decide) hLo)) rfl (sp_320 hw (Nat.le_trans (by decide : 2 ≤ 8 - 1) (Nat.sub_le_sub_right hF 1)) (ml_sub wm_320 (Nat.le_trans (by decide : 45 ≤ 178 - 22) (Nat.sub_le_sub_right hLo 22))) (wp_bind h) (fun r3 h => rs_back0 ?_))
  refine rs_aldn wi_328_20 l0 ?_
  refine dq_gr wi_328_21 wf_328_19 tf_172_3 ?_
  refine dq_gr wi_328_24 wf_328_183 tf_7_9 ?_
  refine rs_ildn wi_328_27 l1 ?_
  obtain ⟨g4, h⟩ := wp_gd h
  refine dq_iald wi_328_28 t_13 g4 ?_
  refine wp_jn (B := fun p5 : cS => ∀ lv, rx_ld lv 0 = some (.ref 172) → rx_ld lv 1 = some (.int a1) → rs (rt_P sc fm) 328 F Lo 59 lv [] (hq true p5 y w) Q) h (fun p5 h lv l0 l1 => ?_) (fun j59 hj59 h => ?_)
  ·
    refine rs_aldn wi_328_59 l0 ?_
    refine rs_pure wi_328_60 rfl ?_
    refine rs_topi (v := 100) (by decide) ?_
    refine rs_ildn wi_328_62 l1 ?_
    refine rs_pure wi_328_63 rfl ?_
    refine rs_V wi_328_64 wc_328_104 rfl (dq_isa tf_172_0 wa_12_330) (Nat.le_trans (by decide) hF) (ml_le wm_330 (Nat.le_trans (by decide) hLo)) rfl (sp_330 hw (Nat.le_trans (by decide : 7 ≤ 8 - 1) (Nat.sub_le_sub_right hF 1)) (ml_sub wm_330 (Nat.le_trans (by decide : 155 ≤ 178 - 23) (Nat.sub_le_sub_right hLo 23))) (wp_bind h) (fun r6 h => rs_back0 ?_))
    refine rs_aldn wi_328_67 l0 ?_
    refine rs_pure wi_328_68 rfl ?_
    refine rs_topi (v := 123) (by decide) ?_
    refine rs_V wi_328_70 wc_328_54 rfl (dq_isa tf_172_0 wa_12_322) (Nat.le_trans (by decide) hF) (ml_le wm_322 (Nat.le_trans (by decide) hLo)) rfl (sp_322 hw (Nat.le_trans (by decide : 1 ≤ 8 - 1) (Nat.sub_le_sub_right hF 1)) (ml_sub wm_322 (Nat.le_trans (by decide : 21 ≤ 178 - 21) (Nat.sub_le_sub_right hLo 21))) (wp_bind h) (fun r7 h => rs_back0 ?_))
    refine rs_pure wi_328_73 rfl ?_
    refine rs_topi (v := 0) (by decide) ?_
    refine dl_istn wi_328_74 rfl (fun lv l2 t8 => ?_)
    have l0 := t8 _ _ (by decide) (Or.inl rfl) l0
    have l1 := t8 _ _ (by decide) (Or.inl rfl) l1
    refine whl_ex (A := fun s9 : Int32 × cS => ∀ lv, rx_ld lv 0 = some (.ref 172) → rx_ld lv 1 = some (.int a1) → rx_ld lv 2 = some (.int s9.1) → rs (rt_P sc fm) 328 F Lo 75 lv [] (hq true s9.2 y w) Q) (B := (fun x26 : cS => ∀ lv, rs (rt_P sc fm) 328 F Lo 169 lv [] (hq true x26 y w) Q)) ?_ ?_ _ _ (wp_bind h) _ l0 l1 l2
    · intro s9 h lv l0 l1 l2
      refine rs_ildn wi_328_75 l2 ?_
      refine rs_aldn wi_328_76 l0 ?_
      refine dq_gr wi_328_77 wf_328_19 tf_172_3 ?_
      refine dq_gr wi_328_80 wf_328_186 tf_7_11 ?_
      refine rs_ildn wi_328_83 l1 ?_
      obtain ⟨g10, h⟩ := wp_gd h
      refine dq_iald wi_328_84 t_14 g10 ?_
      refine rs_icge (tg := 169) wi_328_85 ⟨by decide, by decide⟩ (fun q => ?_) (fun q => ?_)
      ·
        have h := wp_pos h q
        exact h _
      ·
        have h := wp_neg h q
        refine rs_aldn wi_328_88 l0 ?_
        refine rs_pure wi_328_89 rfl ?_
        refine rs_topi (v := 203) (by decide) ?_
        refine rs_V wi_328_92 wc_328_88 rfl (dq_isa tf_172_0 wa_12_321) (Nat.le_trans (by decide) hF) (ml_le wm_321 (Nat.le_trans (by decide) hLo)) rfl (sp_321 hw (Nat.le_trans (by decide : 3 ≤ 8 - 1) (Nat.sub_le_sub_right hF 1)) (ml_sub wm_321 (Nat.le_trans (by decide : 67 ≤ 178 - 21) (Nat.sub_le_sub_right hLo 21))) (wp_bind h) (fun r11 h => rs_back0 ?_))
        refine rs_aldn wi_328_95 l0 ?_
        refine rs_aldn wi_328_96 l0 ?_
        refine dq_gr wi_328_97 wf_328_19 tf_172_3 ?_
        refine dq_gr wi_328_100 wf_328_189 tf_7_12 ?_
        refine rs_ildn wi_328_103 l1 ?_
        refine rs_pure wi_328_104 rfl ?_
        refine rs_topi (v := 8) (by decide) ?_
        refine rs_pure wi_328_106 rfl ?_
        refine rs_ildn wi_328_107 l2 ?_
        refine rs_pure wi_328_108 rfl ?_
        obtain ⟨g12, h⟩ := wp_gd h
        refine dq_lald wi_328_109 t_15 g12 ?_
        refine rs_V wi_328_110 wc_328_51 rfl (dq_isa tf_172_0 wa_12_320) (Nat.le_trans (by decide) hF) (ml_le wm_320 (Nat.le_trans (by decide) hLo)) rfl (sp_320 hw (Nat.le_trans (by decide : 2 ≤ 8 - 1) (Nat.sub_le_sub_right hF 1)) (ml_sub wm_320 (Nat.le_trans (by decide : 45 ≤ 178 - 22) (Nat.sub_le_sub_right hLo 22))) (wp_bind h) (fun r13 h => rs_back0 ?_))
        refine rs_aldn wi_328_113 l0 ?_
        refine rs_pure wi_328_114 rfl ?_
        refine rs_topi (v := 100) (by decide) ?_
        refine rs_ildn wi_328_116 l1 ?_
        refine rs_pure wi_328_117 rfl ?_
        refine rs_pure wi_328_118 rfl ?_
        refine rs_topi (v := 1) (by decide) ?_
        refine rs_pure wi_328_119 rfl ?_
        refine rs_ildn wi_328_120 l2 ?_
        refine rs_pure wi_328_121 rfl ?_
        refine rs_V wi_328_122 wc_328_104 rfl (dq_isa tf_172_0 wa_12_330) (Nat.le_trans (by decide) hF) (ml_le wm_330 (Nat.le_trans (by decide) hLo)) rfl (sp_330 hw (Nat.le_trans (by decide : 7 ≤ 8 - 1) (Nat.sub_le_sub_right hF 1)) (ml_sub wm_330 (Nat.le_trans (by decide : 155 ≤ 178 - 23) (Nat.sub_le_sub_right hLo 23))) (wp_bind h) (fun r14 h => rs_back0 ?_))
        refine rs_aldn wi_328_125 l0 ?_
        refine dq_gr wi_328_126 wf_328_19 tf_172_3 ?_
        refine dq_gr wi_328_129 wf_328_192 tf_7_13 ?_
        refine rs_ildn wi_328_132 l1 ?_
        refine rs_pure wi_328_133 rfl ?_
        refine rs_topi (v := 8) (by decide) ?_
        refine rs_pure wi_328_135 rfl ?_
        refine rs_ildn wi_328_136 l2 ?_
        refine rs_pure wi_328_137 rfl ?_
        obtain ⟨g15, h⟩ := wp_gd h
        refine dq_iald wi_328_138 t_16 g15 ?_
        obtain ⟨v17, e18, h⟩ := wp_lt h
        refine rs_topi e18 ?_
        refine dl_istn wi_328_139 rfl (fun lv l3 t16 => ?_)
        have l0 := t16 _ _ (by decide) (Or.inl rfl) l0
        have l1 := t16 _ _ (by decide) (Or.inl rfl) l1
        have l2 := t16 _ _ (by decide) (Or.inl rfl) l2
        refine rs_ildn wi_328_140 l3 ?_
        refine wp_jn (B := fun p19 : cS => ∀ lv, rx_ld lv 0 = some (.ref 172) → rx_ld lv 1 = some (.int a1) → rx_ld lv 2 = some (.int s9.1) → rs (rt_P sc fm) 328 F Lo 157 lv [] (hq true p19 y w) Q) h (fun p19 h lv l0 l1 l2 => ?_) (fun j157 hj157 h => ?_)
        ·
          refine rs_aldn wi_328_157 l0 ?_
          refine rs_pure wi_328_158 rfl ?_
          refine rs_topi (v := 59) (by decide) ?_
          refine rs_V wi_328_160 wc_328_54 rfl (dq_isa tf_172_0 wa_12_322) (Nat.le_trans (by decide) hF) (ml_le wm_322 (Nat.le_trans (by decide) hLo)) rfl (sp_322 hw (Nat.le_trans (by decide : 1 ≤ 8 - 1) (Nat.sub_le_sub_right hF 1)) (ml_sub wm_322 (Nat.le_trans (by decide : 21 ≤ 178 - 21) (Nat.sub_le_sub_right hLo 21))) (wp_bind h) (fun r20 h => rs_back0 ?_))
          obtain ⟨v22, e23, h⟩ := wp_lt h
          refine dl_inc wi_328_163 l2 rfl e23 (fun lv l2 t21 => ?_)
          have l0 := t21 _ _ (by decide) (Or.inl rfl) l0
          have l1 := t21 _ _ (by decide) (Or.inl rfl) l1
          refine rs_goto (tg := 75) wi_328_166 ⟨by decide, by decide⟩ ?_
          exact h _ l0 l1 l2
        refine rs_ifeq (tg := 157) wi_328_141 ⟨by decide, by decide⟩ (fun q => ?_) (fun q => ?_)
        ·
          have h := wp_pos h q
          exact hj157 _ h _ l0 l1 l2
        ·
          have h := wp_neg h q
          refine rs_aldn wi_328_144 l0 ?_
          refine rs_pure wi_328_145 rfl ?_
          refine rs_topi (v := 61) (by decide) ?_
          refine rs_V wi_328_147 wc_328_54 rfl (dq_isa tf_172_0 wa_12_322) (Nat.le_trans (by decide) hF) (ml_le wm_322 (Nat.le_trans (by decide) hLo)) rfl (sp_322 hw (Nat.le_trans (by decide : 1 ≤ 8 - 1) (Nat.sub_le_sub_right hF 1)) (ml_sub wm_322 (Nat.le_trans (by decide : 21 ≤ 178 - 21) (Nat.sub_le_sub_right hLo 21))) (wp_bind h) (fun r24 h => rs_back0 ?_))
          refine rs_aldn wi_328_150 l0 ?_
          refine rs_pure wi_328_151 rfl ?_
          refine rs_topi (v := 1) (by decide) ?_
          refine rs_ildn wi_328_152 l3 ?_
          refine rs_pure wi_328_153 rfl ?_
          refine rs_V wi_328_154 wc_328_158 rfl (dq_isa tf_172_0 wa_12_323) (Nat.le_trans (by decide) hF) (ml_le wm_323 (Nat.le_trans (by decide) hLo)) rfl (sp_323 hw (Nat.le_trans (by decide : 2 ≤ 8 - 1) (Nat.sub_le_sub_right hF 1)) (ml_sub wm_323 (Nat.le_trans (by decide : 47 ≤ 178 - 23) (Nat.sub_le_sub_right hLo 23))) (wp_bind h) (fun r25 h => rs_back0 ?_))
          exact hj157 _ h _ l0 l1 l2
    ·
      intro x26 h lv
      exact rs_vret wi_328_169 wr_328 (hQ x26 h)
  refine rs_iflt (tg := 59) wi_328_29 ⟨by decide, by decide⟩ (fun q => ?_) (fun q => ?_)
  ·
    have h := wp_pos h q
    exact hj59 _ h _ l0 l1
  ·
    have h := wp_neg h q
    refine rs_aldn wi_328_32 l0 ?_
    refine rs_pure wi_328_33 rfl ?_
    refine rs_topi (v := 58) (by decide) ?_
    refine rs_V wi_328_35 wc_328_54 rfl (dq_isa tf_172_0 wa_12_322) (Nat.le_trans (by decide) hF) (ml_le wm_322 (Nat.le_trans (by decide) hLo)) rfl (sp_322 hw (Nat.le_trans (by decide : 1 ≤ 8 - 1) (Nat.sub_le_sub_right hF 1)) (ml_sub wm_322 (Nat.le_trans (by decide : 21 ≤ 178 - 21) (Nat.sub_le_sub_right hLo 21))) (wp_bind h) (fun r27 h => rs_back0 ?_))
    refine rs_aldn wi_328_38 l0 ?_
    refine rs_aldn wi_328_39 l0 ?_
    refine dq_gr wi_328_40 wf_328_19 tf_172_3 ?_
    refine dq_gr wi_328_43 wf_328_180 tf_7_8 ?_
    refine rs_aldn wi_328_46 l0 ?_
    refine dq_gr wi_328_47 wf_328_19 tf_172_3 ?_
    refine dq_gr wi_328_50 wf_328_183 tf_7_9 ?_
    refine rs_ildn wi_328_53 l1 ?_
    obtain ⟨g28, h⟩ := wp_gd h
    refine dq_iald wi_328_54 t_13 g28 ?_
    obtain ⟨g29, h⟩ := wp_gd h
    refine dq_lald wi_328_55 t_12 g29 ?_
    refine rs_V wi_328_56 wc_328_51 rfl (dq_isa tf_172_0 wa_12_320) (Nat.le_trans (by decide) hF) (ml_le wm_320 (Nat.le_trans (by decide) hLo)) rfl (sp_320 hw (Nat.le_trans (by decide : 2 ≤ 8 - 1) (Nat.sub_le_sub_right hF 1)) (ml_sub wm_320 (Nat.le_trans (by decide : 45 ≤ 178 - 22) (Nat.sub_le_sub_right hLo 22))) (wp_bind h) (fun r30 h => rs_back0 ?_))
    exact hj59 _ h _ l0 l1
end D46
