/-! THE CODE AS PURE PROGRAMS, 5: by wip/whole/dc.py -/
section D46
variable {sc : Nat × (Nat → Int32)} {fm : Value}
theorem wa_10_290 : rz_cn 10 (rx_yn (rt_P sc fm) 290).cls = true := (by decide +kernel : rz_cn 10 (rt_yn 290).cls = true)
theorem wc_289_450 : rx_ct (rt_P sc fm) 289 450 = some (1, 483, 1) := (by decide +kernel : rt_ct 289 450 = some (1, 483, 1))
theorem wc_289_455 : rx_ct (rt_P sc fm) 289 455 = some (0, 290, 3) := (by decide +kernel : rt_ct 289 455 = some (0, 290, 3))
theorem wf_289_19 : rx_ft (rt_P sc fm) 289 19 = some (10, 2) := (by decide +kernel : rt_ft 289 19 = some (10, 2))
theorem wf_289_447 : rx_ft (rt_P sc fm) 289 447 = some (2, 12) := (by decide +kernel : rt_ft 289 447 = some (2, 12))
theorem wh0_289_46 : rx_ht (rt_P sc fm) 289 46 "java/lang/IllegalArgumentException" = none := (by decide +kernel : rt_ht 289 46 "java/lang/IllegalArgumentException" = none)
theorem whh_289 : rx_hh (rt_P sc fm) 289 = [] := (by decide +kernel : rt_hh 289 = [])
theorem wi_289_0 : ri (rt_P sc fm) 289 0 (.aload_n 0) (1) := ri_of (by decide +kernel) rfl
theorem wi_289_1 : ri (rt_P sc fm) 289 1 (.getfield 19) (4) := ri_of (by decide +kernel) rfl
theorem wi_289_10 : ri (rt_P sc fm) 289 10 (.lconst 1) (11) := ri_of (by decide +kernel) rfl
theorem wi_289_11 : ri (rt_P sc fm) 289 11 (.lstore_n 3) (12) := ri_of (by decide +kernel) rfl
theorem wi_289_12 : ri (rt_P sc fm) 289 12 (.iconst 0) (13) := ri_of (by decide +kernel) rfl
theorem wi_289_13 : ri (rt_P sc fm) 289 13 (.istore 5) (15) := ri_of (by decide +kernel) rfl
theorem wi_289_15 : ri (rt_P sc fm) 289 15 (.iload 5) (17) := ri_of (by decide +kernel) rfl
theorem wi_289_17 : ri (rt_P sc fm) 289 17 (.bipush 40) (19) := ri_of (by decide +kernel) rfl
theorem wi_289_19 : ri (rt_P sc fm) 289 19 (.if_icmp .ge 38) (22) := ri_of (by decide +kernel) rfl
theorem wi_289_22 : ri (rt_P sc fm) 289 22 (.lload_n 3) (23) := ri_of (by decide +kernel) rfl
theorem wi_289_23 : ri (rt_P sc fm) 289 23 (.lconst 0) (24) := ri_of (by decide +kernel) rfl
theorem wi_289_24 : ri (rt_P sc fm) 289 24 (.lcmp) (25) := ri_of (by decide +kernel) rfl
theorem wi_289_25 : ri (rt_P sc fm) 289 25 (.ifCond .eq 32) (28) := ri_of (by decide +kernel) rfl
theorem wi_289_28 : ri (rt_P sc fm) 289 28 (.lload_n 3) (29) := ri_of (by decide +kernel) rfl
theorem wi_289_29 : ri (rt_P sc fm) 289 29 (.invokestatic 450) (32) := ri_of (by decide +kernel) rfl
theorem wi_289_32 : ri (rt_P sc fm) 289 32 (.istore 6) (34) := ri_of (by decide +kernel) rfl
theorem wi_289_34 : ri (rt_P sc fm) 289 34 (.lload_n 3) (35) := ri_of (by decide +kernel) rfl
theorem wi_289_35 : ri (rt_P sc fm) 289 35 (.lload_n 3) (36) := ri_of (by decide +kernel) rfl
theorem wi_289_36 : ri (rt_P sc fm) 289 36 (.lconst 1) (37) := ri_of (by decide +kernel) rfl
theorem wi_289_37 : ri (rt_P sc fm) 289 37 (.lsub) (38) := ri_of (by decide +kernel) rfl
theorem wi_289_38 : ri (rt_P sc fm) 289 38 (.land) (39) := ri_of (by decide +kernel) rfl
theorem wi_289_39 : ri (rt_P sc fm) 289 39 (.lstore_n 3) (40) := ri_of (by decide +kernel) rfl
theorem wi_289_4 : ri (rt_P sc fm) 289 4 (.getfield 447) (7) := ri_of (by decide +kernel) rfl
theorem wi_289_40 : ri (rt_P sc fm) 289 40 (.lload_n 3) (41) := ri_of (by decide +kernel) rfl
theorem wi_289_41 : ri (rt_P sc fm) 289 41 (.aload_n 0) (42) := ri_of (by decide +kernel) rfl
theorem wi_289_42 : ri (rt_P sc fm) 289 42 (.iload_n 1) (43) := ri_of (by decide +kernel) rfl
theorem wi_289_43 : ri (rt_P sc fm) 289 43 (.iload_n 2) (44) := ri_of (by decide +kernel) rfl
theorem wi_289_44 : ri (rt_P sc fm) 289 44 (.iload 6) (46) := ri_of (by decide +kernel) rfl
theorem wi_289_46 : ri (rt_P sc fm) 289 46 (.invokevirtual 455) (49) := ri_of (by decide +kernel) rfl
theorem wi_289_49 : ri (rt_P sc fm) 289 49 (.lor) (50) := ri_of (by decide +kernel) rfl
theorem wi_289_50 : ri (rt_P sc fm) 289 50 (.lstore_n 3) (51) := ri_of (by decide +kernel) rfl
theorem wi_289_51 : ri (rt_P sc fm) 289 51 (.iinc 5 1) (54) := ri_of (by decide +kernel) rfl
theorem wi_289_54 : ri (rt_P sc fm) 289 54 (.goto (-39)) (57) := ri_of (by decide +kernel) rfl
theorem wi_289_57 : ri (rt_P sc fm) 289 57 (.return_) (58) := ri_of (by decide +kernel) rfl
theorem wi_289_7 : ri (rt_P sc fm) 289 7 (.iload_n 1) (8) := ri_of (by decide +kernel) rfl
theorem wi_289_8 : ri (rt_P sc fm) 289 8 (.iconst 0) (9) := ri_of (by decide +kernel) rfl
theorem wi_289_9 : ri (rt_P sc fm) 289 9 (.iastore) (10) := ri_of (by decide +kernel) rfl
theorem wm_290 : rx_ml (rt_P sc fm) 290 = 9 := (by decide +kernel : rt_ml 290 = 9)
theorem wm_483 : rx_ml (rt_P sc fm) 483 = 3 := (by decide +kernel : rt_ml 483 = 3)
theorem wr_289 : rx_rt (rt_P sc fm) 289 = none := (by decide +kernel : rt_rt 289 = none)
/-- MarkHouse$Reader.settleDepthsOf(II)V -/
def d_289 (n : Nat) (a1 : Int32) (a2 : Int32) (c : cS) : Option ((cS) ⊕ cS) :=
  if ib a1 1024 then
  lt (pI c 125 (ix a1) 0) (fun c2 =>
  Option.bind (whl (R := (cS) ⊕ ((cS) ⊕ cS)) (fun s6 : Int64 × Int32 × cS =>
    if 40 ≤ s6.2.1 then
      some (.inr (.inl s6.2.2))
    else
      if (lg_cmp s6.1 0) = 0 then
        some (.inr (.inl s6.2.2))
      else
        Option.bind (d_483 n s6.1) (fun v7 =>
        lt ((s6.1 &&& (s6.1 - 1)) : Int64) (fun v10 =>
        Option.bind (d_290 n a1 a2 v7 s6.2.2) (Sum.elim (fun r12 =>
        lt ((v10 ||| r12.1) : Int64) (fun v15 =>
        lt (s6.2.1 + 1 : Int32) (fun v18 =>
        some (.inl (v15, v18, r12.2)))))
        (fun z13 => some (.inr (.inr (.inr z13)))))))) n (1, 0, c2))
  (Sum.elim (fun x20 : cS =>
    some (.inl x20))
  (fun x21 : (cS) ⊕ cS =>
    some x21)))
  else none
theorem sp_289 {F Lo n : Nat} {a1 : Int32} {a2 : Int32} {c y : cS} {w : cW} {K : (cS) ⊕ cS → Prop} {Q : ((Option Value) ⊕ String) → List va_E → Prop} (hw : rOK fm w) (hF : 9 ≤ F) (hLo : 157 ≤ Lo)  (h : wp (d_289 n a1 a2 c) K) (hQ : ∀ r, K (.inl r) → Q (.inl none) (hq true r y w)) (hT : ∀ r, K (.inr r) → Q (.inr "java/lang/IllegalArgumentException") (hq true r y w)) : rs (rt_P sc fm) 289 F Lo 0 [(0, .ref 145), (1, .int a1), (2, .int a2)] [] (hq true c y w) Q := by
  unfold d_289 at h
  obtain ⟨lv, elv⟩ : ∃ lv : rx_L, lv = [(0, .ref 145), (1, .int a1), (2, .int a2)] := ⟨_, rfl⟩
  rw [← elv]
  have l0 : rx_ld lv 0 = some (.ref 145) := by rw [elv]; rfl
  have l1 : rx_ld lv 1 = some (.int a1) := by rw [elv]; rfl
  have l2 : rx_ld lv 2 = some (.int a2) := by rw [elv]; rfl
  refine rs_aldn wi_289_0 l0 ?_
  refine dq_gr wi_289_1 wf_289_19 tf_145_2 ?_
  refine dq_gr wi_289_4 wf_289_447 tf_114_12 ?_
  refine rs_ildn wi_289_7 l1 ?_
  refine rs_pure wi_289_8 rfl ?_
  refine rs_topi (v := 0) (by decide) ?_
  obtain ⟨g1, h⟩ := wp_gd h
  obtain ⟨c2, e3, h⟩ := wp_lt h
  refine dq_iast wi_289_9 t_125 g1 e3 ?_
  refine rs_pure wi_289_10 rfl ?_
  refine rs_topl (v := 1) (by decide) ?_
  refine dl_lstn wi_289_11 rfl (fun lv l3 t4 => ?_)
  have l0 := t4 _ _ (by decide) (by decide) (Or.inl rfl) l0
  have l1 := t4 _ _ (by decide) (by decide) (Or.inl rfl) l1
  have l2 := t4 _ _ (by decide) (by decide) (Or.inl rfl) l2
  refine rs_pure wi_289_12 rfl ?_
  refine rs_topi (v := 0) (by decide) ?_
  refine dl_ist wi_289_13 rfl (fun lv l5 t5 => ?_)
  have l0 := t5 _ _ (by decide) (Or.inl rfl) l0
  have l1 := t5 _ _ (by decide) (Or.inl rfl) l1
  have l2 := t5 _ _ (by decide) (Or.inl rfl) l2
  have l3 := t5 _ _ (by decide) (Or.inr (by decide)) l3
  refine whl_ex (A := fun s6 : Int64 × Int32 × cS => ∀ lv, rx_ld lv 0 = some (.ref 145) → rx_ld lv 1 = some (.int a1) → rx_ld lv 2 = some (.int a2) → rx_ld lv 3 = some (.long s6.1) → rx_ld lv 5 = some (.int s6.2.1) → rs (rt_P sc fm) 289 F Lo 15 lv [] (hq true s6.2.2 y w) Q) (B := (Sum.elim (fun x20 : cS => ∀ lv, rs (rt_P sc fm) 289 F Lo 57 lv [] (hq true x20 y w) Q) K)) ?_ ?_ _ _ (wp_bind h) _ l0 l1 l2 l3 l5
  · intro s6 h lv l0 l1 l2 l3 l5
    refine rs_ild wi_289_15 l5 ?_
    refine rs_pure wi_289_17 rfl ?_
    refine rs_topi (v := 40) (by decide) ?_
    refine rs_icge (tg := 57) wi_289_19 ⟨by decide, by decide⟩ (fun q => ?_) (fun q => ?_)
    ·
      have h := wp_pos h q
      exact h _
    ·
      have h := wp_neg h q
      refine rs_lldn wi_289_22 l3 ?_
      refine rs_pure wi_289_23 rfl ?_
      refine rs_topl (v := 0) (by decide) ?_
      refine rs_pure wi_289_24 rfl ?_
      refine rs_ifeq (tg := 57) wi_289_25 ⟨by decide, by decide⟩ (fun q => ?_) (fun q => ?_)
      ·
        have h := wp_pos h q
        exact h _
      ·
        have h := wp_neg h q
        refine rs_lldn wi_289_28 l3 ?_
        refine rs_S wi_289_29 wc_289_450 (Or.inl rfl) rfl (Nat.le_trans (by decide) hF) (ml_le wm_483 (Nat.le_trans (by decide) hLo)) rfl (sp_483 (Nat.le_trans (by decide : 1 ≤ 9 - 1) (Nat.sub_le_sub_right hF 1)) (ml_sub wm_483 (Nat.le_trans (by decide : 21 ≤ 157 - 22) (Nat.sub_le_sub_right hLo 22))) (wp_bind h) (fun v7 h => rs_back1 ?_))
        refine dl_ist wi_289_32 rfl (fun lv l6 t8 => ?_)
        have l0 := t8 _ _ (by decide) (Or.inl rfl) l0
        have l1 := t8 _ _ (by decide) (Or.inl rfl) l1
        have l2 := t8 _ _ (by decide) (Or.inl rfl) l2
        have l3 := t8 _ _ (by decide) (Or.inr (by decide)) l3
        have l5 := t8 _ _ (by decide) (Or.inl rfl) l5
        refine rs_lldn wi_289_34 l3 ?_
        refine rs_lldn wi_289_35 l3 ?_
        refine rs_pure wi_289_36 rfl ?_
        refine rs_topl (v := 1) (by decide) ?_
        refine rs_pure wi_289_37 rfl ?_
        refine rs_pure wi_289_38 rfl ?_
        obtain ⟨v10, e11, h⟩ := wp_lt h
        refine rs_topl e11 ?_
        refine dl_lstn wi_289_39 rfl (fun lv l3 t9 => ?_)
        have l0 := t9 _ _ (by decide) (by decide) (Or.inl rfl) l0
        have l1 := t9 _ _ (by decide) (by decide) (Or.inl rfl) l1
        have l2 := t9 _ _ (by decide) (by decide) (Or.inl rfl) l2
        have l5 := t9 _ _ (by decide) (by decide) (Or.inl rfl) l5
        have l6 := t9 _ _ (by decide) (by decide) (Or.inl rfl) l6
        refine rs_lldn wi_289_40 l3 ?_
        refine rs_aldn wi_289_41 l0 ?_
        refine rs_ildn wi_289_42 l1 ?_
        refine rs_ildn wi_289_43 l2 ?_
        refine rs_ild wi_289_44 l6 ?_
        refine rs_V wi_289_46 wc_289_455 rfl (dq_isa tf_145_0 wa_10_290) (Nat.le_trans (by decide) hF) (ml_le wm_290 (Nat.le_trans (by decide) hLo)) rfl (sp_290 hw (Nat.le_trans (by decide : 8 ≤ 9 - 1) (Nat.sub_le_sub_right hF 1)) (ml_sub wm_290 (Nat.le_trans (by decide : 129 ≤ 157 - 28) (Nat.sub_le_sub_right hLo 28))) (wp_bind h) (fun r12 h => rs_back1 ?_) (fun z13 h => rs_up wh0_289_46 whh_289 (hT z13 (wp_inr h))))
        have h := wp_inl h
        refine rs_pure wi_289_49 rfl ?_
        obtain ⟨v15, e16, h⟩ := wp_lt h
        refine rs_topl e16 ?_
        refine dl_lstn wi_289_50 rfl (fun lv l3 t14 => ?_)
        have l0 := t14 _ _ (by decide) (by decide) (Or.inl rfl) l0
        have l1 := t14 _ _ (by decide) (by decide) (Or.inl rfl) l1
        have l2 := t14 _ _ (by decide) (by decide) (Or.inl rfl) l2
        have l5 := t14 _ _ (by decide) (by decide) (Or.inl rfl) l5
        obtain ⟨v18, e19, h⟩ := wp_lt h
        refine dl_inc wi_289_51 l5 rfl e19 (fun lv l5 t17 => ?_)
        have l0 := t17 _ _ (by decide) (Or.inl rfl) l0
        have l1 := t17 _ _ (by decide) (Or.inl rfl) l1
        have l2 := t17 _ _ (by decide) (Or.inl rfl) l2
        have l3 := t17 _ _ (by decide) (Or.inr (by decide)) l3
        refine rs_goto (tg := 15) wi_289_54 ⟨by decide, by decide⟩ ?_
        exact h _ l0 l1 l2 l3 l5
  ·
    refine sum_all ?_ ?_
    ·
      intro x20 h lv
      have h := wp_inl h
      exact rs_vret wi_289_57 wr_289 (hQ x20 h)
    ·
      intro x21 h
      exact h
theorem wa_10_289 : rz_cn 10 (rx_yn (rt_P sc fm) 289).cls = true := (by decide +kernel : rz_cn 10 (rt_yn 289).cls = true)
theorem wc_288_423 : rx_ct (rt_P sc fm) 288 423 = some (0, 158, 0) := (by decide +kernel : rt_ct 288 423 = some (0, 158, 0))
theorem wc_288_426 : rx_ct (rt_P sc fm) 288 426 = some (0, 157, 1) := (by decide +kernel : rt_ct 288 426 = some (0, 157, 1))
theorem wc_288_444 : rx_ct (rt_P sc fm) 288 444 = some (0, 289, 2) := (by decide +kernel : rt_ct 288 444 = some (0, 289, 2))
theorem wf_288_19 : rx_ft (rt_P sc fm) 288 19 = some (10, 2) := (by decide +kernel : rt_ft 288 19 = some (10, 2))
theorem wf_288_297 : rx_ft (rt_P sc fm) 288 297 = some (2, 5) := (by decide +kernel : rt_ft 288 297 = some (2, 5))
theorem wf_288_300 : rx_ft (rt_P sc fm) 288 300 = some (2, 6) := (by decide +kernel : rt_ft 288 300 = some (2, 6))
theorem wh0_288_43 : rx_ht (rt_P sc fm) 288 43 "java/lang/IllegalArgumentException" = none := (by decide +kernel : rt_ht 288 43 "java/lang/IllegalArgumentException" = none)
theorem whh_288 : rx_hh (rt_P sc fm) 288 = [] := (by decide +kernel : rt_hh 288 = [])
theorem wi_288_0 : ri (rt_P sc fm) 288 0 (.iconst 0) (1) := ri_of (by decide +kernel) rfl
theorem wi_288_1 : ri (rt_P sc fm) 288 1 (.istore_n 1) (2) := ri_of (by decide +kernel) rfl
theorem wi_288_10 : ri (rt_P sc fm) 288 10 (.if_icmp .ge 42) (13) := ri_of (by decide +kernel) rfl
theorem wi_288_13 : ri (rt_P sc fm) 288 13 (.aload_n 0) (14) := ri_of (by decide +kernel) rfl
theorem wi_288_14 : ri (rt_P sc fm) 288 14 (.getfield 19) (17) := ri_of (by decide +kernel) rfl
theorem wi_288_17 : ri (rt_P sc fm) 288 17 (.iload_n 1) (18) := ri_of (by decide +kernel) rfl
theorem wi_288_18 : ri (rt_P sc fm) 288 18 (.invokevirtual 426) (21) := ri_of (by decide +kernel) rfl
theorem wi_288_2 : ri (rt_P sc fm) 288 2 (.iload_n 1) (3) := ri_of (by decide +kernel) rfl
theorem wi_288_21 : ri (rt_P sc fm) 288 21 (.ifCond .eq 25) (24) := ri_of (by decide +kernel) rfl
theorem wi_288_24 : ri (rt_P sc fm) 288 24 (.aload_n 0) (25) := ri_of (by decide +kernel) rfl
theorem wi_288_25 : ri (rt_P sc fm) 288 25 (.aload_n 0) (26) := ri_of (by decide +kernel) rfl
theorem wi_288_26 : ri (rt_P sc fm) 288 26 (.getfield 19) (29) := ri_of (by decide +kernel) rfl
theorem wi_288_29 : ri (rt_P sc fm) 288 29 (.getfield 297) (32) := ri_of (by decide +kernel) rfl
theorem wi_288_3 : ri (rt_P sc fm) 288 3 (.aload_n 0) (4) := ri_of (by decide +kernel) rfl
theorem wi_288_32 : ri (rt_P sc fm) 288 32 (.iload_n 1) (33) := ri_of (by decide +kernel) rfl
theorem wi_288_33 : ri (rt_P sc fm) 288 33 (.iaload) (34) := ri_of (by decide +kernel) rfl
theorem wi_288_34 : ri (rt_P sc fm) 288 34 (.aload_n 0) (35) := ri_of (by decide +kernel) rfl
theorem wi_288_35 : ri (rt_P sc fm) 288 35 (.getfield 19) (38) := ri_of (by decide +kernel) rfl
theorem wi_288_38 : ri (rt_P sc fm) 288 38 (.getfield 300) (41) := ri_of (by decide +kernel) rfl
theorem wi_288_4 : ri (rt_P sc fm) 288 4 (.getfield 19) (7) := ri_of (by decide +kernel) rfl
theorem wi_288_41 : ri (rt_P sc fm) 288 41 (.iload_n 1) (42) := ri_of (by decide +kernel) rfl
theorem wi_288_42 : ri (rt_P sc fm) 288 42 (.iaload) (43) := ri_of (by decide +kernel) rfl
theorem wi_288_43 : ri (rt_P sc fm) 288 43 (.invokevirtual 444) (46) := ri_of (by decide +kernel) rfl
theorem wi_288_46 : ri (rt_P sc fm) 288 46 (.iinc 1 1) (49) := ri_of (by decide +kernel) rfl
theorem wi_288_49 : ri (rt_P sc fm) 288 49 (.goto (-47)) (52) := ri_of (by decide +kernel) rfl
theorem wi_288_52 : ri (rt_P sc fm) 288 52 (.return_) (53) := ri_of (by decide +kernel) rfl
theorem wi_288_7 : ri (rt_P sc fm) 288 7 (.invokevirtual 423) (10) := ri_of (by decide +kernel) rfl
theorem wm_289 : rx_ml (rt_P sc fm) 289 = 7 := (by decide +kernel : rt_ml 289 = 7)
theorem wr_288 : rx_rt (rt_P sc fm) 288 = none := (by decide +kernel : rt_rt 288 = none)
/-- MarkHouse$Reader.settleDepths()V -/
def d_288 (n : Nat)  (c : cS) : Option ((cS) ⊕ cS) :=
  Option.bind (whl (R := (cS) ⊕ ((cS) ⊕ cS)) (fun s2 : Int32 × cS =>
    Option.bind (d_158 n s2.2) (fun v3 =>
    if v3 ≤ s2.1 then
      some (.inr (.inl s2.2))
    else
      Option.bind (d_157 n s2.1 s2.2) (fun v4 =>
      jn (fun p5 : cS =>
        lt (s2.1 + 1 : Int32) (fun v7 =>
        some (.inl (v7, p5))))
      (fun j46 =>
      if v4 = 0 then
        j46 s2.2
      else
        if ib s2.1 96 then
        if ib s2.1 96 then
        Option.bind (d_289 n (s2.2.1 119 (ix s2.1)) (s2.2.1 120 (ix s2.1)) s2.2) (Sum.elim (fun r11 =>
        j46 r11)
        (fun z12 => some (.inr (.inr (.inr z12)))))
        else none
        else none)))) n (0, c))
  (Sum.elim (fun x13 : cS =>
    some (.inl x13))
  (fun x14 : (cS) ⊕ cS =>
    some x14))
theorem sp_288 {F Lo n : Nat}  {c y : cS} {w : cW} {K : (cS) ⊕ cS → Prop} {Q : ((Option Value) ⊕ String) → List va_E → Prop} (hw : rOK fm w) (hF : 10 ≤ F) (hLo : 183 ≤ Lo)  (h : wp (d_288 n  c) K) (hQ : ∀ r, K (.inl r) → Q (.inl none) (hq true r y w)) (hT : ∀ r, K (.inr r) → Q (.inr "java/lang/IllegalArgumentException") (hq true r y w)) : rs (rt_P sc fm) 288 F Lo 0 [(0, .ref 145)] [] (hq true c y w) Q := by
  unfold d_288 at h
  obtain ⟨lv, elv⟩ : ∃ lv : rx_L, lv = [(0, .ref 145)] := ⟨_, rfl⟩
  rw [← elv]
  have l0 : rx_ld lv 0 = some (.ref 145) := by rw [elv]; rfl
  refine rs_pure wi_288_0 rfl ?_
  refine rs_topi (v := 0) (by decide) ?_
  refine dl_istn wi_288_1 rfl (fun lv l1 t1 => ?_)
  have l0 := t1 _ _ (by decide) (Or.inl rfl) l0
  refine whl_ex (A := fun s2 : Int32 × cS => ∀ lv, rx_ld lv 0 = some (.ref 145) → rx_ld lv 1 = some (.int s2.1) → rs (rt_P sc fm) 288 F Lo 2 lv [] (hq true s2.2 y w) Q) (B := (Sum.elim (fun x13 : cS => ∀ lv, rs (rt_P sc fm) 288 F Lo 52 lv [] (hq true x13 y w) Q) K)) ?_ ?_ _ _ (wp_bind h) _ l0 l1
  · intro s2 h lv l0 l1
    refine rs_ildn wi_288_2 l1 ?_
    refine rs_aldn wi_288_3 l0 ?_
    refine dq_gr wi_288_4 wf_288_19 tf_145_2 ?_
    refine rs_V wi_288_7 wc_288_423 rfl (dq_isa tf_114_0 wa_2_158) (Nat.le_trans (by decide) hF) (ml_le wm_158 (Nat.le_trans (by decide) hLo)) rfl (sp_158 hw (Nat.le_trans (by decide : 0 ≤ 10 - 1) (Nat.sub_le_sub_right hF 1)) (ml_sub wm_158 (Nat.le_trans (by decide : 0 ≤ 183 - 20) (Nat.sub_le_sub_right hLo 20))) (wp_bind h) (fun v3 h => rs_back1 ?_))
    refine rs_icge (tg := 52) wi_288_10 ⟨by decide, by decide⟩ (fun q => ?_) (fun q => ?_)
    ·
      have h := wp_pos h q
      exact h _
    ·
      have h := wp_neg h q
      refine rs_aldn wi_288_13 l0 ?_
      refine dq_gr wi_288_14 wf_288_19 tf_145_2 ?_
      refine rs_ildn wi_288_17 l1 ?_
      refine rs_V wi_288_18 wc_288_426 rfl (dq_isa tf_114_0 wa_2_157) (Nat.le_trans (by decide) hF) (ml_le wm_157 (Nat.le_trans (by decide) hLo)) rfl (sp_157 hw (Nat.le_trans (by decide : 0 ≤ 10 - 1) (Nat.sub_le_sub_right hF 1)) (ml_sub wm_157 (Nat.le_trans (by decide : 0 ≤ 183 - 21) (Nat.sub_le_sub_right hLo 21))) (wp_bind h) (fun v4 h => rs_back1 ?_))
      refine wp_jn (B := fun p5 : cS => ∀ lv, rx_ld lv 0 = some (.ref 145) → rx_ld lv 1 = some (.int s2.1) → rs (rt_P sc fm) 288 F Lo 46 lv [] (hq true p5 y w) Q) h (fun p5 h lv l0 l1 => ?_) (fun j46 hj46 h => ?_)
      ·
        obtain ⟨v7, e8, h⟩ := wp_lt h
        refine dl_inc wi_288_46 l1 rfl e8 (fun lv l1 t6 => ?_)
        have l0 := t6 _ _ (by decide) (Or.inl rfl) l0
        refine rs_goto (tg := 2) wi_288_49 ⟨by decide, by decide⟩ ?_
        exact h _ l0 l1
      refine rs_ifeq (tg := 46) wi_288_21 ⟨by decide, by decide⟩ (fun q => ?_) (fun q => ?_)
      ·
        have h := wp_pos h q
        exact hj46 _ h _ l0 l1
      ·
        have h := wp_neg h q
        refine rs_aldn wi_288_24 l0 ?_
        refine rs_aldn wi_288_25 l0 ?_
        refine dq_gr wi_288_26 wf_288_19 tf_145_2 ?_
        refine dq_gr wi_288_29 wf_288_297 tf_114_5 ?_
        refine rs_ildn wi_288_32 l1 ?_
        obtain ⟨g9, h⟩ := wp_gd h
        refine dq_iald wi_288_33 t_119 g9 ?_
        refine rs_aldn wi_288_34 l0 ?_
        refine dq_gr wi_288_35 wf_288_19 tf_145_2 ?_
        refine dq_gr wi_288_38 wf_288_300 tf_114_6 ?_
        refine rs_ildn wi_288_41 l1 ?_
        obtain ⟨g10, h⟩ := wp_gd h
        refine dq_iald wi_288_42 t_120 g10 ?_
        refine rs_V wi_288_43 wc_288_444 rfl (dq_isa tf_145_0 wa_10_289) (Nat.le_trans (by decide) hF) (ml_le wm_289 (Nat.le_trans (by decide) hLo)) rfl (sp_289 hw (Nat.le_trans (by decide : 9 ≤ 10 - 1) (Nat.sub_le_sub_right hF 1)) (ml_sub wm_289 (Nat.le_trans (by decide : 157 ≤ 183 - 26) (Nat.sub_le_sub_right hLo 26))) (wp_bind h) (fun r11 h => rs_back0 ?_) (fun z12 h => rs_up wh0_288_43 whh_288 (hT z12 (wp_inr h))))
        have h := wp_inl h
        exact hj46 _ h _ l0 l1
  ·
    refine sum_all ?_ ?_
    ·
      intro x13 h lv
      have h := wp_inl h
      exact rs_vret wi_288_52 wr_288 (hQ x13 h)
    ·
      intro x14 h
      exact h
theorem t_148 : ta true 148 0 4800 := ⟨rfl, by decide, by decide⟩
theorem tf_146_0 : fo true 146 4 0 (.ref 7) := ⟨_, rfl, rfl, by decide, by decide⟩
theorem tf_146_7 : fo true 146 4 7 (.ref 148) := ⟨_, rfl, rfl, by decide, by decide⟩
theorem wf_177_15 : rx_ft (rt_P sc fm) 177 15 = some (4, 7) := (by decide +kernel : rt_ft 177 15 = some (4, 7))
theorem wf_177_21 : rx_ft (rt_P sc fm) 177 21 = some (4, 0) := (by decide +kernel : rt_ft 177 21 = some (4, 0))
theorem wf_177_56 : rx_ft (rt_P sc fm) 177 56 = some (9, 10) := (by decide +kernel : rt_ft 177 56 = some (9, 10))
theorem wi_177_0 : ri (rt_P sc fm) 177 0 (.iconst 0) (1) := ri_of (by decide +kernel) rfl
theorem wi_177_1 : ri (rt_P sc fm) 177 1 (.istore_n 3) (2) := ri_of (by decide +kernel) rfl
theorem wi_177_12 : ri (rt_P sc fm) 177 12 (.imul) (13) := ri_of (by decide +kernel) rfl
theorem wi_177_13 : ri (rt_P sc fm) 177 13 (.if_icmp .ge 20) (16) := ri_of (by decide +kernel) rfl
theorem wi_177_16 : ri (rt_P sc fm) 177 16 (.aload_n 0) (17) := ri_of (by decide +kernel) rfl
theorem wi_177_17 : ri (rt_P sc fm) 177 17 (.getfield 15) (20) := ri_of (by decide +kernel) rfl
theorem wi_177_2 : ri (rt_P sc fm) 177 2 (.iload_n 3) (3) := ri_of (by decide +kernel) rfl
theorem wi_177_20 : ri (rt_P sc fm) 177 20 (.iload_n 3) (21) := ri_of (by decide +kernel) rfl
theorem wi_177_21 : ri (rt_P sc fm) 177 21 (.iconst 4) (22) := ri_of (by decide +kernel) rfl
theorem wi_177_22 : ri (rt_P sc fm) 177 22 (.imul) (23) := ri_of (by decide +kernel) rfl
theorem wi_177_23 : ri (rt_P sc fm) 177 23 (.iload_n 1) (24) := ri_of (by decide +kernel) rfl
theorem wi_177_24 : ri (rt_P sc fm) 177 24 (.iadd) (25) := ri_of (by decide +kernel) rfl
theorem wi_177_25 : ri (rt_P sc fm) 177 25 (.iload_n 2) (26) := ri_of (by decide +kernel) rfl
theorem wi_177_26 : ri (rt_P sc fm) 177 26 (.iastore) (27) := ri_of (by decide +kernel) rfl
theorem wi_177_27 : ri (rt_P sc fm) 177 27 (.iinc 3 1) (30) := ri_of (by decide +kernel) rfl
theorem wi_177_3 : ri (rt_P sc fm) 177 3 (.bipush 100) (5) := ri_of (by decide +kernel) rfl
theorem wi_177_30 : ri (rt_P sc fm) 177 30 (.goto (-28)) (33) := ri_of (by decide +kernel) rfl
theorem wi_177_33 : ri (rt_P sc fm) 177 33 (.return_) (34) := ri_of (by decide +kernel) rfl
theorem wi_177_5 : ri (rt_P sc fm) 177 5 (.aload_n 0) (6) := ri_of (by decide +kernel) rfl
theorem wi_177_6 : ri (rt_P sc fm) 177 6 (.getfield 21) (9) := ri_of (by decide +kernel) rfl
theorem wi_177_9 : ri (rt_P sc fm) 177 9 (.getfield 56) (12) := ri_of (by decide +kernel) rfl
theorem wr_177 : rx_rt (rt_P sc fm) 177 = none := (by decide +kernel : rt_rt 177 = none)
/-- MarkHouse$Effects.fillFound(II)V -/
def d_177 (n : Nat) (a1 : Int32) (a2 : Int32) (c : cS) : Option (cS) :=
  Option.bind (whl (R := (cS)) (fun s2 : Int32 × cS =>
    if (100 * (s2.2.1 7 10)) ≤ s2.1 then
      some (.inr s2.2)
    else
      if ib ((s2.1 * 4) + a1) 4800 then
      lt (pI s2.2 148 (ix ((s2.1 * 4) + a1)) a2) (fun c4 =>
      lt (s2.1 + 1 : Int32) (fun v7 =>
      some (.inl (v7, c4))))
      else none) n (0, c))
  (fun x9 : cS =>
    some x9)
theorem sp_177 {F Lo n : Nat} {a1 : Int32} {a2 : Int32} {c y : cS} {w : cW} {K : cS → Prop} {Q : ((Option Value) ⊕ String) → List va_E → Prop} (hw : rOK fm w) (hF : 0 ≤ F) (hLo : 0 ≤ Lo)  (h : wp (d_177 n a1 a2 c) K) (hQ : ∀ r, K r → Q (.inl none) (hq true r y w)) : rs (rt_P sc fm) 177 F Lo 0 [(0, .ref 146), (1, .int a1), (2, .int a2)] [] (hq true c y w) Q := by
  unfold d_177 at h
  obtain ⟨lv, elv⟩ : ∃ lv : rx_L, lv = [(0, .ref 146), (1, .int a1), (2, .int a2)] := ⟨_, rfl⟩
  rw [← elv]
  have l0 : rx_ld lv 0 = some (.ref 146) := by rw [elv]; rfl
  have l1 : rx_ld lv 1 = some (.int a1) := by rw [elv]; rfl
  have l2 : rx_ld lv 2 = some (.int a2) := by rw [elv]; rfl
  refine rs_pure wi_177_0 rfl ?_
  refine rs_topi (v := 0) (by decide) ?_
  refine dl_istn wi_177_1 rfl (fun lv l3 t1 => ?_)
  have l0 := t1 _ _ (by decide) (Or.inl rfl) l0
  have l1 := t1 _ _ (by decide) (Or.inl rfl) l1
  have l2 := t1 _ _ (by decide) (Or.inl rfl) l2
  refine whl_ex (A := fun s2 : Int32 × cS => ∀ lv, rx_ld lv 0 = some (.ref 146) → rx_ld lv 1 = some (.int a1) → rx_ld lv 2 = some (.int a2) → rx_ld lv 3 = some (.int s2.1) → rs (rt_P sc fm) 177 F Lo 2 lv [] (hq true s2.2 y w) Q) (B := (fun x9 : cS => ∀ lv, rs (rt_P sc fm) 177 F Lo 33 lv [] (hq true x9 y w) Q)) ?_ ?_ _ _ (wp_bind h) _ l0 l1 l2 l3
  · intro s2 h lv l0 l1 l2 l3
    refine rs_ildn wi_177_2 l3 ?_
    refine rs_pure wi_177_3 rfl ?_
    refine rs_topi (v := 100) (by decide) ?_
    refine rs_aldn wi_177_5 l0 ?_
    refine dq_gr wi_177_6 wf_177_21 tf_146_0 ?_
    refine dq_gi wi_177_9 wf_177_56 tf_7_10 ?_
    refine rs_pure wi_177_12 rfl ?_
    refine rs_icge (tg := 33) wi_177_13 ⟨by decide, by decide⟩ (fun q => ?_) (fun q => ?_)
    ·
      have h := wp_pos h q
      exact h _
    ·
      have h := wp_neg h q
      refine rs_aldn wi_177_16 l0 ?_
      refine dq_gr wi_177_17 wf_177_15 tf_146_7 ?_
      refine rs_ildn wi_177_20 l3 ?_
      refine rs_pure wi_177_21 rfl ?_
      refine rs_topi (v := 4) (by decide) ?_
      refine rs_pure wi_177_22 rfl ?_
      refine rs_ildn wi_177_23 l1 ?_
      refine rs_pure wi_177_24 rfl ?_
      refine rs_ildn wi_177_25 l2 ?_
      obtain ⟨g3, h⟩ := wp_gd h
      obtain ⟨c4, e5, h⟩ := wp_lt h
      refine dq_iast wi_177_26 t_148 g3 e5 ?_
      obtain ⟨v7, e8, h⟩ := wp_lt h
      refine dl_inc wi_177_27 l3 rfl e8 (fun lv l3 t6 => ?_)
      have l0 := t6 _ _ (by decide) (Or.inl rfl) l0
      have l1 := t6 _ _ (by decide) (Or.inl rfl) l1
      have l2 := t6 _ _ (by decide) (Or.inl rfl) l2
      refine rs_goto (tg := 2) wi_177_30 ⟨by decide, by decide⟩ ?_
      exact h _ l0 l1 l2 l3
  ·
    intro x9 h lv
    exact rs_vret wi_177_33 wr_177 (hQ x9 h)
theorem tf_146_8 : fo true 146 4 8 (.int 0) := ⟨_, rfl, rfl, by decide, by decide⟩
theorem wa_4_177 : rz_cn 4 (rx_yn (rt_P sc fm) 177).cls = true := (by decide +kernel : rz_cn 4 (rt_yn 177).cls = true)
theorem wc_176_52 : rx_ct (rt_P sc fm) 176 52 = some (0, 177, 2) := (by decide +kernel : rt_ct 176 52 = some (0, 177, 2))
theorem wf_176_21 : rx_ft (rt_P sc fm) 176 21 = some (4, 0) := (by decide +kernel : rt_ft 176 21 = some (4, 0))
theorem wf_176_37 : rx_ft (rt_P sc fm) 176 37 = some (9, 2) := (by decide +kernel : rt_ft 176 37 = some (9, 2))
theorem wf_176_43 : rx_ft (rt_P sc fm) 176 43 = some (9, 1) := (by decide +kernel : rt_ft 176 43 = some (9, 1))
theorem wf_176_47 : rx_ft (rt_P sc fm) 176 47 = some (8, 2) := (by decide +kernel : rt_ft 176 47 = some (8, 2))
theorem wi_176_0 : ri (rt_P sc fm) 176 0 (.aload_n 0) (1) := ri_of (by decide +kernel) rfl
theorem wi_176_1 : ri (rt_P sc fm) 176 1 (.iconst 1) (2) := ri_of (by decide +kernel) rfl
theorem wi_176_12 : ri (rt_P sc fm) 176 12 (.getfield 37) (15) := ri_of (by decide +kernel) rfl
theorem wi_176_15 : ri (rt_P sc fm) 176 15 (.if_icmp .ge 26) (18) := ri_of (by decide +kernel) rfl
theorem wi_176_18 : ri (rt_P sc fm) 176 18 (.aload_n 0) (19) := ri_of (by decide +kernel) rfl
theorem wi_176_19 : ri (rt_P sc fm) 176 19 (.iload_n 1) (20) := ri_of (by decide +kernel) rfl
theorem wi_176_2 : ri (rt_P sc fm) 176 2 (.putfield 33) (5) := ri_of (by decide +kernel) rfl
theorem wi_176_20 : ri (rt_P sc fm) 176 20 (.aload_n 0) (21) := ri_of (by decide +kernel) rfl
theorem wi_176_21 : ri (rt_P sc fm) 176 21 (.getfield 21) (24) := ri_of (by decide +kernel) rfl
theorem wi_176_24 : ri (rt_P sc fm) 176 24 (.getfield 43) (27) := ri_of (by decide +kernel) rfl
theorem wi_176_27 : ri (rt_P sc fm) 176 27 (.iload_n 1) (28) := ri_of (by decide +kernel) rfl
theorem wi_176_28 : ri (rt_P sc fm) 176 28 (.aaload) (29) := ri_of (by decide +kernel) rfl
theorem wi_176_29 : ri (rt_P sc fm) 176 29 (.getfield 47) (32) := ri_of (by decide +kernel) rfl
theorem wi_176_32 : ri (rt_P sc fm) 176 32 (.invokevirtual 52) (35) := ri_of (by decide +kernel) rfl
theorem wi_176_35 : ri (rt_P sc fm) 176 35 (.iinc 1 1) (38) := ri_of (by decide +kernel) rfl
theorem wi_176_38 : ri (rt_P sc fm) 176 38 (.goto (-31)) (41) := ri_of (by decide +kernel) rfl
theorem wi_176_41 : ri (rt_P sc fm) 176 41 (.return_) (42) := ri_of (by decide +kernel) rfl
theorem wi_176_5 : ri (rt_P sc fm) 176 5 (.iconst 0) (6) := ri_of (by decide +kernel) rfl
theorem wi_176_6 : ri (rt_P sc fm) 176 6 (.istore_n 1) (7) := ri_of (by decide +kernel) rfl
theorem wi_176_7 : ri (rt_P sc fm) 176 7 (.iload_n 1) (8) := ri_of (by decide +kernel) rfl
theorem wi_176_8 : ri (rt_P sc fm) 176 8 (.aload_n 0) (9) := ri_of (by decide +kernel) rfl
theorem wi_176_9 : ri (rt_P sc fm) 176 9 (.getfield 21) (12) := ri_of (by decide +kernel) rfl
theorem wm_177 : rx_ml (rt_P sc fm) 177 = 4 := (by decide +kernel : rt_ml 177 = 4)
theorem wp_176_33 : rx_pt (rt_P sc fm) 176 33 = some (4, 8, .boolean) := (by decide +kernel : rt_pt 176 33 = some (4, 8, .boolean))
theorem wr_176 : rx_rt (rt_P sc fm) 176 = none := (by decide +kernel : rt_rt 176 = none)
/-- MarkHouse$Effects.startAnew()V -/
def d_176 (n : Nat)  (c : cS) : Option (cS) :=
  lt (pI c 146 8 1) (fun c1 =>
  Option.bind (whl (R := (cS)) (fun s4 : Int32 × cS =>
    if (s4.2.1 7 2) ≤ s4.1 then
      some (.inr s4.2)
    else
      if ib s4.1 4 then
      Option.bind (d_177 n s4.1 (s4.2.1 (oA (ix s4.1)) 2) s4.2) (fun r6 =>
      lt (s4.1 + 1 : Int32) (fun v8 =>
      some (.inl (v8, r6))))
      else none) n (0, c1))
  (fun x10 : cS =>
    some x10))
theorem sp_176 {F Lo n : Nat}  {c y : cS} {w : cW} {K : cS → Prop} {Q : ((Option Value) ⊕ String) → List va_E → Prop} (hw : rOK fm w) (hF : 1 ≤ F) (hLo : 23 ≤ Lo)  (h : wp (d_176 n  c) K) (hQ : ∀ r, K r → Q (.inl none) (hq true r y w)) : rs (rt_P sc fm) 176 F Lo 0 [(0, .ref 146)] [] (hq true c y w) Q := by
  unfold d_176 at h
  obtain ⟨lv, elv⟩ : ∃ lv : rx_L, lv = [(0, .ref 146)] := ⟨_, rfl⟩
  rw [← elv]
  have l0 : rx_ld lv 0 = some (.ref 146) := by rw [elv]; rfl
  refine rs_aldn wi_176_0 l0 ?_
  refine rs_pure wi_176_1 rfl ?_
  refine rs_topi (v := 1) (by decide) ?_
  obtain ⟨c1, e2, h⟩ := wp_lt h
  refine dq_pi wi_176_2 wp_176_33 tf_146_8 (nb_n (by decide)) (nb_f (by decide)) e2 ?_
  refine rs_pure wi_176_5 rfl ?_
  refine rs_topi (v := 0) (by decide) ?_
  refine dl_istn wi_176_6 rfl (fun lv l1 t3 => ?_)
  have l0 := t3 _ _ (by decide) (Or.inl rfl) l0
  refine whl_ex (A := fun s4 : Int32 × cS => ∀ lv, rx_ld lv 0 = some (.ref 146) → rx_ld lv 1 = some (.int s4.1) → rs (rt_P sc fm) 176 F Lo 7 lv [] (hq true s4.2 y w) Q) (B := (fun x10 : cS => ∀ lv, rs (rt_P sc fm) 176 F Lo 41 lv [] (hq true x10 y w) Q)) ?_ ?_ _ _ (wp_bind h) _ l0 l1
  · intro s4 h lv l0 l1
    refine rs_ildn wi_176_7 l1 ?_
    refine rs_aldn wi_176_8 l0 ?_
    refine dq_gr wi_176_9 wf_176_21 tf_146_0 ?_
    refine dq_gi wi_176_12 wf_176_37 tf_7_2 ?_
    refine rs_icge (tg := 41) wi_176_15 ⟨by decide, by decide⟩ (fun q => ?_) (fun q => ?_)
    ·
      have h := wp_pos h q
      exact h _
    ·
      have h := wp_neg h q
      refine rs_aldn wi_176_18 l0 ?_
      refine rs_ildn wi_176_19 l1 ?_
      refine rs_aldn wi_176_20 l0 ?_
      refine dq_gr wi_176_21 wf_176_21 tf_146_0 ?_
      refine dq_gr wi_176_24 wf_176_43 tf_7_1 ?_
      refine rs_ildn wi_176_27 l1 ?_
      obtain ⟨g5, h⟩ := wp_gd h
      refine dq_aald wi_176_28 (by decide) t_8 g5 (hw.1 _ (ib_lt g5)) ?_
      refine dq_gi wi_176_29 wf_176_47 (fO_2 (ib_lt g5)) ?_
      refine rs_V wi_176_32 wc_176_52 rfl (dq_isa tf_146_0 wa_4_177) (Nat.le_trans (by decide) hF) (ml_le wm_177 (Nat.le_trans (by decide) hLo)) rfl (sp_177 hw (Nat.le_trans (by decide : 0 ≤ 1 - 1) (Nat.sub_le_sub_right hF 1)) (ml_sub wm_177 (Nat.le_trans (by decide : 0 ≤ 23 - 23) (Nat.sub_le_sub_right hLo 23))) (wp_bind h) (fun r6 h => rs_back0 ?_))
      obtain ⟨v8, e9, h⟩ := wp_lt h
      refine dl_inc wi_176_35 l1 rfl e9 (fun lv l1 t7 => ?_)
      have l0 := t7 _ _ (by decide) (Or.inl rfl) l0
      refine rs_goto (tg := 7) wi_176_38 ⟨by decide, by decide⟩ ?_
      exact h _ l0 l1
  ·
    intro x10 h lv
    exact rs_vret wi_176_41 wr_176 (hQ x10 h)
theorem tf_0_1 : fo true 0 14 1 (.ref 7) := ⟨_, rfl, rfl, by decide, by decide⟩
theorem tf_0_4 : fo true 0 14 4 (.ref 145) := ⟨_, rfl, rfl, by decide, by decide⟩
theorem tf_0_5 : fo true 0 14 5 (.ref 146) := ⟨_, rfl, rfl, by decide, by decide⟩
theorem wa_10_286 : rz_cn 10 (rx_yn (rt_P sc fm) 286).cls = true := (by decide +kernel : rz_cn 10 (rt_yn 286).cls = true)
theorem wa_10_288 : rz_cn 10 (rx_yn (rt_P sc fm) 288).cls = true := (by decide +kernel : rz_cn 10 (rt_yn 288).cls = true)
theorem wa_10_40 : rz_cn 10 (rx_yn (rt_P sc fm) 40).cls = true := (by decide +kernel : rz_cn 10 (rt_yn 40).cls = true)
theorem wa_10_44 : rz_cn 10 (rx_yn (rt_P sc fm) 44).cls = true := (by decide +kernel : rz_cn 10 (rt_yn 44).cls = true)
theorem wa_10_45 : rz_cn 10 (rx_yn (rt_P sc fm) 45).cls = true := (by decide +kernel : rz_cn 10 (rt_yn 45).cls = true)
theorem wa_14_90 : rz_cn 14 (rx_yn (rt_P sc fm) 90).cls = true := (by decide +kernel : rz_cn 14 (rt_yn 90).cls = true)
theorem wa_4_176 : rz_cn 4 (rx_yn (rt_P sc fm) 176).cls = true := (by decide +kernel : rz_cn 4 (rt_yn 176).cls = true)
theorem wc_59_108 : rx_ct (rt_P sc fm) 59 108 = some (0, 90, 0) := (by decide +kernel : rt_ct 59 108 = some (0, 90, 0))
theorem wc_59_111 : rx_ct (rt_P sc fm) 59 111 = some (0, 40, 0) := (by decide +kernel : rt_ct 59 111 = some (0, 40, 0))
theorem wc_59_114 : rx_ct (rt_P sc fm) 59 114 = some (0, 44, 0) := (by decide +kernel : rt_ct 59 114 = some (0, 44, 0))
theorem wc_59_117 : rx_ct (rt_P sc fm) 59 117 = some (0, 45, 0) := (by decide +kernel : rt_ct 59 117 = some (0, 45, 0))
theorem wc_59_120 : rx_ct (rt_P sc fm) 59 120 = some (0, 286, 0) := (by decide +kernel : rt_ct 59 120 = some (0, 286, 0))
theorem wc_59_123 : rx_ct (rt_P sc fm) 59 123 = some (0, 288, 0) := (by decide +kernel : rt_ct 59 123 = some (0, 288, 0))
theorem wc_59_130 : rx_ct (rt_P sc fm) 59 130 = some (0, 176, 0) := (by decide +kernel : rt_ct 59 130 = some (0, 176, 0))
theorem wf_59_133 : rx_ft (rt_P sc fm) 59 133 = some (9, 10) := (by decide +kernel : rt_ft 59 133 = some (9, 10))
theorem wf_59_19 : rx_ft (rt_P sc fm) 59 19 = some (14, 1) := (by decide +kernel : rt_ft 59 19 = some (14, 1))
theorem wf_59_44 : rx_ft (rt_P sc fm) 59 44 = some (14, 4) := (by decide +kernel : rt_ft 59 44 = some (14, 4))
theorem wf_59_53 : rx_ft (rt_P sc fm) 59 53 = some (14, 5) := (by decide +kernel : rt_ft 59 53 = some (14, 5))
theorem wh0_59_15 : rx_ht (rt_P sc fm) 59 15 "java/lang/IllegalArgumentException" = none := (by decide +kernel : rt_ht 59 15 "java/lang/IllegalArgumentException" = none)
theorem wh0_59_22 : rx_ht (rt_P sc fm) 59 22 "java/lang/IllegalArgumentException" = none := (by decide +kernel : rt_ht 59 22 "java/lang/IllegalArgumentException" = none)
theorem wh0_59_29 : rx_ht (rt_P sc fm) 59 29 "java/lang/IllegalArgumentException" = none := (by decide +kernel : rt_ht 59 29 "java/lang/IllegalArgumentException" = none)
theorem wh0_59_36 : rx_ht (rt_P sc fm) 59 36 "java/lang/IllegalArgumentException" = none := (by decide +kernel : rt_ht 59 36 "java/lang/IllegalArgumentException" = none)
theorem wh0_59_8 : rx_ht (rt_P sc fm) 59 8 "java/lang/IllegalArgumentException" = none := (by decide +kernel : rt_ht 59 8 "java/lang/IllegalArgumentException" = none)
theorem whh_59 : rx_hh (rt_P sc fm) 59 = [] := (by decide +kernel : rt_hh 59 = [])
theorem wi_59_0 : ri (rt_P sc fm) 59 0 (.aload_n 0) (1) := ri_of (by decide +kernel) rfl
theorem wi_59_1 : ri (rt_P sc fm) 59 1 (.invokevirtual 108) (4) := ri_of (by decide +kernel) rfl
theorem wi_59_11 : ri (rt_P sc fm) 59 11 (.aload_n 0) (12) := ri_of (by decide +kernel) rfl
theorem wi_59_12 : ri (rt_P sc fm) 59 12 (.getfield 44) (15) := ri_of (by decide +kernel) rfl
theorem wi_59_15 : ri (rt_P sc fm) 59 15 (.invokevirtual 114) (18) := ri_of (by decide +kernel) rfl
theorem wi_59_18 : ri (rt_P sc fm) 59 18 (.aload_n 0) (19) := ri_of (by decide +kernel) rfl
theorem wi_59_19 : ri (rt_P sc fm) 59 19 (.getfield 44) (22) := ri_of (by decide +kernel) rfl
theorem wi_59_22 : ri (rt_P sc fm) 59 22 (.invokevirtual 117) (25) := ri_of (by decide +kernel) rfl
theorem wi_59_25 : ri (rt_P sc fm) 59 25 (.aload_n 0) (26) := ri_of (by decide +kernel) rfl
theorem wi_59_26 : ri (rt_P sc fm) 59 26 (.getfield 44) (29) := ri_of (by decide +kernel) rfl
theorem wi_59_29 : ri (rt_P sc fm) 59 29 (.invokevirtual 120) (32) := ri_of (by decide +kernel) rfl
theorem wi_59_32 : ri (rt_P sc fm) 59 32 (.aload_n 0) (33) := ri_of (by decide +kernel) rfl
theorem wi_59_33 : ri (rt_P sc fm) 59 33 (.getfield 44) (36) := ri_of (by decide +kernel) rfl
theorem wi_59_36 : ri (rt_P sc fm) 59 36 (.invokevirtual 123) (39) := ri_of (by decide +kernel) rfl
theorem wi_59_39 : ri (rt_P sc fm) 59 39 (.aload_n 0) (40) := ri_of (by decide +kernel) rfl
theorem wi_59_4 : ri (rt_P sc fm) 59 4 (.aload_n 0) (5) := ri_of (by decide +kernel) rfl
theorem wi_59_40 : ri (rt_P sc fm) 59 40 (.getfield 19) (43) := ri_of (by decide +kernel) rfl
theorem wi_59_43 : ri (rt_P sc fm) 59 43 (.iconst 1) (44) := ri_of (by decide +kernel) rfl
theorem wi_59_44 : ri (rt_P sc fm) 59 44 (.putfield 126) (47) := ri_of (by decide +kernel) rfl
theorem wi_59_47 : ri (rt_P sc fm) 59 47 (.aload_n 0) (48) := ri_of (by decide +kernel) rfl
theorem wi_59_48 : ri (rt_P sc fm) 59 48 (.getfield 53) (51) := ri_of (by decide +kernel) rfl
theorem wi_59_5 : ri (rt_P sc fm) 59 5 (.getfield 44) (8) := ri_of (by decide +kernel) rfl
theorem wi_59_51 : ri (rt_P sc fm) 59 51 (.invokevirtual 130) (54) := ri_of (by decide +kernel) rfl
theorem wi_59_54 : ri (rt_P sc fm) 59 54 (.aload_n 0) (55) := ri_of (by decide +kernel) rfl
theorem wi_59_55 : ri (rt_P sc fm) 59 55 (.getfield 19) (58) := ri_of (by decide +kernel) rfl
theorem wi_59_58 : ri (rt_P sc fm) 59 58 (.getfield 133) (61) := ri_of (by decide +kernel) rfl
theorem wi_59_61 : ri (rt_P sc fm) 59 61 (.ireturn) (62) := ri_of (by decide +kernel) rfl
theorem wi_59_8 : ri (rt_P sc fm) 59 8 (.invokevirtual 111) (11) := ri_of (by decide +kernel) rfl
theorem wm_176 : rx_ml (rt_P sc fm) 176 = 2 := (by decide +kernel : rt_ml 176 = 2)
theorem wm_286 : rx_ml (rt_P sc fm) 286 = 3 := (by decide +kernel : rt_ml 286 = 3)
theorem wm_288 : rx_ml (rt_P sc fm) 288 = 2 := (by decide +kernel : rt_ml 288 = 2)
theorem wm_40 : rx_ml (rt_P sc fm) 40 = 2 := (by decide +kernel : rt_ml 40 = 2)
theorem wm_44 : rx_ml (rt_P sc fm) 44 = 2 := (by decide +kernel : rt_ml 44 = 2)
theorem wm_45 : rx_ml (rt_P sc fm) 45 = 4 := (by decide +kernel : rt_ml 45 = 4)
theorem wm_90 : rx_ml (rt_P sc fm) 90 = 1 := (by decide +kernel : rt_ml 90 = 1)
theorem wp_59_126 : rx_pt (rt_P sc fm) 59 126 = some (9, 0, .boolean) := (by decide +kernel : rt_pt 59 126 = some (9, 0, .boolean))
theorem wr_59 : rx_rt (rt_P sc fm) 59 = (some FieldType.int) := (by decide +kernel : rt_rt 59 = (some FieldType.int))
/-- MarkHouse.compile()I -/
def d_59 (n : Nat)  (c : cS) : Option ((Int32 × cS) ⊕ cS) :=
  Option.bind (d_90 n c) (fun r1 =>
  Option.bind (d_40 n r1) (Sum.elim (fun r2 =>
  Option.bind (d_44 n r2) (Sum.elim (fun r4 =>
  Option.bind (d_45 n r4) (Sum.elim (fun r6 =>
  Option.bind (d_286 n r6) (Sum.elim (fun r8 =>
  Option.bind (d_288 n r8) (Sum.elim (fun r10 =>
  lt (pI r10 7 0 1) (fun c12 =>
  Option.bind (d_176 n c12) (fun r14 =>
  some (.inl ((r14.1 7 10), r14)))))
  (fun z11 => some (.inr z11))))
  (fun z9 => some (.inr z9))))
  (fun z7 => some (.inr z7))))
  (fun z5 => some (.inr z5))))
  (fun z3 => some (.inr z3))))
theorem sp_59 {F Lo n : Nat}  {c y : cS} {w : cW} {K : (Int32 × cS) ⊕ cS → Prop} {Q : ((Option Value) ⊕ String) → List va_E → Prop} (hw : rOK fm w) (hF : 13 ≤ F) (hLo : 250 ≤ Lo)  (h : wp (d_59 n  c) K) (hQ : ∀ r, K (.inl r) → Q (.inl (some (.int r.1))) (hq true r.2 y w)) (hT : ∀ r, K (.inr r) → Q (.inr "java/lang/IllegalArgumentException") (hq true r y w)) : rs (rt_P sc fm) 59 F Lo 0 [(0, .ref 0)] [] (hq true c y w) Q := by
  unfold d_59 at h
  obtain ⟨lv, elv⟩ : ∃ lv : rx_L, lv = [(0, .ref 0)] := ⟨_, rfl⟩
  rw [← elv]
  have l0 : rx_ld lv 0 = some (.ref 0) := by rw [elv]; rfl
  refine rs_aldn wi_59_0 l0 ?_
  refine rs_V wi_59_1 wc_59_108 rfl (dq_isa tf_0_0 wa_14_90) (Nat.le_trans (by decide) hF) (ml_le wm_90 (Nat.le_trans (by decide) hLo)) rfl (sp_90 hw (Nat.le_trans (by decide : 3 ≤ 13 - 1) (Nat.sub_le_sub_right hF 1)) (ml_sub wm_90 (Nat.le_trans (by decide : 66 ≤ 250 - 20) (Nat.sub_le_sub_right hLo 20))) (wp_bind h) (fun r1 h => rs_back0 ?_))
  refine rs_aldn wi_59_4 l0 ?_
  refine dq_gr wi_59_5 wf_59_44 tf_0_4 ?_
  refine rs_V wi_59_8 wc_59_111 rfl (dq_isa tf_145_0 wa_10_40) (Nat.le_trans (by decide) hF) (ml_le wm_40 (Nat.le_trans (by decide) hLo)) rfl (sp_40 hw (Nat.le_trans (by decide : 7 ≤ 13 - 1) (Nat.sub_le_sub_right hF 1)) (ml_sub wm_40 (Nat.le_trans (by decide : 128 ≤ 250 - 21) (Nat.sub_le_sub_right hLo 21))) (wp_bind h) (fun r2 h => rs_back0 ?_) (fun z3 h => rs_up wh0_59_8 whh_59 (hT z3 (wp_inr h))))
  have h := wp_inl h
  refine rs_aldn wi_59_11 l0 ?_
  refine dq_gr wi_59_12 wf_59_44 tf_0_4 ?_
  refine rs_V wi_59_15 wc_59_114 rfl (dq_isa tf_145_0 wa_10_44) (Nat.le_trans (by decide) hF) (ml_le wm_44 (Nat.le_trans (by decide) hLo)) rfl (sp_44 hw (Nat.le_trans (by decide : 12 ≤ 13 - 1) (Nat.sub_le_sub_right hF 1)) (ml_sub wm_44 (Nat.le_trans (by decide : 226 ≤ 250 - 21) (Nat.sub_le_sub_right hLo 21))) (wp_bind h) (fun r4 h => rs_back0 ?_) (fun z5 h => rs_up wh0_59_15 whh_59 (hT z5 (wp_inr h))))
  have h := wp_inl h
  refine rs_aldn wi_59_18 l0 ?_
  refine dq_gr wi_59_19 wf_59_44 tf_0_4 ?_
  refine rs_V wi_59_22 wc_59_117 rfl (dq_isa tf_145_0 wa_10_45) (Nat.le_trans (by decide) hF) (ml_le wm_45 (Nat.le_trans (by decide) hLo)) rfl (sp_45 hw (Nat.le_trans (by decide : 12 ≤ 13 - 1) (Nat.sub_le_sub_right hF 1)) (ml_sub wm_45 (Nat.le_trans (by decide : 227 ≤ 250 - 23) (Nat.sub_le_sub_right hLo 23))) (wp_bind h) (fun r6 h => rs_back0 ?_) (fun z7 h => rs_up wh0_59_22 whh_59 (hT z7 (wp_inr h))))
  have h := wp_inl h
  refine rs_aldn wi_59_25 l0 ?_
  refine dq_gr wi_59_26 wf_59_44 tf_0_4 ?_
  refine rs_V wi_59_29 wc_59_120 rfl (dq_isa tf_145_0 wa_10_286) (Nat.le_trans (by decide) hF) (ml_le wm_286 (Nat.le_trans (by decide) hLo)) rfl (sp_286 hw (Nat.le_trans (by decide : 8 ≤ 13 - 1) (Nat.sub_le_sub_right hF 1)) (ml_sub wm_286 (Nat.le_trans (by decide : 130 ≤ 250 - 22) (Nat.sub_le_sub_right hLo 22))) (wp_bind h) (fun r8 h => rs_back0 ?_) (fun z9 h => rs_up wh0_59_29 whh_59 (hT z9 (wp_inr h))))
  have h := wp_inl h
  refine rs_aldn wi_59_32 l0 ?_
  refine dq_gr wi_59_33 wf_59_44 tf_0_4 ?_
  refine rs_V wi_59_36 wc_59_123 rfl (dq_isa tf_145_0 wa_10_288) (Nat.le_trans (by decide) hF) (ml_le wm_288 (Nat.le_trans (by decide) hLo)) rfl (sp_288 hw (Nat.le_trans (by decide : 10 ≤ 13 - 1) (Nat.sub_le_sub_right hF 1)) (ml_sub wm_288 (Nat.le_trans (by decide : 183 ≤ 250 - 21) (Nat.sub_le_sub_right hLo 21))) (wp_bind h) (fun r10 h => rs_back0 ?_) (fun z11 h => rs_up wh0_59_36 whh_59 (hT z11 (wp_inr h))))
  have h := wp_inl h
  refine rs_aldn wi_59_39 l0 ?_
  refine dq_gr wi_59_40 wf_59_19 tf_0_1 ?_
  refine rs_pure wi_59_43 rfl ?_
  refine rs_topi (v := 1) (by decide) ?_
  obtain ⟨c12, e13, h⟩ := wp_lt h
  refine dq_pi wi_59_44 wp_59_126 tf_7_0 (nb_n (by decide)) (nb_f (by decide)) e13 ?_
  refine rs_aldn wi_59_47 l0 ?_
  refine dq_gr wi_59_48 wf_59_53 tf_0_5 ?_
  refine rs_V wi_59_51 wc_59_130 rfl (dq_isa tf_146_0 wa_4_176) (Nat.le_trans (by decide) hF) (ml_le wm_176 (Nat.le_trans (by decide) hLo)) rfl (sp_176 hw (Nat.le_trans (by decide : 1 ≤ 13 - 1) (Nat.sub_le_sub_right hF 1)) (ml_sub wm_176 (Nat.le_trans (by decide : 23 ≤ 250 - 21) (Nat.sub_le_sub_right hLo 21))) (wp_bind h) (fun r14 h => rs_back0 ?_))
  refine rs_aldn wi_59_54 l0 ?_
  refine dq_gr wi_59_55 wf_59_19 tf_0_1 ?_
  refine dq_gi wi_59_58 wf_59_133 tf_7_10 ?_
  exact rs_iret wi_59_61 wr_59 rfl (hQ ((r14.1 7 10), r14) h)
theorem wf_60_136 : rx_ft (rt_P sc fm) 60 136 = some (10, 4) := (by decide +kernel : rt_ft 60 136 = some (10, 4))
theorem wf_60_139 : rx_ft (rt_P sc fm) 60 139 = some (10, 5) := (by decide +kernel : rt_ft 60 139 = some (10, 5))
theorem wf_60_44 : rx_ft (rt_P sc fm) 60 44 = some (14, 4) := (by decide +kernel : rt_ft 60 44 = some (14, 4))
theorem wi_60_0 : ri (rt_P sc fm) 60 0 (.iload_n 1) (1) := ri_of (by decide +kernel) rfl
theorem wi_60_1 : ri (rt_P sc fm) 60 1 (.ifCond .ne 11) (4) := ri_of (by decide +kernel) rfl
theorem wi_60_11 : ri (rt_P sc fm) 60 11 (.ireturn) (12) := ri_of (by decide +kernel) rfl
theorem wi_60_12 : ri (rt_P sc fm) 60 12 (.iload_n 1) (13) := ri_of (by decide +kernel) rfl
theorem wi_60_13 : ri (rt_P sc fm) 60 13 (.iconst 1) (14) := ri_of (by decide +kernel) rfl
theorem wi_60_14 : ri (rt_P sc fm) 60 14 (.if_icmp .ne 13) (17) := ri_of (by decide +kernel) rfl
theorem wi_60_17 : ri (rt_P sc fm) 60 17 (.aload_n 0) (18) := ri_of (by decide +kernel) rfl
theorem wi_60_18 : ri (rt_P sc fm) 60 18 (.getfield 44) (21) := ri_of (by decide +kernel) rfl
theorem wi_60_21 : ri (rt_P sc fm) 60 21 (.getfield 139) (24) := ri_of (by decide +kernel) rfl
theorem wi_60_24 : ri (rt_P sc fm) 60 24 (.goto 4) (27) := ri_of (by decide +kernel) rfl
theorem wi_60_27 : ri (rt_P sc fm) 60 27 (.iconst (-1)) (28) := ri_of (by decide +kernel) rfl
theorem wi_60_28 : ri (rt_P sc fm) 60 28 (.ireturn) (29) := ri_of (by decide +kernel) rfl
theorem wi_60_4 : ri (rt_P sc fm) 60 4 (.aload_n 0) (5) := ri_of (by decide +kernel) rfl
theorem wi_60_5 : ri (rt_P sc fm) 60 5 (.getfield 44) (8) := ri_of (by decide +kernel) rfl
theorem wi_60_8 : ri (rt_P sc fm) 60 8 (.getfield 136) (11) := ri_of (by decide +kernel) rfl
theorem wr_60 : rx_rt (rt_P sc fm) 60 = (some FieldType.int) := (by decide +kernel : rt_rt 60 = (some FieldType.int))
/-- MarkHouse.fault(I)I -/
def d_60 (n : Nat) (a1 : Int32) (c : cS) : Option (Int32) :=
  if a1 = 0 then
    some (c.1 145 4)
  else
    jn (fun p1 : Int32 =>
      some p1)
    (fun j28 =>
    if a1 = 1 then
      j28 (c.1 145 5)
    else
      j28 (-1))
theorem sp_60 {F Lo n : Nat} {a1 : Int32} {c y : cS} {w : cW} {K : Int32 → Prop} {Q : ((Option Value) ⊕ String) → List va_E → Prop} (hw : rOK fm w) (hF : 0 ≤ F) (hLo : 0 ≤ Lo)  (h : wp (d_60 n a1 c) K) (hQ : ∀ r, K r → Q (.inl (some (.int r))) (hq true c y w)) : rs (rt_P sc fm) 60 F Lo 0 [(0, .ref 0), (1, .int a1)] [] (hq true c y w) Q := by
  unfold d_60 at h
  obtain ⟨lv, elv⟩ : ∃ lv : rx_L, lv = [(0, .ref 0), (1, .int a1)] := ⟨_, rfl⟩
  rw [← elv]
  have l0 : rx_ld lv 0 = some (.ref 0) := by rw [elv]; rfl
  have l1 : rx_ld lv 1 = some (.int a1) := by rw [elv]; rfl
  refine rs_ildn wi_60_0 l1 ?_
  refine rs_ifne (tg := 12) wi_60_1 ⟨by decide, by decide⟩ (fun q => ?_) (fun q => ?_)
  ·
    have h := wp_neg h q
    refine rs_ildn wi_60_12 l1 ?_
    refine rs_pure wi_60_13 rfl ?_
    refine rs_topi (v := 1) (by decide) ?_
    refine wp_jn (B := fun p1 : Int32 => ∀ lv, rs (rt_P sc fm) 60 F Lo 28 lv [.int p1] (hq true c y w) Q) h (fun p1 h lv => ?_) (fun j28 hj28 h => ?_)
    ·
      exact rs_iret wi_60_28 wr_60 rfl (hQ p1 h)
    refine rs_icne (tg := 27) wi_60_14 ⟨by decide, by decide⟩ (fun q => ?_) (fun q => ?_)
    ·
      have h := wp_neg h q
      refine rs_pure wi_60_27 rfl ?_
      refine rs_topi (v := (-1)) (by decide) ?_
      exact hj28 _ h _
    ·
      have h := wp_pos h q
      refine rs_aldn wi_60_17 l0 ?_
      refine dq_gr wi_60_18 wf_60_44 tf_0_4 ?_
      refine dq_gi wi_60_21 wf_60_139 tf_145_5 ?_
      refine rs_goto (tg := 28) wi_60_24 ⟨by decide, by decide⟩ ?_
      exact hj28 _ h _
  ·
    have h := wp_pos h q
    refine rs_aldn wi_60_4 l0 ?_
    refine dq_gr wi_60_5 wf_60_44 tf_0_4 ?_
    refine dq_gi wi_60_8 wf_60_136 tf_145_4 ?_
    exact rs_iret wi_60_11 wr_60 rfl (hQ (c.1 145 4) h)
theorem wf_317_35 : rx_ft (rt_P sc fm) 317 35 = some (12, 1) := (by decide +kernel : rt_ft 317 35 = some (12, 1))
theorem wf_317_9 : rx_ft (rt_P sc fm) 317 9 = some (12, 0) := (by decide +kernel : rt_ft 317 9 = some (12, 0))
theorem wi_317_0 : ri (rt_P sc fm) 317 0 (.aload_n 0) (1) := ri_of (by decide +kernel) rfl
theorem wi_317_1 : ri (rt_P sc fm) 317 1 (.getfield 35) (4) := ri_of (by decide +kernel) rfl
theorem wi_317_10 : ri (rt_P sc fm) 317 10 (.aload_n 0) (11) := ri_of (by decide +kernel) rfl
theorem wi_317_11 : ri (rt_P sc fm) 317 11 (.getfield 9) (14) := ri_of (by decide +kernel) rfl
theorem wi_317_14 : ri (rt_P sc fm) 317 14 (.aload_n 0) (15) := ri_of (by decide +kernel) rfl
theorem wi_317_15 : ri (rt_P sc fm) 317 15 (.dup) (16) := ri_of (by decide +kernel) rfl
theorem wi_317_16 : ri (rt_P sc fm) 317 16 (.getfield 35) (19) := ri_of (by decide +kernel) rfl
theorem wi_317_19 : ri (rt_P sc fm) 317 19 (.dup_x1) (20) := ri_of (by decide +kernel) rfl
theorem wi_317_20 : ri (rt_P sc fm) 317 20 (.iconst 1) (21) := ri_of (by decide +kernel) rfl
theorem wi_317_21 : ri (rt_P sc fm) 317 21 (.iadd) (22) := ri_of (by decide +kernel) rfl
theorem wi_317_22 : ri (rt_P sc fm) 317 22 (.putfield 35) (25) := ri_of (by decide +kernel) rfl
theorem wi_317_25 : ri (rt_P sc fm) 317 25 (.iload_n 1) (26) := ri_of (by decide +kernel) rfl
theorem wi_317_26 : ri (rt_P sc fm) 317 26 (.i2b) (27) := ri_of (by decide +kernel) rfl
theorem wi_317_27 : ri (rt_P sc fm) 317 27 (.bastore) (28) := ri_of (by decide +kernel) rfl
theorem wi_317_28 : ri (rt_P sc fm) 317 28 (.return_) (29) := ri_of (by decide +kernel) rfl
theorem wi_317_4 : ri (rt_P sc fm) 317 4 (.sipush 8000) (7) := ri_of (by decide +kernel) rfl
theorem wi_317_7 : ri (rt_P sc fm) 317 7 (.if_icmp .ge 21) (10) := ri_of (by decide +kernel) rfl
theorem wp_317_35 : rx_pt (rt_P sc fm) 317 35 = some (12, 1, .int) := (by decide +kernel : rt_pt 317 35 = some (12, 1, .int))
theorem wr_317 : rx_rt (rt_P sc fm) 317 = none := (by decide +kernel : rt_rt 317 = none)
/-- MarkHouse$Teller.put(I)V -/
def d_317 (n : Nat) (a1 : Int32) (c : cS) : Option (cS) :=
  jn (fun p1 : cS =>
    some p1)
  (fun j28 =>
  if 8000 ≤ (c.1 172 1) then
    j28 c
  else
    lt (pI c 172 1 ((c.1 172 1) + 1)) (fun c2 =>
    if ib (c.1 172 1) 8000 then
    lt (pI c2 173 (ix (c.1 172 1)) (vp_nar .byte ((a1 : Int32).toInt8.toInt32))) (fun c5 =>
    j28 c5)
    else none))
theorem sp_317 {F Lo n : Nat} {a1 : Int32} {c y : cS} {w : cW} {K : cS → Prop} {Q : ((Option Value) ⊕ String) → List va_E → Prop} (hw : rOK fm w) (hF : 0 ≤ F) (hLo : 0 ≤ Lo)  (h : wp (d_317 n a1 c) K) (hQ : ∀ r, K r → Q (.inl none) (hq true r y w)) : rs (rt_P sc fm) 317 F Lo 0 [(0, .ref 172), (1, .int a1)] [] (hq true c y w) Q := by
  unfold d_317 at h
  obtain ⟨lv, elv⟩ : ∃ lv : rx_L, lv = [(0, .ref 172), (1, .int a1)] := ⟨_, rfl⟩
  rw [← elv]
  have l0 : rx_ld lv 0 = some (.ref 172) := by rw [elv]; rfl
  have l1 : rx_ld lv 1 = some (.int a1) := by rw [elv]; rfl
  refine rs_aldn wi_317_0 l0 ?_
  refine dq_gi wi_317_1 wf_317_35 tf_172_1 ?_
  refine rs_pure wi_317_4 rfl ?_
  refine rs_topi (v := 8000) (by decide) ?_
  refine wp_jn (B := fun p1 : cS => ∀ lv, rs (rt_P sc fm) 317 F Lo 28 lv [] (hq true p1 y w) Q) h (fun p1 h lv => ?_) (fun j28 hj28 h => ?_)
  ·
    exact rs_vret wi_317_28 wr_317 (hQ p1 h)
  refine rs_icge (tg := 28) wi_317_7 ⟨by decide, by decide⟩ (fun q => ?_) (fun q => ?_)
  ·
    have h := wp_pos h q
    exact hj28 _ h _
  ·
    have h := wp_neg h q
    refine rs_aldn wi_317_10 l0 ?_
    refine dq_gr wi_317_11 wf_317_9 tf_172_0 ?_
    refine rs_aldn wi_317_14 l0 ?_
    refine rs_pure wi_317_15 rfl ?_
    refine dq_gi wi_317_16 wf_317_35 tf_172_1 ?_
    refine rs_pure wi_317_19 rfl ?_
    refine rs_pure wi_317_20 rfl ?_
    refine rs_topi (v := 1) (by decide) ?_
    refine rs_pure wi_317_21 rfl ?_
    obtain ⟨c2, e3, h⟩ := wp_lt h
    refine dq_pi wi_317_22 wp_317_35 tf_172_1 rfl rfl e3 ?_
    refine rs_ildn wi_317_25 l1 ?_
    refine rs_pure wi_317_26 rfl ?_
    obtain ⟨g4, h⟩ := wp_gd h
    obtain ⟨c5, e6, h⟩ := wp_lt h
    refine dq_bast wi_317_27 t_173 g4 e6 ?_
    exact hj28 _ h _
theorem wa_12_317 : rz_cn 12 (rx_yn (rt_P sc fm) 317).cls = true := (by decide +kernel : rz_cn 12 (rt_yn 317).cls = true)
theorem wc_318_39 : rx_ct (rt_P sc fm) 318 39 = some (0, 317, 1) := (by decide +kernel : rt_ct 318 39 = some (0, 317, 1))
theorem wi_318_0 : ri (rt_P sc fm) 318 0 (.bipush 56) (2) := ri_of (by decide +kernel) rfl
theorem wi_318_10 : ri (rt_P sc fm) 318 10 (.l2i) (11) := ri_of (by decide +kernel) rfl
theorem wi_318_11 : ri (rt_P sc fm) 318 11 (.sipush 255) (14) := ri_of (by decide +kernel) rfl
theorem wi_318_14 : ri (rt_P sc fm) 318 14 (.iand) (15) := ri_of (by decide +kernel) rfl
theorem wi_318_15 : ri (rt_P sc fm) 318 15 (.istore 4) (17) := ri_of (by decide +kernel) rfl
theorem wi_318_17 : ri (rt_P sc fm) 318 17 (.iload 4) (19) := ri_of (by decide +kernel) rfl
theorem wi_318_19 : ri (rt_P sc fm) 318 19 (.ifCond .eq 9) (22) := ri_of (by decide +kernel) rfl
theorem wi_318_2 : ri (rt_P sc fm) 318 2 (.istore_n 3) (3) := ri_of (by decide +kernel) rfl
theorem wi_318_22 : ri (rt_P sc fm) 318 22 (.aload_n 0) (23) := ri_of (by decide +kernel) rfl
theorem wi_318_23 : ri (rt_P sc fm) 318 23 (.iload 4) (25) := ri_of (by decide +kernel) rfl
theorem wi_318_25 : ri (rt_P sc fm) 318 25 (.invokevirtual 39) (28) := ri_of (by decide +kernel) rfl
theorem wi_318_28 : ri (rt_P sc fm) 318 28 (.iinc 3 (-8)) (31) := ri_of (by decide +kernel) rfl
theorem wi_318_3 : ri (rt_P sc fm) 318 3 (.iload_n 3) (4) := ri_of (by decide +kernel) rfl
theorem wi_318_31 : ri (rt_P sc fm) 318 31 (.goto (-28)) (34) := ri_of (by decide +kernel) rfl
theorem wi_318_34 : ri (rt_P sc fm) 318 34 (.return_) (35) := ri_of (by decide +kernel) rfl
theorem wi_318_4 : ri (rt_P sc fm) 318 4 (.ifCond .lt 30) (7) := ri_of (by decide +kernel) rfl
theorem wi_318_7 : ri (rt_P sc fm) 318 7 (.lload_n 1) (8) := ri_of (by decide +kernel) rfl
theorem wi_318_8 : ri (rt_P sc fm) 318 8 (.iload_n 3) (9) := ri_of (by decide +kernel) rfl
theorem wi_318_9 : ri (rt_P sc fm) 318 9 (.lushr) (10) := ri_of (by decide +kernel) rfl
theorem wm_317 : rx_ml (rt_P sc fm) 317 = 2 := (by decide +kernel : rt_ml 317 = 2)
theorem wr_318 : rx_rt (rt_P sc fm) 318 = none := (by decide +kernel : rt_rt 318 = none)
/-- MarkHouse$Teller.putSigns(J)V -/
def d_318 (n : Nat) (a1 : Int64) (c : cS) : Option (cS) :=
  Option.bind (whl (R := (cS)) (fun s2 : Int32 × cS =>
    if s2.1 < 0 then
      some (.inr s2.2)
    else
      lt (((((a1 : Int64).toUInt64 >>> ((s2.1 : Int32).toInt64.toUInt64 &&& Int64.toUInt64 63)).toInt64 : Int64).toInt32 &&& 255) : Int32) (fun v4 =>
      jn (fun p6 : cS =>
        lt (s2.1 + (-8) : Int32) (fun v8 =>
        some (.inl (v8, p6))))
      (fun j28 =>
      if v4 = 0 then
        j28 s2.2
      else
        Option.bind (d_317 n v4 s2.2) (fun r10 =>
        j28 r10)))) n (56, c))
  (fun x11 : cS =>
    some x11)
theorem sp_318 {F Lo n : Nat} {a1 : Int64} {c y : cS} {w : cW} {K : cS → Prop} {Q : ((Option Value) ⊕ String) → List va_E → Prop} (hw : rOK fm w) (hF : 1 ≤ F) (hLo : 21 ≤ Lo)  (h : wp (d_318 n a1 c) K) (hQ : ∀ r, K r → Q (.inl none) (hq true r y w)) : rs (rt_P sc fm) 318 F Lo 0 [(0, .ref 172), (1, .long a1)] [] (hq true c y w) Q := by
  unfold d_318 at h
  obtain ⟨lv, elv⟩ : ∃ lv : rx_L, lv = [(0, .ref 172), (1, .long a1)] := ⟨_, rfl⟩
  rw [← elv]
  have l0 : rx_ld lv 0 = some (.ref 172) := by rw [elv]; rfl
  have l1 : rx_ld lv 1 = some (.long a1) := by rw [elv]; rfl
  refine rs_pure wi_318_0 rfl ?_
  refine rs_topi (v := 56) (by decide) ?_
  refine dl_istn wi_318_2 rfl (fun lv l3 t1 => ?_)
  have l0 := t1 _ _ (by decide) (Or.inl rfl) l0
  have l1 := t1 _ _ (by decide) (Or.inr (by decide)) l1
  refine whl_ex (A := fun s2 : Int32 × cS => ∀ lv, rx_ld lv 0 = some (.ref 172) → rx_ld lv 1 = some (.long a1) → rx_ld lv 3 = some (.int s2.1) → rs (rt_P sc fm) 318 F Lo 3 lv [] (hq true s2.2 y w) Q) (B := (fun x11 : cS => ∀ lv, rs (rt_P sc fm) 318 F Lo 34 lv [] (hq true x11 y w) Q)) ?_ ?_ _ _ (wp_bind h) _ l0 l1 l3
  · intro s2 h lv l0 l1 l3
    refine rs_ildn wi_318_3 l3 ?_
    refine rs_iflt (tg := 34) wi_318_4 ⟨by decide, by decide⟩ (fun q => ?_) (fun q => ?_)
    ·
      have h := wp_pos h q
      exact h _
    ·
      have h := wp_neg h q
      refine rs_lldn wi_318_7 l1 ?_
      refine rs_ildn wi_318_8 l3 ?_
      refine rs_pure wi_318_9 rfl ?_
      refine rs_pure wi_318_10 rfl ?_
      refine rs_pure wi_318_11 rfl ?_
      refine rs_topi (v := 255) (by decide) ?_
      refine rs_pure wi_318_14 rfl ?_
      obtain ⟨v4, e5, h⟩ := wp_lt h
      refine rs_topi e5 ?_
      refine dl_ist wi_318_15 rfl (fun lv l4 t3 => ?_)
      have l0 := t3 _ _ (by decide) (Or.inl rfl) l0
      have l1 := t3 _ _ (by decide) (Or.inr (by decide)) l1
      have l3 := t3 _ _ (by decide) (Or.inl rfl) l3
      refine rs_ild wi_318_17 l4 ?_
      refine wp_jn (B := fun p6 : cS => ∀ lv, rx_ld lv 0 = some (.ref 172) → rx_ld lv 1 = some (.long a1) → rx_ld lv 3 = some (.int s2.1) → rs (rt_P sc fm) 318 F Lo 28 lv [] (hq true p6 y w) Q) h (fun p6 h lv l0 l1 l3 => ?_) (fun j28 hj28 h => ?_)
      ·
        obtain ⟨v8, e9, h⟩ := wp_lt h
        refine dl_inc wi_318_28 l3 rfl e9 (fun lv l3 t7 => ?_)
        have l0 := t7 _ _ (by decide) (Or.inl rfl) l0
        have l1 := t7 _ _ (by decide) (Or.inr (by decide)) l1
        refine rs_goto (tg := 3) wi_318_31 ⟨by decide, by decide⟩ ?_
        exact h _ l0 l1 l3
      refine rs_ifeq (tg := 28) wi_318_19 ⟨by decide, by decide⟩ (fun q => ?_) (fun q => ?_)
      ·
        have h := wp_pos h q
        exact hj28 _ h _ l0 l1 l3
      ·
        have h := wp_neg h q
        refine rs_aldn wi_318_22 l0 ?_
        refine rs_ild wi_318_23 l4 ?_
        refine rs_V wi_318_25 wc_318_39 rfl (dq_isa tf_172_0 wa_12_317) (Nat.le_trans (by decide) hF) (ml_le wm_317 (Nat.le_trans (by decide) hLo)) rfl (sp_317 hw (Nat.le_trans (by decide : 0 ≤ 1 - 1) (Nat.sub_le_sub_right hF 1)) (ml_sub wm_317 (Nat.le_trans (by decide : 0 ≤ 21 - 21) (Nat.sub_le_sub_right hLo 21))) (wp_bind h) (fun r10 h => rs_back0 ?_))
        exact hj28 _ h _ l0 l1 l3
  ·
    intro x11 h lv
    exact rs_vret wi_318_34 wr_318 (hQ x11 h)
theorem wa_12_318 : rz_cn 12 (rx_yn (rt_P sc fm) 318).cls = true := (by decide +kernel : rz_cn 12 (rt_yn 318).cls = true)
theorem wc_320_39 : rx_ct (rt_P sc fm) 320 39 = some (0, 317, 1) := (by decide +kernel : rt_ct 320 39 = some (0, 317, 1))
theorem wc_320_47 : rx_ct (rt_P sc fm) 320 47 = some (0, 318, 1) := (by decide +kernel : rt_ct 320 47 = some (0, 318, 1))
theorem wf_320_35 : rx_ft (rt_P sc fm) 320 35 = some (12, 1) := (by decide +kernel : rt_ft 320 35 = some (12, 1))
theorem wi_320_0 : ri (rt_P sc fm) 320 0 (.aload_n 0) (1) := ri_of (by decide +kernel) rfl
theorem wi_320_1 : ri (rt_P sc fm) 320 1 (.getfield 35) (4) := ri_of (by decide +kernel) rfl
theorem wi_320_10 : ri (rt_P sc fm) 320 10 (.invokevirtual 39) (13) := ri_of (by decide +kernel) rfl
theorem wi_320_13 : ri (rt_P sc fm) 320 13 (.aload_n 0) (14) := ri_of (by decide +kernel) rfl
theorem wi_320_14 : ri (rt_P sc fm) 320 14 (.lload_n 1) (15) := ri_of (by decide +kernel) rfl
theorem wi_320_15 : ri (rt_P sc fm) 320 15 (.invokevirtual 47) (18) := ri_of (by decide +kernel) rfl
theorem wi_320_18 : ri (rt_P sc fm) 320 18 (.return_) (19) := ri_of (by decide +kernel) rfl
theorem wi_320_4 : ri (rt_P sc fm) 320 4 (.ifCond .le 9) (7) := ri_of (by decide +kernel) rfl
theorem wi_320_7 : ri (rt_P sc fm) 320 7 (.aload_n 0) (8) := ri_of (by decide +kernel) rfl
theorem wi_320_8 : ri (rt_P sc fm) 320 8 (.bipush 32) (10) := ri_of (by decide +kernel) rfl
theorem wm_318 : rx_ml (rt_P sc fm) 318 = 5 := (by decide +kernel : rt_ml 318 = 5)
theorem wr_320 : rx_rt (rt_P sc fm) 320 = none := (by decide +kernel : rt_rt 320 = none)
/-- MarkHouse$Teller.putName(J)V -/
def d_320 (n : Nat) (a1 : Int64) (c : cS) : Option (cS) :=
  jn (fun p1 : cS =>
    Option.bind (d_318 n a1 p1) (fun r2 =>
    some r2))
  (fun j13 =>
  if (c.1 172 1) ≤ 0 then
    j13 c
  else
    Option.bind (d_317 n 32 c) (fun r3 =>
    j13 r3))
theorem sp_320 {F Lo n : Nat} {a1 : Int64} {c y : cS} {w : cW} {K : cS → Prop} {Q : ((Option Value) ⊕ String) → List va_E → Prop} (hw : rOK fm w) (hF : 2 ≤ F) (hLo : 45 ≤ Lo)  (h : wp (d_320 n a1 c) K) (hQ : ∀ r, K r → Q (.inl none) (hq true r y w)) : rs (rt_P sc fm) 320 F Lo 0 [(0, .ref 172), (1, .long a1)] [] (hq true c y w) Q := by
  unfold d_320 at h
  obtain ⟨lv, elv⟩ : ∃ lv : rx_L, lv = [(0, .ref 172), (1, .long a1)] := ⟨_, rfl⟩
  rw [← elv]
  have l0 : rx_ld lv 0 = some (.ref 172) := by rw [elv]; rfl
  have l1 : rx_ld lv 1 = some (.long a1) := by rw [elv]; rfl
  refine rs_aldn wi_320_0 l0 ?_
  refine dq_gi wi_320_1 wf_320_35 tf_172_1 ?_
  refine wp_jn (B := fun p1 : cS => ∀ lv, rx_ld lv 0 = some (.ref 172) → rx_ld lv 1 = some (.long a1) → rs (rt_P sc fm) 320 F Lo 13 lv [] (hq true p1 y w) Q) h (fun p1 h lv l0 l1 => ?_) (fun j13 hj13 h => ?_)
  ·
    refine rs_aldn wi_320_13 l0 ?_
    refine rs_lldn wi_320_14 l1 ?_
    refine rs_V wi_320_15 wc_320_47 rfl (dq_isa tf_172_0 wa_12_318) (Nat.le_trans (by decide) hF) (ml_le wm_318 (Nat.le_trans (by decide) hLo)) rfl (sp_318 hw (Nat.le_trans (by decide : 1 ≤ 2 - 1) (Nat.sub_le_sub_right hF 1)) (ml_sub wm_318 (Nat.le_trans (by decide : 21 ≤ 45 - 24) (Nat.sub_le_sub_right hLo 24))) (wp_bind h) (fun r2 h => rs_back0 ?_))
    exact rs_vret wi_320_18 wr_320 (hQ r2 h)
  refine rs_ifle (tg := 13) wi_320_4 ⟨by decide, by decide⟩ (fun q => ?_) (fun q => ?_)
  ·
    have h := wp_pos h q
    exact hj13 _ h _ l0 l1
  ·
    have h := wp_neg h q
    refine rs_aldn wi_320_7 l0 ?_
    refine rs_pure wi_320_8 rfl ?_
    refine rs_topi (v := 32) (by decide) ?_
    refine rs_V wi_320_10 wc_320_39 rfl (dq_isa tf_172_0 wa_12_317) (Nat.le_trans (by decide) hF) (ml_le wm_317 (Nat.le_trans (by decide) hLo)) rfl (sp_317 hw (Nat.le_trans (by decide : 0 ≤ 2 - 1) (Nat.sub_le_sub_right hF 1)) (ml_sub wm_317 (Nat.le_trans (by decide : 0 ≤ 45 - 21) (Nat.sub_le_sub_right hLo 21))) (wp_bind h) (fun r3 h => rs_back0 ?_))
    exact hj13 _ h _ l0 l1
theorem tf_172_2 : fo true 172 12 2 (.ref 6) := ⟨_, rfl, rfl, by decide, by decide⟩
theorem wa_12_320 : rz_cn 12 (rx_yn (rt_P sc fm) 320).cls = true := (by decide +kernel : rz_cn 12 (rt_yn 320).cls = true)
theorem wc_321_51 : rx_ct (rt_P sc fm) 321 51 = some (0, 320, 1) := (by decide +kernel : rt_ct 321 51 = some (0, 320, 1))
theorem wf_321_15 : rx_ft (rt_P sc fm) 321 15 = some (12, 2) := (by decide +kernel : rt_ft 321 15 = some (12, 2))
theorem wi_321_0 : ri (rt_P sc fm) 321 0 (.aload_n 0) (1) := ri_of (by decide +kernel) rfl
theorem wi_321_1 : ri (rt_P sc fm) 321 1 (.aload_n 0) (2) := ri_of (by decide +kernel) rfl
theorem wi_321_10 : ri (rt_P sc fm) 321 10 (.laload) (11) := ri_of (by decide +kernel) rfl
theorem wi_321_11 : ri (rt_P sc fm) 321 11 (.invokevirtual 51) (14) := ri_of (by decide +kernel) rfl
theorem wi_321_14 : ri (rt_P sc fm) 321 14 (.return_) (15) := ri_of (by decide +kernel) rfl
theorem wi_321_2 : ri (rt_P sc fm) 321 2 (.getfield 15) (5) := ri_of (by decide +kernel) rfl
theorem wi_321_5 : ri (rt_P sc fm) 321 5 (.iload_n 1) (6) := ri_of (by decide +kernel) rfl
theorem wi_321_6 : ri (rt_P sc fm) 321 6 (.sipush 200) (9) := ri_of (by decide +kernel) rfl
theorem wi_321_9 : ri (rt_P sc fm) 321 9 (.isub) (10) := ri_of (by decide +kernel) rfl
theorem wm_320 : rx_ml (rt_P sc fm) 320 = 3 := (by decide +kernel : rt_ml 320 = 3)
theorem wr_321 : rx_rt (rt_P sc fm) 321 = none := (by decide +kernel : rt_rt 321 = none)
/-- MarkHouse$Teller.putWord(I)V -/
def d_321 (n : Nat) (a1 : Int32) (c : cS) : Option (cS) :=
  if ib (a1 - 200) 31 then
  Option.bind (d_320 n (c.2 6 (ix (a1 - 200))) c) (fun r2 =>
  some r2)
  else none
theorem sp_321 {F Lo n : Nat} {a1 : Int32} {c y : cS} {w : cW} {K : cS → Prop} {Q : ((Option Value) ⊕ String) → List va_E → Prop} (hw : rOK fm w) (hF : 3 ≤ F) (hLo : 67 ≤ Lo)  (h : wp (d_321 n a1 c) K) (hQ : ∀ r, K r → Q (.inl none) (hq true r y w)) : rs (rt_P sc fm) 321 F Lo 0 [(0, .ref 172), (1, .int a1)] [] (hq true c y w) Q := by
  unfold d_321 at h
  obtain ⟨lv, elv⟩ : ∃ lv : rx_L, lv = [(0, .ref 172), (1, .int a1)] := ⟨_, rfl⟩
  rw [← elv]
  have l0 : rx_ld lv 0 = some (.ref 172) := by rw [elv]; rfl
  have l1 : rx_ld lv 1 = some (.int a1) := by rw [elv]; rfl
  refine rs_aldn wi_321_0 l0 ?_
  refine rs_aldn wi_321_1 l0 ?_
  refine dq_gr wi_321_2 wf_321_15 tf_172_2 ?_
  refine rs_ildn wi_321_5 l1 ?_
  refine rs_pure wi_321_6 rfl ?_
  refine rs_topi (v := 200) (by decide) ?_
  refine rs_pure wi_321_9 rfl ?_
  obtain ⟨g1, h⟩ := wp_gd h
  refine dq_lald wi_321_10 t_6 g1 ?_
  refine rs_V wi_321_11 wc_321_51 rfl (dq_isa tf_172_0 wa_12_320) (Nat.le_trans (by decide) hF) (ml_le wm_320 (Nat.le_trans (by decide) hLo)) rfl (sp_320 hw (Nat.le_trans (by decide : 2 ≤ 3 - 1) (Nat.sub_le_sub_right hF 1)) (ml_sub wm_320 (Nat.le_trans (by decide : 45 ≤ 67 - 22) (Nat.sub_le_sub_right hLo 22))) (wp_bind h) (fun r2 h => rs_back0 ?_))
  exact rs_vret wi_321_14 wr_321 (hQ r2 h)
theorem wc_322_39 : rx_ct (rt_P sc fm) 322 39 = some (0, 317, 1) := (by decide +kernel : rt_ct 322 39 = some (0, 317, 1))
theorem wf_322_35 : rx_ft (rt_P sc fm) 322 35 = some (12, 1) := (by decide +kernel : rt_ft 322 35 = some (12, 1))
theorem wi_322_0 : ri (rt_P sc fm) 322 0 (.aload_n 0) (1) := ri_of (by decide +kernel) rfl
theorem wi_322_1 : ri (rt_P sc fm) 322 1 (.getfield 35) (4) := ri_of (by decide +kernel) rfl
theorem wi_322_10 : ri (rt_P sc fm) 322 10 (.invokevirtual 39) (13) := ri_of (by decide +kernel) rfl
theorem wi_322_13 : ri (rt_P sc fm) 322 13 (.aload_n 0) (14) := ri_of (by decide +kernel) rfl
theorem wi_322_14 : ri (rt_P sc fm) 322 14 (.iload_n 1) (15) := ri_of (by decide +kernel) rfl
theorem wi_322_15 : ri (rt_P sc fm) 322 15 (.invokevirtual 39) (18) := ri_of (by decide +kernel) rfl
theorem wi_322_18 : ri (rt_P sc fm) 322 18 (.return_) (19) := ri_of (by decide +kernel) rfl
theorem wi_322_4 : ri (rt_P sc fm) 322 4 (.ifCond .le 9) (7) := ri_of (by decide +kernel) rfl
theorem wi_322_7 : ri (rt_P sc fm) 322 7 (.aload_n 0) (8) := ri_of (by decide +kernel) rfl
theorem wi_322_8 : ri (rt_P sc fm) 322 8 (.bipush 32) (10) := ri_of (by decide +kernel) rfl
theorem wr_322 : rx_rt (rt_P sc fm) 322 = none := (by decide +kernel : rt_rt 322 = none)
/-- MarkHouse$Teller.putSign(C)V -/
def d_322 (n : Nat) (a1 : Int32) (c : cS) : Option (cS) :=
  jn (fun p1 : cS =>
    Option.bind (d_317 n a1 p1) (fun r2 =>
    some r2))
  (fun j13 =>
  if (c.1 172 1) ≤ 0 then
    j13 c
  else
    Option.bind (d_317 n 32 c) (fun r3 =>
    j13 r3))
theorem sp_322 {F Lo n : Nat} {a1 : Int32} {c y : cS} {w : cW} {K : cS → Prop} {Q : ((Option Value) ⊕ String) → List va_E → Prop} (hw : rOK fm w) (hF : 1 ≤ F) (hLo : 21 ≤ Lo)  (h : wp (d_322 n a1 c) K) (hQ : ∀ r, K r → Q (.inl none) (hq true r y w)) : rs (rt_P sc fm) 322 F Lo 0 [(0, .ref 172), (1, .int a1)] [] (hq true c y w) Q := by
  unfold d_322 at h
  obtain ⟨lv, elv⟩ : ∃ lv : rx_L, lv = [(0, .ref 172), (1, .int a1)] := ⟨_, rfl⟩
  rw [← elv]
  have l0 : rx_ld lv 0 = some (.ref 172) := by rw [elv]; rfl
  have l1 : rx_ld lv 1 = some (.int a1) := by rw [elv]; rfl
  refine rs_aldn wi_322_0 l0 ?_
  refine dq_gi wi_322_1 wf_322_35 tf_172_1 ?_
  refine wp_jn (B := fun p1 : cS => ∀ lv, rx_ld lv 0 = some (.ref 172) → rx_ld lv 1 = some (.int a1) → rs (rt_P sc fm) 322 F Lo 13 lv [] (hq true p1 y w) Q) h (fun p1 h lv l0 l1 => ?_) (fun j13 hj13 h => ?_)
  ·
    refine rs_aldn wi_322_13 l0 ?_
    refine rs_ildn wi_322_14 l1 ?_
    refine rs_V wi_322_15 wc_322_39 rfl (dq_isa tf_172_0 wa_12_317) (Nat.le_trans (by decide) hF) (ml_le wm_317 (Nat.le_trans (by decide) hLo)) rfl (sp_317 hw (Nat.le_trans (by decide : 0 ≤ 1 - 1) (Nat.sub_le_sub_right hF 1)) (ml_sub wm_317 (Nat.le_trans (by decide : 0 ≤ 21 - 21) (Nat.sub_le_sub_right hLo 21))) (wp_bind h) (fun r2 h => rs_back0 ?_))
    exact rs_vret wi_322_18 wr_322 (hQ r2 h)
  refine rs_ifle (tg := 13) wi_322_4 ⟨by decide, by decide⟩ (fun q => ?_) (fun q => ?_)
  ·
    have h := wp_pos h q
    exact hj13 _ h _ l0 l1
  ·
    have h := wp_neg h q
    refine rs_aldn wi_322_7 l0 ?_
    refine rs_pure wi_322_8 rfl ?_
    refine rs_topi (v := 32) (by decide) ?_
    refine rs_V wi_322_10 wc_322_39 rfl (dq_isa tf_172_0 wa_12_317) (Nat.le_trans (by decide) hF) (ml_le wm_317 (Nat.le_trans (by decide) hLo)) rfl (sp_317 hw (Nat.le_trans (by decide : 0 ≤ 1 - 1) (Nat.sub_le_sub_right hF 1)) (ml_sub wm_317 (Nat.le_trans (by decide : 0 ≤ 21 - 21) (Nat.sub_le_sub_right hLo 21))) (wp_bind h) (fun r3 h => rs_back0 ?_))
    exact hj13 _ h _ l0 l1
theorem wc_240_36 : rx_ct (rt_P sc fm) 240 36 = some (0, 237, 2) := (by decide +kernel : rt_ct 240 36 = some (0, 237, 2))
theorem wf_240_15 : rx_ft (rt_P sc fm) 240 15 = some (8, 5) := (by decide +kernel : rt_ft 240 15 = some (8, 5))
theorem wf_240_19 : rx_ft (rt_P sc fm) 240 19 = some (8, 6) := (by decide +kernel : rt_ft 240 19 = some (8, 6))
theorem wi_240_0 : ri (rt_P sc fm) 240 0 (.iload_n 1) (1) := ri_of (by decide +kernel) rfl
theorem wi_240_1 : ri (rt_P sc fm) 240 1 (.iload_n 2) (2) := ri_of (by decide +kernel) rfl
theorem wi_240_11 : ri (rt_P sc fm) 240 11 (.ifCond .eq 30) (14) := ri_of (by decide +kernel) rfl
theorem wi_240_14 : ri (rt_P sc fm) 240 14 (.aload_n 0) (15) := ri_of (by decide +kernel) rfl
theorem wi_240_15 : ri (rt_P sc fm) 240 15 (.getfield 15) (18) := ri_of (by decide +kernel) rfl
theorem wi_240_18 : ri (rt_P sc fm) 240 18 (.iload_n 1) (19) := ri_of (by decide +kernel) rfl
theorem wi_240_19 : ri (rt_P sc fm) 240 19 (.iaload) (20) := ri_of (by decide +kernel) rfl
theorem wi_240_2 : ri (rt_P sc fm) 240 2 (.if_icmp .eq 39) (5) := ri_of (by decide +kernel) rfl
theorem wi_240_20 : ri (rt_P sc fm) 240 20 (.aload_n 0) (21) := ri_of (by decide +kernel) rfl
theorem wi_240_21 : ri (rt_P sc fm) 240 21 (.getfield 19) (24) := ri_of (by decide +kernel) rfl
theorem wi_240_24 : ri (rt_P sc fm) 240 24 (.iload_n 2) (25) := ri_of (by decide +kernel) rfl
theorem wi_240_25 : ri (rt_P sc fm) 240 25 (.iaload) (26) := ri_of (by decide +kernel) rfl
theorem wi_240_26 : ri (rt_P sc fm) 240 26 (.iand) (27) := ri_of (by decide +kernel) rfl
theorem wi_240_27 : ri (rt_P sc fm) 240 27 (.iconst 1) (28) := ri_of (by decide +kernel) rfl
theorem wi_240_28 : ri (rt_P sc fm) 240 28 (.iload_n 1) (29) := ri_of (by decide +kernel) rfl
theorem wi_240_29 : ri (rt_P sc fm) 240 29 (.ishl) (30) := ri_of (by decide +kernel) rfl
theorem wi_240_30 : ri (rt_P sc fm) 240 30 (.iconst 1) (31) := ri_of (by decide +kernel) rfl
theorem wi_240_31 : ri (rt_P sc fm) 240 31 (.iload_n 2) (32) := ri_of (by decide +kernel) rfl
theorem wi_240_32 : ri (rt_P sc fm) 240 32 (.ishl) (33) := ri_of (by decide +kernel) rfl
theorem wi_240_33 : ri (rt_P sc fm) 240 33 (.ior) (34) := ri_of (by decide +kernel) rfl
theorem wi_240_34 : ri (rt_P sc fm) 240 34 (.if_icmp .ne 7) (37) := ri_of (by decide +kernel) rfl
theorem wi_240_37 : ri (rt_P sc fm) 240 37 (.iconst 1) (38) := ri_of (by decide +kernel) rfl
theorem wi_240_38 : ri (rt_P sc fm) 240 38 (.goto 4) (41) := ri_of (by decide +kernel) rfl
theorem wi_240_41 : ri (rt_P sc fm) 240 41 (.iconst 0) (42) := ri_of (by decide +kernel) rfl
theorem wi_240_42 : ri (rt_P sc fm) 240 42 (.ireturn) (43) := ri_of (by decide +kernel) rfl
theorem wi_240_5 : ri (rt_P sc fm) 240 5 (.aload_n 0) (6) := ri_of (by decide +kernel) rfl
theorem wi_240_6 : ri (rt_P sc fm) 240 6 (.iload_n 1) (7) := ri_of (by decide +kernel) rfl
theorem wi_240_7 : ri (rt_P sc fm) 240 7 (.iload_n 2) (8) := ri_of (by decide +kernel) rfl
theorem wi_240_8 : ri (rt_P sc fm) 240 8 (.invokevirtual 36) (11) := ri_of (by decide +kernel) rfl
theorem wr_240 : rx_rt (rt_P sc fm) 240 = (some FieldType.boolean) := (by decide +kernel : rt_rt 240 = (some FieldType.boolean))
/-- MarkHouse$Order.isNextBelow(II)Z -/
def d_240 (n : Nat) (o0 : Nat) (a1 : Int32) (a2 : Int32) (c : cS) : Option (Int32) :=
  jn (fun p1 : Int32 =>
    if nb p1 then
    some p1
    else none)
  (fun j42 =>
  jn (fun p3 : Unit =>
    j42 0)
  (fun j41 =>
  if a1 = a2 then
    j41 ()
  else
    Option.bind (d_237 n o0 a1 a2 c) (fun v4 =>
    if v4 = 0 then
      j41 ()
    else
      if ib a1 12 then
      if ib a2 12 then
      if ((c.1 (oA o0 + 2) (ix a1)) &&& (c.1 (oA o0 + 3) (ix a2))) = ((1 <<< (a1 &&& 31)) ||| (1 <<< (a2 &&& 31))) then
        j42 1
      else
        j41 ()
      else none
      else none)))
theorem sp_240 {F Lo n : Nat} {o0 : Nat} {a1 : Int32} {a2 : Int32} {c y : cS} {w : cW} {K : Int32 → Prop} {Q : ((Option Value) ⊕ String) → List va_E → Prop} (hw : rOK fm w) (hF : 1 ≤ F) (hLo : 22 ≤ Lo) (ho0 : o0 < 4) (h : wp (d_240 n o0 a1 a2 c) K) (hQ : ∀ r, K r → Q (.inl (some (.int r))) (hq true c y w)) : rs (rt_P sc fm) 240 F Lo 0 [(0, .ref (oA o0)), (1, .int a1), (2, .int a2)] [] (hq true c y w) Q := by
  unfold d_240 at h
  obtain ⟨lv, elv⟩ : ∃ lv : rx_L, lv = [(0, .ref (oA o0)), (1, .int a1), (2, .int a2)] := ⟨_, rfl⟩
  rw [← elv]
  have l0 : rx_ld lv 0 = some (.ref (oA o0)) := by rw [elv]; rfl
  have l1 : rx_ld lv 1 = some (.int a1) := by rw [elv]; rfl
  have l2 : rx_ld lv 2 = some (.int a2) := by rw [elv]; rfl
  refine rs_ildn wi_240_0 l1 ?_
  refine rs_ildn wi_240_1 l2 ?_
  refine wp_jn (B := fun p1 : Int32 => ∀ lv, rs (rt_P sc fm) 240 F Lo 42 lv [.int p1] (hq true c y w) Q) h (fun p1 h lv => ?_) (fun j42 hj42 h => ?_)
  ·
    obtain ⟨g2, h⟩ := wp_gd h
    exact rs_iret wi_240_42 wr_240 (nb_n g2) (hQ p1 h)
  refine wp_jn (B := fun p3 : Unit => ∀ lv, rs (rt_P sc fm) 240 F Lo 41 lv [] (hq true c y w) Q) h (fun p3 h lv => ?_) (fun j41 hj41 h => ?_)
  ·
    refine rs_pure wi_240_41 rfl ?_
    refine rs_topi (v := 0) (by decide) ?_
    exact hj42 _ h _
  refine rs_iceq (tg := 41) wi_240_2 ⟨by decide, by decide⟩ (fun q => ?_) (fun q => ?_)
  ·
    have h := wp_pos h q
    exact hj41 _ h _
  ·
    have h := wp_neg h q
    refine rs_aldn wi_240_5 l0 ?_
    refine rs_ildn wi_240_6 l1 ?_
    refine rs_ildn wi_240_7 l2 ?_
    refine rs_V wi_240_8 wc_240_36 rfl (dq_isa (fO_0 ho0) wa_8_237) (Nat.le_trans (by decide) hF) (ml_le wm_237 (Nat.le_trans (by decide) hLo)) rfl (sp_237 hw (Nat.le_trans (by decide : 0 ≤ 1 - 1) (Nat.sub_le_sub_right hF 1)) (ml_sub wm_237 (Nat.le_trans (by decide : 0 ≤ 22 - 22) (Nat.sub_le_sub_right hLo 22))) ho0 (wp_bind h) (fun v4 h => rs_back1 ?_))
    refine rs_ifeq (tg := 41) wi_240_11 ⟨by decide, by decide⟩ (fun q => ?_) (fun q => ?_)
    ·
      have h := wp_pos h q
      exact hj41 _ h _
    ·
      have h := wp_neg h q
      refine rs_aldn wi_240_14 l0 ?_
      refine dq_gr wi_240_15 wf_240_15 (fO_5 ho0) ?_
      refine rs_ildn wi_240_18 l1 ?_
      obtain ⟨g5, h⟩ := wp_gd h
      refine dq_iald wi_240_19 (tO_2 ho0) g5 ?_
      refine rs_aldn wi_240_20 l0 ?_
      refine dq_gr wi_240_21 wf_240_19 (fO_6 ho0) ?_
      refine rs_ildn wi_240_24 l2 ?_
      obtain ⟨g6, h⟩ := wp_gd h
      refine dq_iald wi_240_25 (tO_3 ho0) g6 ?_
      refine rs_pure wi_240_26 rfl ?_
      refine rs_pure wi_240_27 rfl ?_
      refine rs_topi (v := 1) (by decide) ?_
      refine rs_ildn wi_240_28 l1 ?_
      refine rs_pure wi_240_29 rfl ?_
      refine rs_pure wi_240_30 rfl ?_
      refine rs_topi (v := 1) (by decide) ?_
      refine rs_ildn wi_240_31 l2 ?_
      refine rs_pure wi_240_32 rfl ?_
      refine rs_pure wi_240_33 rfl ?_
      refine rs_icne (tg := 41) wi_240_34 ⟨by decide, by decide⟩ (fun q => ?_) (fun q => ?_)
      ·
        have h := wp_neg h q
        exact hj41 _ h _
      ·
        have h := wp_pos h q
        refine rs_pure wi_240_37 rfl ?_
        refine rs_topi (v := 1) (by decide) ?_
        refine rs_goto (tg := 42) wi_240_38 ⟨by decide, by decide⟩ ?_
        exact hj42 _ h _
theorem wa_12_321 : rz_cn 12 (rx_yn (rt_P sc fm) 321).cls = true := (by decide +kernel : rz_cn 12 (rt_yn 321).cls = true)
theorem wa_12_322 : rz_cn 12 (rx_yn (rt_P sc fm) 322).cls = true := (by decide +kernel : rz_cn 12 (rt_yn 322).cls = true)
theorem wa_8_240 : rz_cn 8 (rx_yn (rt_P sc fm) 240).cls = true := (by decide +kernel : rz_cn 8 (rt_yn 240).cls = true)
theorem wc_325_140 : rx_ct (rt_P sc fm) 325 140 = some (0, 240, 2) := (by decide +kernel : rt_ct 325 140 = some (0, 240, 2))
theorem wc_325_51 : rx_ct (rt_P sc fm) 325 51 = some (0, 320, 1) := (by decide +kernel : rt_ct 325 51 = some (0, 320, 1))
theorem wc_325_54 : rx_ct (rt_P sc fm) 325 54 = some (0, 322, 1) := (by decide +kernel : rt_ct 325 54 = some (0, 322, 1))
theorem wc_325_88 : rx_ct (rt_P sc fm) 325 88 = some (0, 321, 1) := (by decide +kernel : rt_ct 325 88 = some (0, 321, 1))
theorem wf_325_131 : rx_ft (rt_P sc fm) 325 131 = some (8, 0) := (by decide +kernel : rt_ft 325 131 = some (8, 0))
theorem wf_325_134 : rx_ft (rt_P sc fm) 325 134 = some (8, 1) := (by decide +kernel : rt_ft 325 134 = some (8, 1))
theorem wf_325_137 : rx_ft (rt_P sc fm) 325 137 = some (8, 4) := (by decide +kernel : rt_ft 325 137 = some (8, 4))
theorem wi_325_0 : ri (rt_P sc fm) 325 0 (.aload_n 0) (1) := ri_of (by decide +kernel) rfl
theorem wi_325_1 : ri (rt_P sc fm) 325 1 (.sipush 200) (4) := ri_of (by decide +kernel) rfl
theorem wi_325_101 : ri (rt_P sc fm) 325 101 (.aload_n 0) (102) := ri_of (by decide +kernel) rfl
theorem wi_325_102 : ri (rt_P sc fm) 325 102 (.bipush 60) (104) := ri_of (by decide +kernel) rfl
theorem wi_325_104 : ri (rt_P sc fm) 325 104 (.invokevirtual 54) (107) := ri_of (by decide +kernel) rfl
theorem wi_325_107 : ri (rt_P sc fm) 325 107 (.aload_n 0) (108) := ri_of (by decide +kernel) rfl
theorem wi_325_108 : ri (rt_P sc fm) 325 108 (.aload_n 1) (109) := ri_of (by decide +kernel) rfl
theorem wi_325_109 : ri (rt_P sc fm) 325 109 (.getfield 137) (112) := ri_of (by decide +kernel) rfl
theorem wi_325_112 : ri (rt_P sc fm) 325 112 (.iload_n 3) (113) := ri_of (by decide +kernel) rfl
theorem wi_325_113 : ri (rt_P sc fm) 325 113 (.laload) (114) := ri_of (by decide +kernel) rfl
theorem wi_325_114 : ri (rt_P sc fm) 325 114 (.invokevirtual 51) (117) := ri_of (by decide +kernel) rfl
theorem wi_325_117 : ri (rt_P sc fm) 325 117 (.iinc 3 1) (120) := ri_of (by decide +kernel) rfl
theorem wi_325_12 : ri (rt_P sc fm) 325 12 (.invokevirtual 51) (15) := ri_of (by decide +kernel) rfl
theorem wi_325_120 : ri (rt_P sc fm) 325 120 (.goto (-52)) (123) := ri_of (by decide +kernel) rfl
theorem wi_325_123 : ri (rt_P sc fm) 325 123 (.iinc 2 1) (126) := ri_of (by decide +kernel) rfl
theorem wi_325_126 : ri (rt_P sc fm) 325 126 (.goto (-68)) (129) := ri_of (by decide +kernel) rfl
theorem wi_325_129 : ri (rt_P sc fm) 325 129 (.aload_n 0) (130) := ri_of (by decide +kernel) rfl
theorem wi_325_130 : ri (rt_P sc fm) 325 130 (.bipush 59) (132) := ri_of (by decide +kernel) rfl
theorem wi_325_132 : ri (rt_P sc fm) 325 132 (.invokevirtual 54) (135) := ri_of (by decide +kernel) rfl
theorem wi_325_135 : ri (rt_P sc fm) 325 135 (.return_) (136) := ri_of (by decide +kernel) rfl
theorem wi_325_15 : ri (rt_P sc fm) 325 15 (.iconst 0) (16) := ri_of (by decide +kernel) rfl
theorem wi_325_16 : ri (rt_P sc fm) 325 16 (.istore_n 2) (17) := ri_of (by decide +kernel) rfl
theorem wi_325_17 : ri (rt_P sc fm) 325 17 (.iload_n 2) (18) := ri_of (by decide +kernel) rfl
theorem wi_325_18 : ri (rt_P sc fm) 325 18 (.aload_n 1) (19) := ri_of (by decide +kernel) rfl
theorem wi_325_19 : ri (rt_P sc fm) 325 19 (.getfield 134) (22) := ri_of (by decide +kernel) rfl
theorem wi_325_22 : ri (rt_P sc fm) 325 22 (.if_icmp .ge 34) (25) := ri_of (by decide +kernel) rfl
theorem wi_325_25 : ri (rt_P sc fm) 325 25 (.aload_n 0) (26) := ri_of (by decide +kernel) rfl
theorem wi_325_26 : ri (rt_P sc fm) 325 26 (.iload_n 2) (27) := ri_of (by decide +kernel) rfl
theorem wi_325_27 : ri (rt_P sc fm) 325 27 (.ifCond .ne 8) (30) := ri_of (by decide +kernel) rfl
theorem wi_325_30 : ri (rt_P sc fm) 325 30 (.bipush 58) (32) := ri_of (by decide +kernel) rfl
theorem wi_325_32 : ri (rt_P sc fm) 325 32 (.goto 5) (35) := ri_of (by decide +kernel) rfl
theorem wi_325_35 : ri (rt_P sc fm) 325 35 (.bipush 44) (37) := ri_of (by decide +kernel) rfl
theorem wi_325_37 : ri (rt_P sc fm) 325 37 (.invokevirtual 54) (40) := ri_of (by decide +kernel) rfl
theorem wi_325_4 : ri (rt_P sc fm) 325 4 (.invokevirtual 88) (7) := ri_of (by decide +kernel) rfl
theorem wi_325_40 : ri (rt_P sc fm) 325 40 (.aload_n 0) (41) := ri_of (by decide +kernel) rfl
theorem wi_325_41 : ri (rt_P sc fm) 325 41 (.aload_n 1) (42) := ri_of (by decide +kernel) rfl
theorem wi_325_42 : ri (rt_P sc fm) 325 42 (.getfield 137) (45) := ri_of (by decide +kernel) rfl
theorem wi_325_45 : ri (rt_P sc fm) 325 45 (.iload_n 2) (46) := ri_of (by decide +kernel) rfl
theorem wi_325_46 : ri (rt_P sc fm) 325 46 (.laload) (47) := ri_of (by decide +kernel) rfl
theorem wi_325_47 : ri (rt_P sc fm) 325 47 (.invokevirtual 51) (50) := ri_of (by decide +kernel) rfl
theorem wi_325_50 : ri (rt_P sc fm) 325 50 (.iinc 2 1) (53) := ri_of (by decide +kernel) rfl
theorem wi_325_53 : ri (rt_P sc fm) 325 53 (.goto (-36)) (56) := ri_of (by decide +kernel) rfl
theorem wi_325_56 : ri (rt_P sc fm) 325 56 (.iconst 0) (57) := ri_of (by decide +kernel) rfl
theorem wi_325_57 : ri (rt_P sc fm) 325 57 (.istore_n 2) (58) := ri_of (by decide +kernel) rfl
theorem wi_325_58 : ri (rt_P sc fm) 325 58 (.iload_n 2) (59) := ri_of (by decide +kernel) rfl
theorem wi_325_59 : ri (rt_P sc fm) 325 59 (.aload_n 1) (60) := ri_of (by decide +kernel) rfl
theorem wi_325_60 : ri (rt_P sc fm) 325 60 (.getfield 134) (63) := ri_of (by decide +kernel) rfl
theorem wi_325_63 : ri (rt_P sc fm) 325 63 (.if_icmp .ge 66) (66) := ri_of (by decide +kernel) rfl
theorem wi_325_66 : ri (rt_P sc fm) 325 66 (.iconst 0) (67) := ri_of (by decide +kernel) rfl
theorem wi_325_67 : ri (rt_P sc fm) 325 67 (.istore_n 3) (68) := ri_of (by decide +kernel) rfl
theorem wi_325_68 : ri (rt_P sc fm) 325 68 (.iload_n 3) (69) := ri_of (by decide +kernel) rfl
theorem wi_325_69 : ri (rt_P sc fm) 325 69 (.aload_n 1) (70) := ri_of (by decide +kernel) rfl
theorem wi_325_7 : ri (rt_P sc fm) 325 7 (.aload_n 0) (8) := ri_of (by decide +kernel) rfl
theorem wi_325_70 : ri (rt_P sc fm) 325 70 (.getfield 134) (73) := ri_of (by decide +kernel) rfl
theorem wi_325_73 : ri (rt_P sc fm) 325 73 (.if_icmp .ge 50) (76) := ri_of (by decide +kernel) rfl
theorem wi_325_76 : ri (rt_P sc fm) 325 76 (.aload_n 1) (77) := ri_of (by decide +kernel) rfl
theorem wi_325_77 : ri (rt_P sc fm) 325 77 (.iload_n 2) (78) := ri_of (by decide +kernel) rfl
theorem wi_325_78 : ri (rt_P sc fm) 325 78 (.iload_n 3) (79) := ri_of (by decide +kernel) rfl
theorem wi_325_79 : ri (rt_P sc fm) 325 79 (.invokevirtual 140) (82) := ri_of (by decide +kernel) rfl
theorem wi_325_8 : ri (rt_P sc fm) 325 8 (.aload_n 1) (9) := ri_of (by decide +kernel) rfl
theorem wi_325_82 : ri (rt_P sc fm) 325 82 (.ifCond .eq 35) (85) := ri_of (by decide +kernel) rfl
theorem wi_325_85 : ri (rt_P sc fm) 325 85 (.aload_n 0) (86) := ri_of (by decide +kernel) rfl
theorem wi_325_86 : ri (rt_P sc fm) 325 86 (.bipush 44) (88) := ri_of (by decide +kernel) rfl
theorem wi_325_88 : ri (rt_P sc fm) 325 88 (.invokevirtual 54) (91) := ri_of (by decide +kernel) rfl
theorem wi_325_9 : ri (rt_P sc fm) 325 9 (.getfield 131) (12) := ri_of (by decide +kernel) rfl
theorem wi_325_91 : ri (rt_P sc fm) 325 91 (.aload_n 0) (92) := ri_of (by decide +kernel) rfl
theorem wi_325_92 : ri (rt_P sc fm) 325 92 (.aload_n 1) (93) := ri_of (by decide +kernel) rfl
theorem wi_325_93 : ri (rt_P sc fm) 325 93 (.getfield 137) (96) := ri_of (by decide +kernel) rfl
theorem wi_325_96 : ri (rt_P sc fm) 325 96 (.iload_n 2) (97) := ri_of (by decide +kernel) rfl
theorem wi_325_97 : ri (rt_P sc fm) 325 97 (.laload) (98) := ri_of (by decide +kernel) rfl
theorem wi_325_98 : ri (rt_P sc fm) 325 98 (.invokevirtual 51) (101) := ri_of (by decide +kernel) rfl
theorem wm_240 : rx_ml (rt_P sc fm) 240 = 3 := (by decide +kernel : rt_ml 240 = 3)
theorem wm_321 : rx_ml (rt_P sc fm) 321 = 2 := (by decide +kernel : rt_ml 321 = 2)
theorem wm_322 : rx_ml (rt_P sc fm) 322 = 2 := (by decide +kernel : rt_ml 322 = 2)
theorem wr_325 : rx_rt (rt_P sc fm) 325 = none := (by decide +kernel : rt_rt 325 = none)
/-- MarkHouse$Teller.writeOrder(LMarkHouse$Order;)V -/
def d_325 (n : Nat) (o1 : Nat) (c : cS) : Option (cS) :=
  Option.bind (d_321 n 200 c) (fun r1 =>
  Option.bind (d_320 n (r1.2 (oA o1) 0) r1) (fun r2 =>
  Option.bind (whl (R := (cS)) (fun s4 : Int32 × cS =>
    if (s4.2.1 (oA o1) 1) ≤ s4.1 then
      some (.inr s4.2)
    else
      jn (fun p5 : Int32 =>
        Option.bind (d_322 n p5 s4.2) (fun r6 =>
        if ib s4.1 12 then
        Option.bind (d_320 n (r6.2 (oA o1 + 1) (ix s4.1)) r6) (fun r8 =>
        lt (s4.1 + 1 : Int32) (fun v10 =>
        some (.inl (v10, r8))))
        else none))
      (fun j37 =>
      if s4.1 = 0 then
        j37 58
      else
        j37 44)) n (0, r2))
  (fun x12 : cS =>
    Option.bind (whl (R := (cS)) (fun s14 : Int32 × cS =>
      if (s14.2.1 (oA o1) 1) ≤ s14.1 then
        some (.inr s14.2)
      else
        Option.bind (whl (R := (cS)) (fun s16 : Int32 × cS =>
          if (s16.2.1 (oA o1) 1) ≤ s16.1 then
            some (.inr s16.2)
          else
            Option.bind (d_240 n o1 s14.1 s16.1 s16.2) (fun v17 =>
            jn (fun p18 : cS =>
              lt (s16.1 + 1 : Int32) (fun v20 =>
              some (.inl (v20, p18))))
            (fun j117 =>
            if v17 = 0 then
              j117 s16.2
            else
              Option.bind (d_322 n 44 s16.2) (fun r22 =>
              if ib s14.1 12 then
              Option.bind (d_320 n (r22.2 (oA o1 + 1) (ix s14.1)) r22) (fun r24 =>
              Option.bind (d_322 n 60 r24) (fun r25 =>
              if ib s16.1 12 then
              Option.bind (d_320 n (r25.2 (oA o1 + 1) (ix s16.1)) r25) (fun r27 =>
              j117 r27)
              else none))
              else none)))) n (0, s14.2))
        (fun x28 : cS =>
          lt (s14.1 + 1 : Int32) (fun v30 =>
          some (.inl (v30, x28))))) n (0, x12))
    (fun x32 : cS =>
      Option.bind (d_322 n 59 x32) (fun r33 =>
      some r33)))))
theorem sp_325 {F Lo n : Nat} {o1 : Nat} {c y : cS} {w : cW} {K : cS → Prop} {Q : ((Option Value) ⊕ String) → List va_E → Prop} (hw : rOK fm w) (hF : 4 ≤ F) (hLo : 88 ≤ Lo) (ho1 : o1 < 4) (h : wp (d_325 n o1 c) K) (hQ : ∀ r, K r → Q (.inl none) (hq true r y w)) : rs (rt_P sc fm) 325 F Lo 0 [(0, .ref 172), (1, .ref (oA o1))] [] (hq true c y w) Q := by
  unfold d_325 at h
  obtain ⟨lv, elv⟩ : ∃ lv : rx_L, lv = [(0, .ref 172), (1, .ref (oA o1))] := ⟨_, rfl⟩
  rw [← elv]
  have l0 : rx_ld lv 0 = some (.ref 172) := by rw [elv]; rfl
  have l1 : rx_ld lv 1 = some (.ref (oA o1)) := by rw [elv]; rfl
  refine rs_aldn wi_325_0 l0 ?_
  refine rs_pure wi_325_1 rfl ?_
  refine rs_topi (v := 200) (by decide) ?_
  refine rs_V wi_325_4 wc_325_88 rfl (dq_isa tf_172_0 wa_12_321) (Nat.le_trans (by decide) hF) (ml_le wm_321 (Nat.le_trans (by decide) hLo)) rfl (sp_321 hw (Nat.le_trans (by decide : 3 ≤ 4 - 1) (Nat.sub_le_sub_right hF 1)) (ml_sub wm_321 (Nat.le_trans (by decide : 67 ≤ 88 - 21) (Nat.sub_le_sub_right hLo 21))) (wp_bind h) (fun r1 h => rs_back0 ?_))
  refine rs_aldn wi_325_7 l0 ?_
  refine rs_aldn wi_325_8 l1 ?_
  refine dq_gl wi_325_9 wf_325_131 (fO_0 ho1) ?_
  refine rs_V wi_325_12 wc_325_51 rfl (dq_isa tf_172_0 wa_12_320) (Nat.le_trans (by decide) hF) (ml_le wm_320 (Nat.le_trans (by decide) hLo)) rfl (sp_320 hw (Nat.le_trans (by decide : 2 ≤ 4 - 1) (Nat.sub_le_sub_right hF 1)) (ml_sub wm_320 (Nat.le_trans (by decide : 45 ≤ 88 - 22) (Nat.sub_le_sub_right hLo 22))) (wp_bind h) (fun r2 h => rs_back0 ?_))
  refine rs_pure wi_325_15 rfl ?_
  refine rs_topi (v := 0) (by decide) ?_
  refine dl_istn wi_325_16 rfl (fun lv l2 t3 => ?_)
  have l0 := t3 _ _ (by decide) (Or.inl rfl) l0
  have l1 := t3 _ _ (by decide) (Or.inl rfl) l1
  refine whl_ex (A := fun s4 : Int32 × cS => ∀ lv, rx_ld lv 0 = some (.ref 172) → rx_ld lv 1 = some (.ref (oA o1)) → rx_ld lv 2 = some (.int s4.1) → rs (rt_P sc fm) 325 F Lo 17 lv [] (hq true s4.2 y w) Q) (B := (fun x12 : cS => ∀ lv, rx_ld lv 0 = some (.ref 172) → rx_ld lv 1 = some (.ref (oA o1)) → rs (rt_P sc fm) 325 F Lo 56 lv [] (hq true x12 y w) Q)) ?_ ?_ _ _ (wp_bind h) _ l0 l1 l2
  · intro s4 h lv l0 l1 l2
    refine rs_ildn wi_325_17 l2 ?_
    refine rs_aldn wi_325_18 l1 ?_
    refine dq_gi wi_325_19 wf_325_134 (fO_1 ho1) ?_
    refine rs_icge (tg := 56) wi_325_22 ⟨by decide, by decide⟩ (fun q => ?_) (fun q => ?_)
    ·
      have h := wp_pos h q
      exact h _ l0 l1
    ·
      have h := wp_neg h q
      refine rs_aldn wi_325_25 l0 ?_
      refine rs_ildn wi_325_26 l2 ?_
      refine wp_jn (B := fun p5 : Int32 => ∀ lv, rx_ld lv 0 = some (.ref 172) → rx_ld lv 1 = some (.ref (oA o1)) → rx_ld lv 2 = some (.int s4.1) → rs (rt_P sc fm) 325 F Lo 37 lv [.int p5, .ref 172] (hq true s4.2 y w) Q) h (fun p5 h lv l0 l1 l2 => ?_) (fun j37 hj37 h => ?_)
      ·
        refine rs_V wi_325_37 wc_325_54 rfl (dq_isa tf_172_0 wa_12_322) (Nat.le_trans (by decide) hF) (ml_le wm_322 (Nat.le_trans (by decide) hLo)) rfl (sp_322 hw (Nat.le_trans (by decide : 1 ≤ 4 - 1) (Nat.sub_le_sub_right hF 1)) (ml_sub wm_322 (Nat.le_trans (by decide : 21 ≤ 88 - 21) (Nat.sub_le_sub_right hLo 21))) (wp_bind h) (fun r6 h => rs_back0 ?_))
        refine rs_aldn wi_325_40 l0 ?_
        refine rs_aldn wi_325_41 l1 ?_
        refine dq_gr wi_325_42 wf_325_137 (fO_4 ho1) ?_
        refine rs_ildn wi_325_45 l2 ?_
        obtain ⟨g7, h⟩ := wp_gd h
        refine dq_lald wi_325_46 (tO_1 ho1) g7 ?_
        refine rs_V wi_325_47 wc_325_51 rfl (dq_isa tf_172_0 wa_12_320) (Nat.le_trans (by decide) hF) (ml_le wm_320 (Nat.le_trans (by decide) hLo)) rfl (sp_320 hw (Nat.le_trans (by decide : 2 ≤ 4 - 1) (Nat.sub_le_sub_right hF 1)) (ml_sub wm_320 (Nat.le_trans (by decide : 45 ≤ 88 - 22) (Nat.sub_le_sub_right hLo 22))) (wp_bind h) (fun r8 h => rs_back0 ?_))
        obtain ⟨v10, e11, h⟩ := wp_lt h
        refine dl_inc wi_325_50 l2 rfl e11 (fun lv l2 t9 => ?_)
        have l0 := t9 _ _ (by decide) (Or.inl rfl) l0
        have l1 := t9 _ _ (by decide) (Or.inl rfl) l1
        refine rs_goto (tg := 17) wi_325_53 ⟨by decide, by decide⟩ ?_
        exact h _ l0 l1 l2
      refine rs_ifne (tg := 35) wi_325_27 ⟨by decide, by decide⟩ (fun q => ?_) (fun q => ?_)
      ·
        have h := wp_neg h q
        refine rs_pure wi_325_35 rfl ?_
        refine rs_topi (v := 44) (by decide) ?_
        exact hj37 _ h _ l0 l1 l2
      ·
        have h := wp_pos h q
        refine rs_pure wi_325_30 rfl ?_
        refine rs_topi (v := 58) (by decide) ?_
        refine rs_goto (tg := 37) wi_325_32 ⟨by decide, by decide⟩ ?_
        exact hj37 _ h _ l0 l1 l2
  ·
    intro x12 h lv l0 l1
    refine rs_pure wi_325_56 rfl ?_
    refine rs_topi (v := 0) (by decide) ?_
    refine dl_istn wi_325_57 rfl (fun lv l2 t13 => ?_)
    have l0 := t13 _ _ (by decide) (Or.inl rfl) l0
    have l1 := t13 _ _ (by decide) (Or.inl rfl) l1
    refine whl_ex (A := fun s14 : Int32 × cS => ∀ lv, rx_ld lv 0 = some (.ref 172) → rx_ld lv 1 = some (.ref (oA o1)) → rx_ld lv 2 = some (.int s14.1) → rs (rt_P sc fm) 325 F Lo 58 lv [] (hq true s14.2 y w) Q) (B := (fun x32 : cS => ∀ lv, rx_ld lv 0 = some (.ref 172) → rs (rt_P sc fm) 325 F Lo 129 lv [] (hq true x32 y w) Q)) ?_ ?_ _ _ (wp_bind h) _ l0 l1 l2
    · intro s14 h lv l0 l1 l2
      refine rs_ildn wi_325_58 l2 ?_
      refine rs_aldn wi_325_59 l1 ?_
      refine dq_gi wi_325_60 wf_325_134 (fO_1 ho1) ?_
      refine rs_icge (tg := 129) wi_325_63 ⟨by decide, by decide⟩ (fun q => ?_) (fun q => ?_)
      ·
        have h := wp_pos h q
        exact h _ l0
      ·
        have h := wp_neg h q
        refine rs_pure wi_325_66 rfl ?_
        refine rs_topi (v := 0) (by decide) ?_
        refine dl_istn wi_325_67 rfl (fun lv l3 t15 => ?_)
        have l0 := t15 _ _ (by decide) (Or.inl rfl) l0
        have l1 := t15 _ _ (by decide) (Or.inl rfl) l1
        have l2 := t15 _ _ (by decide) (Or.inl rfl) l2
        refine whl_ex (A := fun s16 : Int32 × cS => ∀ lv, rx_ld lv 0 = some (.ref 172) → rx_ld lv 1 = some (.ref (oA o1)) → rx_ld lv 2 = some (.int s14.1) → rx_ld lv 3 = some (.int s16.1) → rs (rt_P sc fm) 325 F Lo 68 lv [] (hq true s16.2 y w) Q) (B := (fun x28 : cS => ∀ lv, rx_ld lv 0 = some (.ref 172) → rx_ld lv 1 = some (.ref (oA o1)) → rx_ld lv 2 = some (.int s14.1) → rs (rt_P sc fm) 325 F Lo 123 lv [] (hq true x28 y w) Q)) ?_ ?_ _ _ (wp_bind h) _ l0 l1 l2 l3
        · intro s16 h lv l0 l1 l2 l3
          refine rs_ildn wi_325_68 l3 ?_
          refine rs_aldn wi_325_69 l1 ?_
          refine dq_gi wi_325_70 wf_325_134 (fO_1 ho1) ?_
          refine rs_icge (tg := 123) wi_325_73 ⟨by decide, by decide⟩ (fun q => ?_) (fun q => ?_)
          ·
            have h := wp_pos h q
            exact h _ l0 l1 l2
          ·
            have h := wp_neg h q
            refine rs_aldn wi_325_76 l1 ?_
            refine rs_ildn wi_325_77 l2 ?_
            refine rs_ildn wi_325_78 l3 ?_
            refine rs_V wi_325_79 wc_325_140 rfl (dq_isa (fO_0 ho1) wa_8_240) (Nat.le_trans (by decide) hF) (ml_le wm_240 (Nat.le_trans (by decide) hLo)) rfl (sp_240 hw (Nat.le_trans (by decide : 1 ≤ 4 - 1) (Nat.sub_le_sub_right hF 1)) (ml_sub wm_240 (Nat.le_trans (by decide : 22 ≤ 88 - 22) (Nat.sub_le_sub_right hLo 22))) ho1 (wp_bind h) (fun v17 h => rs_back1 ?_))
            refine wp_jn (B := fun p18 : cS => ∀ lv, rx_ld lv 0 = some (.ref 172) → rx_ld lv 1 = some (.ref (oA o1)) → rx_ld lv 2 = some (.int s14.1) → rx_ld lv 3 = some (.int s16.1) → rs (rt_P sc fm) 325 F Lo 117 lv [] (hq true p18 y w) Q) h (fun p18 h lv l0 l1 l2 l3 => ?_) (fun j117 hj117 h => ?_)
            ·
              obtain ⟨v20, e21, h⟩ := wp_lt h
              refine dl_inc wi_325_117 l3 rfl e21 (fun lv l3 t19 => ?_)
              have l0 := t19 _ _ (by decide) (Or.inl rfl) l0
              have l1 := t19 _ _ (by decide) (Or.inl rfl) l1
              have l2 := t19 _ _ (by decide) (Or.inl rfl) l2
              refine rs_goto (tg := 68) wi_325_120 ⟨by decide, by decide⟩ ?_
              exact h _ l0 l1 l2 l3
            refine rs_ifeq (tg := 117) wi_325_82 ⟨by decide, by decide⟩ (fun q => ?_) (fun q => ?_)
            ·
              have h := wp_pos h q
              exact hj117 _ h _ l0 l1 l2 l3
            ·
              have h := wp_neg h q
              refine rs_aldn wi_325_85 l0 ?_
              refine rs_pure wi_325_86 rfl ?_
              refine rs_topi (v := 44) (by decide) ?_
              refine rs_V wi_325_88 wc_325_54 rfl (dq_isa tf_172_0 wa_12_322) (Nat.le_trans (by decide) hF) (ml_le wm_322 (Nat.le_trans (by decide) hLo)) rfl (sp_322 hw (Nat.le_trans (by decide : 1 ≤ 4 - 1) (Nat.sub_le_sub_right hF 1)) (ml_sub wm_322 (Nat.le_trans (by decide : 21 ≤ 88 - 21) (Nat.sub_le_sub_right hLo 21))) (wp_bind h) (fun r22 h => rs_back0 ?_))
              refine rs_aldn wi_325_91 l0 ?_
              refine rs_aldn wi_325_92 l1 ?_
              refine dq_gr wi_325_93 wf_325_137 (fO_4 ho1) ?_
              refine rs_ildn wi_325_96 l2 ?_
              obtain ⟨g23, h⟩ := wp_gd h
              refine dq_lald wi_325_97 (tO_1 ho1) g23 ?_
              refine rs_V wi_325_98 wc_325_51 rfl (dq_isa tf_172_0 wa_12_320) (Nat.le_trans (by decide) hF) (ml_le wm_320 (Nat.le_trans (by decide) hLo)) rfl (sp_320 hw (Nat.le_trans (by decide : 2 ≤ 4 - 1) (Nat.sub_le_sub_right hF 1)) (ml_sub wm_320 (Nat.le_trans (by decide : 45 ≤ 88 - 22) (Nat.sub_le_sub_right hLo 22))) (wp_bind h) (fun r24 h => rs_back0 ?_))
              refine rs_aldn wi_325_101 l0 ?_
              refine rs_pure wi_325_102 rfl ?_
              refine rs_topi (v := 60) (by decide) ?_
              refine rs_V wi_325_104 wc_325_54 rfl (dq_isa tf_172_0 wa_12_322) (Nat.le_trans (by decide) hF) (ml_le wm_322 (Nat.le_trans (by decide) hLo)) rfl (sp_322 hw (Nat.le_trans (by decide : 1 ≤ 4 - 1) (Nat.sub_le_sub_right hF 1)) (ml_sub wm_322 (Nat.le_trans (by decide : 21 ≤ 88 - 21) (Nat.sub_le_sub_right hLo 21))) (wp_bind h) (fun r25 h => rs_back0 ?_))
              refine rs_aldn wi_325_107 l0 ?_
              refine rs_aldn wi_325_108 l1 ?_
              refine dq_gr wi_325_109 wf_325_137 (fO_4 ho1) ?_
              refine rs_ildn wi_325_112 l3 ?_
              obtain ⟨g26, h⟩ := wp_gd h
              refine dq_lald wi_325_113 (tO_1 ho1) g26 ?_
              refine rs_V wi_325_114 wc_325_51 rfl (dq_isa tf_172_0 wa_12_320) (Nat.le_trans (by decide) hF) (ml_le wm_320 (Nat.le_trans (by decide) hLo)) rfl (sp_320 hw (Nat.le_trans (by decide : 2 ≤ 4 - 1) (Nat.sub_le_sub_right hF 1)) (ml_sub wm_320 (Nat.le_trans (by decide : 45 ≤ 88 - 22) (Nat.sub_le_sub_right hLo 22))) (wp_bind h) (fun r27 h => rs_back0 ?_))
              exact hj117 _ h _ l0 l1 l2 l3
        ·
          intro x28 h lv l0 l1 l2
          obtain ⟨v30, e31, h⟩ := wp_lt h
          refine dl_inc wi_325_123 l2 rfl e31 (fun lv l2 t29 => ?_)
          have l0 := t29 _ _ (by decide) (Or.inl rfl) l0
          have l1 := t29 _ _ (by decide) (Or.inl rfl) l1
          refine rs_goto (tg := 58) wi_325_126 ⟨by decide, by decide⟩ ?_
          exact h _ l0 l1 l2
    ·
      intro x32 h lv l0
      refine rs_aldn wi_325_129 l0 ?_
      refine rs_pure wi_325_130 rfl ?_
      refine rs_topi (v := 59) (by decide) ?_
      refine rs_V wi_325_132 wc_325_54 rfl (dq_isa tf_172_0 wa_12_322) (Nat.le_trans (by decide) hF) (ml_le wm_322 (Nat.le_trans (by decide) hLo)) rfl (sp_322 hw (Nat.le_trans (by decide : 1 ≤ 4 - 1) (Nat.sub_le_sub_right hF 1)) (ml_sub wm_322 (Nat.le_trans (by decide : 21 ≤ 88 - 21) (Nat.sub_le_sub_right hLo 21))) (wp_bind h) (fun r33 h => rs_back0 ?_))
      exact rs_vret wi_325_135 wr_325 (hQ r33 h)
theorem wc_319_39 : rx_ct (rt_P sc fm) 319 39 = some (0, 317, 1) := (by decide +kernel : rt_ct 319 39 = some (0, 317, 1))
theorem wi_319_0 : ri (rt_P sc fm) 319 0 (.iconst 0) (1) := ri_of (by decide +kernel) rfl
theorem wi_319_1 : ri (rt_P sc fm) 319 1 (.istore_n 3) (2) := ri_of (by decide +kernel) rfl
theorem wi_319_10 : ri (rt_P sc fm) 319 10 (.lcmp) (11) := ri_of (by decide +kernel) rfl
theorem wi_319_11 : ri (rt_P sc fm) 319 11 (.ifCond .lt 58) (14) := ri_of (by decide +kernel) rfl
theorem wi_319_14 : ri (rt_P sc fm) 319 14 (.lload_n 1) (15) := ri_of (by decide +kernel) rfl
theorem wi_319_15 : ri (rt_P sc fm) 319 15 (.lload 4) (17) := ri_of (by decide +kernel) rfl
theorem wi_319_17 : ri (rt_P sc fm) 319 17 (.ldiv) (18) := ri_of (by decide +kernel) rfl
theorem wi_319_18 : ri (rt_P sc fm) 319 18 (.ldc2_w 45) (21) := ri_of (by decide +kernel) rfl
theorem wi_319_2 : ri (rt_P sc fm) 319 2 (.ldc2_w 43) (5) := ri_of (by decide +kernel) rfl
theorem wi_319_21 : ri (rt_P sc fm) 319 21 (.lrem) (22) := ri_of (by decide +kernel) rfl
theorem wi_319_22 : ri (rt_P sc fm) 319 22 (.l2i) (23) := ri_of (by decide +kernel) rfl
theorem wi_319_23 : ri (rt_P sc fm) 319 23 (.istore 6) (25) := ri_of (by decide +kernel) rfl
theorem wi_319_25 : ri (rt_P sc fm) 319 25 (.iload_n 3) (26) := ri_of (by decide +kernel) rfl
theorem wi_319_26 : ri (rt_P sc fm) 319 26 (.iload 6) (28) := ri_of (by decide +kernel) rfl
theorem wi_319_28 : ri (rt_P sc fm) 319 28 (.ifCond .ne 10) (31) := ri_of (by decide +kernel) rfl
theorem wi_319_31 : ri (rt_P sc fm) 319 31 (.lload 4) (33) := ri_of (by decide +kernel) rfl
theorem wi_319_33 : ri (rt_P sc fm) 319 33 (.lconst 1) (34) := ri_of (by decide +kernel) rfl
theorem wi_319_34 : ri (rt_P sc fm) 319 34 (.lcmp) (35) := ri_of (by decide +kernel) rfl
theorem wi_319_35 : ri (rt_P sc fm) 319 35 (.ifCond .ne 7) (38) := ri_of (by decide +kernel) rfl
theorem wi_319_38 : ri (rt_P sc fm) 319 38 (.iconst 1) (39) := ri_of (by decide +kernel) rfl
theorem wi_319_39 : ri (rt_P sc fm) 319 39 (.goto 4) (42) := ri_of (by decide +kernel) rfl
theorem wi_319_42 : ri (rt_P sc fm) 319 42 (.iconst 0) (43) := ri_of (by decide +kernel) rfl
theorem wi_319_43 : ri (rt_P sc fm) 319 43 (.ior) (44) := ri_of (by decide +kernel) rfl
theorem wi_319_44 : ri (rt_P sc fm) 319 44 (.istore_n 3) (45) := ri_of (by decide +kernel) rfl
theorem wi_319_45 : ri (rt_P sc fm) 319 45 (.iload_n 3) (46) := ri_of (by decide +kernel) rfl
theorem wi_319_46 : ri (rt_P sc fm) 319 46 (.ifCond .eq 12) (49) := ri_of (by decide +kernel) rfl
theorem wi_319_49 : ri (rt_P sc fm) 319 49 (.aload_n 0) (50) := ri_of (by decide +kernel) rfl
theorem wi_319_5 : ri (rt_P sc fm) 319 5 (.lstore 4) (7) := ri_of (by decide +kernel) rfl
theorem wi_319_50 : ri (rt_P sc fm) 319 50 (.bipush 48) (52) := ri_of (by decide +kernel) rfl
theorem wi_319_52 : ri (rt_P sc fm) 319 52 (.iload 6) (54) := ri_of (by decide +kernel) rfl
theorem wi_319_54 : ri (rt_P sc fm) 319 54 (.iadd) (55) := ri_of (by decide +kernel) rfl
theorem wi_319_55 : ri (rt_P sc fm) 319 55 (.invokevirtual 39) (58) := ri_of (by decide +kernel) rfl
theorem wi_319_58 : ri (rt_P sc fm) 319 58 (.lload 4) (60) := ri_of (by decide +kernel) rfl
theorem wi_319_60 : ri (rt_P sc fm) 319 60 (.ldc2_w 45) (63) := ri_of (by decide +kernel) rfl
theorem wi_319_63 : ri (rt_P sc fm) 319 63 (.ldiv) (64) := ri_of (by decide +kernel) rfl
theorem wi_319_64 : ri (rt_P sc fm) 319 64 (.lstore 4) (66) := ri_of (by decide +kernel) rfl
theorem wi_319_66 : ri (rt_P sc fm) 319 66 (.goto (-59)) (69) := ri_of (by decide +kernel) rfl
theorem wi_319_69 : ri (rt_P sc fm) 319 69 (.return_) (70) := ri_of (by decide +kernel) rfl
theorem wi_319_7 : ri (rt_P sc fm) 319 7 (.lload 4) (9) := ri_of (by decide +kernel) rfl
theorem wi_319_9 : ri (rt_P sc fm) 319 9 (.lconst 1) (10) := ri_of (by decide +kernel) rfl
theorem wk_319_43 : rx_kt (rt_P sc fm) 319 43 = some (.long (1000000000)) := (by decide +kernel : rt_kt 319 43 = some (.long (1000000000)))
theorem wk_319_45 : rx_kt (rt_P sc fm) 319 45 = some (.long (10)) := (by decide +kernel : rt_kt 319 45 = some (.long (10)))
theorem wr_319 : rx_rt (rt_P sc fm) 319 = none := (by decide +kernel : rt_rt 319 = none)
/-- MarkHouse$Teller.putDigits(J)V -/
def d_319 (n : Nat) (a1 : Int64) (c : cS) : Option (cS) :=
  Option.bind (whl (R := (cS)) (fun s3 : Int32 × Int64 × cS =>
    if (lg_cmp s3.2.1 1) < 0 then
      some (.inr s3.2.2)
    else
      if s3.2.1 ≠ 0 then
      lt ((((a1 / s3.2.1) - (a1 / s3.2.1) / 10 * 10) : Int64).toInt32 : Int32) (fun v6 =>
      jn (fun p8 : Int32 =>
        lt ((s3.1 ||| p8) : Int32) (fun v10 =>
        jn (fun p12 : cS =>
          lt ((s3.2.1 / 10) : Int64) (fun v14 =>
          some (.inl (v10, v14, p12))))
        (fun j58 =>
        if v10 = 0 then
          j58 s3.2.2
        else
          Option.bind (d_317 n (48 + v6) s3.2.2) (fun r16 =>
          j58 r16))))
      (fun j43 =>
      jn (fun p17 : Unit =>
        j43 1)
      (fun j38 =>
      if v6 = 0 then
        if (lg_cmp s3.2.1 1) = 0 then
          j38 ()
        else
          j43 0
      else
        j38 ())))
      else none) n (0, 1000000000, c))
  (fun x18 : cS =>
    some x18)
theorem sp_319 {F Lo n : Nat} {a1 : Int64} {c y : cS} {w : cW} {K : cS → Prop} {Q : ((Option Value) ⊕ String) → List va_E → Prop} (hw : rOK fm w) (hF : 1 ≤ F) (hLo : 21 ≤ Lo)  (h : wp (d_319 n a1 c) K) (hQ : ∀ r, K r → Q (.inl none) (hq true r y w)) : rs (rt_P sc fm) 319 F Lo 0 [(0, .ref 172), (1, .long a1)] [] (hq true c y w) Q := by
  unfold d_319 at h
  obtain ⟨lv, elv⟩ : ∃ lv : rx_L, lv = [(0, .ref 172), (1, .long a1)] := ⟨_, rfl⟩
  rw [← elv]
  have l0 : rx_ld lv 0 = some (.ref 172) := by rw [elv]; rfl
  have l1 : rx_ld lv 1 = some (.long a1) := by rw [elv]; rfl
  refine rs_pure wi_319_0 rfl ?_
  refine rs_topi (v := 0) (by decide) ?_
  refine dl_istn wi_319_1 rfl (fun lv l3 t1 => ?_)
  have l0 := t1 _ _ (by decide) (Or.inl rfl) l0
  have l1 := t1 _ _ (by decide) (Or.inr (by decide)) l1
  refine rs_ldcl wi_319_2 wk_319_43 ?_
  refine dl_lst wi_319_5 rfl (fun lv l4 t2 => ?_)
  have l0 := t2 _ _ (by decide) (by decide) (Or.inl rfl) l0
  have l1 := t2 _ _ (by decide) (by decide) (Or.inr (by decide)) l1
  have l3 := t2 _ _ (by decide) (by decide) (Or.inl rfl) l3
  refine whl_ex (A := fun s3 : Int32 × Int64 × cS => ∀ lv, rx_ld lv 0 = some (.ref 172) → rx_ld lv 1 = some (.long a1) → rx_ld lv 3 = some (.int s3.1) → rx_ld lv 4 = some (.long s3.2.1) → rs (rt_P sc fm) 319 F Lo 7 lv [] (hq true s3.2.2 y w) Q) (B := (fun x18 : cS => ∀ lv, rs (rt_P sc fm) 319 F Lo 69 lv [] (hq true x18 y w) Q)) ?_ ?_ _ _ (wp_bind h) _ l0 l1 l3 l4
  · intro s3 h lv l0 l1 l3 l4
    refine rs_lld wi_319_7 l4 ?_
    refine rs_pure wi_319_9 rfl ?_
    refine rs_topl (v := 1) (by decide) ?_
    refine rs_pure wi_319_10 rfl ?_
    refine rs_iflt (tg := 69) wi_319_11 ⟨by decide, by decide⟩ (fun q => ?_) (fun q => ?_)
    ·
      have h := wp_pos h q
      exact h _
    ·
      have h := wp_neg h q
      refine rs_lldn wi_319_14 l1 ?_
      refine rs_lld wi_319_15 l4 ?_
      obtain ⟨g4, h⟩ := wp_gd h
      refine dl_ldiv wi_319_17 g4 ?_
      refine rs_ldcl wi_319_18 wk_319_45 ?_
      refine dl_lrem wi_319_21 (by decide) ?_
      refine rs_pure wi_319_22 rfl ?_
      obtain ⟨v6, e7, h⟩ := wp_lt h
      refine rs_topi e7 ?_
      refine dl_ist wi_319_23 rfl (fun lv l6 t5 => ?_)
      have l0 := t5 _ _ (by decide) (Or.inl rfl) l0
      have l1 := t5 _ _ (by decide) (Or.inr (by decide)) l1
      have l3 := t5 _ _ (by decide) (Or.inl rfl) l3
      have l4 := t5 _ _ (by decide) (Or.inr (by decide)) l4
      refine rs_ildn wi_319_25 l3 ?_
      refine rs_ild wi_319_26 l6 ?_
      refine wp_jn (B := fun p8 : Int32 => ∀ lv, rx_ld lv 0 = some (.ref 172) → rx_ld lv 1 = some (.long a1) → rx_ld lv 4 = some (.long s3.2.1) → rx_ld lv 6 = some (.int v6) → rs (rt_P sc fm) 319 F Lo 43 lv [.int p8, .int s3.1] (hq true s3.2.2 y w) Q) h (fun p8 h lv l0 l1 l4 l6 => ?_) (fun j43 hj43 h => ?_)
      ·
        refine rs_pure wi_319_43 rfl ?_
        obtain ⟨v10, e11, h⟩ := wp_lt h
        refine rs_topi e11 ?_
        refine dl_istn wi_319_44 rfl (fun lv l3 t9 => ?_)
        have l0 := t9 _ _ (by decide) (Or.inl rfl) l0
        have l1 := t9 _ _ (by decide) (Or.inr (by decide)) l1
        have l4 := t9 _ _ (by decide) (Or.inr (by decide)) l4
        have l6 := t9 _ _ (by decide) (Or.inl rfl) l6
        refine rs_ildn wi_319_45 l3 ?_
        refine wp_jn (B := fun p12 : cS => ∀ lv, rx_ld lv 0 = some (.ref 172) → rx_ld lv 1 = some (.long a1) → rx_ld lv 3 = some (.int v10) → rx_ld lv 4 = some (.long s3.2.1) → rs (rt_P sc fm) 319 F Lo 58 lv [] (hq true p12 y w) Q) h (fun p12 h lv l0 l1 l3 l4 => ?_) (fun j58 hj58 h => ?_)
        ·
          refine rs_lld wi_319_58 l4 ?_
          refine rs_ldcl wi_319_60 wk_319_45 ?_
          refine dl_ldiv wi_319_63 (by decide) ?_
          obtain ⟨v14, e15, h⟩ := wp_lt h
          refine rs_topl e15 ?_
          refine dl_lst wi_319_64 rfl (fun lv l4 t13 => ?_)
          have l0 := t13 _ _ (by decide) (by decide) (Or.inl rfl) l0
          have l1 := t13 _ _ (by decide) (by decide) (Or.inr (by decide)) l1
          have l3 := t13 _ _ (by decide) (by decide) (Or.inl rfl) l3
          refine rs_goto (tg := 7) wi_319_66 ⟨by decide, by decide⟩ ?_
          exact h _ l0 l1 l3 l4
        refine rs_ifeq (tg := 58) wi_319_46 ⟨by decide, by decide⟩ (fun q => ?_) (fun q => ?_)
        ·
          have h := wp_pos h q
          exact hj58 _ h _ l0 l1 l3 l4
        ·
          have h := wp_neg h q
          refine rs_aldn wi_319_49 l0 ?_
          refine rs_pure wi_319_50 rfl ?_
          refine rs_topi (v := 48) (by decide) ?_
          refine rs_ild wi_319_52 l6 ?_
          refine rs_pure wi_319_54 rfl ?_
          refine rs_V wi_319_55 wc_319_39 rfl (dq_isa tf_172_0 wa_12_317) (Nat.le_trans (by decide) hF) (ml_le wm_317 (Nat.le_trans (by decide) hLo)) rfl (sp_317 hw (Nat.le_trans (by decide : 0 ≤ 1 - 1) (Nat.sub_le_sub_right hF 1)) (ml_sub wm_317 (Nat.le_trans (by decide : 0 ≤ 21 - 21) (Nat.sub_le_sub_right hLo 21))) (wp_bind h) (fun r16 h => rs_back0 ?_))
          exact hj58 _ h _ l0 l1 l3 l4
      refine wp_jn (B := fun p17 : Unit => ∀ lv, rx_ld lv 0 = some (.ref 172) → rx_ld lv 1 = some (.long a1) → rx_ld lv 4 = some (.long s3.2.1) → rx_ld lv 6 = some (.int v6) → rs (rt_P sc fm) 319 F Lo 38 lv [.int s3.1] (hq true s3.2.2 y w) Q) h (fun p17 h lv l0 l1 l4 l6 => ?_) (fun j38 hj38 h => ?_)
      ·
        refine rs_pure wi_319_38 rfl ?_
        refine rs_topi (v := 1) (by decide) ?_
        refine rs_goto (tg := 43) wi_319_39 ⟨by decide, by decide⟩ ?_
        exact hj43 _ h _ l0 l1 l4 l6
      refine rs_ifne (tg := 38) wi_319_28 ⟨by decide, by decide⟩ (fun q => ?_) (fun q => ?_)
      ·
        have h := wp_neg h q
        exact hj38 _ h _ l0 l1 l4 l6
      ·
        have h := wp_pos h q
        refine rs_lld wi_319_31 l4 ?_
        refine rs_pure wi_319_33 rfl ?_
        refine rs_topl (v := 1) (by decide) ?_
        refine rs_pure wi_319_34 rfl ?_
        refine rs_ifne (tg := 42) wi_319_35 ⟨by decide, by decide⟩ (fun q => ?_) (fun q => ?_)
        ·
          have h := wp_neg h q
          refine rs_pure wi_319_42 rfl ?_
          refine rs_topi (v := 0) (by decide) ?_
          exact hj43 _ h _ l0 l1 l4 l6
        ·
          have h := wp_pos h q
          exact hj38 _ h _ l0 l1 l4 l6
  ·
    intro x18 h lv
    exact rs_vret wi_319_69 wr_319 (hQ x18 h)
theorem wa_12_319 : rz_cn 12 (rx_yn (rt_P sc fm) 319).cls = true := (by decide +kernel : rz_cn 12 (rt_yn 319).cls = true)
theorem wc_323_39 : rx_ct (rt_P sc fm) 323 39 = some (0, 317, 1) := (by decide +kernel : rt_ct 323 39 = some (0, 317, 1))
theorem wc_323_47 : rx_ct (rt_P sc fm) 323 47 = some (0, 318, 1) := (by decide +kernel : rt_ct 323 47 = some (0, 318, 1))
theorem wc_323_54 : rx_ct (rt_P sc fm) 323 54 = some (0, 322, 1) := (by decide +kernel : rt_ct 323 54 = some (0, 322, 1))
theorem wc_323_58 : rx_ct (rt_P sc fm) 323 58 = some (0, 319, 1) := (by decide +kernel : rt_ct 323 58 = some (0, 319, 1))
theorem wi_323_0 : ri (rt_P sc fm) 323 0 (.iload_n 1) (1) := ri_of (by decide +kernel) rfl
theorem wi_323_1 : ri (rt_P sc fm) 323 1 (.iconst 2) (2) := ri_of (by decide +kernel) rfl
theorem wi_323_11 : ri (rt_P sc fm) 323 11 (.aload_n 0) (12) := ri_of (by decide +kernel) rfl
theorem wi_323_12 : ri (rt_P sc fm) 323 12 (.lload_n 2) (13) := ri_of (by decide +kernel) rfl
theorem wi_323_13 : ri (rt_P sc fm) 323 13 (.invokevirtual 47) (16) := ri_of (by decide +kernel) rfl
theorem wi_323_16 : ri (rt_P sc fm) 323 16 (.aload_n 0) (17) := ri_of (by decide +kernel) rfl
theorem wi_323_17 : ri (rt_P sc fm) 323 17 (.bipush 39) (19) := ri_of (by decide +kernel) rfl
theorem wi_323_19 : ri (rt_P sc fm) 323 19 (.invokevirtual 39) (22) := ri_of (by decide +kernel) rfl
theorem wi_323_2 : ri (rt_P sc fm) 323 2 (.if_icmp .ne 21) (5) := ri_of (by decide +kernel) rfl
theorem wi_323_22 : ri (rt_P sc fm) 323 22 (.return_) (23) := ri_of (by decide +kernel) rfl
theorem wi_323_23 : ri (rt_P sc fm) 323 23 (.lload_n 2) (24) := ri_of (by decide +kernel) rfl
theorem wi_323_24 : ri (rt_P sc fm) 323 24 (.lconst 0) (25) := ri_of (by decide +kernel) rfl
theorem wi_323_25 : ri (rt_P sc fm) 323 25 (.lcmp) (26) := ri_of (by decide +kernel) rfl
theorem wi_323_26 : ri (rt_P sc fm) 323 26 (.ifCond .ge 9) (29) := ri_of (by decide +kernel) rfl
theorem wi_323_29 : ri (rt_P sc fm) 323 29 (.aload_n 0) (30) := ri_of (by decide +kernel) rfl
theorem wi_323_30 : ri (rt_P sc fm) 323 30 (.bipush 45) (32) := ri_of (by decide +kernel) rfl
theorem wi_323_32 : ri (rt_P sc fm) 323 32 (.invokevirtual 54) (35) := ri_of (by decide +kernel) rfl
theorem wi_323_35 : ri (rt_P sc fm) 323 35 (.aload_n 0) (36) := ri_of (by decide +kernel) rfl
theorem wi_323_36 : ri (rt_P sc fm) 323 36 (.bipush 32) (38) := ri_of (by decide +kernel) rfl
theorem wi_323_38 : ri (rt_P sc fm) 323 38 (.invokevirtual 39) (41) := ri_of (by decide +kernel) rfl
theorem wi_323_41 : ri (rt_P sc fm) 323 41 (.aload_n 0) (42) := ri_of (by decide +kernel) rfl
theorem wi_323_42 : ri (rt_P sc fm) 323 42 (.lload_n 2) (43) := ri_of (by decide +kernel) rfl
theorem wi_323_43 : ri (rt_P sc fm) 323 43 (.lconst 0) (44) := ri_of (by decide +kernel) rfl
theorem wi_323_44 : ri (rt_P sc fm) 323 44 (.lcmp) (45) := ri_of (by decide +kernel) rfl
theorem wi_323_45 : ri (rt_P sc fm) 323 45 (.ifCond .ge 8) (48) := ri_of (by decide +kernel) rfl
theorem wi_323_48 : ri (rt_P sc fm) 323 48 (.lload_n 2) (49) := ri_of (by decide +kernel) rfl
theorem wi_323_49 : ri (rt_P sc fm) 323 49 (.lneg) (50) := ri_of (by decide +kernel) rfl
theorem wi_323_5 : ri (rt_P sc fm) 323 5 (.aload_n 0) (6) := ri_of (by decide +kernel) rfl
theorem wi_323_50 : ri (rt_P sc fm) 323 50 (.goto 4) (53) := ri_of (by decide +kernel) rfl
theorem wi_323_53 : ri (rt_P sc fm) 323 53 (.lload_n 2) (54) := ri_of (by decide +kernel) rfl
theorem wi_323_54 : ri (rt_P sc fm) 323 54 (.invokevirtual 58) (57) := ri_of (by decide +kernel) rfl
theorem wi_323_57 : ri (rt_P sc fm) 323 57 (.return_) (58) := ri_of (by decide +kernel) rfl
theorem wi_323_6 : ri (rt_P sc fm) 323 6 (.bipush 39) (8) := ri_of (by decide +kernel) rfl
theorem wi_323_8 : ri (rt_P sc fm) 323 8 (.invokevirtual 54) (11) := ri_of (by decide +kernel) rfl
theorem wm_319 : rx_ml (rt_P sc fm) 319 = 7 := (by decide +kernel : rt_ml 319 = 7)
theorem wr_323 : rx_rt (rt_P sc fm) 323 = none := (by decide +kernel : rt_rt 323 = none)
/-- MarkHouse$Teller.putValue(IJ)V -/
def d_323 (n : Nat) (a1 : Int32) (a2 : Int64) (c : cS) : Option (cS) :=
  if a1 = 2 then
    Option.bind (d_322 n 39 c) (fun r6 =>
    Option.bind (d_318 n a2 r6) (fun r7 =>
    Option.bind (d_317 n 39 r7) (fun r8 =>
    some r8)))
  else
    jn (fun p1 : cS =>
      Option.bind (d_317 n 32 p1) (fun r2 =>
      jn (fun p3 : Int64 =>
        Option.bind (d_319 n p3 r2) (fun r4 =>
        some r4))
      (fun j54 =>
      if 0 ≤ (lg_cmp a2 0) then
        j54 a2
      else
        j54 (-a2))))
    (fun j35 =>
    if 0 ≤ (lg_cmp a2 0) then
      j35 c
    else
      Option.bind (d_322 n 45 c) (fun r5 =>
      j35 r5))
theorem sp_323 {F Lo n : Nat} {a1 : Int32} {a2 : Int64} {c y : cS} {w : cW} {K : cS → Prop} {Q : ((Option Value) ⊕ String) → List va_E → Prop} (hw : rOK fm w) (hF : 2 ≤ F) (hLo : 47 ≤ Lo)  (h : wp (d_323 n a1 a2 c) K) (hQ : ∀ r, K r → Q (.inl none) (hq true r y w)) : rs (rt_P sc fm) 323 F Lo 0 [(0, .ref 172), (1, .int a1), (2, .long a2)] [] (hq true c y w) Q := by
  unfold d_323 at h
  obtain ⟨lv, elv⟩ : ∃ lv : rx_L, lv = [(0, .ref 172), (1, .int a1), (2, .long a2)] := ⟨_, rfl⟩
  rw [← elv]
  have l0 : rx_ld lv 0 = some (.ref 172) := by rw [elv]; rfl
  have l1 : rx_ld lv 1 = some (.int a1) := by rw [elv]; rfl
  have l2 : rx_ld lv 2 = some (.long a2) := by rw [elv]; rfl
  refine rs_ildn wi_323_0 l1 ?_
  refine rs_pure wi_323_1 rfl ?_
  refine rs_topi (v := 2) (by decide) ?_
  refine rs_icne (tg := 23) wi_323_2 ⟨by decide, by decide⟩ (fun q => ?_) (fun q => ?_)
  ·
    have h := wp_neg h q
    refine rs_lldn wi_323_23 l2 ?_
    refine rs_pure wi_323_24 rfl ?_
    refine rs_topl (v := 0) (by decide) ?_
    refine rs_pure wi_323_25 rfl ?_
    refine wp_jn (B := fun p1 : cS => ∀ lv, rx_ld lv 0 = some (.ref 172) → rx_ld lv 2 = some (.long a2) → rs (rt_P sc fm) 323 F Lo 35 lv [] (hq true p1 y w) Q) h (fun p1 h lv l0 l2 => ?_) (fun j35 hj35 h => ?_)
    ·
      refine rs_aldn wi_323_35 l0 ?_
      refine rs_pure wi_323_36 rfl ?_
      refine rs_topi (v := 32) (by decide) ?_
      refine rs_V wi_323_38 wc_323_39 rfl (dq_isa tf_172_0 wa_12_317) (Nat.le_trans (by decide) hF) (ml_le wm_317 (Nat.le_trans (by decide) hLo)) rfl (sp_317 hw (Nat.le_trans (by decide : 0 ≤ 2 - 1) (Nat.sub_le_sub_right hF 1)) (ml_sub wm_317 (Nat.le_trans (by decide : 0 ≤ 47 - 21) (Nat.sub_le_sub_right hLo 21))) (wp_bind h) (fun r2 h => rs_back0 ?_))
      refine rs_aldn wi_323_41 l0 ?_
      refine rs_lldn wi_323_42 l2 ?_
      refine rs_pure wi_323_43 rfl ?_
      refine rs_topl (v := 0) (by decide) ?_
      refine rs_pure wi_323_44 rfl ?_
      refine wp_jn (B := fun p3 : Int64 => ∀ lv, rs (rt_P sc fm) 323 F Lo 54 lv [.long p3, .ref 172] (hq true r2 y w) Q) h (fun p3 h lv => ?_) (fun j54 hj54 h => ?_)
      ·
        refine rs_V wi_323_54 wc_323_58 rfl (dq_isa tf_172_0 wa_12_319) (Nat.le_trans (by decide) hF) (ml_le wm_319 (Nat.le_trans (by decide) hLo)) rfl (sp_319 hw (Nat.le_trans (by decide : 1 ≤ 2 - 1) (Nat.sub_le_sub_right hF 1)) (ml_sub wm_319 (Nat.le_trans (by decide : 21 ≤ 47 - 26) (Nat.sub_le_sub_right hLo 26))) (wp_bind h) (fun r4 h => rs_back0 ?_))
        exact rs_vret wi_323_57 wr_323 (hQ r4 h)
      refine rs_ifge (tg := 53) wi_323_45 ⟨by decide, by decide⟩ (fun q => ?_) (fun q => ?_)
      ·
        have h := wp_pos h q
        refine rs_lldn wi_323_53 l2 ?_
        exact hj54 _ h _
      ·
        have h := wp_neg h q
        refine rs_lldn wi_323_48 l2 ?_
        refine rs_pure wi_323_49 rfl ?_
        refine rs_goto (tg := 54) wi_323_50 ⟨by decide, by decide⟩ ?_
        exact hj54 _ h _
    refine rs_ifge (tg := 35) wi_323_26 ⟨by decide, by decide⟩ (fun q => ?_) (fun q => ?_)
    ·
      have h := wp_pos h q
      exact hj35 _ h _ l0 l2
    ·
      have h := wp_neg h q
      refine rs_aldn wi_323_29 l0 ?_
      refine rs_pure wi_323_30 rfl ?_
      refine rs_topi (v := 45) (by decide) ?_
      refine rs_V wi_323_32 wc_323_54 rfl (dq_isa tf_172_0 wa_12_322) (Nat.le_trans (by decide) hF) (ml_le wm_322 (Nat.le_trans (by decide) hLo)) rfl (sp_322 hw (Nat.le_trans (by decide : 1 ≤ 2 - 1) (Nat.sub_le_sub_right hF 1)) (ml_sub wm_322 (Nat.le_trans (by decide : 21 ≤ 47 - 21) (Nat.sub_le_sub_right hLo 21))) (wp_bind h) (fun r5 h => rs_back0 ?_))
      exact hj35 _ h _ l0 l2
  ·
    have h := wp_pos h q
    refine rs_aldn wi_323_5 l0 ?_
    refine rs_pure wi_323_6 rfl ?_
    refine rs_topi (v := 39) (by decide) ?_
    refine rs_V wi_323_8 wc_323_54 rfl (dq_isa tf_172_0 wa_12_322) (Nat.le_trans (by decide) hF) (ml_le wm_322 (Nat.le_trans (by decide) hLo)) rfl (sp_322 hw (Nat.le_trans (by decide : 1 ≤ 2 - 1) (Nat.sub_le_sub_right hF 1)) (ml_sub wm_322 (Nat.le_trans (by decide : 21 ≤ 47 - 21) (Nat.sub_le_sub_right hLo 21))) (wp_bind h) (fun r6 h => rs_back0 ?_))
    refine rs_aldn wi_323_11 l0 ?_
    refine rs_lldn wi_323_12 l2 ?_
    refine rs_V wi_323_13 wc_323_47 rfl (dq_isa tf_172_0 wa_12_318) (Nat.le_trans (by decide) hF) (ml_le wm_318 (Nat.le_trans (by decide) hLo)) rfl (sp_318 hw (Nat.le_trans (by decide : 1 ≤ 2 - 1) (Nat.sub_le_sub_right hF 1)) (ml_sub wm_318 (Nat.le_trans (by decide : 21 ≤ 47 - 24) (Nat.sub_le_sub_right hLo 24))) (wp_bind h) (fun r7 h => rs_back0 ?_))
    refine rs_aldn wi_323_16 l0 ?_
    refine rs_pure wi_323_17 rfl ?_
    refine rs_topi (v := 39) (by decide) ?_
    refine rs_V wi_323_19 wc_323_39 rfl (dq_isa tf_172_0 wa_12_317) (Nat.le_trans (by decide) hF) (ml_le wm_317 (Nat.le_trans (by decide) hLo)) rfl (sp_317 hw (Nat.le_trans (by decide : 0 ≤ 2 - 1) (Nat.sub_le_sub_right hF 1)) (ml_sub wm_317 (Nat.le_trans (by decide : 0 ≤ 47 - 21) (Nat.sub_le_sub_right hLo 21))) (wp_bind h) (fun r8 h => rs_back0 ?_))
    exact rs_vret wi_323_22 wr_323 (hQ r8 h)
theorem wc_327_88 : rx_ct (rt_P sc fm) 327 88 = some (0, 321, 1) := (by decide +kernel : rt_ct 327 88 = some (0, 321, 1))
theorem wi_327_0 : ri (rt_P sc fm) 327 0 (.iload_n 1) (1) := ri_of (by decide +kernel) rfl
theorem wi_327_1 : ri (rt_P sc fm) 327 1 (.bipush 15) (3) := ri_of (by decide +kernel) rfl
theorem wi_327_11 : ri (rt_P sc fm) 327 11 (.invokevirtual 88) (14) := ri_of (by decide +kernel) rfl
theorem wi_327_14 : ri (rt_P sc fm) 327 14 (.iconst 0) (15) := ri_of (by decide +kernel) rfl
theorem wi_327_15 : ri (rt_P sc fm) 327 15 (.istore_n 2) (16) := ri_of (by decide +kernel) rfl
theorem wi_327_16 : ri (rt_P sc fm) 327 16 (.iload_n 2) (17) := ri_of (by decide +kernel) rfl
theorem wi_327_17 : ri (rt_P sc fm) 327 17 (.iconst 3) (18) := ri_of (by decide +kernel) rfl
theorem wi_327_18 : ri (rt_P sc fm) 327 18 (.if_icmp .gt 26) (21) := ri_of (by decide +kernel) rfl
theorem wi_327_21 : ri (rt_P sc fm) 327 21 (.iload_n 1) (22) := ri_of (by decide +kernel) rfl
theorem wi_327_22 : ri (rt_P sc fm) 327 22 (.iload_n 2) (23) := ri_of (by decide +kernel) rfl
theorem wi_327_23 : ri (rt_P sc fm) 327 23 (.ishr) (24) := ri_of (by decide +kernel) rfl
theorem wi_327_24 : ri (rt_P sc fm) 327 24 (.iconst 1) (25) := ri_of (by decide +kernel) rfl
theorem wi_327_25 : ri (rt_P sc fm) 327 25 (.iand) (26) := ri_of (by decide +kernel) rfl
theorem wi_327_26 : ri (rt_P sc fm) 327 26 (.ifCond .eq 12) (29) := ri_of (by decide +kernel) rfl
theorem wi_327_29 : ri (rt_P sc fm) 327 29 (.aload_n 0) (30) := ri_of (by decide +kernel) rfl
theorem wi_327_3 : ri (rt_P sc fm) 327 3 (.if_icmp .ne 4) (6) := ri_of (by decide +kernel) rfl
theorem wi_327_30 : ri (rt_P sc fm) 327 30 (.sipush 202) (33) := ri_of (by decide +kernel) rfl
theorem wi_327_33 : ri (rt_P sc fm) 327 33 (.iload_n 2) (34) := ri_of (by decide +kernel) rfl
theorem wi_327_34 : ri (rt_P sc fm) 327 34 (.iadd) (35) := ri_of (by decide +kernel) rfl
theorem wi_327_35 : ri (rt_P sc fm) 327 35 (.invokevirtual 88) (38) := ri_of (by decide +kernel) rfl
theorem wi_327_38 : ri (rt_P sc fm) 327 38 (.iinc 2 1) (41) := ri_of (by decide +kernel) rfl
theorem wi_327_41 : ri (rt_P sc fm) 327 41 (.goto (-25)) (44) := ri_of (by decide +kernel) rfl
theorem wi_327_44 : ri (rt_P sc fm) 327 44 (.return_) (45) := ri_of (by decide +kernel) rfl
theorem wi_327_6 : ri (rt_P sc fm) 327 6 (.return_) (7) := ri_of (by decide +kernel) rfl
theorem wi_327_7 : ri (rt_P sc fm) 327 7 (.aload_n 0) (8) := ri_of (by decide +kernel) rfl
theorem wi_327_8 : ri (rt_P sc fm) 327 8 (.sipush 208) (11) := ri_of (by decide +kernel) rfl
theorem wr_327 : rx_rt (rt_P sc fm) 327 = none := (by decide +kernel : rt_rt 327 = none)
/-- MarkHouse$Teller.writeSorts(I)V -/
def d_327 (n : Nat) (a1 : Int32) (c : cS) : Option (cS) :=
  if a1 = 15 then
    some c
  else
    Option.bind (d_321 n 208 c) (fun r1 =>
    Option.bind (whl (R := (cS)) (fun s3 : Int32 × cS =>
      if 3 < s3.1 then
        some (.inr s3.2)
      else
        jn (fun p4 : cS =>
          lt (s3.1 + 1 : Int32) (fun v6 =>
          some (.inl (v6, p4))))
        (fun j38 =>
        if ((a1 >>> (s3.1 &&& 31)) &&& 1) = 0 then
          j38 s3.2
        else
          Option.bind (d_321 n (202 + s3.1) s3.2) (fun r8 =>
          j38 r8))) n (0, r1))
    (fun x9 : cS =>
      some x9))
theorem sp_327 {F Lo n : Nat} {a1 : Int32} {c y : cS} {w : cW} {K : cS → Prop} {Q : ((Option Value) ⊕ String) → List va_E → Prop} (hw : rOK fm w) (hF : 4 ≤ F) (hLo : 88 ≤ Lo)  (h : wp (d_327 n a1 c) K) (hQ : ∀ r, K r → Q (.inl none) (hq true r y w)) : rs (rt_P sc fm) 327 F Lo 0 [(0, .ref 172), (1, .int a1)] [] (hq true c y w) Q := by
  unfold d_327 at h
  obtain ⟨lv, elv⟩ : ∃ lv : rx_L, lv = [(0, .ref 172), (1, .int a1)] := ⟨_, rfl⟩
  rw [← elv]
  have l0 : rx_ld lv 0 = some (.ref 172) := by rw [elv]; rfl
  have l1 : rx_ld lv 1 = some (.int a1) := by rw [elv]; rfl
  refine rs_ildn wi_327_0 l1 ?_
  refine rs_pure wi_327_1 rfl ?_
  refine rs_topi (v := 15) (by decide) ?_
  refine rs_icne (tg := 7) wi_327_3 ⟨by decide, by decide⟩ (fun q => ?_) (fun q => ?_)
  ·
    have h := wp_neg h q
    refine rs_aldn wi_327_7 l0 ?_
    refine rs_pure wi_327_8 rfl ?_
    refine rs_topi (v := 208) (by decide) ?_
    refine rs_V wi_327_11 wc_327_88 rfl (dq_isa tf_172_0 wa_12_321) (Nat.le_trans (by decide) hF) (ml_le wm_321 (Nat.le_trans (by decide) hLo)) rfl (sp_321 hw (Nat.le_trans (by decide : 3 ≤ 4 - 1) (Nat.sub_le_sub_right hF 1)) (ml_sub wm_321 (Nat.le_trans (by decide : 67 ≤ 88 - 21) (Nat.sub_le_sub_right hLo 21))) (wp_bind h) (fun r1 h => rs_back0 ?_))
    refine rs_pure wi_327_14 rfl ?_
    refine rs_topi (v := 0) (by decide) ?_
    refine dl_istn wi_327_15 rfl (fun lv l2 t2 => ?_)
    have l0 := t2 _ _ (by decide) (Or.inl rfl) l0
    have l1 := t2 _ _ (by decide) (Or.inl rfl) l1
    refine whl_ex (A := fun s3 : Int32 × cS => ∀ lv, rx_ld lv 0 = some (.ref 172) → rx_ld lv 1 = some (.int a1) → rx_ld lv 2 = some (.int s3.1) → rs (rt_P sc fm) 327 F Lo 16 lv [] (hq true s3.2 y w) Q) (B := (fun x9 : cS => ∀ lv, rs (rt_P sc fm) 327 F Lo 44 lv [] (hq true x9 y w) Q)) ?_ ?_ _ _ (wp_bind h) _ l0 l1 l2
    · intro s3 h lv l0 l1 l2
      refine rs_ildn wi_327_16 l2 ?_
      refine rs_pure wi_327_17 rfl ?_
      refine rs_topi (v := 3) (by decide) ?_
      refine rs_icgt (tg := 44) wi_327_18 ⟨by decide, by decide⟩ (fun q => ?_) (fun q => ?_)
      ·
        have h := wp_pos h q
        exact h _
      ·
        have h := wp_neg h q
        refine rs_ildn wi_327_21 l1 ?_
        refine rs_ildn wi_327_22 l2 ?_
        refine rs_pure wi_327_23 rfl ?_
        refine rs_pure wi_327_24 rfl ?_
        refine rs_topi (v := 1) (by decide) ?_
        refine rs_pure wi_327_25 rfl ?_
        refine wp_jn (B := fun p4 : cS => ∀ lv, rx_ld lv 0 = some (.ref 172) → rx_ld lv 1 = some (.int a1) → rx_ld lv 2 = some (.int s3.1) → rs (rt_P sc fm) 327 F Lo 38 lv [] (hq true p4 y w) Q) h (fun p4 h lv l0 l1 l2 => ?_) (fun j38 hj38 h => ?_)
        ·
          obtain ⟨v6, e7, h⟩ := wp_lt h
          refine dl_inc wi_327_38 l2 rfl e7 (fun lv l2 t5 => ?_)
          have l0 := t5 _ _ (by decide) (Or.inl rfl) l0
          have l1 := t5 _ _ (by decide) (Or.inl rfl) l1
          refine rs_goto (tg := 16) wi_327_41 ⟨by decide, by decide⟩ ?_
          exact h _ l0 l1 l2
        refine rs_ifeq (tg := 38) wi_327_26 ⟨by decide, by decide⟩ (fun q => ?_) (fun q => ?_)
        ·
          have h := wp_pos h q
          exact hj38 _ h _ l0 l1 l2
        ·
          have h := wp_neg h q
          refine rs_aldn wi_327_29 l0 ?_
          refine rs_pure wi_327_30 rfl ?_
          refine rs_topi (v := 202) (by decide) ?_
          refine rs_ildn wi_327_33 l2 ?_
          refine rs_pure wi_327_34 rfl ?_
          refine rs_V wi_327_35 wc_327_88 rfl (dq_isa tf_172_0 wa_12_321) (Nat.le_trans (by decide) hF) (ml_le wm_321 (Nat.le_trans (by decide) hLo)) rfl (sp_321 hw (Nat.le_trans (by decide : 3 ≤ 4 - 1) (Nat.sub_le_sub_right hF 1)) (ml_sub wm_321 (Nat.le_trans (by decide : 67 ≤ 88 - 21) (Nat.sub_le_sub_right hLo 21))) (wp_bind h) (fun r8 h => rs_back0 ?_))
          exact hj38 _ h _ l0 l1 l2
    ·
      intro x9 h lv
      exact rs_vret wi_327_44 wr_327 (hQ x9 h)
  ·
    have h := wp_pos h q
    exact rs_vret wi_327_6 wr_327 (hQ c h)
theorem tf_172_3 : fo true 172 12 3 (.ref 7) := ⟨_, rfl, rfl, by decide, by decide⟩
theorem tf_172_5 : fo true 172 12 5 (.ref 133) := ⟨_, rfl, rfl, by decide, by decide⟩
theorem wc_331_224 : rx_ct (rt_P sc fm) 331 224 = some (0, 227, 1) := (by decide +kernel : rt_ct 331 224 = some (0, 227, 1))
theorem wc_331_230 : rx_ct (rt_P sc fm) 331 230 = some (0, 231, 2) := (by decide +kernel : rt_ct 331 230 = some (0, 231, 2))
theorem wc_331_234 : rx_ct (rt_P sc fm) 331 234 = some (0, 232, 3) := (by decide +kernel : rt_ct 331 234 = some (0, 232, 3))
theorem wf_331_144 : rx_ft (rt_P sc fm) 331 144 = some (6, 1) := (by decide +kernel : rt_ft 331 144 = some (6, 1))
theorem wf_331_19 : rx_ft (rt_P sc fm) 331 19 = some (12, 3) := (by decide +kernel : rt_ft 331 19 = some (12, 3))
theorem wf_331_227 : rx_ft (rt_P sc fm) 331 227 = some (7, 1) := (by decide +kernel : rt_ft 331 227 = some (7, 1))
theorem wf_331_27 : rx_ft (rt_P sc fm) 331 27 = some (12, 5) := (by decide +kernel : rt_ft 331 27 = some (12, 5))
theorem wf_331_66 : rx_ft (rt_P sc fm) 331 66 = some (9, 1) := (by decide +kernel : rt_ft 331 66 = some (9, 1))
theorem wf_331_77 : rx_ft (rt_P sc fm) 331 77 = some (9, 3) := (by decide +kernel : rt_ft 331 77 = some (9, 3))
theorem wi_331_0 : ri (rt_P sc fm) 331 0 (.aload_n 0) (1) := ri_of (by decide +kernel) rfl
theorem wi_331_1 : ri (rt_P sc fm) 331 1 (.getfield 27) (4) := ri_of (by decide +kernel) rfl
theorem wi_331_102 : ri (rt_P sc fm) 331 102 (.ifCond .ge 5) (105) := ri_of (by decide +kernel) rfl
theorem wi_331_105 : ri (rt_P sc fm) 331 105 (.iconst 0) (106) := ri_of (by decide +kernel) rfl
theorem wi_331_106 : ri (rt_P sc fm) 331 106 (.ireturn) (107) := ri_of (by decide +kernel) rfl
theorem wi_331_107 : ri (rt_P sc fm) 331 107 (.iinc 3 1) (110) := ri_of (by decide +kernel) rfl
theorem wi_331_11 : ri (rt_P sc fm) 331 11 (.iconst 1) (12) := ri_of (by decide +kernel) rfl
theorem wi_331_110 : ri (rt_P sc fm) 331 110 (.goto (-26)) (113) := ri_of (by decide +kernel) rfl
theorem wi_331_113 : ri (rt_P sc fm) 331 113 (.iconst 1) (114) := ri_of (by decide +kernel) rfl
theorem wi_331_114 : ri (rt_P sc fm) 331 114 (.ireturn) (115) := ri_of (by decide +kernel) rfl
theorem wi_331_12 : ri (rt_P sc fm) 331 12 (.ireturn) (13) := ri_of (by decide +kernel) rfl
theorem wi_331_13 : ri (rt_P sc fm) 331 13 (.aload_n 0) (14) := ri_of (by decide +kernel) rfl
theorem wi_331_14 : ri (rt_P sc fm) 331 14 (.getfield 27) (17) := ri_of (by decide +kernel) rfl
theorem wi_331_17 : ri (rt_P sc fm) 331 17 (.getfield 227) (20) := ri_of (by decide +kernel) rfl
theorem wi_331_20 : ri (rt_P sc fm) 331 20 (.iload_n 1) (21) := ri_of (by decide +kernel) rfl
theorem wi_331_21 : ri (rt_P sc fm) 331 21 (.iaload) (22) := ri_of (by decide +kernel) rfl
theorem wi_331_22 : ri (rt_P sc fm) 331 22 (.bipush 100) (24) := ri_of (by decide +kernel) rfl
theorem wi_331_24 : ri (rt_P sc fm) 331 24 (.if_icmp .lt 40) (27) := ri_of (by decide +kernel) rfl
theorem wi_331_27 : ri (rt_P sc fm) 331 27 (.aload_n 0) (28) := ri_of (by decide +kernel) rfl
theorem wi_331_28 : ri (rt_P sc fm) 331 28 (.getfield 27) (31) := ri_of (by decide +kernel) rfl
theorem wi_331_31 : ri (rt_P sc fm) 331 31 (.iload_n 1) (32) := ri_of (by decide +kernel) rfl
theorem wi_331_32 : ri (rt_P sc fm) 331 32 (.aload_n 0) (33) := ri_of (by decide +kernel) rfl
theorem wi_331_33 : ri (rt_P sc fm) 331 33 (.getfield 19) (36) := ri_of (by decide +kernel) rfl
theorem wi_331_36 : ri (rt_P sc fm) 331 36 (.getfield 66) (39) := ri_of (by decide +kernel) rfl
theorem wi_331_39 : ri (rt_P sc fm) 331 39 (.aload_n 0) (40) := ri_of (by decide +kernel) rfl
theorem wi_331_4 : ri (rt_P sc fm) 331 4 (.iload_n 1) (5) := ri_of (by decide +kernel) rfl
theorem wi_331_40 : ri (rt_P sc fm) 331 40 (.getfield 27) (43) := ri_of (by decide +kernel) rfl
theorem wi_331_43 : ri (rt_P sc fm) 331 43 (.getfield 227) (46) := ri_of (by decide +kernel) rfl
theorem wi_331_46 : ri (rt_P sc fm) 331 46 (.iload_n 1) (47) := ri_of (by decide +kernel) rfl
theorem wi_331_47 : ri (rt_P sc fm) 331 47 (.iaload) (48) := ri_of (by decide +kernel) rfl
theorem wi_331_48 : ri (rt_P sc fm) 331 48 (.bipush 100) (50) := ri_of (by decide +kernel) rfl
theorem wi_331_5 : ri (rt_P sc fm) 331 5 (.invokevirtual 224) (8) := ri_of (by decide +kernel) rfl
theorem wi_331_50 : ri (rt_P sc fm) 331 50 (.isub) (51) := ri_of (by decide +kernel) rfl
theorem wi_331_51 : ri (rt_P sc fm) 331 51 (.aaload) (52) := ri_of (by decide +kernel) rfl
theorem wi_331_52 : ri (rt_P sc fm) 331 52 (.invokevirtual 230) (55) := ri_of (by decide +kernel) rfl
theorem wi_331_55 : ri (rt_P sc fm) 331 55 (.ifCond .lt 7) (58) := ri_of (by decide +kernel) rfl
theorem wi_331_58 : ri (rt_P sc fm) 331 58 (.iconst 1) (59) := ri_of (by decide +kernel) rfl
theorem wi_331_59 : ri (rt_P sc fm) 331 59 (.goto 4) (62) := ri_of (by decide +kernel) rfl
theorem wi_331_62 : ri (rt_P sc fm) 331 62 (.iconst 0) (63) := ri_of (by decide +kernel) rfl
theorem wi_331_63 : ri (rt_P sc fm) 331 63 (.ireturn) (64) := ri_of (by decide +kernel) rfl
theorem wi_331_64 : ri (rt_P sc fm) 331 64 (.aload_n 0) (65) := ri_of (by decide +kernel) rfl
theorem wi_331_65 : ri (rt_P sc fm) 331 65 (.getfield 19) (68) := ri_of (by decide +kernel) rfl
theorem wi_331_68 : ri (rt_P sc fm) 331 68 (.getfield 77) (71) := ri_of (by decide +kernel) rfl
theorem wi_331_71 : ri (rt_P sc fm) 331 71 (.aload_n 0) (72) := ri_of (by decide +kernel) rfl
theorem wi_331_72 : ri (rt_P sc fm) 331 72 (.getfield 27) (75) := ri_of (by decide +kernel) rfl
theorem wi_331_75 : ri (rt_P sc fm) 331 75 (.getfield 227) (78) := ri_of (by decide +kernel) rfl
theorem wi_331_78 : ri (rt_P sc fm) 331 78 (.iload_n 1) (79) := ri_of (by decide +kernel) rfl
theorem wi_331_79 : ri (rt_P sc fm) 331 79 (.iaload) (80) := ri_of (by decide +kernel) rfl
theorem wi_331_8 : ri (rt_P sc fm) 331 8 (.ifCond .eq 5) (11) := ri_of (by decide +kernel) rfl
theorem wi_331_80 : ri (rt_P sc fm) 331 80 (.aaload) (81) := ri_of (by decide +kernel) rfl
theorem wi_331_81 : ri (rt_P sc fm) 331 81 (.astore_n 2) (82) := ri_of (by decide +kernel) rfl
theorem wi_331_82 : ri (rt_P sc fm) 331 82 (.iconst 0) (83) := ri_of (by decide +kernel) rfl
theorem wi_331_83 : ri (rt_P sc fm) 331 83 (.istore_n 3) (84) := ri_of (by decide +kernel) rfl
theorem wi_331_84 : ri (rt_P sc fm) 331 84 (.iload_n 3) (85) := ri_of (by decide +kernel) rfl
theorem wi_331_85 : ri (rt_P sc fm) 331 85 (.aload_n 2) (86) := ri_of (by decide +kernel) rfl
theorem wi_331_86 : ri (rt_P sc fm) 331 86 (.getfield 144) (89) := ri_of (by decide +kernel) rfl
theorem wi_331_89 : ri (rt_P sc fm) 331 89 (.if_icmp .ge 24) (92) := ri_of (by decide +kernel) rfl
theorem wi_331_92 : ri (rt_P sc fm) 331 92 (.aload_n 0) (93) := ri_of (by decide +kernel) rfl
theorem wi_331_93 : ri (rt_P sc fm) 331 93 (.getfield 27) (96) := ri_of (by decide +kernel) rfl
theorem wi_331_96 : ri (rt_P sc fm) 331 96 (.iload_n 1) (97) := ri_of (by decide +kernel) rfl
theorem wi_331_97 : ri (rt_P sc fm) 331 97 (.aload_n 2) (98) := ri_of (by decide +kernel) rfl
theorem wi_331_98 : ri (rt_P sc fm) 331 98 (.iload_n 3) (99) := ri_of (by decide +kernel) rfl
theorem wi_331_99 : ri (rt_P sc fm) 331 99 (.invokevirtual 234) (102) := ri_of (by decide +kernel) rfl
theorem wr_331 : rx_rt (rt_P sc fm) 331 = (some FieldType.boolean) := (by decide +kernel : rt_rt 331 = (some FieldType.boolean))
/-- MarkHouse$Teller.isWhole(I)Z -/
def d_331 (n : Nat) (a1 : Int32) (c : cS) : Option (Int32) :=
  Option.bind (d_227 n a1 c) (fun v1 =>
  if v1 = 0 then
    if ib a1 4096 then
    if (c.1 135 (ix a1)) < 100 then
      if ib a1 4096 then
      if ib (c.1 135 (ix a1)) 12 then
      Option.bind (whl (R := (Unit) ⊕ (Unit)) (fun s7 : Int32 =>
        if (c.1 (kA (ix (c.1 135 (ix a1)))) 1) ≤ s7 then
          some (.inr (.inl ()))
        else
          Option.bind (d_232 n a1 (ix (c.1 135 (ix a1))) s7 c) (fun v8 =>
          if 0 ≤ v8 then
            lt (s7 + 1 : Int32) (fun v10 =>
            some (.inl v10))
          else
            some (.inr (.inr ())))) n 0)
      (Sum.elim (fun x12 : Unit =>
        some 1)
      (fun x13 : Unit =>
        some 0))
      else none
      else none
    else
      if ib a1 4096 then
      if ib ((c.1 135 (ix a1)) - 100) 4 then
      Option.bind (d_231 n a1 (ix ((c.1 135 (ix a1)) - 100)) c) (fun v16 =>
      jn (fun p17 : Int32 =>
        if nb p17 then
        some p17
        else none)
      (fun j63 =>
      if v16 < 0 then
        j63 0
      else
        j63 1))
      else none
      else none
    else none
  else
    some 1)
theorem sp_331 {F Lo n : Nat} {a1 : Int32} {c y : cS} {w : cW} {K : Int32 → Prop} {Q : ((Option Value) ⊕ String) → List va_E → Prop} (hw : rOK fm w) (hF : 6 ≤ F) (hLo : 131 ≤ Lo)  (h : wp (d_331 n a1 c) K) (hQ : ∀ r, K r → Q (.inl (some (.int r))) (hq true c y w)) : rs (rt_P sc fm) 331 F Lo 0 [(0, .ref 172), (1, .int a1)] [] (hq true c y w) Q := by
  unfold d_331 at h
  obtain ⟨lv, elv⟩ : ∃ lv : rx_L, lv = [(0, .ref 172), (1, .int a1)] := ⟨_, rfl⟩
  rw [← elv]
  have l0 : rx_ld lv 0 = some (.ref 172) := by rw [elv]; rfl
  have l1 : rx_ld lv 1 = some (.int a1) := by rw [elv]; rfl
  refine rs_aldn wi_331_0 l0 ?_
  refine dq_gr wi_331_1 wf_331_27 tf_172_5 ?_
  refine rs_ildn wi_331_4 l1 ?_
  refine rs_V wi_331_5 wc_331_224 rfl (dq_isa tf_133_0 wa_7_227) (Nat.le_trans (by decide) hF) (ml_le wm_227 (Nat.le_trans (by decide) hLo)) rfl (sp_227 hw (Nat.le_trans (by decide : 0 ≤ 6 - 1) (Nat.sub_le_sub_right hF 1)) (ml_sub wm_227 (Nat.le_trans (by decide : 0 ≤ 131 - 21) (Nat.sub_le_sub_right hLo 21))) (wp_bind h) (fun v1 h => rs_back1 ?_))
  refine rs_ifeq (tg := 13) wi_331_8 ⟨by decide, by decide⟩ (fun q => ?_) (fun q => ?_)
  ·
    have h := wp_pos h q
    refine rs_aldn wi_331_13 l0 ?_
    refine dq_gr wi_331_14 wf_331_27 tf_172_5 ?_
    refine dq_gr wi_331_17 wf_331_227 tf_133_1 ?_
    refine rs_ildn wi_331_20 l1 ?_
    obtain ⟨g2, h⟩ := wp_gd h
    refine dq_iald wi_331_21 t_135 g2 ?_
    refine rs_pure wi_331_22 rfl ?_
    refine rs_topi (v := 100) (by decide) ?_
    refine rs_iclt (tg := 64) wi_331_24 ⟨by decide, by decide⟩ (fun q => ?_) (fun q => ?_)
    ·
      have h := wp_pos h q
      refine rs_aldn wi_331_64 l0 ?_
      refine dq_gr wi_331_65 wf_331_19 tf_172_3 ?_
      refine dq_gr wi_331_68 wf_331_77 tf_7_3 ?_
      refine rs_aldn wi_331_71 l0 ?_
      refine dq_gr wi_331_72 wf_331_27 tf_172_5 ?_
      refine dq_gr wi_331_75 wf_331_227 tf_133_1 ?_
      refine rs_ildn wi_331_78 l1 ?_
      obtain ⟨g3, h⟩ := wp_gd h
      refine dq_iald wi_331_79 t_135 g3 ?_
      obtain ⟨g4, h⟩ := wp_gd h
      refine dq_aald wi_331_80 (by decide) t_9 g4 (hw.2.1 _ (ib_lt g4)) ?_
      refine dl_astn wi_331_81 rfl (fun lv l2 t5 => ?_)
      have l0 := t5 _ _ (by decide) (Or.inl rfl) l0
      have l1 := t5 _ _ (by decide) (Or.inl rfl) l1
      refine rs_pure wi_331_82 rfl ?_
      refine rs_topi (v := 0) (by decide) ?_
      refine dl_istn wi_331_83 rfl (fun lv l3 t6 => ?_)
      have l0 := t6 _ _ (by decide) (Or.inl rfl) l0
      have l1 := t6 _ _ (by decide) (Or.inl rfl) l1
      have l2 := t6 _ _ (by decide) (Or.inl rfl) l2
      refine whl_ex (A := fun s7 : Int32 => ∀ lv, rx_ld lv 0 = some (.ref 172) → rx_ld lv 1 = some (.int a1) → rx_ld lv 2 = some (.ref (kA (ix (c.1 135 (ix a1))))) → rx_ld lv 3 = some (.int s7) → rs (rt_P sc fm) 331 F Lo 84 lv [] (hq true c y w) Q) (B := (Sum.elim (fun x12 : Unit => ∀ lv, rs (rt_P sc fm) 331 F Lo 113 lv [] (hq true c y w) Q) (fun x13 : Unit => ∀ lv, rs (rt_P sc fm) 331 F Lo 105 lv [] (hq true c y w) Q))) ?_ ?_ _ _ (wp_bind h) _ l0 l1 l2 l3
      · intro s7 h lv l0 l1 l2 l3
        refine rs_ildn wi_331_84 l3 ?_
        refine rs_aldn wi_331_85 l2 ?_
        refine dq_gi wi_331_86 wf_331_144 (fK_1 (ib_lt g4)) ?_
        refine rs_icge (tg := 113) wi_331_89 ⟨by decide, by decide⟩ (fun q => ?_) (fun q => ?_)
        ·
          have h := wp_pos h q
          exact h _
        ·
          have h := wp_neg h q
          refine rs_aldn wi_331_92 l0 ?_
          refine dq_gr wi_331_93 wf_331_27 tf_172_5 ?_
          refine rs_ildn wi_331_96 l1 ?_
          refine rs_aldn wi_331_97 l2 ?_
          refine rs_ildn wi_331_98 l3 ?_
          refine rs_V wi_331_99 wc_331_234 rfl (dq_isa tf_133_0 wa_7_232) (Nat.le_trans (by decide) hF) (ml_le wm_232 (Nat.le_trans (by decide) hLo)) rfl (sp_232 hw (Nat.le_trans (by decide : 1 ≤ 6 - 1) (Nat.sub_le_sub_right hF 1)) (ml_sub wm_232 (Nat.le_trans (by decide : 24 ≤ 131 - 24) (Nat.sub_le_sub_right hLo 24))) (ib_lt g4) (wp_bind h) (fun v8 h => rs_back1 ?_))
          refine rs_ifge (tg := 107) wi_331_102 ⟨by decide, by decide⟩ (fun q => ?_) (fun q => ?_)
          ·
            have h := wp_pos h q
            obtain ⟨v10, e11, h⟩ := wp_lt h
            refine dl_inc wi_331_107 l3 rfl e11 (fun lv l3 t9 => ?_)
            have l0 := t9 _ _ (by decide) (Or.inl rfl) l0
            have l1 := t9 _ _ (by decide) (Or.inl rfl) l1
            have l2 := t9 _ _ (by decide) (Or.inl rfl) l2
            refine rs_goto (tg := 84) wi_331_110 ⟨by decide, by decide⟩ ?_
            exact h _ l0 l1 l2 l3
          ·
            have h := wp_neg h q
            exact h _
      ·
        refine sum_all ?_ ?_
        ·
          intro x12 h lv
          have h := wp_inl h
          refine rs_pure wi_331_113 rfl ?_
          refine rs_topi (v := 1) (by decide) ?_
          exact rs_iret wi_331_114 wr_331 (nb_n (by decide)) (hQ 1 h)
        ·
          intro x13 h lv
          have h := wp_inr h
          refine rs_pure wi_331_105 rfl ?_
          refine rs_topi (v := 0) (by decide) ?_
          exact rs_iret wi_331_106 wr_331 (nb_n (by decide)) (hQ 0 h)
    ·
      have h := wp_neg h q
      refine rs_aldn wi_331_27 l0 ?_
      refine dq_gr wi_331_28 wf_331_27 tf_172_5 ?_
      refine rs_ildn wi_331_31 l1 ?_
      refine rs_aldn wi_331_32 l0 ?_
      refine dq_gr wi_331_33 wf_331_19 tf_172_3 ?_
      refine dq_gr wi_331_36 wf_331_66 tf_7_1 ?_
      refine rs_aldn wi_331_39 l0 ?_
      refine dq_gr wi_331_40 wf_331_27 tf_172_5 ?_
      refine dq_gr wi_331_43 wf_331_227 tf_133_1 ?_
      refine rs_ildn wi_331_46 l1 ?_
      obtain ⟨g14, h⟩ := wp_gd h
      refine dq_iald wi_331_47 t_135 g14 ?_
      refine rs_pure wi_331_48 rfl ?_
      refine rs_topi (v := 100) (by decide) ?_
      refine rs_pure wi_331_50 rfl ?_
      obtain ⟨g15, h⟩ := wp_gd h
      refine dq_aald wi_331_51 (by decide) t_8 g15 (hw.1 _ (ib_lt g15)) ?_
      refine rs_V wi_331_52 wc_331_230 rfl (dq_isa tf_133_0 wa_7_231) (Nat.le_trans (by decide) hF) (ml_le wm_231 (Nat.le_trans (by decide) hLo)) rfl (sp_231 hw (Nat.le_trans (by decide : 5 ≤ 6 - 1) (Nat.sub_le_sub_right hF 1)) (ml_sub wm_231 (Nat.le_trans (by decide : 108 ≤ 131 - 23) (Nat.sub_le_sub_right hLo 23))) (ib_lt g15) (wp_bind h) (fun v16 h => rs_back1 ?_))
      refine wp_jn (B := fun p17 : Int32 => ∀ lv, rs (rt_P sc fm) 331 F Lo 63 lv [.int p17] (hq true c y w) Q) h (fun p17 h lv => ?_) (fun j63 hj63 h => ?_)
      ·
        obtain ⟨g18, h⟩ := wp_gd h
        exact rs_iret wi_331_63 wr_331 (nb_n g18) (hQ p17 h)
      refine rs_iflt (tg := 62) wi_331_55 ⟨by decide, by decide⟩ (fun q => ?_) (fun q => ?_)
      ·
        have h := wp_pos h q
        refine rs_pure wi_331_62 rfl ?_
        refine rs_topi (v := 0) (by decide) ?_
        exact hj63 _ h _
      ·
        have h := wp_neg h q
        refine rs_pure wi_331_58 rfl ?_
        refine rs_topi (v := 1) (by decide) ?_
        refine rs_goto (tg := 63) wi_331_59 ⟨by decide, by decide⟩ ?_
        exact hj63 _ h _
  ·
    have h := wp_neg h q
    refine rs_pure wi_331_11 rfl ?_
    refine rs_topi (v := 1) (by decide) ?_
    exact rs_iret wi_331_12 wr_331 (nb_n (by decide)) (hQ 1 h)
theorem wc_233_78 : rx_ct (rt_P sc fm) 233 78 = some (0, 230, 2) := (by decide +kernel : rt_ct 233 78 = some (0, 230, 2))
theorem wf_233_36 : rx_ft (rt_P sc fm) 233 36 = some (7, 7) := (by decide +kernel : rt_ft 233 36 = some (7, 7))
theorem wf_233_87 : rx_ft (rt_P sc fm) 233 87 = some (6, 2) := (by decide +kernel : rt_ft 233 87 = some (6, 2))
theorem wf_233_98 : rx_ft (rt_P sc fm) 233 98 = some (6, 5) := (by decide +kernel : rt_ft 233 98 = some (6, 5))
theorem wi_233_0 : ri (rt_P sc fm) 233 0 (.aload_n 0) (1) := ri_of (by decide +kernel) rfl
theorem wi_233_1 : ri (rt_P sc fm) 233 1 (.iload_n 1) (2) := ri_of (by decide +kernel) rfl
theorem wi_233_11 : ri (rt_P sc fm) 233 11 (.istore 4) (13) := ri_of (by decide +kernel) rfl
theorem wi_233_13 : ri (rt_P sc fm) 233 13 (.iload 4) (15) := ri_of (by decide +kernel) rfl
theorem wi_233_15 : ri (rt_P sc fm) 233 15 (.ifCond .ge 12) (18) := ri_of (by decide +kernel) rfl
theorem wi_233_18 : ri (rt_P sc fm) 233 18 (.aload_n 2) (19) := ri_of (by decide +kernel) rfl
theorem wi_233_19 : ri (rt_P sc fm) 233 19 (.getfield 98) (22) := ri_of (by decide +kernel) rfl
theorem wi_233_2 : ri (rt_P sc fm) 233 2 (.aload_n 2) (3) := ri_of (by decide +kernel) rfl
theorem wi_233_22 : ri (rt_P sc fm) 233 22 (.iload_n 3) (23) := ri_of (by decide +kernel) rfl
theorem wi_233_23 : ri (rt_P sc fm) 233 23 (.laload) (24) := ri_of (by decide +kernel) rfl
theorem wi_233_24 : ri (rt_P sc fm) 233 24 (.goto 10) (27) := ri_of (by decide +kernel) rfl
theorem wi_233_27 : ri (rt_P sc fm) 233 27 (.aload_n 0) (28) := ri_of (by decide +kernel) rfl
theorem wi_233_28 : ri (rt_P sc fm) 233 28 (.getfield 36) (31) := ri_of (by decide +kernel) rfl
theorem wi_233_3 : ri (rt_P sc fm) 233 3 (.getfield 87) (6) := ri_of (by decide +kernel) rfl
theorem wi_233_31 : ri (rt_P sc fm) 233 31 (.iload 4) (33) := ri_of (by decide +kernel) rfl
theorem wi_233_33 : ri (rt_P sc fm) 233 33 (.laload) (34) := ri_of (by decide +kernel) rfl
theorem wi_233_34 : ri (rt_P sc fm) 233 34 (.lreturn) (35) := ri_of (by decide +kernel) rfl
theorem wi_233_6 : ri (rt_P sc fm) 233 6 (.iload_n 3) (7) := ri_of (by decide +kernel) rfl
theorem wi_233_7 : ri (rt_P sc fm) 233 7 (.laload) (8) := ri_of (by decide +kernel) rfl
theorem wi_233_8 : ri (rt_P sc fm) 233 8 (.invokevirtual 78) (11) := ri_of (by decide +kernel) rfl
theorem wr_233 : rx_rt (rt_P sc fm) 233 = (some FieldType.long) := (by decide +kernel : rt_rt 233 = (some FieldType.long))
/-- MarkHouse$Marks.memberValue(ILMarkHouse$Kind;I)J -/
def d_233 (n : Nat) (a1 : Int32) (k2 : Nat) (a3 : Int32) (c : cS) : Option (Int64) :=
  if ib a3 4 then
  Option.bind (d_230 n a1 (c.2 (kA k2 + 1) (ix a3)) c) (fun v2 =>
  jn (fun p4 : Int64 =>
    some p4)
  (fun j34 =>
  if 0 ≤ v2 then
    if ib v2 16384 then
    j34 (c.2 141 (ix v2))
    else none
  else
    if ib a3 4 then
    j34 (c.2 (kA k2 + 4) (ix a3))
    else none))
  else none
theorem sp_233 {F Lo n : Nat} {a1 : Int32} {k2 : Nat} {a3 : Int32} {c y : cS} {w : cW} {K : Int64 → Prop} {Q : ((Option Value) ⊕ String) → List va_E → Prop} (hw : rOK fm w) (hF : 1 ≤ F) (hLo : 24 ≤ Lo) (hk2 : k2 < 12) (h : wp (d_233 n a1 k2 a3 c) K) (hQ : ∀ r, K r → Q (.inl (some (.long r))) (hq true c y w)) : rs (rt_P sc fm) 233 F Lo 0 [(0, .ref 133), (1, .int a1), (2, .ref (kA k2)), (3, .int a3)] [] (hq true c y w) Q := by
  unfold d_233 at h
  obtain ⟨lv, elv⟩ : ∃ lv : rx_L, lv = [(0, .ref 133), (1, .int a1), (2, .ref (kA k2)), (3, .int a3)] := ⟨_, rfl⟩
  rw [← elv]
  have l0 : rx_ld lv 0 = some (.ref 133) := by rw [elv]; rfl
  have l1 : rx_ld lv 1 = some (.int a1) := by rw [elv]; rfl
  have l2 : rx_ld lv 2 = some (.ref (kA k2)) := by rw [elv]; rfl
  have l3 : rx_ld lv 3 = some (.int a3) := by rw [elv]; rfl
  refine rs_aldn wi_233_0 l0 ?_
  refine rs_ildn wi_233_1 l1 ?_
  refine rs_aldn wi_233_2 l2 ?_
  refine dq_gr wi_233_3 wf_233_87 (fK_2 hk2) ?_
  refine rs_ildn wi_233_6 l3 ?_
  obtain ⟨g1, h⟩ := wp_gd h
  refine dq_lald wi_233_7 (tK_1 hk2) g1 ?_
  refine rs_V wi_233_8 wc_233_78 rfl (dq_isa tf_133_0 wa_7_230) (Nat.le_trans (by decide) hF) (ml_le wm_230 (Nat.le_trans (by decide) hLo)) rfl (sp_230 hw (Nat.le_trans (by decide : 0 ≤ 1 - 1) (Nat.sub_le_sub_right hF 1)) (ml_sub wm_230 (Nat.le_trans (by decide : 0 ≤ 24 - 24) (Nat.sub_le_sub_right hLo 24))) (wp_bind h) (fun v2 h => rs_back1 ?_))
  refine dl_ist wi_233_11 rfl (fun lv l4 t3 => ?_)
  have l0 := t3 _ _ (by decide) (Or.inl rfl) l0
  have l2 := t3 _ _ (by decide) (Or.inl rfl) l2
  have l3 := t3 _ _ (by decide) (Or.inl rfl) l3
  refine rs_ild wi_233_13 l4 ?_
  refine wp_jn (B := fun p4 : Int64 => ∀ lv, rs (rt_P sc fm) 233 F Lo 34 lv [.long p4] (hq true c y w) Q) h (fun p4 h lv => ?_) (fun j34 hj34 h => ?_)
  ·
    exact rs_lret wi_233_34 wr_233 (hQ p4 h)
  refine rs_ifge (tg := 27) wi_233_15 ⟨by decide, by decide⟩ (fun q => ?_) (fun q => ?_)
  ·
    have h := wp_pos h q
    refine rs_aldn wi_233_27 l0 ?_
    refine dq_gr wi_233_28 wf_233_36 tf_133_7 ?_
    refine rs_ild wi_233_31 l4 ?_
    obtain ⟨g5, h⟩ := wp_gd h
    refine dq_lald wi_233_33 t_141 g5 ?_
    exact hj34 _ h _
  ·
    have h := wp_neg h q
    refine rs_aldn wi_233_18 l2 ?_
    refine dq_gr wi_233_19 wf_233_98 (fK_5 hk2) ?_
    refine rs_ildn wi_233_22 l3 ?_
    obtain ⟨g6, h⟩ := wp_gd h
    refine dq_lald wi_233_23 (tK_4 hk2) g6 ?_
    refine rs_goto (tg := 34) wi_233_24 ⟨by decide, by decide⟩ ?_
    exact hj34 _ h _
theorem wa_12_323 : rz_cn 12 (rx_yn (rt_P sc fm) 323).cls = true := (by decide +kernel : rz_cn 12 (rt_yn 323).cls = true)
theorem wa_7_233 : rz_cn 7 (rx_yn (rt_P sc fm) 233).cls = true := (by decide +kernel : rz_cn 7 (rt_yn 233).cls = true)
theorem wc_332_158 : rx_ct (rt_P sc fm) 332 158 = some (0, 323, 2) := (by decide +kernel : rt_ct 332 158 = some (0, 323, 2))
theorem wc_332_224 : rx_ct (rt_P sc fm) 332 224 = some (0, 227, 1) := (by decide +kernel : rt_ct 332 224 = some (0, 227, 1))
theorem wc_332_230 : rx_ct (rt_P sc fm) 332 230 = some (0, 231, 2) := (by decide +kernel : rt_ct 332 230 = some (0, 231, 2))
theorem wc_332_240 : rx_ct (rt_P sc fm) 332 240 = some (0, 230, 2) := (by decide +kernel : rt_ct 332 240 = some (0, 230, 2))
theorem wc_332_244 : rx_ct (rt_P sc fm) 332 244 = some (0, 233, 3) := (by decide +kernel : rt_ct 332 244 = some (0, 233, 3))
theorem wc_332_51 : rx_ct (rt_P sc fm) 332 51 = some (0, 320, 1) := (by decide +kernel : rt_ct 332 51 = some (0, 320, 1))
theorem wc_332_54 : rx_ct (rt_P sc fm) 332 54 = some (0, 322, 1) := (by decide +kernel : rt_ct 332 54 = some (0, 322, 1))
theorem wf_332_137 : rx_ft (rt_P sc fm) 332 137 = some (8, 4) := (by decide +kernel : rt_ft 332 137 = some (8, 4))
theorem wf_332_144 : rx_ft (rt_P sc fm) 332 144 = some (6, 1) := (by decide +kernel : rt_ft 332 144 = some (6, 1))
theorem wf_332_145 : rx_ft (rt_P sc fm) 332 145 = some (6, 2) := (by decide +kernel : rt_ft 332 145 = some (6, 2))
theorem wf_332_148 : rx_ft (rt_P sc fm) 332 148 = some (6, 3) := (by decide +kernel : rt_ft 332 148 = some (6, 3))
theorem wf_332_15 : rx_ft (rt_P sc fm) 332 15 = some (12, 2) := (by decide +kernel : rt_ft 332 15 = some (12, 2))
theorem wf_332_19 : rx_ft (rt_P sc fm) 332 19 = some (12, 3) := (by decide +kernel : rt_ft 332 19 = some (12, 3))
theorem wf_332_227 : rx_ft (rt_P sc fm) 332 227 = some (7, 1) := (by decide +kernel : rt_ft 332 227 = some (7, 1))
theorem wf_332_238 : rx_ft (rt_P sc fm) 332 238 = some (7, 0) := (by decide +kernel : rt_ft 332 238 = some (7, 0))
theorem wf_332_27 : rx_ft (rt_P sc fm) 332 27 = some (12, 5) := (by decide +kernel : rt_ft 332 27 = some (12, 5))
theorem wf_332_66 : rx_ft (rt_P sc fm) 332 66 = some (9, 1) := (by decide +kernel : rt_ft 332 66 = some (9, 1))
theorem wf_332_77 : rx_ft (rt_P sc fm) 332 77 = some (9, 3) := (by decide +kernel : rt_ft 332 77 = some (9, 3))
theorem wi_332_0 : ri (rt_P sc fm) 332 0 (.aload_n 0) (1) := ri_of (by decide +kernel) rfl
theorem wi_332_1 : ri (rt_P sc fm) 332 1 (.bipush 64) (3) := ri_of (by decide +kernel) rfl
theorem wi_332_10 : ri (rt_P sc fm) 332 10 (.iload_n 1) (11) := ri_of (by decide +kernel) rfl
theorem wi_332_100 : ri (rt_P sc fm) 332 100 (.getfield 27) (103) := ri_of (by decide +kernel) rfl
theorem wi_332_103 : ri (rt_P sc fm) 332 103 (.iload_n 1) (104) := ri_of (by decide +kernel) rfl
theorem wi_332_104 : ri (rt_P sc fm) 332 104 (.aload_n 2) (105) := ri_of (by decide +kernel) rfl
theorem wi_332_105 : ri (rt_P sc fm) 332 105 (.invokevirtual 230) (108) := ri_of (by decide +kernel) rfl
theorem wi_332_108 : ri (rt_P sc fm) 332 108 (.laload) (109) := ri_of (by decide +kernel) rfl
theorem wi_332_109 : ri (rt_P sc fm) 332 109 (.invokevirtual 51) (112) := ri_of (by decide +kernel) rfl
theorem wi_332_11 : ri (rt_P sc fm) 332 11 (.invokevirtual 224) (14) := ri_of (by decide +kernel) rfl
theorem wi_332_112 : ri (rt_P sc fm) 332 112 (.return_) (113) := ri_of (by decide +kernel) rfl
theorem wi_332_113 : ri (rt_P sc fm) 332 113 (.aload_n 0) (114) := ri_of (by decide +kernel) rfl
theorem wi_332_114 : ri (rt_P sc fm) 332 114 (.getfield 19) (117) := ri_of (by decide +kernel) rfl
theorem wi_332_117 : ri (rt_P sc fm) 332 117 (.getfield 77) (120) := ri_of (by decide +kernel) rfl
theorem wi_332_120 : ri (rt_P sc fm) 332 120 (.aload_n 0) (121) := ri_of (by decide +kernel) rfl
theorem wi_332_121 : ri (rt_P sc fm) 332 121 (.getfield 27) (124) := ri_of (by decide +kernel) rfl
theorem wi_332_124 : ri (rt_P sc fm) 332 124 (.getfield 227) (127) := ri_of (by decide +kernel) rfl
theorem wi_332_127 : ri (rt_P sc fm) 332 127 (.iload_n 1) (128) := ri_of (by decide +kernel) rfl
theorem wi_332_128 : ri (rt_P sc fm) 332 128 (.iaload) (129) := ri_of (by decide +kernel) rfl
theorem wi_332_129 : ri (rt_P sc fm) 332 129 (.aaload) (130) := ri_of (by decide +kernel) rfl
theorem wi_332_130 : ri (rt_P sc fm) 332 130 (.astore_n 2) (131) := ri_of (by decide +kernel) rfl
theorem wi_332_131 : ri (rt_P sc fm) 332 131 (.iconst 0) (132) := ri_of (by decide +kernel) rfl
theorem wi_332_132 : ri (rt_P sc fm) 332 132 (.istore_n 3) (133) := ri_of (by decide +kernel) rfl
theorem wi_332_133 : ri (rt_P sc fm) 332 133 (.iconst 0) (134) := ri_of (by decide +kernel) rfl
theorem wi_332_134 : ri (rt_P sc fm) 332 134 (.istore 4) (136) := ri_of (by decide +kernel) rfl
theorem wi_332_136 : ri (rt_P sc fm) 332 136 (.iload 4) (138) := ri_of (by decide +kernel) rfl
theorem wi_332_138 : ri (rt_P sc fm) 332 138 (.aload_n 2) (139) := ri_of (by decide +kernel) rfl
theorem wi_332_139 : ri (rt_P sc fm) 332 139 (.getfield 144) (142) := ri_of (by decide +kernel) rfl
theorem wi_332_14 : ri (rt_P sc fm) 332 14 (.ifCond .eq 14) (17) := ri_of (by decide +kernel) rfl
theorem wi_332_142 : ri (rt_P sc fm) 332 142 (.if_icmp .ge 83) (145) := ri_of (by decide +kernel) rfl
theorem wi_332_145 : ri (rt_P sc fm) 332 145 (.aload_n 0) (146) := ri_of (by decide +kernel) rfl
theorem wi_332_146 : ri (rt_P sc fm) 332 146 (.getfield 27) (149) := ri_of (by decide +kernel) rfl
theorem wi_332_149 : ri (rt_P sc fm) 332 149 (.iload_n 1) (150) := ri_of (by decide +kernel) rfl
theorem wi_332_150 : ri (rt_P sc fm) 332 150 (.aload_n 2) (151) := ri_of (by decide +kernel) rfl
theorem wi_332_151 : ri (rt_P sc fm) 332 151 (.getfield 145) (154) := ri_of (by decide +kernel) rfl
theorem wi_332_154 : ri (rt_P sc fm) 332 154 (.iload 4) (156) := ri_of (by decide +kernel) rfl
theorem wi_332_156 : ri (rt_P sc fm) 332 156 (.laload) (157) := ri_of (by decide +kernel) rfl
theorem wi_332_157 : ri (rt_P sc fm) 332 157 (.invokevirtual 240) (160) := ri_of (by decide +kernel) rfl
theorem wi_332_160 : ri (rt_P sc fm) 332 160 (.ifCond .lt 59) (163) := ri_of (by decide +kernel) rfl
theorem wi_332_163 : ri (rt_P sc fm) 332 163 (.aload_n 0) (164) := ri_of (by decide +kernel) rfl
theorem wi_332_164 : ri (rt_P sc fm) 332 164 (.iload_n 3) (165) := ri_of (by decide +kernel) rfl
theorem wi_332_165 : ri (rt_P sc fm) 332 165 (.ifCond .eq 8) (168) := ri_of (by decide +kernel) rfl
theorem wi_332_168 : ri (rt_P sc fm) 332 168 (.bipush 44) (170) := ri_of (by decide +kernel) rfl
theorem wi_332_17 : ri (rt_P sc fm) 332 17 (.aload_n 0) (18) := ri_of (by decide +kernel) rfl
theorem wi_332_170 : ri (rt_P sc fm) 332 170 (.goto 5) (173) := ri_of (by decide +kernel) rfl
theorem wi_332_173 : ri (rt_P sc fm) 332 173 (.bipush 40) (175) := ri_of (by decide +kernel) rfl
theorem wi_332_175 : ri (rt_P sc fm) 332 175 (.invokevirtual 54) (178) := ri_of (by decide +kernel) rfl
theorem wi_332_178 : ri (rt_P sc fm) 332 178 (.iconst 1) (179) := ri_of (by decide +kernel) rfl
theorem wi_332_179 : ri (rt_P sc fm) 332 179 (.istore_n 3) (180) := ri_of (by decide +kernel) rfl
theorem wi_332_18 : ri (rt_P sc fm) 332 18 (.aload_n 0) (19) := ri_of (by decide +kernel) rfl
theorem wi_332_180 : ri (rt_P sc fm) 332 180 (.aload_n 0) (181) := ri_of (by decide +kernel) rfl
theorem wi_332_181 : ri (rt_P sc fm) 332 181 (.aload_n 2) (182) := ri_of (by decide +kernel) rfl
theorem wi_332_182 : ri (rt_P sc fm) 332 182 (.getfield 145) (185) := ri_of (by decide +kernel) rfl
theorem wi_332_185 : ri (rt_P sc fm) 332 185 (.iload 4) (187) := ri_of (by decide +kernel) rfl
theorem wi_332_187 : ri (rt_P sc fm) 332 187 (.laload) (188) := ri_of (by decide +kernel) rfl
theorem wi_332_188 : ri (rt_P sc fm) 332 188 (.invokevirtual 51) (191) := ri_of (by decide +kernel) rfl
theorem wi_332_19 : ri (rt_P sc fm) 332 19 (.getfield 15) (22) := ri_of (by decide +kernel) rfl
theorem wi_332_191 : ri (rt_P sc fm) 332 191 (.aload_n 0) (192) := ri_of (by decide +kernel) rfl
theorem wi_332_192 : ri (rt_P sc fm) 332 192 (.bipush 61) (194) := ri_of (by decide +kernel) rfl
theorem wi_332_194 : ri (rt_P sc fm) 332 194 (.invokevirtual 54) (197) := ri_of (by decide +kernel) rfl
theorem wi_332_197 : ri (rt_P sc fm) 332 197 (.aload_n 0) (198) := ri_of (by decide +kernel) rfl
theorem wi_332_198 : ri (rt_P sc fm) 332 198 (.aload_n 2) (199) := ri_of (by decide +kernel) rfl
theorem wi_332_199 : ri (rt_P sc fm) 332 199 (.getfield 148) (202) := ri_of (by decide +kernel) rfl
theorem wi_332_202 : ri (rt_P sc fm) 332 202 (.iload 4) (204) := ri_of (by decide +kernel) rfl
theorem wi_332_204 : ri (rt_P sc fm) 332 204 (.iaload) (205) := ri_of (by decide +kernel) rfl
theorem wi_332_205 : ri (rt_P sc fm) 332 205 (.aload_n 0) (206) := ri_of (by decide +kernel) rfl
theorem wi_332_206 : ri (rt_P sc fm) 332 206 (.getfield 27) (209) := ri_of (by decide +kernel) rfl
theorem wi_332_209 : ri (rt_P sc fm) 332 209 (.iload_n 1) (210) := ri_of (by decide +kernel) rfl
theorem wi_332_210 : ri (rt_P sc fm) 332 210 (.aload_n 2) (211) := ri_of (by decide +kernel) rfl
theorem wi_332_211 : ri (rt_P sc fm) 332 211 (.iload 4) (213) := ri_of (by decide +kernel) rfl
theorem wi_332_213 : ri (rt_P sc fm) 332 213 (.invokevirtual 244) (216) := ri_of (by decide +kernel) rfl
theorem wi_332_216 : ri (rt_P sc fm) 332 216 (.invokevirtual 158) (219) := ri_of (by decide +kernel) rfl
theorem wi_332_219 : ri (rt_P sc fm) 332 219 (.iinc 4 1) (222) := ri_of (by decide +kernel) rfl
theorem wi_332_22 : ri (rt_P sc fm) 332 22 (.bipush 11) (24) := ri_of (by decide +kernel) rfl
theorem wi_332_222 : ri (rt_P sc fm) 332 222 (.goto (-86)) (225) := ri_of (by decide +kernel) rfl
theorem wi_332_225 : ri (rt_P sc fm) 332 225 (.iload_n 3) (226) := ri_of (by decide +kernel) rfl
theorem wi_332_226 : ri (rt_P sc fm) 332 226 (.ifCond .eq 9) (229) := ri_of (by decide +kernel) rfl
theorem wi_332_229 : ri (rt_P sc fm) 332 229 (.aload_n 0) (230) := ri_of (by decide +kernel) rfl
theorem wi_332_230 : ri (rt_P sc fm) 332 230 (.bipush 41) (232) := ri_of (by decide +kernel) rfl
theorem wi_332_232 : ri (rt_P sc fm) 332 232 (.invokevirtual 54) (235) := ri_of (by decide +kernel) rfl
theorem wi_332_235 : ri (rt_P sc fm) 332 235 (.return_) (236) := ri_of (by decide +kernel) rfl
theorem wi_332_24 : ri (rt_P sc fm) 332 24 (.laload) (25) := ri_of (by decide +kernel) rfl
theorem wi_332_25 : ri (rt_P sc fm) 332 25 (.invokevirtual 51) (28) := ri_of (by decide +kernel) rfl
theorem wi_332_28 : ri (rt_P sc fm) 332 28 (.aload_n 0) (29) := ri_of (by decide +kernel) rfl
theorem wi_332_29 : ri (rt_P sc fm) 332 29 (.aload_n 0) (30) := ri_of (by decide +kernel) rfl
theorem wi_332_3 : ri (rt_P sc fm) 332 3 (.invokevirtual 54) (6) := ri_of (by decide +kernel) rfl
theorem wi_332_30 : ri (rt_P sc fm) 332 30 (.getfield 27) (33) := ri_of (by decide +kernel) rfl
theorem wi_332_33 : ri (rt_P sc fm) 332 33 (.getfield 238) (36) := ri_of (by decide +kernel) rfl
theorem wi_332_36 : ri (rt_P sc fm) 332 36 (.iload_n 1) (37) := ri_of (by decide +kernel) rfl
theorem wi_332_37 : ri (rt_P sc fm) 332 37 (.laload) (38) := ri_of (by decide +kernel) rfl
theorem wi_332_38 : ri (rt_P sc fm) 332 38 (.invokevirtual 51) (41) := ri_of (by decide +kernel) rfl
theorem wi_332_41 : ri (rt_P sc fm) 332 41 (.aload_n 0) (42) := ri_of (by decide +kernel) rfl
theorem wi_332_42 : ri (rt_P sc fm) 332 42 (.getfield 27) (45) := ri_of (by decide +kernel) rfl
theorem wi_332_45 : ri (rt_P sc fm) 332 45 (.iload_n 1) (46) := ri_of (by decide +kernel) rfl
theorem wi_332_46 : ri (rt_P sc fm) 332 46 (.invokevirtual 224) (49) := ri_of (by decide +kernel) rfl
theorem wi_332_49 : ri (rt_P sc fm) 332 49 (.ifCond .eq 4) (52) := ri_of (by decide +kernel) rfl
theorem wi_332_52 : ri (rt_P sc fm) 332 52 (.return_) (53) := ri_of (by decide +kernel) rfl
theorem wi_332_53 : ri (rt_P sc fm) 332 53 (.aload_n 0) (54) := ri_of (by decide +kernel) rfl
theorem wi_332_54 : ri (rt_P sc fm) 332 54 (.getfield 27) (57) := ri_of (by decide +kernel) rfl
theorem wi_332_57 : ri (rt_P sc fm) 332 57 (.getfield 227) (60) := ri_of (by decide +kernel) rfl
theorem wi_332_6 : ri (rt_P sc fm) 332 6 (.aload_n 0) (7) := ri_of (by decide +kernel) rfl
theorem wi_332_60 : ri (rt_P sc fm) 332 60 (.iload_n 1) (61) := ri_of (by decide +kernel) rfl
theorem wi_332_61 : ri (rt_P sc fm) 332 61 (.iaload) (62) := ri_of (by decide +kernel) rfl
theorem wi_332_62 : ri (rt_P sc fm) 332 62 (.bipush 100) (64) := ri_of (by decide +kernel) rfl
theorem wi_332_64 : ri (rt_P sc fm) 332 64 (.if_icmp .lt 49) (67) := ri_of (by decide +kernel) rfl
theorem wi_332_67 : ri (rt_P sc fm) 332 67 (.aload_n 0) (68) := ri_of (by decide +kernel) rfl
theorem wi_332_68 : ri (rt_P sc fm) 332 68 (.getfield 19) (71) := ri_of (by decide +kernel) rfl
theorem wi_332_7 : ri (rt_P sc fm) 332 7 (.getfield 27) (10) := ri_of (by decide +kernel) rfl
theorem wi_332_71 : ri (rt_P sc fm) 332 71 (.getfield 66) (74) := ri_of (by decide +kernel) rfl
theorem wi_332_74 : ri (rt_P sc fm) 332 74 (.aload_n 0) (75) := ri_of (by decide +kernel) rfl
theorem wi_332_75 : ri (rt_P sc fm) 332 75 (.getfield 27) (78) := ri_of (by decide +kernel) rfl
theorem wi_332_78 : ri (rt_P sc fm) 332 78 (.getfield 227) (81) := ri_of (by decide +kernel) rfl
theorem wi_332_81 : ri (rt_P sc fm) 332 81 (.iload_n 1) (82) := ri_of (by decide +kernel) rfl
theorem wi_332_82 : ri (rt_P sc fm) 332 82 (.iaload) (83) := ri_of (by decide +kernel) rfl
theorem wi_332_83 : ri (rt_P sc fm) 332 83 (.bipush 100) (85) := ri_of (by decide +kernel) rfl
theorem wi_332_85 : ri (rt_P sc fm) 332 85 (.isub) (86) := ri_of (by decide +kernel) rfl
theorem wi_332_86 : ri (rt_P sc fm) 332 86 (.aaload) (87) := ri_of (by decide +kernel) rfl
theorem wi_332_87 : ri (rt_P sc fm) 332 87 (.astore_n 2) (88) := ri_of (by decide +kernel) rfl
theorem wi_332_88 : ri (rt_P sc fm) 332 88 (.aload_n 0) (89) := ri_of (by decide +kernel) rfl
theorem wi_332_89 : ri (rt_P sc fm) 332 89 (.bipush 46) (91) := ri_of (by decide +kernel) rfl
theorem wi_332_91 : ri (rt_P sc fm) 332 91 (.invokevirtual 54) (94) := ri_of (by decide +kernel) rfl
theorem wi_332_94 : ri (rt_P sc fm) 332 94 (.aload_n 0) (95) := ri_of (by decide +kernel) rfl
theorem wi_332_95 : ri (rt_P sc fm) 332 95 (.aload_n 2) (96) := ri_of (by decide +kernel) rfl
theorem wi_332_96 : ri (rt_P sc fm) 332 96 (.getfield 137) (99) := ri_of (by decide +kernel) rfl
theorem wi_332_99 : ri (rt_P sc fm) 332 99 (.aload_n 0) (100) := ri_of (by decide +kernel) rfl
theorem wm_233 : rx_ml (rt_P sc fm) 233 = 5 := (by decide +kernel : rt_ml 233 = 5)
theorem wm_323 : rx_ml (rt_P sc fm) 323 = 4 := (by decide +kernel : rt_ml 323 = 4)
theorem wr_332 : rx_rt (rt_P sc fm) 332 = none := (by decide +kernel : rt_rt 332 = none)
/-- MarkHouse$Teller.writeMark(I)V -/
def d_332 (n : Nat) (a1 : Int32) (c : cS) : Option (cS) :=
  Option.bind (d_322 n 64 c) (fun r1 =>
  Option.bind (d_227 n a1 r1) (fun v2 =>
  jn (fun p3 : cS =>
    if ib a1 4096 then
    Option.bind (d_320 n (p3.2 134 (ix a1)) p3) (fun r5 =>
    Option.bind (d_227 n a1 r5) (fun v6 =>
    if v6 = 0 then
      if ib a1 4096 then
      if (r5.1 135 (ix a1)) < 100 then
        if ib a1 4096 then
        if ib (r5.1 135 (ix a1)) 12 then
        Option.bind (whl (R := (Int32 × cS)) (fun s13 : Int32 × Int32 × cS =>
          if (s13.2.2.1 (kA (ix (r5.1 135 (ix a1)))) 1) ≤ s13.2.1 then
            some (.inr (s13.1, s13.2.2))
          else
            if ib s13.2.1 4 then
            Option.bind (d_230 n a1 (s13.2.2.2 (kA (ix (r5.1 135 (ix a1))) + 1) (ix s13.2.1)) s13.2.2) (fun v15 =>
            jn (fun p16 : Int32 × cS =>
              lt (s13.2.1 + 1 : Int32) (fun v18 =>
              some (.inl (p16.1, v18, p16.2))))
            (fun j219 =>
            if v15 < 0 then
              j219 (s13.1, s13.2.2)
            else
              jn (fun p20 : Int32 =>
                Option.bind (d_322 n p20 s13.2.2) (fun r21 =>
                if ib s13.2.1 4 then
                Option.bind (d_320 n (r21.2 (kA (ix (r5.1 135 (ix a1))) + 1) (ix s13.2.1)) r21) (fun r24 =>
                Option.bind (d_322 n 61 r24) (fun r25 =>
                if ib s13.2.1 4 then
                Option.bind (d_233 n a1 (ix (r5.1 135 (ix a1))) s13.2.1 r25) (fun v27 =>
                Option.bind (d_323 n (r25.1 (kA (ix (r5.1 135 (ix a1))) + 2) (ix s13.2.1)) v27 r25) (fun r28 =>
                j219 (1, r28)))
                else none))
                else none))
              (fun j175 =>
              if s13.1 = 0 then
                j175 40
              else
                j175 44)))
            else none) n (0, 0, r5))
        (fun x29 : Int32 × cS =>
          jn (fun p30 : cS =>
            some p30)
          (fun j235 =>
          if x29.1 = 0 then
            j235 x29.2
          else
            Option.bind (d_322 n 41 x29.2) (fun r31 =>
            j235 r31)))
        else none
        else none
      else
        if ib a1 4096 then
        if ib ((r5.1 135 (ix a1)) - 100) 4 then
        Option.bind (d_322 n 46 r5) (fun r35 =>
        Option.bind (d_231 n a1 (ix ((r5.1 135 (ix a1)) - 100)) r35) (fun v36 =>
        if ib v36 12 then
        Option.bind (d_320 n (r35.2 (oA (ix ((r5.1 135 (ix a1)) - 100)) + 1) (ix v36)) r35) (fun r38 =>
        some r38)
        else none))
        else none
        else none
      else none
    else
      some r5))
    else none)
  (fun j28 =>
  if v2 = 0 then
    j28 r1
  else
    if ib 11 31 then
    Option.bind (d_320 n (r1.2 6 (ix 11)) r1) (fun r40 =>
    j28 r40)
    else none)))
theorem sp_332 {F Lo n : Nat} {a1 : Int32} {c y : cS} {w : cW} {K : cS → Prop} {Q : ((Option Value) ⊕ String) → List va_E → Prop} (hw : rOK fm w) (hF : 6 ≤ F) (hLo : 131 ≤ Lo)  (h : wp (d_332 n a1 c) K) (hQ : ∀ r, K r → Q (.inl none) (hq true r y w)) : rs (rt_P sc fm) 332 F Lo 0 [(0, .ref 172), (1, .int a1)] [] (hq true c y w) Q := by
  unfold d_332 at h
  obtain ⟨lv, elv⟩ : ∃ lv : rx_L, lv = [(0, .ref 172), (1, .int a1)] := ⟨_, rfl⟩
  rw [← elv]
  have l0 : rx_ld lv 0 = some (.ref 172) := by rw [elv]; rfl
  have l1 : rx_ld lv 1 = some (.int a1) := by rw [elv]; rfl
  refine rs_aldn wi_332_0 l0 ?_
  refine rs_pure wi_332_1 rfl ?_
  refine rs_topi (v := 64) (by decide) ?_
  refine rs_V wi_332_3 wc_332_54 rfl (dq_isa tf_172_0 wa_12_322) (Nat.le_trans (by decide) hF) (ml_le wm_322 (Nat.le_trans (by decide) hLo)) rfl (sp_322 hw (Nat.le_trans (by decide : 1 ≤ 6 - 1) (Nat.sub_le_sub_right hF 1)) (ml_sub wm_322 (Nat.le_trans (by decide : 21 ≤ 131 - 21) (Nat.sub_le_sub_right hLo 21))) (wp_bind h) (fun r1 h => rs_back0 ?_))
  refine rs_aldn wi_332_6 l0 ?_
  refine dq_gr wi_332_7 wf_332_27 tf_172_5 ?_
  refine rs_ildn wi_332_10 l1 ?_
  refine rs_V wi_332_11 wc_332_224 rfl (dq_isa tf_133_0 wa_7_227) (Nat.le_trans (by decide) hF) (ml_le wm_227 (Nat.le_trans (by decide) hLo)) rfl (sp_227 hw (Nat.le_trans (by decide : 0 ≤ 6 - 1) (Nat.sub_le_sub_right hF 1)) (ml_sub wm_227 (Nat.le_trans (by decide : 0 ≤ 131 - 21) (Nat.sub_le_sub_right hLo 21))) (wp_bind h) (fun v2 h => rs_back1 ?_))
  refine wp_jn (B := fun p3 : cS => ∀ lv, rx_ld lv 0 = some (.ref 172) → rx_ld lv 1 = some (.int a1) → rs (rt_P sc fm) 332 F Lo 28 lv [] (hq true p3 y w) Q) h (fun p3 h lv l0 l1 => ?_) (fun j28 hj28 h => ?_)
  ·
    refine rs_aldn wi_332_28 l0 ?_
    refine rs_aldn wi_332_29 l0 ?_
    refine dq_gr wi_332_30 wf_332_27 tf_172_5 ?_
    refine dq_gr wi_332_33 wf_332_238 tf_133_0 ?_
    refine rs_ildn wi_332_36 l1 ?_
    obtain ⟨g4, h⟩ := wp_gd h
    refine dq_lald wi_332_37 t_134 g4 ?_
    refine rs_V wi_332_38 wc_332_51 rfl (dq_isa tf_172_0 wa_12_320) (Nat.le_trans (by decide) hF) (ml_le wm_320 (Nat.le_trans (by decide) hLo)) rfl (sp_320 hw (Nat.le_trans (by decide : 2 ≤ 6 - 1) (Nat.sub_le_sub_right hF 1)) (ml_sub wm_320 (Nat.le_trans (by decide : 45 ≤ 131 - 22) (Nat.sub_le_sub_right hLo 22))) (wp_bind h) (fun r5 h => rs_back0 ?_))
    refine rs_aldn wi_332_41 l0 ?_
    refine dq_gr wi_332_42 wf_332_27 tf_172_5 ?_
    refine rs_ildn wi_332_45 l1 ?_
    refine rs_V wi_332_46 wc_332_224 rfl (dq_isa tf_133_0 wa_7_227) (Nat.le_trans (by decide) hF) (ml_le wm_227 (Nat.le_trans (by decide) hLo)) rfl (sp_227 hw (Nat.le_trans (by decide : 0 ≤ 6 - 1) (Nat.sub_le_sub_right hF 1)) (ml_sub wm_227 (Nat.le_trans (by decide : 0 ≤ 131 - 21) (Nat.sub_le_sub_right hLo 21))) (wp_bind h) (fun v6 h => rs_back1 ?_))
    refine rs_ifeq (tg := 53) wi_332_49 ⟨by decide, by decide⟩ (fun q => ?_) (fun q => ?_)
    ·
      have h := wp_pos h q
      refine rs_aldn wi_332_53 l0 ?_
      refine dq_gr wi_332_54 wf_332_27 tf_172_5 ?_
      refine dq_gr wi_332_57 wf_332_227 tf_133_1 ?_
      refine rs_ildn wi_332_60 l1 ?_
      obtain ⟨g7, h⟩ := wp_gd h
      refine dq_iald wi_332_61 t_135 g7 ?_
      refine rs_pure wi_332_62 rfl ?_
      refine rs_topi (v := 100) (by decide) ?_
      refine rs_iclt (tg := 113) wi_332_64 ⟨by decide, by decide⟩ (fun q => ?_) (fun q => ?_)
      ·
        have h := wp_pos h q
        refine rs_aldn wi_332_113 l0 ?_
        refine dq_gr wi_332_114 wf_332_19 tf_172_3 ?_
        refine dq_gr wi_332_117 wf_332_77 tf_7_3 ?_
        refine rs_aldn wi_332_120 l0 ?_
        refine dq_gr wi_332_121 wf_332_27 tf_172_5 ?_
        refine dq_gr wi_332_124 wf_332_227 tf_133_1 ?_
        refine rs_ildn wi_332_127 l1 ?_
        obtain ⟨g8, h⟩ := wp_gd h
        refine dq_iald wi_332_128 t_135 g8 ?_
        obtain ⟨g9, h⟩ := wp_gd h
        refine dq_aald wi_332_129 (by decide) t_9 g9 (hw.2.1 _ (ib_lt g9)) ?_
        refine dl_astn wi_332_130 rfl (fun lv l2 t10 => ?_)
        have l0 := t10 _ _ (by decide) (Or.inl rfl) l0
        have l1 := t10 _ _ (by decide) (Or.inl rfl) l1
        refine rs_pure wi_332_131 rfl ?_
        refine rs_topi (v := 0) (by decide) ?_
        refine dl_istn wi_332_132 rfl (fun lv l3 t11 => ?_)
        have l0 := t11 _ _ (by decide) (Or.inl rfl) l0
        have l1 := t11 _ _ (by decide) (Or.inl rfl) l1
        have l2 := t11 _ _ (by decide) (Or.inl rfl) l2
        refine rs_pure wi_332_133 rfl ?_
        refine rs_topi (v := 0) (by decide) ?_
        refine dl_ist wi_332_134 rfl (fun lv l4 t12 => ?_)
        have l0 := t12 _ _ (by decide) (Or.inl rfl) l0
        have l1 := t12 _ _ (by decide) (Or.inl rfl) l1
        have l2 := t12 _ _ (by decide) (Or.inl rfl) l2
        have l3 := t12 _ _ (by decide) (Or.inl rfl) l3
        refine whl_ex (A := fun s13 : Int32 × Int32 × cS => ∀ lv, rx_ld lv 0 = some (.ref 172) → rx_ld lv 1 = some (.int a1) → rx_ld lv 2 = some (.ref (kA (ix (r5.1 135 (ix a1))))) → rx_ld lv 3 = some (.int s13.1) → rx_ld lv 4 = some (.int s13.2.1) → rs (rt_P sc fm) 332 F Lo 136 lv [] (hq true s13.2.2 y w) Q) (B := (fun x29 : Int32 × cS => ∀ lv, rx_ld lv 0 = some (.ref 172) → rx_ld lv 3 = some (.int x29.1) → rs (rt_P sc fm) 332 F Lo 225 lv [] (hq true x29.2 y w) Q)) ?_ ?_ _ _ (wp_bind h) _ l0 l1 l2 l3 l4
        · intro s13 h lv l0 l1 l2 l3 l4
          refine rs_ild wi_332_136 l4 ?_
          refine rs_aldn wi_332_138 l2 ?_
          refine dq_gi wi_332_139 wf_332_144 (fK_1 (ib_lt g9)) ?_
          refine rs_icge (tg := 225) wi_332_142 ⟨by decide, by decide⟩ (fun q => ?_) (fun q => ?_)
          ·
            have h := wp_pos h q
            exact h _ l0 l3
          ·
            have h := wp_neg h q
            refine rs_aldn wi_332_145 l0 ?_
            refine dq_gr wi_332_146 wf_332_27 tf_172_5 ?_
            refine rs_ildn wi_332_149 l1 ?_
            refine rs_aldn wi_332_150 l2 ?_
            refine dq_gr wi_332_151 wf_332_145 (fK_2 (ib_lt g9)) ?_
            refine rs_ild wi_332_154 l4 ?_
            obtain ⟨g14, h⟩ := wp_gd h
            refine dq_lald wi_332_156 (tK_1 (ib_lt g9)) g14 ?_
            refine rs_V wi_332_157 wc_332_240 rfl (dq_isa tf_133_0 wa_7_230) (Nat.le_trans (by decide) hF) (ml_le wm_230 (Nat.le_trans (by decide) hLo)) rfl (sp_230 hw (Nat.le_trans (by decide : 0 ≤ 6 - 1) (Nat.sub_le_sub_right hF 1)) (ml_sub wm_230 (Nat.le_trans (by decide : 0 ≤ 131 - 24) (Nat.sub_le_sub_right hLo 24))) (wp_bind h) (fun v15 h => rs_back1 ?_))
            refine wp_jn (B := fun p16 : Int32 × cS => ∀ lv, rx_ld lv 0 = some (.ref 172) → rx_ld lv 1 = some (.int a1) → rx_ld lv 2 = some (.ref (kA (ix (r5.1 135 (ix a1))))) → rx_ld lv 3 = some (.int p16.1) → rx_ld lv 4 = some (.int s13.2.1) → rs (rt_P sc fm) 332 F Lo 219 lv [] (hq true p16.2 y w) Q) h (fun p16 h lv l0 l1 l2 l3 l4 => ?_) (fun j219 hj219 h => ?_)
            ·
              obtain ⟨v18, e19, h⟩ := wp_lt h
              refine dl_inc wi_332_219 l4 rfl e19 (fun lv l4 t17 => ?_)
              have l0 := t17 _ _ (by decide) (Or.inl rfl) l0
              have l1 := t17 _ _ (by decide) (Or.inl rfl) l1
              have l2 := t17 _ _ (by decide) (Or.inl rfl) l2
              have l3 := t17 _ _ (by decide) (Or.inl rfl) l3
              refine rs_goto (tg := 136) wi_332_222 ⟨by decide, by decide⟩ ?_
              exact h _ l0 l1 l2 l3 l4
            refine rs_iflt (tg := 219) wi_332_160 ⟨by decide, by decide⟩ (fun q => ?_) (fun q => ?_)
            ·
              have h := wp_pos h q
              exact hj219 _ h _ l0 l1 l2 l3 l4
            ·
              have h := wp_neg h q
              refine rs_aldn wi_332_163 l0 ?_
              refine rs_ildn wi_332_164 l3 ?_
              refine wp_jn (B := fun p20 : Int32 => ∀ lv, rx_ld lv 0 = some (.ref 172) → rx_ld lv 1 = some (.int a1) → rx_ld lv 2 = some (.ref (kA (ix (r5.1 135 (ix a1))))) → rx_ld lv 4 = some (.int s13.2.1) → rs (rt_P sc fm) 332 F Lo 175 lv [.int p20, .ref 172] (hq true s13.2.2 y w) Q) h (fun p20 h lv l0 l1 l2 l4 => ?_) (fun j175 hj175 h => ?_)
              ·
                refine rs_V wi_332_175 wc_332_54 rfl (dq_isa tf_172_0 wa_12_322) (Nat.le_trans (by decide) hF) (ml_le wm_322 (Nat.le_trans (by decide) hLo)) rfl (sp_322 hw (Nat.le_trans (by decide : 1 ≤ 6 - 1) (Nat.sub_le_sub_right hF 1)) (ml_sub wm_322 (Nat.le_trans (by decide : 21 ≤ 131 - 21) (Nat.sub_le_sub_right hLo 21))) (wp_bind h) (fun r21 h => rs_back0 ?_))
                refine rs_pure wi_332_178 rfl ?_
                refine rs_topi (v := 1) (by decide) ?_
                refine dl_istn wi_332_179 rfl (fun lv l3 t22 => ?_)
                have l0 := t22 _ _ (by decide) (Or.inl rfl) l0
                have l1 := t22 _ _ (by decide) (Or.inl rfl) l1
                have l2 := t22 _ _ (by decide) (Or.inl rfl) l2
                have l4 := t22 _ _ (by decide) (Or.inl rfl) l4
                refine rs_aldn wi_332_180 l0 ?_
                refine rs_aldn wi_332_181 l2 ?_
                refine dq_gr wi_332_182 wf_332_145 (fK_2 (ib_lt g9)) ?_
                refine rs_ild wi_332_185 l4 ?_
                obtain ⟨g23, h⟩ := wp_gd h
                refine dq_lald wi_332_187 (tK_1 (ib_lt g9)) g23 ?_
                refine rs_V wi_332_188 wc_332_51 rfl (dq_isa tf_172_0 wa_12_320) (Nat.le_trans (by decide) hF) (ml_le wm_320 (Nat.le_trans (by decide) hLo)) rfl (sp_320 hw (Nat.le_trans (by decide : 2 ≤ 6 - 1) (Nat.sub_le_sub_right hF 1)) (ml_sub wm_320 (Nat.le_trans (by decide : 45 ≤ 131 - 22) (Nat.sub_le_sub_right hLo 22))) (wp_bind h) (fun r24 h => rs_back0 ?_))
                refine rs_aldn wi_332_191 l0 ?_
                refine rs_pure wi_332_192 rfl ?_
                refine rs_topi (v := 61) (by decide) ?_
                refine rs_V wi_332_194 wc_332_54 rfl (dq_isa tf_172_0 wa_12_322) (Nat.le_trans (by decide) hF) (ml_le wm_322 (Nat.le_trans (by decide) hLo)) rfl (sp_322 hw (Nat.le_trans (by decide : 1 ≤ 6 - 1) (Nat.sub_le_sub_right hF 1)) (ml_sub wm_322 (Nat.le_trans (by decide : 21 ≤ 131 - 21) (Nat.sub_le_sub_right hLo 21))) (wp_bind h) (fun r25 h => rs_back0 ?_))
                refine rs_aldn wi_332_197 l0 ?_
                refine rs_aldn wi_332_198 l2 ?_
                refine dq_gr wi_332_199 wf_332_148 (fK_3 (ib_lt g9)) ?_
                refine rs_ild wi_332_202 l4 ?_
                obtain ⟨g26, h⟩ := wp_gd h
                refine dq_iald wi_332_204 (tK_2 (ib_lt g9)) g26 ?_
                refine rs_aldn wi_332_205 l0 ?_
                refine dq_gr wi_332_206 wf_332_27 tf_172_5 ?_
                refine rs_ildn wi_332_209 l1 ?_
                refine rs_aldn wi_332_210 l2 ?_
                refine rs_ild wi_332_211 l4 ?_
                refine rs_V wi_332_213 wc_332_244 rfl (dq_isa tf_133_0 wa_7_233) (Nat.le_trans (by decide) hF) (ml_le wm_233 (Nat.le_trans (by decide) hLo)) rfl (sp_233 hw (Nat.le_trans (by decide : 1 ≤ 6 - 1) (Nat.sub_le_sub_right hF 1)) (ml_sub wm_233 (Nat.le_trans (by decide : 24 ≤ 131 - 24) (Nat.sub_le_sub_right hLo 24))) (ib_lt g9) (wp_bind h) (fun v27 h => rs_back1 ?_))
                refine rs_V wi_332_216 wc_332_158 rfl (dq_isa tf_172_0 wa_12_323) (Nat.le_trans (by decide) hF) (ml_le wm_323 (Nat.le_trans (by decide) hLo)) rfl (sp_323 hw (Nat.le_trans (by decide : 2 ≤ 6 - 1) (Nat.sub_le_sub_right hF 1)) (ml_sub wm_323 (Nat.le_trans (by decide : 47 ≤ 131 - 23) (Nat.sub_le_sub_right hLo 23))) (wp_bind h) (fun r28 h => rs_back0 ?_))
                exact hj219 _ h _ l0 l1 l2 l3 l4
              refine rs_ifeq (tg := 173) wi_332_165 ⟨by decide, by decide⟩ (fun q => ?_) (fun q => ?_)
              ·
                have h := wp_pos h q
                refine rs_pure wi_332_173 rfl ?_
                refine rs_topi (v := 40) (by decide) ?_
                exact hj175 _ h _ l0 l1 l2 l4
              ·
                have h := wp_neg h q
                refine rs_pure wi_332_168 rfl ?_
                refine rs_topi (v := 44) (by decide) ?_
                refine rs_goto (tg := 175) wi_332_170 ⟨by decide, by decide⟩ ?_
                exact hj175 _ h _ l0 l1 l2 l4
        ·
          intro x29 h lv l0 l3
          refine rs_ildn wi_332_225 l3 ?_
          refine wp_jn (B := fun p30 : cS => ∀ lv, rs (rt_P sc fm) 332 F Lo 235 lv [] (hq true p30 y w) Q) h (fun p30 h lv => ?_) (fun j235 hj235 h => ?_)
          ·
            exact rs_vret wi_332_235 wr_332 (hQ p30 h)
          refine rs_ifeq (tg := 235) wi_332_226 ⟨by decide, by decide⟩ (fun q => ?_) (fun q => ?_)
          ·
            have h := wp_pos h q
            exact hj235 _ h _
          ·
            have h := wp_neg h q
            refine rs_aldn wi_332_229 l0 ?_
            refine rs_pure wi_332_230 rfl ?_
            refine rs_topi (v := 41) (by decide) ?_
            refine rs_V wi_332_232 wc_332_54 rfl (dq_isa tf_172_0 wa_12_322) (Nat.le_trans (by decide) hF) (ml_le wm_322 (Nat.le_trans (by decide) hLo)) rfl (sp_322 hw (Nat.le_trans (by decide : 1 ≤ 6 - 1) (Nat.sub_le_sub_right hF 1)) (ml_sub wm_322 (Nat.le_trans (by decide : 21 ≤ 131 - 21) (Nat.sub_le_sub_right hLo 21))) (wp_bind h) (fun r31 h => rs_back0 ?_))
            exact hj235 _ h _
      ·
        have h := wp_neg h q
        refine rs_aldn wi_332_67 l0 ?_
        refine dq_gr wi_332_68 wf_332_19 tf_172_3 ?_
        refine dq_gr wi_332_71 wf_332_66 tf_7_1 ?_
        refine rs_aldn wi_332_74 l0 ?_
        refine dq_gr wi_332_75 wf_332_27 tf_172_5 ?_
        refine dq_gr wi_332_78 wf_332_227 tf_133_1 ?_
        refine rs_ildn wi_332_81 l1 ?_
        obtain ⟨g32, h⟩ := wp_gd h
        refine dq_iald wi_332_82 t_135 g32 ?_
        refine rs_pure wi_332_83 rfl ?_
        refine rs_topi (v := 100) (by decide) ?_
        refine rs_pure wi_332_85 rfl ?_
        obtain ⟨g33, h⟩ := wp_gd h
        refine dq_aald wi_332_86 (by decide) t_8 g33 (hw.1 _ (ib_lt g33)) ?_
        refine dl_astn wi_332_87 rfl (fun lv l2 t34 => ?_)
        have l0 := t34 _ _ (by decide) (Or.inl rfl) l0
        have l1 := t34 _ _ (by decide) (Or.inl rfl) l1
        refine rs_aldn wi_332_88 l0 ?_
        refine rs_pure wi_332_89 rfl ?_
        refine rs_topi (v := 46) (by decide) ?_
        refine rs_V wi_332_91 wc_332_54 rfl (dq_isa tf_172_0 wa_12_322) (Nat.le_trans (by decide) hF) (ml_le wm_322 (Nat.le_trans (by decide) hLo)) rfl (sp_322 hw (Nat.le_trans (by decide : 1 ≤ 6 - 1) (Nat.sub_le_sub_right hF 1)) (ml_sub wm_322 (Nat.le_trans (by decide : 21 ≤ 131 - 21) (Nat.sub_le_sub_right hLo 21))) (wp_bind h) (fun r35 h => rs_back0 ?_))
        refine rs_aldn wi_332_94 l0 ?_
        refine rs_aldn wi_332_95 l2 ?_
        refine dq_gr wi_332_96 wf_332_137 (fO_4 (ib_lt g33)) ?_
        refine rs_aldn wi_332_99 l0 ?_
        refine dq_gr wi_332_100 wf_332_27 tf_172_5 ?_
        refine rs_ildn wi_332_103 l1 ?_
        refine rs_aldn wi_332_104 l2 ?_
        refine rs_V wi_332_105 wc_332_230 rfl (dq_isa tf_133_0 wa_7_231) (Nat.le_trans (by decide) hF) (ml_le wm_231 (Nat.le_trans (by decide) hLo)) rfl (sp_231 hw (Nat.le_trans (by decide : 5 ≤ 6 - 1) (Nat.sub_le_sub_right hF 1)) (ml_sub wm_231 (Nat.le_trans (by decide : 108 ≤ 131 - 23) (Nat.sub_le_sub_right hLo 23))) (ib_lt g33) (wp_bind h) (fun v36 h => rs_back1 ?_))
        obtain ⟨g37, h⟩ := wp_gd h
        refine dq_lald wi_332_108 (tO_1 (ib_lt g33)) g37 ?_
        refine rs_V wi_332_109 wc_332_51 rfl (dq_isa tf_172_0 wa_12_320) (Nat.le_trans (by decide) hF) (ml_le wm_320 (Nat.le_trans (by decide) hLo)) rfl (sp_320 hw (Nat.le_trans (by decide : 2 ≤ 6 - 1) (Nat.sub_le_sub_right hF 1)) (ml_sub wm_320 (Nat.le_trans (by decide : 45 ≤ 131 - 22) (Nat.sub_le_sub_right hLo 22))) (wp_bind h) (fun r38 h => rs_back0 ?_))
        exact rs_vret wi_332_112 wr_332 (hQ r38 h)
    ·
      have h := wp_neg h q
      exact rs_vret wi_332_52 wr_332 (hQ r5 h)
  refine rs_ifeq (tg := 28) wi_332_14 ⟨by decide, by decide⟩ (fun q => ?_) (fun q => ?_)
  ·
    have h := wp_pos h q
    exact hj28 _ h _ l0 l1
  ·
    have h := wp_neg h q
    refine rs_aldn wi_332_17 l0 ?_
    refine rs_aldn wi_332_18 l0 ?_
    refine dq_gr wi_332_19 wf_332_15 tf_172_2 ?_
    refine rs_pure wi_332_22 rfl ?_
    refine rs_topi (v := 11) (by decide) ?_
    obtain ⟨g39, h⟩ := wp_gd h
    refine dq_lald wi_332_24 t_6 g39 ?_
    refine rs_V wi_332_25 wc_332_51 rfl (dq_isa tf_172_0 wa_12_320) (Nat.le_trans (by decide) hF) (ml_le wm_320 (Nat.le_trans (by decide) hLo)) rfl (sp_320 hw (Nat.le_trans (by decide : 2 ≤ 6 - 1) (Nat.sub_le_sub_right hF 1)) (ml_sub wm_320 (Nat.le_trans (by decide : 45 ≤ 131 - 22) (Nat.sub_le_sub_right hLo 22))) (wp_bind h) (fun r40 h => rs_back0 ?_))
    exact hj28 _ h _ l0 l1
theorem wa_12_331 : rz_cn 12 (rx_yn (rt_P sc fm) 331).cls = true := (by decide +kernel : rz_cn 12 (rt_yn 331).cls = true)
theorem wa_12_332 : rz_cn 12 (rx_yn (rt_P sc fm) 332).cls = true := (by decide +kernel : rz_cn 12 (rt_yn 332).cls = true)
theorem wc_330_214 : rx_ct (rt_P sc fm) 330 214 = some (0, 331, 1) := (by decide +kernel : rt_ct 330 214 = some (0, 331, 1))
theorem wc_330_218 : rx_ct (rt_P sc fm) 330 218 = some (0, 332, 1) := (by decide +kernel : rt_ct 330 218 = some (0, 332, 1))
theorem wf_330_175 : rx_ft (rt_P sc fm) 330 175 = some (7, 10) := (by decide +kernel : rt_ft 330 175 = some (7, 10))
theorem wf_330_208 : rx_ft (rt_P sc fm) 330 208 = some (7, 8) := (by decide +kernel : rt_ft 330 208 = some (7, 8))
theorem wf_330_211 : rx_ft (rt_P sc fm) 330 211 = some (7, 3) := (by decide +kernel : rt_ft 330 211 = some (7, 3))
theorem wf_330_221 : rx_ft (rt_P sc fm) 330 221 = some (7, 4) := (by decide +kernel : rt_ft 330 221 = some (7, 4))
theorem wf_330_27 : rx_ft (rt_P sc fm) 330 27 = some (12, 5) := (by decide +kernel : rt_ft 330 27 = some (12, 5))
theorem wi_330_0 : ri (rt_P sc fm) 330 0 (.aload_n 0) (1) := ri_of (by decide +kernel) rfl
theorem wi_330_1 : ri (rt_P sc fm) 330 1 (.getfield 27) (4) := ri_of (by decide +kernel) rfl
theorem wi_330_10 : ri (rt_P sc fm) 330 10 (.iconst 0) (11) := ri_of (by decide +kernel) rfl
theorem wi_330_11 : ri (rt_P sc fm) 330 11 (.istore_n 3) (12) := ri_of (by decide +kernel) rfl
theorem wi_330_12 : ri (rt_P sc fm) 330 12 (.iload_n 3) (13) := ri_of (by decide +kernel) rfl
theorem wi_330_13 : ri (rt_P sc fm) 330 13 (.aload_n 0) (14) := ri_of (by decide +kernel) rfl
theorem wi_330_14 : ri (rt_P sc fm) 330 14 (.getfield 27) (17) := ri_of (by decide +kernel) rfl
theorem wi_330_17 : ri (rt_P sc fm) 330 17 (.getfield 175) (20) := ri_of (by decide +kernel) rfl
theorem wi_330_20 : ri (rt_P sc fm) 330 20 (.iload_n 1) (21) := ri_of (by decide +kernel) rfl
theorem wi_330_21 : ri (rt_P sc fm) 330 21 (.iaload) (22) := ri_of (by decide +kernel) rfl
theorem wi_330_22 : ri (rt_P sc fm) 330 22 (.if_icmp .ge 44) (25) := ri_of (by decide +kernel) rfl
theorem wi_330_25 : ri (rt_P sc fm) 330 25 (.aload_n 0) (26) := ri_of (by decide +kernel) rfl
theorem wi_330_26 : ri (rt_P sc fm) 330 26 (.getfield 27) (29) := ri_of (by decide +kernel) rfl
theorem wi_330_29 : ri (rt_P sc fm) 330 29 (.getfield 211) (32) := ri_of (by decide +kernel) rfl
theorem wi_330_32 : ri (rt_P sc fm) 330 32 (.iload_n 2) (33) := ri_of (by decide +kernel) rfl
theorem wi_330_33 : ri (rt_P sc fm) 330 33 (.baload) (34) := ri_of (by decide +kernel) rfl
theorem wi_330_34 : ri (rt_P sc fm) 330 34 (.ifCond .eq 16) (37) := ri_of (by decide +kernel) rfl
theorem wi_330_37 : ri (rt_P sc fm) 330 37 (.aload_n 0) (38) := ri_of (by decide +kernel) rfl
theorem wi_330_38 : ri (rt_P sc fm) 330 38 (.iload_n 2) (39) := ri_of (by decide +kernel) rfl
theorem wi_330_39 : ri (rt_P sc fm) 330 39 (.invokevirtual 214) (42) := ri_of (by decide +kernel) rfl
theorem wi_330_4 : ri (rt_P sc fm) 330 4 (.getfield 208) (7) := ri_of (by decide +kernel) rfl
theorem wi_330_42 : ri (rt_P sc fm) 330 42 (.ifCond .eq 8) (45) := ri_of (by decide +kernel) rfl
theorem wi_330_45 : ri (rt_P sc fm) 330 45 (.aload_n 0) (46) := ri_of (by decide +kernel) rfl
theorem wi_330_46 : ri (rt_P sc fm) 330 46 (.iload_n 2) (47) := ri_of (by decide +kernel) rfl
theorem wi_330_47 : ri (rt_P sc fm) 330 47 (.invokevirtual 218) (50) := ri_of (by decide +kernel) rfl
theorem wi_330_50 : ri (rt_P sc fm) 330 50 (.aload_n 0) (51) := ri_of (by decide +kernel) rfl
theorem wi_330_51 : ri (rt_P sc fm) 330 51 (.getfield 27) (54) := ri_of (by decide +kernel) rfl
theorem wi_330_54 : ri (rt_P sc fm) 330 54 (.getfield 221) (57) := ri_of (by decide +kernel) rfl
theorem wi_330_57 : ri (rt_P sc fm) 330 57 (.iload_n 2) (58) := ri_of (by decide +kernel) rfl
theorem wi_330_58 : ri (rt_P sc fm) 330 58 (.iaload) (59) := ri_of (by decide +kernel) rfl
theorem wi_330_59 : ri (rt_P sc fm) 330 59 (.istore_n 2) (60) := ri_of (by decide +kernel) rfl
theorem wi_330_60 : ri (rt_P sc fm) 330 60 (.iinc 3 1) (63) := ri_of (by decide +kernel) rfl
theorem wi_330_63 : ri (rt_P sc fm) 330 63 (.goto (-51)) (66) := ri_of (by decide +kernel) rfl
theorem wi_330_66 : ri (rt_P sc fm) 330 66 (.return_) (67) := ri_of (by decide +kernel) rfl
theorem wi_330_7 : ri (rt_P sc fm) 330 7 (.iload_n 1) (8) := ri_of (by decide +kernel) rfl
theorem wi_330_8 : ri (rt_P sc fm) 330 8 (.iaload) (9) := ri_of (by decide +kernel) rfl
theorem wi_330_9 : ri (rt_P sc fm) 330 9 (.istore_n 2) (10) := ri_of (by decide +kernel) rfl
theorem wm_331 : rx_ml (rt_P sc fm) 331 = 4 := (by decide +kernel : rt_ml 331 = 4)
theorem wm_332 : rx_ml (rt_P sc fm) 332 = 5 := (by decide +kernel : rt_ml 332 = 5)
theorem wr_330 : rx_rt (rt_P sc fm) 330 = none := (by decide +kernel : rt_rt 330 = none)
/-- MarkHouse$Teller.writeMarks(I)V -/
def d_330 (n : Nat) (a1 : Int32) (c : cS) : Option (cS) :=
  if ib a1 2242 then
  lt ((c.1 142 (ix a1)) : Int32) (fun v3 =>
  Option.bind (whl (R := (cS)) (fun s6 : Int32 × Int32 × cS =>
    if ib a1 2242 then
    if (s6.2.2.1 144 (ix a1)) ≤ s6.2.1 then
      some (.inr s6.2.2)
    else
      if ib s6.1 4096 then
      jn (fun p9 : cS =>
        if ib s6.1 4096 then
        lt ((p9.1 138 (ix s6.1)) : Int32) (fun v12 =>
        lt (s6.2.1 + 1 : Int32) (fun v15 =>
        some (.inl (v12, v15, p9))))
        else none)
      (fun j50 =>
      if (s6.2.2.1 137 (ix s6.1)) = 0 then
        j50 s6.2.2
      else
        Option.bind (d_331 n s6.1 s6.2.2) (fun v17 =>
        if v17 = 0 then
          j50 s6.2.2
        else
          Option.bind (d_332 n s6.1 s6.2.2) (fun r18 =>
          j50 r18)))
      else none
    else none) n (v3, 0, c))
  (fun x19 : cS =>
    some x19))
  else none
theorem sp_330 {F Lo n : Nat} {a1 : Int32} {c y : cS} {w : cW} {K : cS → Prop} {Q : ((Option Value) ⊕ String) → List va_E → Prop} (hw : rOK fm w) (hF : 7 ≤ F) (hLo : 155 ≤ Lo)  (h : wp (d_330 n a1 c) K) (hQ : ∀ r, K r → Q (.inl none) (hq true r y w)) : rs (rt_P sc fm) 330 F Lo 0 [(0, .ref 172), (1, .int a1)] [] (hq true c y w) Q := by
  unfold d_330 at h
  obtain ⟨lv, elv⟩ : ∃ lv : rx_L, lv = [(0, .ref 172), (1, .int a1)] := ⟨_, rfl⟩
  rw [← elv]
  have l0 : rx_ld lv 0 = some (.ref 172) := by rw [elv]; rfl
  have l1 : rx_ld lv 1 = some (.int a1) := by rw [elv]; rfl
  refine rs_aldn wi_330_0 l0 ?_
  refine dq_gr wi_330_1 wf_330_27 tf_172_5 ?_
  refine dq_gr wi_330_4 wf_330_208 tf_133_8 ?_
  refine rs_ildn wi_330_7 l1 ?_
  obtain ⟨g1, h⟩ := wp_gd h
  refine dq_iald wi_330_8 t_142 g1 ?_
  obtain ⟨v3, e4, h⟩ := wp_lt h
  refine rs_topi e4 ?_
  refine dl_istn wi_330_9 rfl (fun lv l2 t2 => ?_)
  have l0 := t2 _ _ (by decide) (Or.inl rfl) l0
  have l1 := t2 _ _ (by decide) (Or.inl rfl) l1
  refine rs_pure wi_330_10 rfl ?_
  refine rs_topi (v := 0) (by decide) ?_
  refine dl_istn wi_330_11 rfl (fun lv l3 t5 => ?_)
  have l0 := t5 _ _ (by decide) (Or.inl rfl) l0
  have l1 := t5 _ _ (by decide) (Or.inl rfl) l1
  have l2 := t5 _ _ (by decide) (Or.inl rfl) l2
  refine whl_ex (A := fun s6 : Int32 × Int32 × cS => ∀ lv, rx_ld lv 0 = some (.ref 172) → rx_ld lv 1 = some (.int a1) → rx_ld lv 2 = some (.int s6.1) → rx_ld lv 3 = some (.int s6.2.1) → rs (rt_P sc fm) 330 F Lo 12 lv [] (hq true s6.2.2 y w) Q) (B := (fun x19 : cS => ∀ lv, rs (rt_P sc fm) 330 F Lo 66 lv [] (hq true x19 y w) Q)) ?_ ?_ _ _ (wp_bind h) _ l0 l1 l2 l3
  · intro s6 h lv l0 l1 l2 l3
    refine rs_ildn wi_330_12 l3 ?_
    refine rs_aldn wi_330_13 l0 ?_
    refine dq_gr wi_330_14 wf_330_27 tf_172_5 ?_
    refine dq_gr wi_330_17 wf_330_175 tf_133_10 ?_
    refine rs_ildn wi_330_20 l1 ?_
    obtain ⟨g7, h⟩ := wp_gd h
    refine dq_iald wi_330_21 t_144 g7 ?_
    refine rs_icge (tg := 66) wi_330_22 ⟨by decide, by decide⟩ (fun q => ?_) (fun q => ?_)
    ·
      have h := wp_pos h q
      exact h _
    ·
      have h := wp_neg h q
      refine rs_aldn wi_330_25 l0 ?_
      refine dq_gr wi_330_26 wf_330_27 tf_172_5 ?_
      refine dq_gr wi_330_29 wf_330_211 tf_133_3 ?_
      refine rs_ildn wi_330_32 l2 ?_
      obtain ⟨g8, h⟩ := wp_gd h
      refine dq_zald wi_330_33 t_137 g8 ?_
      refine wp_jn (B := fun p9 : cS => ∀ lv, rx_ld lv 0 = some (.ref 172) → rx_ld lv 1 = some (.int a1) → rx_ld lv 2 = some (.int s6.1) → rx_ld lv 3 = some (.int s6.2.1) → rs (rt_P sc fm) 330 F Lo 50 lv [] (hq true p9 y w) Q) h (fun p9 h lv l0 l1 l2 l3 => ?_) (fun j50 hj50 h => ?_)
      ·
        refine rs_aldn wi_330_50 l0 ?_
        refine dq_gr wi_330_51 wf_330_27 tf_172_5 ?_
        refine dq_gr wi_330_54 wf_330_221 tf_133_4 ?_
        refine rs_ildn wi_330_57 l2 ?_
        obtain ⟨g10, h⟩ := wp_gd h
        refine dq_iald wi_330_58 t_138 g10 ?_
        obtain ⟨v12, e13, h⟩ := wp_lt h
        refine rs_topi e13 ?_
        refine dl_istn wi_330_59 rfl (fun lv l2 t11 => ?_)
        have l0 := t11 _ _ (by decide) (Or.inl rfl) l0
        have l1 := t11 _ _ (by decide) (Or.inl rfl) l1
        have l3 := t11 _ _ (by decide) (Or.inl rfl) l3
        obtain ⟨v15, e16, h⟩ := wp_lt h
        refine dl_inc wi_330_60 l3 rfl e16 (fun lv l3 t14 => ?_)
        have l0 := t14 _ _ (by decide) (Or.inl rfl) l0
        have l1 := t14 _ _ (by decide) (Or.inl rfl) l1
        have l2 := t14 _ _ (by decide) (Or.inl rfl) l2
        refine rs_goto (tg := 12) wi_330_63 ⟨by decide, by decide⟩ ?_
        exact h _ l0 l1 l2 l3
      refine rs_ifeq (tg := 50) wi_330_34 ⟨by decide, by decide⟩ (fun q => ?_) (fun q => ?_)
      ·
        have h := wp_pos h q
        exact hj50 _ h _ l0 l1 l2 l3
      ·
        have h := wp_neg h q
        refine rs_aldn wi_330_37 l0 ?_
        refine rs_ildn wi_330_38 l2 ?_
        refine rs_V wi_330_39 wc_330_214 rfl (dq_isa tf_172_0 wa_12_331) (Nat.le_trans (by decide) hF) (ml_le wm_331 (Nat.le_trans (by decide) hLo)) rfl (sp_331 hw (Nat.le_trans (by decide : 6 ≤ 7 - 1) (Nat.sub_le_sub_right hF 1)) (ml_sub wm_331 (Nat.le_trans (by decide : 131 ≤ 155 - 23) (Nat.sub_le_sub_right hLo 23))) (wp_bind h) (fun v17 h => rs_back1 ?_))
        refine rs_ifeq (tg := 50) wi_330_42 ⟨by decide, by decide⟩ (fun q => ?_) (fun q => ?_)
        ·
          have h := wp_pos h q
          exact hj50 _ h _ l0 l1 l2 l3
        ·
          have h := wp_neg h q
          refine rs_aldn wi_330_45 l0 ?_
          refine rs_ildn wi_330_46 l2 ?_
          refine rs_V wi_330_47 wc_330_218 rfl (dq_isa tf_172_0 wa_12_332) (Nat.le_trans (by decide) hF) (ml_le wm_332 (Nat.le_trans (by decide) hLo)) rfl (sp_332 hw (Nat.le_trans (by decide : 6 ≤ 7 - 1) (Nat.sub_le_sub_right hF 1)) (ml_sub wm_332 (Nat.le_trans (by decide : 131 ≤ 155 - 24) (Nat.sub_le_sub_right hLo 24))) (wp_bind h) (fun r18 h => rs_back0 ?_))
          exact hj50 _ h _ l0 l1 l2 l3
  ·
    intro x19 h lv
    exact rs_vret wi_330_66 wr_330 (hQ x19 h)
theorem wa_12_327 : rz_cn 12 (rx_yn (rt_P sc fm) 327).cls = true := (by decide +kernel : rz_cn 12 (rt_yn 327).cls = true)
theorem wa_12_330 : rz_cn 12 (rx_yn (rt_P sc fm) 330).cls = true := (by decide +kernel : rz_cn 12 (rt_yn 330).cls = true)
theorem wc_326_104 : rx_ct (rt_P sc fm) 326 104 = some (0, 330, 1) := (by decide +kernel : rt_ct 326 104 = some (0, 330, 1))
theorem wc_326_158 : rx_ct (rt_P sc fm) 326 158 = some (0, 323, 2) := (by decide +kernel : rt_ct 326 158 = some (0, 323, 2))
theorem wc_326_165 : rx_ct (rt_P sc fm) 326 165 = some (0, 327, 1) := (by decide +kernel : rt_ct 326 165 = some (0, 327, 1))
theorem wc_326_51 : rx_ct (rt_P sc fm) 326 51 = some (0, 320, 1) := (by decide +kernel : rt_ct 326 51 = some (0, 320, 1))
theorem wc_326_54 : rx_ct (rt_P sc fm) 326 54 = some (0, 322, 1) := (by decide +kernel : rt_ct 326 54 = some (0, 322, 1))
theorem wc_326_88 : rx_ct (rt_P sc fm) 326 88 = some (0, 321, 1) := (by decide +kernel : rt_ct 326 88 = some (0, 321, 1))
theorem wf_326_144 : rx_ft (rt_P sc fm) 326 144 = some (6, 1) := (by decide +kernel : rt_ft 326 144 = some (6, 1))
theorem wf_326_145 : rx_ft (rt_P sc fm) 326 145 = some (6, 2) := (by decide +kernel : rt_ft 326 145 = some (6, 2))
theorem wf_326_148 : rx_ft (rt_P sc fm) 326 148 = some (6, 3) := (by decide +kernel : rt_ft 326 148 = some (6, 3))
theorem wf_326_151 : rx_ft (rt_P sc fm) 326 151 = some (6, 4) := (by decide +kernel : rt_ft 326 151 = some (6, 4))
theorem wf_326_155 : rx_ft (rt_P sc fm) 326 155 = some (6, 5) := (by decide +kernel : rt_ft 326 155 = some (6, 5))
theorem wf_326_162 : rx_ft (rt_P sc fm) 326 162 = some (6, 6) := (by decide +kernel : rt_ft 326 162 = some (6, 6))
theorem wf_326_168 : rx_ft (rt_P sc fm) 326 168 = some (6, 7) := (by decide +kernel : rt_ft 326 168 = some (6, 7))
theorem wf_326_172 : rx_ft (rt_P sc fm) 326 172 = some (6, 8) := (by decide +kernel : rt_ft 326 172 = some (6, 8))
theorem wf_326_175 : rx_ft (rt_P sc fm) 326 175 = some (7, 10) := (by decide +kernel : rt_ft 326 175 = some (7, 10))
theorem wf_326_27 : rx_ft (rt_P sc fm) 326 27 = some (12, 5) := (by decide +kernel : rt_ft 326 27 = some (12, 5))
theorem wf_326_98 : rx_ft (rt_P sc fm) 326 98 = some (6, 0) := (by decide +kernel : rt_ft 326 98 = some (6, 0))
theorem wi_326_0 : ri (rt_P sc fm) 326 0 (.aload_n 0) (1) := ri_of (by decide +kernel) rfl
theorem wi_326_1 : ri (rt_P sc fm) 326 1 (.sipush 201) (4) := ri_of (by decide +kernel) rfl
theorem wi_326_100 : ri (rt_P sc fm) 326 100 (.iaload) (101) := ri_of (by decide +kernel) rfl
theorem wi_326_101 : ri (rt_P sc fm) 326 101 (.aload_n 2) (102) := ri_of (by decide +kernel) rfl
theorem wi_326_102 : ri (rt_P sc fm) 326 102 (.getfield 155) (105) := ri_of (by decide +kernel) rfl
theorem wi_326_105 : ri (rt_P sc fm) 326 105 (.iload_n 3) (106) := ri_of (by decide +kernel) rfl
theorem wi_326_106 : ri (rt_P sc fm) 326 106 (.laload) (107) := ri_of (by decide +kernel) rfl
theorem wi_326_107 : ri (rt_P sc fm) 326 107 (.invokevirtual 158) (110) := ri_of (by decide +kernel) rfl
theorem wi_326_110 : ri (rt_P sc fm) 326 110 (.iinc 3 1) (113) := ri_of (by decide +kernel) rfl
theorem wi_326_113 : ri (rt_P sc fm) 326 113 (.goto (-96)) (116) := ri_of (by decide +kernel) rfl
theorem wi_326_116 : ri (rt_P sc fm) 326 116 (.aload_n 2) (117) := ri_of (by decide +kernel) rfl
theorem wi_326_117 : ri (rt_P sc fm) 326 117 (.getfield 144) (120) := ri_of (by decide +kernel) rfl
theorem wi_326_12 : ri (rt_P sc fm) 326 12 (.invokevirtual 51) (15) := ri_of (by decide +kernel) rfl
theorem wi_326_120 : ri (rt_P sc fm) 326 120 (.ifCond .le 9) (123) := ri_of (by decide +kernel) rfl
theorem wi_326_123 : ri (rt_P sc fm) 326 123 (.aload_n 0) (124) := ri_of (by decide +kernel) rfl
theorem wi_326_124 : ri (rt_P sc fm) 326 124 (.bipush 41) (126) := ri_of (by decide +kernel) rfl
theorem wi_326_126 : ri (rt_P sc fm) 326 126 (.invokevirtual 54) (129) := ri_of (by decide +kernel) rfl
theorem wi_326_129 : ri (rt_P sc fm) 326 129 (.aload_n 0) (130) := ri_of (by decide +kernel) rfl
theorem wi_326_130 : ri (rt_P sc fm) 326 130 (.aload_n 2) (131) := ri_of (by decide +kernel) rfl
theorem wi_326_131 : ri (rt_P sc fm) 326 131 (.getfield 162) (134) := ri_of (by decide +kernel) rfl
theorem wi_326_134 : ri (rt_P sc fm) 326 134 (.invokevirtual 165) (137) := ri_of (by decide +kernel) rfl
theorem wi_326_137 : ri (rt_P sc fm) 326 137 (.aload_n 2) (138) := ri_of (by decide +kernel) rfl
theorem wi_326_138 : ri (rt_P sc fm) 326 138 (.getfield 168) (141) := ri_of (by decide +kernel) rfl
theorem wi_326_141 : ri (rt_P sc fm) 326 141 (.ifCond .eq 10) (144) := ri_of (by decide +kernel) rfl
theorem wi_326_144 : ri (rt_P sc fm) 326 144 (.aload_n 0) (145) := ri_of (by decide +kernel) rfl
theorem wi_326_145 : ri (rt_P sc fm) 326 145 (.sipush 209) (148) := ri_of (by decide +kernel) rfl
theorem wi_326_148 : ri (rt_P sc fm) 326 148 (.invokevirtual 88) (151) := ri_of (by decide +kernel) rfl
theorem wi_326_15 : ri (rt_P sc fm) 326 15 (.iconst 0) (16) := ri_of (by decide +kernel) rfl
theorem wi_326_151 : ri (rt_P sc fm) 326 151 (.aload_n 2) (152) := ri_of (by decide +kernel) rfl
theorem wi_326_152 : ri (rt_P sc fm) 326 152 (.getfield 172) (155) := ri_of (by decide +kernel) rfl
theorem wi_326_155 : ri (rt_P sc fm) 326 155 (.ifCond .eq 10) (158) := ri_of (by decide +kernel) rfl
theorem wi_326_158 : ri (rt_P sc fm) 326 158 (.aload_n 0) (159) := ri_of (by decide +kernel) rfl
theorem wi_326_159 : ri (rt_P sc fm) 326 159 (.sipush 210) (162) := ri_of (by decide +kernel) rfl
theorem wi_326_16 : ri (rt_P sc fm) 326 16 (.istore_n 3) (17) := ri_of (by decide +kernel) rfl
theorem wi_326_162 : ri (rt_P sc fm) 326 162 (.invokevirtual 88) (165) := ri_of (by decide +kernel) rfl
theorem wi_326_165 : ri (rt_P sc fm) 326 165 (.aload_n 0) (166) := ri_of (by decide +kernel) rfl
theorem wi_326_166 : ri (rt_P sc fm) 326 166 (.getfield 27) (169) := ri_of (by decide +kernel) rfl
theorem wi_326_169 : ri (rt_P sc fm) 326 169 (.getfield 175) (172) := ri_of (by decide +kernel) rfl
theorem wi_326_17 : ri (rt_P sc fm) 326 17 (.iload_n 3) (18) := ri_of (by decide +kernel) rfl
theorem wi_326_172 : ri (rt_P sc fm) 326 172 (.sipush 1200) (175) := ri_of (by decide +kernel) rfl
theorem wi_326_175 : ri (rt_P sc fm) 326 175 (.iload_n 1) (176) := ri_of (by decide +kernel) rfl
theorem wi_326_176 : ri (rt_P sc fm) 326 176 (.iadd) (177) := ri_of (by decide +kernel) rfl
theorem wi_326_177 : ri (rt_P sc fm) 326 177 (.iaload) (178) := ri_of (by decide +kernel) rfl
theorem wi_326_178 : ri (rt_P sc fm) 326 178 (.ifCond .le 18) (181) := ri_of (by decide +kernel) rfl
theorem wi_326_18 : ri (rt_P sc fm) 326 18 (.aload_n 2) (19) := ri_of (by decide +kernel) rfl
theorem wi_326_181 : ri (rt_P sc fm) 326 181 (.aload_n 0) (182) := ri_of (by decide +kernel) rfl
theorem wi_326_182 : ri (rt_P sc fm) 326 182 (.bipush 61) (184) := ri_of (by decide +kernel) rfl
theorem wi_326_184 : ri (rt_P sc fm) 326 184 (.invokevirtual 54) (187) := ri_of (by decide +kernel) rfl
theorem wi_326_187 : ri (rt_P sc fm) 326 187 (.aload_n 0) (188) := ri_of (by decide +kernel) rfl
theorem wi_326_188 : ri (rt_P sc fm) 326 188 (.sipush 1200) (191) := ri_of (by decide +kernel) rfl
theorem wi_326_19 : ri (rt_P sc fm) 326 19 (.getfield 144) (22) := ri_of (by decide +kernel) rfl
theorem wi_326_191 : ri (rt_P sc fm) 326 191 (.iload_n 1) (192) := ri_of (by decide +kernel) rfl
theorem wi_326_192 : ri (rt_P sc fm) 326 192 (.iadd) (193) := ri_of (by decide +kernel) rfl
theorem wi_326_193 : ri (rt_P sc fm) 326 193 (.invokevirtual 104) (196) := ri_of (by decide +kernel) rfl
theorem wi_326_196 : ri (rt_P sc fm) 326 196 (.aload_n 0) (197) := ri_of (by decide +kernel) rfl
theorem wi_326_197 : ri (rt_P sc fm) 326 197 (.bipush 59) (199) := ri_of (by decide +kernel) rfl
theorem wi_326_199 : ri (rt_P sc fm) 326 199 (.invokevirtual 54) (202) := ri_of (by decide +kernel) rfl
theorem wi_326_202 : ri (rt_P sc fm) 326 202 (.return_) (203) := ri_of (by decide +kernel) rfl
theorem wi_326_22 : ri (rt_P sc fm) 326 22 (.if_icmp .ge 94) (25) := ri_of (by decide +kernel) rfl
theorem wi_326_25 : ri (rt_P sc fm) 326 25 (.aload_n 0) (26) := ri_of (by decide +kernel) rfl
theorem wi_326_26 : ri (rt_P sc fm) 326 26 (.iload_n 3) (27) := ri_of (by decide +kernel) rfl
theorem wi_326_27 : ri (rt_P sc fm) 326 27 (.ifCond .ne 8) (30) := ri_of (by decide +kernel) rfl
theorem wi_326_30 : ri (rt_P sc fm) 326 30 (.bipush 40) (32) := ri_of (by decide +kernel) rfl
theorem wi_326_32 : ri (rt_P sc fm) 326 32 (.goto 5) (35) := ri_of (by decide +kernel) rfl
theorem wi_326_35 : ri (rt_P sc fm) 326 35 (.bipush 44) (37) := ri_of (by decide +kernel) rfl
theorem wi_326_37 : ri (rt_P sc fm) 326 37 (.invokevirtual 54) (40) := ri_of (by decide +kernel) rfl
theorem wi_326_4 : ri (rt_P sc fm) 326 4 (.invokevirtual 88) (7) := ri_of (by decide +kernel) rfl
theorem wi_326_40 : ri (rt_P sc fm) 326 40 (.aload_n 0) (41) := ri_of (by decide +kernel) rfl
theorem wi_326_41 : ri (rt_P sc fm) 326 41 (.aload_n 2) (42) := ri_of (by decide +kernel) rfl
theorem wi_326_42 : ri (rt_P sc fm) 326 42 (.getfield 145) (45) := ri_of (by decide +kernel) rfl
theorem wi_326_45 : ri (rt_P sc fm) 326 45 (.iload_n 3) (46) := ri_of (by decide +kernel) rfl
theorem wi_326_46 : ri (rt_P sc fm) 326 46 (.laload) (47) := ri_of (by decide +kernel) rfl
theorem wi_326_47 : ri (rt_P sc fm) 326 47 (.invokevirtual 51) (50) := ri_of (by decide +kernel) rfl
theorem wi_326_50 : ri (rt_P sc fm) 326 50 (.aload_n 0) (51) := ri_of (by decide +kernel) rfl
theorem wi_326_51 : ri (rt_P sc fm) 326 51 (.bipush 58) (53) := ri_of (by decide +kernel) rfl
theorem wi_326_53 : ri (rt_P sc fm) 326 53 (.invokevirtual 54) (56) := ri_of (by decide +kernel) rfl
theorem wi_326_56 : ri (rt_P sc fm) 326 56 (.aload_n 0) (57) := ri_of (by decide +kernel) rfl
theorem wi_326_57 : ri (rt_P sc fm) 326 57 (.aload_n 2) (58) := ri_of (by decide +kernel) rfl
theorem wi_326_58 : ri (rt_P sc fm) 326 58 (.getfield 148) (61) := ri_of (by decide +kernel) rfl
theorem wi_326_61 : ri (rt_P sc fm) 326 61 (.iload_n 3) (62) := ri_of (by decide +kernel) rfl
theorem wi_326_62 : ri (rt_P sc fm) 326 62 (.iaload) (63) := ri_of (by decide +kernel) rfl
theorem wi_326_63 : ri (rt_P sc fm) 326 63 (.iconst 1) (64) := ri_of (by decide +kernel) rfl
theorem wi_326_64 : ri (rt_P sc fm) 326 64 (.if_icmp .ne 9) (67) := ri_of (by decide +kernel) rfl
theorem wi_326_67 : ri (rt_P sc fm) 326 67 (.sipush 212) (70) := ri_of (by decide +kernel) rfl
theorem wi_326_7 : ri (rt_P sc fm) 326 7 (.aload_n 0) (8) := ri_of (by decide +kernel) rfl
theorem wi_326_70 : ri (rt_P sc fm) 326 70 (.goto 6) (73) := ri_of (by decide +kernel) rfl
theorem wi_326_73 : ri (rt_P sc fm) 326 73 (.sipush 213) (76) := ri_of (by decide +kernel) rfl
theorem wi_326_76 : ri (rt_P sc fm) 326 76 (.invokevirtual 88) (79) := ri_of (by decide +kernel) rfl
theorem wi_326_79 : ri (rt_P sc fm) 326 79 (.aload_n 2) (80) := ri_of (by decide +kernel) rfl
theorem wi_326_8 : ri (rt_P sc fm) 326 8 (.aload_n 2) (9) := ri_of (by decide +kernel) rfl
theorem wi_326_80 : ri (rt_P sc fm) 326 80 (.getfield 151) (83) := ri_of (by decide +kernel) rfl
theorem wi_326_83 : ri (rt_P sc fm) 326 83 (.iload_n 3) (84) := ri_of (by decide +kernel) rfl
theorem wi_326_84 : ri (rt_P sc fm) 326 84 (.baload) (85) := ri_of (by decide +kernel) rfl
theorem wi_326_85 : ri (rt_P sc fm) 326 85 (.ifCond .eq 25) (88) := ri_of (by decide +kernel) rfl
theorem wi_326_88 : ri (rt_P sc fm) 326 88 (.aload_n 0) (89) := ri_of (by decide +kernel) rfl
theorem wi_326_89 : ri (rt_P sc fm) 326 89 (.bipush 61) (91) := ri_of (by decide +kernel) rfl
theorem wi_326_9 : ri (rt_P sc fm) 326 9 (.getfield 98) (12) := ri_of (by decide +kernel) rfl
theorem wi_326_91 : ri (rt_P sc fm) 326 91 (.invokevirtual 54) (94) := ri_of (by decide +kernel) rfl
theorem wi_326_94 : ri (rt_P sc fm) 326 94 (.aload_n 0) (95) := ri_of (by decide +kernel) rfl
theorem wi_326_95 : ri (rt_P sc fm) 326 95 (.aload_n 2) (96) := ri_of (by decide +kernel) rfl
theorem wi_326_96 : ri (rt_P sc fm) 326 96 (.getfield 148) (99) := ri_of (by decide +kernel) rfl
theorem wi_326_99 : ri (rt_P sc fm) 326 99 (.iload_n 3) (100) := ri_of (by decide +kernel) rfl
theorem wm_327 : rx_ml (rt_P sc fm) 327 = 3 := (by decide +kernel : rt_ml 327 = 3)
theorem wm_330 : rx_ml (rt_P sc fm) 330 = 4 := (by decide +kernel : rt_ml 330 = 4)
theorem wr_326 : rx_rt (rt_P sc fm) 326 = none := (by decide +kernel : rt_rt 326 = none)
/-- MarkHouse$Teller.writeKind(ILMarkHouse$Kind;)V -/
def d_326 (n : Nat) (a1 : Int32) (k2 : Nat) (c : cS) : Option (cS) :=
  Option.bind (d_321 n 201 c) (fun r1 =>
  Option.bind (d_320 n (r1.2 (kA k2) 0) r1) (fun r2 =>
  Option.bind (whl (R := (cS)) (fun s4 : Int32 × cS =>
    if (s4.2.1 (kA k2) 1) ≤ s4.1 then
      some (.inr s4.2)
    else
      jn (fun p5 : Int32 =>
        Option.bind (d_322 n p5 s4.2) (fun r6 =>
        if ib s4.1 4 then
        Option.bind (d_320 n (r6.2 (kA k2 + 1) (ix s4.1)) r6) (fun r8 =>
        Option.bind (d_322 n 58 r8) (fun r9 =>
        if ib s4.1 4 then
        jn (fun p11 : Int32 =>
          Option.bind (d_321 n p11 r9) (fun r12 =>
          if ib s4.1 4 then
          jn (fun p14 : cS =>
            lt (s4.1 + 1 : Int32) (fun v16 =>
            some (.inl (v16, p14))))
          (fun j110 =>
          if (r12.1 (kA k2 + 3) (ix s4.1)) = 0 then
            j110 r12
          else
            Option.bind (d_322 n 61 r12) (fun r18 =>
            if ib s4.1 4 then
            if ib s4.1 4 then
            Option.bind (d_323 n (r18.1 (kA k2 + 2) (ix s4.1)) (r18.2 (kA k2 + 4) (ix s4.1)) r18) (fun r21 =>
            j110 r21)
            else none
            else none))
          else none))
        (fun j76 =>
        if (r9.1 (kA k2 + 2) (ix s4.1)) = 1 then
          j76 212
        else
          j76 213)
        else none))
        else none))
      (fun j37 =>
      if s4.1 = 0 then
        j37 40
      else
        j37 44)) n (0, r2))
  (fun x22 : cS =>
    jn (fun p23 : cS =>
      Option.bind (d_327 n (p23.1 (kA k2) 6) p23) (fun r24 =>
      jn (fun p25 : cS =>
        jn (fun p26 : cS =>
          if ib (1200 + a1) 2242 then
          jn (fun p28 : cS =>
            Option.bind (d_322 n 59 p28) (fun r29 =>
            some r29))
          (fun j196 =>
          if (p26.1 144 (ix (1200 + a1))) ≤ 0 then
            j196 p26
          else
            Option.bind (d_322 n 61 p26) (fun r30 =>
            Option.bind (d_330 n (1200 + a1) r30) (fun r31 =>
            j196 r31)))
          else none)
        (fun j165 =>
        if (p25.1 (kA k2) 8) = 0 then
          j165 p25
        else
          Option.bind (d_321 n 210 p25) (fun r32 =>
          j165 r32)))
      (fun j151 =>
      if (r24.1 (kA k2) 7) = 0 then
        j151 r24
      else
        Option.bind (d_321 n 209 r24) (fun r33 =>
        j151 r33))))
    (fun j129 =>
    if (x22.1 (kA k2) 1) ≤ 0 then
      j129 x22
    else
      Option.bind (d_322 n 41 x22) (fun r34 =>
      j129 r34)))))
theorem sp_326 {F Lo n : Nat} {a1 : Int32} {k2 : Nat} {c y : cS} {w : cW} {K : cS → Prop} {Q : ((Option Value) ⊕ String) → List va_E → Prop} (hw : rOK fm w) (hF : 8 ≤ F) (hLo : 178 ≤ Lo) (hk2 : k2 < 12) (h : wp (d_326 n a1 k2 c) K) (hQ : ∀ r, K r → Q (.inl none) (hq true r y w)) : rs (rt_P sc fm) 326 F Lo 0 [(0, .ref 172), (1, .int a1), (2, .ref (kA k2))] [] (hq true c y w) Q := by
  unfold d_326 at h
  obtain ⟨lv, elv⟩ : ∃ lv : rx_L, lv = [(0, .ref 172), (1, .int a1), (2, .ref (kA k2))] := ⟨_, rfl⟩
  rw [← elv]
  have l0 : rx_ld lv 0 = some (.ref 172) := by rw [elv]; rfl
  have l1 : rx_ld lv 1 = some (.int a1) := by rw [elv]; rfl
  have l2 : rx_ld lv 2 = some (.ref (kA k2)) := by rw [elv]; rfl
  refine rs_aldn wi_326_0 l0 ?_
  refine rs_pure wi_326_1 rfl ?_
  refine rs_topi (v := 201) (by decide) ?_
  refine rs_V wi_326_4 wc_326_88 rfl (dq_isa tf_172_0 wa_12_321) (Nat.le_trans (by decide) hF) (ml_le wm_321 (Nat.le_trans (by decide) hLo)) rfl (sp_321 hw (Nat.le_trans (by decide : 3 ≤ 8 - 1) (Nat.sub_le_sub_right hF 1)) (ml_sub wm_321 (Nat.le_trans (by decide : 67 ≤ 178 - 21) (Nat.sub_le_sub_right hLo 21))) (wp_bind h) (fun r1 h => rs_back0 ?_))
  refine rs_aldn wi_326_7 l0 ?_
  refine rs_aldn wi_326_8 l2 ?_
  refine dq_gl wi_326_9 wf_326_98 (fK_0 hk2) ?_
  refine rs_V wi_326_12 wc_326_51 rfl (dq_isa tf_172_0 wa_12_320) (Nat.le_trans (by decide) hF) (ml_le wm_320 (Nat.le_trans (by decide) hLo)) rfl (sp_320 hw (Nat.le_trans (by decide : 2 ≤ 8 - 1) (Nat.sub_le_sub_right hF 1)) (ml_sub wm_320 (Nat.le_trans (by decide : 45 ≤ 178 - 22) (Nat.sub_le_sub_right hLo 22))) (wp_bind h) (fun r2 h => rs_back0 ?_))
  refine rs_pure wi_326_15 rfl ?_
  refine rs_topi (v := 0) (by decide) ?_
  refine dl_istn wi_326_16 rfl (fun lv l3 t3 => ?_)
  have l0 := t3 _ _ (by decide) (Or.inl rfl) l0
  have l1 := t3 _ _ (by decide) (Or.inl rfl) l1
  have l2 := t3 _ _ (by decide) (Or.inl rfl) l2
  refine whl_ex (A := fun s4 : Int32 × cS => ∀ lv, rx_ld lv 0 = some (.ref 172) → rx_ld lv 1 = some (.int a1) → rx_ld lv 2 = some (.ref (kA k2)) → rx_ld lv 3 = some (.int s4.1) → rs (rt_P sc fm) 326 F Lo 17 lv [] (hq true s4.2 y w) Q) (B := (fun x22 : cS => ∀ lv, rx_ld lv 0 = some (.ref 172) → rx_ld lv 1 = some (.int a1) → rx_ld lv 2 = some (.ref (kA k2)) → rs (rt_P sc fm) 326 F Lo 116 lv [] (hq true x22 y w) Q)) ?_ ?_ _ _ (wp_bind h) _ l0 l1 l2 l3
  · intro s4 h lv l0 l1 l2 l3
    refine rs_ildn wi_326_17 l3 ?_
    refine rs_aldn wi_326_18 l2 ?_
    refine dq_gi wi_326_19 wf_326_144 (fK_1 hk2) ?_
    refine rs_icge (tg := 116) wi_326_22 ⟨by decide, by decide⟩ (fun q => ?_) (fun q => ?_)
    ·
      have h := wp_pos h q
      exact h _ l0 l1 l2
    ·
      have h := wp_neg h q
      refine rs_aldn wi_326_25 l0 ?_
      refine rs_ildn wi_326_26 l3 ?_
      refine wp_jn (B := fun p5 : Int32 => ∀ lv, rx_ld lv 0 = some (.ref 172) → rx_ld lv 1 = some (.int a1) → rx_ld lv 2 = some (.ref (kA k2)) → rx_ld lv 3 = some (.int s4.1) → rs (rt_P sc fm) 326 F Lo 37 lv [.int p5, .ref 172] (hq true s4.2 y w) Q) h (fun p5 h lv l0 l1 l2 l3 => ?_) (fun j37 hj37 h => ?_)
      ·
        refine rs_V wi_326_37 wc_326_54 rfl (dq_isa tf_172_0 wa_12_322) (Nat.le_trans (by decide) hF) (ml_le wm_322 (Nat.le_trans (by decide) hLo)) rfl (sp_322 hw (Nat.le_trans (by decide : 1 ≤ 8 - 1) (Nat.sub_le_sub_right hF 1)) (ml_sub wm_322 (Nat.le_trans (by decide : 21 ≤ 178 - 21) (Nat.sub_le_sub_right hLo 21))) (wp_bind h) (fun r6 h => rs_back0 ?_))
        refine rs_aldn wi_326_40 l0 ?_
        refine rs_aldn wi_326_41 l2 ?_
        refine dq_gr wi_326_42 wf_326_145 (fK_2 hk2) ?_
        refine rs_ildn wi_326_45 l3 ?_
        obtain ⟨g7, h⟩ := wp_gd h
        refine dq_lald wi_326_46 (tK_1 hk2) g7 ?_
        refine rs_V wi_326_47 wc_326_51 rfl (dq_isa tf_172_0 wa_12_320) (Nat.le_trans (by decide) hF) (ml_le wm_320 (Nat.le_trans (by decide) hLo)) rfl (sp_320 hw (Nat.le_trans (by decide : 2 ≤ 8 - 1) (Nat.sub_le_sub_right hF 1)) (ml_sub wm_320 (Nat.le_trans (by decide : 45 ≤ 178 - 22) (Nat.sub_le_sub_right hLo 22))) (wp_bind h) (fun r8 h => rs_back0 ?_))
        refine rs_aldn wi_326_50 l0 ?_
        refine rs_pure wi_326_51 rfl ?_
        refine rs_topi (v := 58) (by decide) ?_
        refine rs_V wi_326_53 wc_326_54 rfl (dq_isa tf_172_0 wa_12_322) (Nat.le_trans (by decide) hF) (ml_le wm_322 (Nat.le_trans (by decide) hLo)) rfl (sp_322 hw (Nat.le_trans (by decide : 1 ≤ 8 - 1) (Nat.sub_le_sub_right hF 1)) (ml_sub wm_322 (Nat.le_trans (by decide : 21 ≤ 178 - 21) (Nat.sub_le_sub_right hLo 21))) (wp_bind h) (fun r9 h => rs_back0 ?_))
        refine rs_aldn wi_326_56 l0 ?_
        refine rs_aldn wi_326_57 l2 ?_
        refine dq_gr wi_326_58 wf_326_148 (fK_3 hk2) ?_
        refine rs_ildn wi_326_61 l3 ?_
        obtain ⟨g10, h⟩ := wp_gd h
        refine dq_iald wi_326_62 (tK_2 hk2) g10 ?_
        refine rs_pure wi_326_63 rfl ?_
        refine rs_topi (v := 1) (by decide) ?_
        refine wp_jn (B := fun p11 : Int32 => ∀ lv, rx_ld lv 0 = some (.ref 172) → rx_ld lv 1 = some (.int a1) → rx_ld lv 2 = some (.ref (kA k2)) → rx_ld lv 3 = some (.int s4.1) → rs (rt_P sc fm) 326 F Lo 76 lv [.int p11, .ref 172] (hq true r9 y w) Q) h (fun p11 h lv l0 l1 l2 l3 => ?_) (fun j76 hj76 h => ?_)
        ·
          refine rs_V wi_326_76 wc_326_88 rfl (dq_isa tf_172_0 wa_12_321) (Nat.le_trans (by decide) hF) (ml_le wm_321 (Nat.le_trans (by decide) hLo)) rfl (sp_321 hw (Nat.le_trans (by decide : 3 ≤ 8 - 1) (Nat.sub_le_sub_right hF 1)) (ml_sub wm_321 (Nat.le_trans (by decide : 67 ≤ 178 - 21) (Nat.sub_le_sub_right hLo 21))) (wp_bind h) (fun r12 h => rs_back0 ?_))
          refine rs_aldn wi_326_79 l2 ?_
          refine dq_gr wi_326_80 wf_326_151 (fK_4 hk2) ?_
          refine rs_ildn wi_326_83 l3 ?_
          obtain ⟨g13, h⟩ := wp_gd h
          refine dq_zald wi_326_84 (tK_3 hk2) g13 ?_
          refine wp_jn (B := fun p14 : cS => ∀ lv, rx_ld lv 0 = some (.ref 172) → rx_ld lv 1 = some (.int a1) → rx_ld lv 2 = some (.ref (kA k2)) → rx_ld lv 3 = some (.int s4.1) → rs (rt_P sc fm) 326 F Lo 110 lv [] (hq true p14 y w) Q) h (fun p14 h lv l0 l1 l2 l3 => ?_) (fun j110 hj110 h => ?_)
          ·
            obtain ⟨v16, e17, h⟩ := wp_lt h
            refine dl_inc wi_326_110 l3 rfl e17 (fun lv l3 t15 => ?_)
            have l0 := t15 _ _ (by decide) (Or.inl rfl) l0
            have l1 := t15 _ _ (by decide) (Or.inl rfl) l1
            have l2 := t15 _ _ (by decide) (Or.inl rfl) l2
            refine rs_goto (tg := 17) wi_326_113 ⟨by decide, by decide⟩ ?_
            exact h _ l0 l1 l2 l3
          refine rs_ifeq (tg := 110) wi_326_85 ⟨by decide, by decide⟩ (fun q => ?_) (fun q => ?_)
          ·
            have h := wp_pos h q
            exact hj110 _ h _ l0 l1 l2 l3
          ·
            have h := wp_neg h q
            refine rs_aldn wi_326_88 l0 ?_
            refine rs_pure wi_326_89 rfl ?_
            refine rs_topi (v := 61) (by decide) ?_
            refine rs_V wi_326_91 wc_326_54 rfl (dq_isa tf_172_0 wa_12_322) (Nat.le_trans (by decide) hF) (ml_le wm_322 (Nat.le_trans (by decide) hLo)) rfl (sp_322 hw (Nat.le_trans (by decide : 1 ≤ 8 - 1) (Nat.sub_le_sub_right hF 1)) (ml_sub wm_322 (Nat.le_trans (by decide : 21 ≤ 178 - 21) (Nat.sub_le_sub_right hLo 21))) (wp_bind h) (fun r18 h => rs_back0 ?_))
            refine rs_aldn wi_326_94 l0 ?_
            refine rs_aldn wi_326_95 l2 ?_
            refine dq_gr wi_326_96 wf_326_148 (fK_3 hk2) ?_
            refine rs_ildn wi_326_99 l3 ?_
            obtain ⟨g19, h⟩ := wp_gd h
            refine dq_iald wi_326_100 (tK_2 hk2) g19 ?_
            refine rs_aldn wi_326_101 l2 ?_
            refine dq_gr wi_326_102 wf_326_155 (fK_5 hk2) ?_
            refine rs_ildn wi_326_105 l3 ?_
            obtain ⟨g20, h⟩ := wp_gd h
            refine dq_lald wi_326_106 (tK_4 hk2) g20 ?_
            refine rs_V wi_326_107 wc_326_158 rfl (dq_isa tf_172_0 wa_12_323) (Nat.le_trans (by decide) hF) (ml_le wm_323 (Nat.le_trans (by decide) hLo)) rfl (sp_323 hw (Nat.le_trans (by decide : 2 ≤ 8 - 1) (Nat.sub_le_sub_right hF 1)) (ml_sub wm_323 (Nat.le_trans (by decide : 47 ≤ 178 - 23) (Nat.sub_le_sub_right hLo 23))) (wp_bind h) (fun r21 h => rs_back0 ?_))
            exact hj110 _ h _ l0 l1 l2 l3
        refine rs_icne (tg := 73) wi_326_64 ⟨by decide, by decide⟩ (fun q => ?_) (fun q => ?_)
        ·
          have h := wp_neg h q
          refine rs_pure wi_326_73 rfl ?_
          refine rs_topi (v := 213) (by decide) ?_
          exact hj76 _ h _ l0 l1 l2 l3
        ·
          have h := wp_pos h q
          refine rs_pure wi_326_67 rfl ?_
          refine rs_topi (v := 212) (by decide) ?_
          refine rs_goto (tg := 76) wi_326_70 ⟨by decide, by decide⟩ ?_
          exact hj76 _ h _ l0 l1 l2 l3
      refine rs_ifne (tg := 35) wi_326_27 ⟨by decide, by decide⟩ (fun q => ?_) (fun q => ?_)
      ·
        have h := wp_neg h q
        refine rs_pure wi_326_35 rfl ?_
        refine rs_topi (v := 44) (by decide) ?_
        exact hj37 _ h _ l0 l1 l2 l3
      ·
        have h := wp_pos h q
        refine rs_pure wi_326_30 rfl ?_
        refine rs_topi (v := 40) (by decide) ?_
        refine rs_goto (tg := 37) wi_326_32 ⟨by decide, by decide⟩ ?_
        exact hj37 _ h _ l0 l1 l2 l3
  ·
    intro x22 h lv l0 l1 l2
    refine rs_aldn wi_326_116 l2 ?_
    refine dq_gi wi_326_117 wf_326_144 (fK_1 hk2) ?_
    refine wp_jn (B := fun p23 : cS => ∀ lv, rx_ld lv 0 = some (.ref 172) → rx_ld lv 1 = some (.int a1) → rx_ld lv 2 = some (.ref (kA k2)) → rs (rt_P sc fm) 326 F Lo 129 lv [] (hq true p23 y w) Q) h (fun p23 h lv l0 l1 l2 => ?_) (fun j129 hj129 h => ?_)
    ·
      refine rs_aldn wi_326_129 l0 ?_
      refine rs_aldn wi_326_130 l2 ?_
      refine dq_gi wi_326_131 wf_326_162 (fK_6 hk2) ?_
      refine rs_V wi_326_134 wc_326_165 rfl (dq_isa tf_172_0 wa_12_327) (Nat.le_trans (by decide) hF) (ml_le wm_327 (Nat.le_trans (by decide) hLo)) rfl (sp_327 hw (Nat.le_trans (by decide : 4 ≤ 8 - 1) (Nat.sub_le_sub_right hF 1)) (ml_sub wm_327 (Nat.le_trans (by decide : 88 ≤ 178 - 22) (Nat.sub_le_sub_right hLo 22))) (wp_bind h) (fun r24 h => rs_back0 ?_))
      refine rs_aldn wi_326_137 l2 ?_
      refine dq_gi wi_326_138 wf_326_168 (fK_7 hk2) ?_
      refine wp_jn (B := fun p25 : cS => ∀ lv, rx_ld lv 0 = some (.ref 172) → rx_ld lv 1 = some (.int a1) → rx_ld lv 2 = some (.ref (kA k2)) → rs (rt_P sc fm) 326 F Lo 151 lv [] (hq true p25 y w) Q) h (fun p25 h lv l0 l1 l2 => ?_) (fun j151 hj151 h => ?_)
      ·
        refine rs_aldn wi_326_151 l2 ?_
        refine dq_gi wi_326_152 wf_326_172 (fK_8 hk2) ?_
        refine wp_jn (B := fun p26 : cS => ∀ lv, rx_ld lv 0 = some (.ref 172) → rx_ld lv 1 = some (.int a1) → rs (rt_P sc fm) 326 F Lo 165 lv [] (hq true p26 y w) Q) h (fun p26 h lv l0 l1 => ?_) (fun j165 hj165 h => ?_)
        ·
          refine rs_aldn wi_326_165 l0 ?_
          refine dq_gr wi_326_166 wf_326_27 tf_172_5 ?_
          refine dq_gr wi_326_169 wf_326_175 tf_133_10 ?_
          refine rs_pure wi_326_172 rfl ?_
          refine rs_topi (v := 1200) (by decide) ?_
          refine rs_ildn wi_326_175 l1 ?_
          refine rs_pure wi_326_176 rfl ?_
          obtain ⟨g27, h⟩ := wp_gd h
          refine dq_iald wi_326_177 t_144 g27 ?_
          refine wp_jn (B := fun p28 : cS => ∀ lv, rx_ld lv 0 = some (.ref 172) → rs (rt_P sc fm) 326 F Lo 196 lv [] (hq true p28 y w) Q) h (fun p28 h lv l0 => ?_) (fun j196 hj196 h => ?_)
          ·
            refine rs_aldn wi_326_196 l0 ?_
            refine rs_pure wi_326_197 rfl ?_
            refine rs_topi (v := 59) (by decide) ?_
            refine rs_V wi_326_199 wc_326_54 rfl (dq_isa tf_172_0 wa_12_322) (Nat.le_trans (by decide) hF) (ml_le wm_322 (Nat.le_trans (by decide) hLo)) rfl (sp_322 hw (Nat.le_trans (by decide : 1 ≤ 8 - 1) (Nat.sub_le_sub_right hF 1)) (ml_sub wm_322 (Nat.le_trans (by decide : 21 ≤ 178 - 21) (Nat.sub_le_sub_right hLo 21))) (wp_bind h) (fun r29 h => rs_back0 ?_))
            exact rs_vret wi_326_202 wr_326 (hQ r29 h)
          refine rs_ifle (tg := 196) wi_326_178 ⟨by decide, by decide⟩ (fun q => ?_) (fun q => ?_)
          ·
            have h := wp_pos h q
            exact hj196 _ h _ l0
          ·
            have h := wp_neg h q
            refine rs_aldn wi_326_181 l0 ?_
            refine rs_pure wi_326_182 rfl ?_
            refine rs_topi (v := 61) (by decide) ?_
            refine rs_V wi_326_184 wc_326_54 rfl (dq_isa tf_172_0 wa_12_322) (Nat.le_trans (by decide) hF) (ml_le wm_322 (Nat.le_trans (by decide) hLo)) rfl (sp_322 hw (Nat.le_trans (by decide : 1 ≤ 8 - 1) (Nat.sub_le_sub_right hF 1)) (ml_sub wm_322 (Nat.le_trans (by decide : 21 ≤ 178 - 21) (Nat.sub_le_sub_right hLo 21))) (wp_bind h) (fun r30 h => rs_back0 ?_))
            refine rs_aldn wi_326_187 l0 ?_
            refine rs_pure wi_326_188 rfl ?_
            refine rs_topi (v := 1200) (by decide) ?_
            refine rs_ildn wi_326_191 l1 ?_
            refine rs_pure wi_326_192 rfl ?_
            refine rs_V wi_326_193 wc_326_104 rfl (dq_isa tf_172_0 wa_12_330) (Nat.le_trans (by decide) hF) (ml_le wm_330 (Nat.le_trans (by decide) hLo)) rfl (sp_330 hw (Nat.le_trans (by decide : 7 ≤ 8 - 1) (Nat.sub_le_sub_right hF 1)) (ml_sub wm_330 (Nat.le_trans (by decide : 155 ≤ 178 - 23) (Nat.sub_le_sub_right hLo 23))) (wp_bind h) (fun r31 h => rs_back0 ?_))
            exact hj196 _ h _ l0
        refine rs_ifeq (tg := 165) wi_326_155 ⟨by decide, by decide⟩ (fun q => ?_) (fun q => ?_)
        ·
          have h := wp_pos h q
          exact hj165 _ h _ l0 l1
        ·
          have h := wp_neg h q
          refine rs_aldn wi_326_158 l0 ?_
          refine rs_pure wi_326_159 rfl ?_
          refine rs_topi (v := 210) (by decide) ?_
          refine rs_V wi_326_162 wc_326_88 rfl (dq_isa tf_172_0 wa_12_321) (Nat.le_trans (by decide) hF) (ml_le wm_321 (Nat.le_trans (by decide) hLo)) rfl (sp_321 hw (Nat.le_trans (by decide : 3 ≤ 8 - 1) (Nat.sub_le_sub_right hF 1)) (ml_sub wm_321 (Nat.le_trans (by decide : 67 ≤ 178 - 21) (Nat.sub_le_sub_right hLo 21))) (wp_bind h) (fun r32 h => rs_back0 ?_))
          exact hj165 _ h _ l0 l1
      refine rs_ifeq (tg := 151) wi_326_141 ⟨by decide, by decide⟩ (fun q => ?_) (fun q => ?_)
      ·
        have h := wp_pos h q
        exact hj151 _ h _ l0 l1 l2
      ·
        have h := wp_neg h q
        refine rs_aldn wi_326_144 l0 ?_
        refine rs_pure wi_326_145 rfl ?_
        refine rs_topi (v := 209) (by decide) ?_
        refine rs_V wi_326_148 wc_326_88 rfl (dq_isa tf_172_0 wa_12_321) (Nat.le_trans (by decide) hF) (ml_le wm_321 (Nat.le_trans (by decide) hLo)) rfl (sp_321 hw (Nat.le_trans (by decide : 3 ≤ 8 - 1) (Nat.sub_le_sub_right hF 1)) (ml_sub wm_321 (Nat.le_trans (by decide : 67 ≤ 178 - 21) (Nat.sub_le_sub_right hLo 21))) (wp_bind h) (fun r33 h => rs_back0 ?_))
        exact hj151 _ h _ l0 l1 l2
    refine rs_ifle (tg := 129) wi_326_120 ⟨by decide, by decide⟩ (fun q => ?_) (fun q => ?_)
    ·
      have h := wp_pos h q
      exact hj129 _ h _ l0 l1 l2
    ·
      have h := wp_neg h q
      refine rs_aldn wi_326_123 l0 ?_
      refine rs_pure wi_326_124 rfl ?_
      refine rs_topi (v := 41) (by decide) ?_
      refine rs_V wi_326_126 wc_326_54 rfl (dq_isa tf_172_0 wa_12_322) (Nat.le_trans (by decide) hF) (ml_le wm_322 (Nat.le_trans (by decide) hLo)) rfl (sp_322 hw (Nat.le_trans (by decide : 1 ≤ 8 - 1) (Nat.sub_le_sub_right hF 1)) (ml_sub wm_322 (Nat.le_trans (by decide : 21 ≤ 178 - 21) (Nat.sub_le_sub_right hLo 21))) (wp_bind h) (fun r34 h => rs_back0 ?_))
      exact hj129 _ h _ l0 l1 l2
theorem wc_328_104 : rx_ct (rt_P sc fm) 328 104 = some (0, 330, 1) := (by decide +kernel : rt_ct 328 104 = some (0, 330, 1))
theorem wc_328_158 : rx_ct (rt_P sc fm) 328 158 = some (0, 323, 2) := (by decide +kernel : rt_ct 328 158 = some (0, 323, 2))
theorem wc_328_51 : rx_ct (rt_P sc fm) 328 51 = some (0, 320, 1) := (by decide +kernel : rt_ct 328 51 = some (0, 320, 1))
theorem wc_328_54 : rx_ct (rt_P sc fm) 328 54 = some (0, 322, 1) := (by decide +kernel : rt_ct 328 54 = some (0, 322, 1))
theorem wc_328_88 : rx_ct (rt_P sc fm) 328 88 = some (0, 321, 1) := (by decide +kernel : rt_ct 328 88 = some (0, 321, 1))
theorem wf_328_180 : rx_ft (rt_P sc fm) 328 180 = some (9, 8) := (by decide +kernel : rt_ft 328 180 = some (9, 8))
theorem wf_328_183 : rx_ft (rt_P sc fm) 328 183 = some (9, 9) := (by decide +kernel : rt_ft 328 183 = some (9, 9))
theorem wf_328_186 : rx_ft (rt_P sc fm) 328 186 = some (9, 11) := (by decide +kernel : rt_ft 328 186 = some (9, 11))
theorem wf_328_189 : rx_ft (rt_P sc fm) 328 189 = some (9, 12) := (by decide +kernel : rt_ft 328 189 = some (9, 12))
theorem wf_328_19 : rx_ft (rt_P sc fm) 328 19 = some (12, 3) := (by decide +kernel : rt_ft 328 19 = some (12, 3))
theorem wf_328_192 : rx_ft (rt_P sc fm) 328 192 = some (9, 13) := (by decide +kernel : rt_ft 328 192 = some (9, 13))
theorem wi_328_0 : ri (rt_P sc fm) 328 0 (.aload_n 0) (1) := ri_of (by decide +kernel) rfl
theorem wi_328_1 : ri (rt_P sc fm) 328 1 (.sipush 202) (4) := ri_of (by decide +kernel) rfl
theorem wi_328_100 : ri (rt_P sc fm) 328 100 (.getfield 189) (103) := ri_of (by decide +kernel) rfl
theorem wi_328_103 : ri (rt_P sc fm) 328 103 (.iload_n 1) (104) := ri_of (by decide +kernel) rfl
theorem wi_328_104 : ri (rt_P sc fm) 328 104 (.bipush 8) (106) := ri_of (by decide +kernel) rfl
theorem wi_328_106 : ri (rt_P sc fm) 328 106 (.imul) (107) := ri_of (by decide +kernel) rfl
theorem wi_328_107 : ri (rt_P sc fm) 328 107 (.iload_n 2) (108) := ri_of (by decide +kernel) rfl
theorem wi_328_108 : ri (rt_P sc fm) 328 108 (.iadd) (109) := ri_of (by decide +kernel) rfl
theorem wi_328_109 : ri (rt_P sc fm) 328 109 (.laload) (110) := ri_of (by decide +kernel) rfl
theorem wi_328_110 : ri (rt_P sc fm) 328 110 (.invokevirtual 51) (113) := ri_of (by decide +kernel) rfl
theorem wi_328_113 : ri (rt_P sc fm) 328 113 (.aload_n 0) (114) := ri_of (by decide +kernel) rfl
theorem wi_328_114 : ri (rt_P sc fm) 328 114 (.bipush 100) (116) := ri_of (by decide +kernel) rfl
theorem wi_328_116 : ri (rt_P sc fm) 328 116 (.iload_n 1) (117) := ri_of (by decide +kernel) rfl
theorem wi_328_117 : ri (rt_P sc fm) 328 117 (.imul) (118) := ri_of (by decide +kernel) rfl
theorem wi_328_118 : ri (rt_P sc fm) 328 118 (.iconst 1) (119) := ri_of (by decide +kernel) rfl
theorem wi_328_119 : ri (rt_P sc fm) 328 119 (.iadd) (120) := ri_of (by decide +kernel) rfl
theorem wi_328_12 : ri (rt_P sc fm) 328 12 (.getfield 180) (15) := ri_of (by decide +kernel) rfl
theorem wi_328_120 : ri (rt_P sc fm) 328 120 (.iload_n 2) (121) := ri_of (by decide +kernel) rfl
theorem wi_328_121 : ri (rt_P sc fm) 328 121 (.iadd) (122) := ri_of (by decide +kernel) rfl
theorem wi_328_122 : ri (rt_P sc fm) 328 122 (.invokevirtual 104) (125) := ri_of (by decide +kernel) rfl
theorem wi_328_125 : ri (rt_P sc fm) 328 125 (.aload_n 0) (126) := ri_of (by decide +kernel) rfl
theorem wi_328_126 : ri (rt_P sc fm) 328 126 (.getfield 19) (129) := ri_of (by decide +kernel) rfl
theorem wi_328_129 : ri (rt_P sc fm) 328 129 (.getfield 192) (132) := ri_of (by decide +kernel) rfl
theorem wi_328_132 : ri (rt_P sc fm) 328 132 (.iload_n 1) (133) := ri_of (by decide +kernel) rfl
theorem wi_328_133 : ri (rt_P sc fm) 328 133 (.bipush 8) (135) := ri_of (by decide +kernel) rfl
theorem wi_328_135 : ri (rt_P sc fm) 328 135 (.imul) (136) := ri_of (by decide +kernel) rfl
theorem wi_328_136 : ri (rt_P sc fm) 328 136 (.iload_n 2) (137) := ri_of (by decide +kernel) rfl
theorem wi_328_137 : ri (rt_P sc fm) 328 137 (.iadd) (138) := ri_of (by decide +kernel) rfl
theorem wi_328_138 : ri (rt_P sc fm) 328 138 (.iaload) (139) := ri_of (by decide +kernel) rfl
theorem wi_328_139 : ri (rt_P sc fm) 328 139 (.istore_n 3) (140) := ri_of (by decide +kernel) rfl
theorem wi_328_140 : ri (rt_P sc fm) 328 140 (.iload_n 3) (141) := ri_of (by decide +kernel) rfl
theorem wi_328_141 : ri (rt_P sc fm) 328 141 (.ifCond .eq 16) (144) := ri_of (by decide +kernel) rfl
theorem wi_328_144 : ri (rt_P sc fm) 328 144 (.aload_n 0) (145) := ri_of (by decide +kernel) rfl
theorem wi_328_145 : ri (rt_P sc fm) 328 145 (.bipush 61) (147) := ri_of (by decide +kernel) rfl
theorem wi_328_147 : ri (rt_P sc fm) 328 147 (.invokevirtual 54) (150) := ri_of (by decide +kernel) rfl
theorem wi_328_15 : ri (rt_P sc fm) 328 15 (.iload_n 1) (16) := ri_of (by decide +kernel) rfl
theorem wi_328_150 : ri (rt_P sc fm) 328 150 (.aload_n 0) (151) := ri_of (by decide +kernel) rfl
theorem wi_328_151 : ri (rt_P sc fm) 328 151 (.iconst 1) (152) := ri_of (by decide +kernel) rfl
theorem wi_328_152 : ri (rt_P sc fm) 328 152 (.iload_n 3) (153) := ri_of (by decide +kernel) rfl
theorem wi_328_153 : ri (rt_P sc fm) 328 153 (.i2l) (154) := ri_of (by decide +kernel) rfl
theorem wi_328_154 : ri (rt_P sc fm) 328 154 (.invokevirtual 158) (157) := ri_of (by decide +kernel) rfl
theorem wi_328_157 : ri (rt_P sc fm) 328 157 (.aload_n 0) (158) := ri_of (by decide +kernel) rfl
theorem wi_328_158 : ri (rt_P sc fm) 328 158 (.bipush 59) (160) := ri_of (by decide +kernel) rfl
theorem wi_328_16 : ri (rt_P sc fm) 328 16 (.laload) (17) := ri_of (by decide +kernel) rfl
theorem wi_328_160 : ri (rt_P sc fm) 328 160 (.invokevirtual 54) (163) := ri_of (by decide +kernel) rfl
theorem wi_328_163 : ri (rt_P sc fm) 328 163 (.iinc 2 1) (166) := ri_of (by decide +kernel) rfl
theorem wi_328_166 : ri (rt_P sc fm) 328 166 (.goto (-91)) (169) := ri_of (by decide +kernel) rfl
theorem wi_328_169 : ri (rt_P sc fm) 328 169 (.return_) (170) := ri_of (by decide +kernel) rfl
theorem wi_328_17 : ri (rt_P sc fm) 328 17 (.invokevirtual 51) (20) := ri_of (by decide +kernel) rfl
theorem wi_328_20 : ri (rt_P sc fm) 328 20 (.aload_n 0) (21) := ri_of (by decide +kernel) rfl
theorem wi_328_21 : ri (rt_P sc fm) 328 21 (.getfield 19) (24) := ri_of (by decide +kernel) rfl
theorem wi_328_24 : ri (rt_P sc fm) 328 24 (.getfield 183) (27) := ri_of (by decide +kernel) rfl
theorem wi_328_27 : ri (rt_P sc fm) 328 27 (.iload_n 1) (28) := ri_of (by decide +kernel) rfl
theorem wi_328_28 : ri (rt_P sc fm) 328 28 (.iaload) (29) := ri_of (by decide +kernel) rfl
theorem wi_328_29 : ri (rt_P sc fm) 328 29 (.ifCond .lt 30) (32) := ri_of (by decide +kernel) rfl
theorem wi_328_32 : ri (rt_P sc fm) 328 32 (.aload_n 0) (33) := ri_of (by decide +kernel) rfl
theorem wi_328_33 : ri (rt_P sc fm) 328 33 (.bipush 58) (35) := ri_of (by decide +kernel) rfl
theorem wi_328_35 : ri (rt_P sc fm) 328 35 (.invokevirtual 54) (38) := ri_of (by decide +kernel) rfl
theorem wi_328_38 : ri (rt_P sc fm) 328 38 (.aload_n 0) (39) := ri_of (by decide +kernel) rfl
theorem wi_328_39 : ri (rt_P sc fm) 328 39 (.aload_n 0) (40) := ri_of (by decide +kernel) rfl
theorem wi_328_4 : ri (rt_P sc fm) 328 4 (.invokevirtual 88) (7) := ri_of (by decide +kernel) rfl
theorem wi_328_40 : ri (rt_P sc fm) 328 40 (.getfield 19) (43) := ri_of (by decide +kernel) rfl
theorem wi_328_43 : ri (rt_P sc fm) 328 43 (.getfield 180) (46) := ri_of (by decide +kernel) rfl
theorem wi_328_46 : ri (rt_P sc fm) 328 46 (.aload_n 0) (47) := ri_of (by decide +kernel) rfl
theorem wi_328_47 : ri (rt_P sc fm) 328 47 (.getfield 19) (50) := ri_of (by decide +kernel) rfl
theorem wi_328_50 : ri (rt_P sc fm) 328 50 (.getfield 183) (53) := ri_of (by decide +kernel) rfl
theorem wi_328_53 : ri (rt_P sc fm) 328 53 (.iload_n 1) (54) := ri_of (by decide +kernel) rfl
theorem wi_328_54 : ri (rt_P sc fm) 328 54 (.iaload) (55) := ri_of (by decide +kernel) rfl
theorem wi_328_55 : ri (rt_P sc fm) 328 55 (.laload) (56) := ri_of (by decide +kernel) rfl
theorem wi_328_56 : ri (rt_P sc fm) 328 56 (.invokevirtual 51) (59) := ri_of (by decide +kernel) rfl
theorem wi_328_59 : ri (rt_P sc fm) 328 59 (.aload_n 0) (60) := ri_of (by decide +kernel) rfl
theorem wi_328_60 : ri (rt_P sc fm) 328 60 (.bipush 100) (62) := ri_of (by decide +kernel) rfl
theorem wi_328_62 : ri (rt_P sc fm) 328 62 (.iload_n 1) (63) := ri_of (by decide +kernel) rfl
theorem wi_328_63 : ri (rt_P sc fm) 328 63 (.imul) (64) := ri_of (by decide +kernel) rfl
theorem wi_328_64 : ri (rt_P sc fm) 328 64 (.invokevirtual 104) (67) := ri_of (by decide +kernel) rfl
theorem wi_328_67 : ri (rt_P sc fm) 328 67 (.aload_n 0) (68) := ri_of (by decide +kernel) rfl
theorem wi_328_68 : ri (rt_P sc fm) 328 68 (.bipush 123) (70) := ri_of (by decide +kernel) rfl
theorem wi_328_7 : ri (rt_P sc fm) 328 7 (.aload_n 0) (8) := ri_of (by decide +kernel) rfl
theorem wi_328_70 : ri (rt_P sc fm) 328 70 (.invokevirtual 54) (73) := ri_of (by decide +kernel) rfl
theorem wi_328_73 : ri (rt_P sc fm) 328 73 (.iconst 0) (74) := ri_of (by decide +kernel) rfl
theorem wi_328_74 : ri (rt_P sc fm) 328 74 (.istore_n 2) (75) := ri_of (by decide +kernel) rfl
theorem wi_328_75 : ri (rt_P sc fm) 328 75 (.iload_n 2) (76) := ri_of (by decide +kernel) rfl
theorem wi_328_76 : ri (rt_P sc fm) 328 76 (.aload_n 0) (77) := ri_of (by decide +kernel) rfl
theorem wi_328_77 : ri (rt_P sc fm) 328 77 (.getfield 19) (80) := ri_of (by decide +kernel) rfl
theorem wi_328_8 : ri (rt_P sc fm) 328 8 (.aload_n 0) (9) := ri_of (by decide +kernel) rfl
theorem wi_328_80 : ri (rt_P sc fm) 328 80 (.getfield 186) (83) := ri_of (by decide +kernel) rfl
theorem wi_328_83 : ri (rt_P sc fm) 328 83 (.iload_n 1) (84) := ri_of (by decide +kernel) rfl
theorem wi_328_84 : ri (rt_P sc fm) 328 84 (.iaload) (85) := ri_of (by decide +kernel) rfl
theorem wi_328_85 : ri (rt_P sc fm) 328 85 (.if_icmp .ge 84) (88) := ri_of (by decide +kernel) rfl
theorem wi_328_88 : ri (rt_P sc fm) 328 88 (.aload_n 0) (89) := ri_of (by decide +kernel) rfl
theorem wi_328_89 : ri (rt_P sc fm) 328 89 (.sipush 203) (92) := ri_of (by decide +kernel) rfl
theorem wi_328_9 : ri (rt_P sc fm) 328 9 (.getfield 19) (12) := ri_of (by decide +kernel) rfl
theorem wi_328_92 : ri (rt_P sc fm) 328 92 (.invokevirtual 88) (95) := ri_of (by decide +kernel) rfl
theorem wi_328_95 : ri (rt_P sc fm) 328 95 (.aload_n 0) (96) := ri_of (by decide +kernel) rfl
theorem wi_328_96 : ri (rt_P sc fm) 328 96 (.aload_n 0) (97) := ri_of (by decide +kernel) rfl
theorem wi_328_97 : ri (rt_P sc fm) 328 97 (.getfield 19) (100) := ri_of (by decide +kernel) rfl
theorem wr_328 : rx_rt (rt_P sc fm) 328 = none := (by decide +kernel : rt_rt 328 = none)
/-- MarkHouse$Teller.writeClassHead(I)V -/
def d_328 (n : Nat) (a1 : Int32) (c : cS) : Option (cS) :=
  Option.bind (d_321 n 202 c) (fun r1 =>
  if ib a1 12 then
  Option.bind (d_320 n (r1.2 12 (ix a1)) r1) (fun r3 =>
  if ib a1 12 then
  jn (fun p5 : cS =>
    Option.bind (d_330 n (100 * a1) p5) (fun r6 =>
    Option.bind (d_322 n 123 r6) (fun r7 =>
    Option.bind (whl (R := (cS)) (fun s9 : Int32 × cS =>
      if ib a1 12 then
      if (s9.2.1 14 (ix a1)) ≤ s9.1 then
        some (.inr s9.2)
      else
        Option.bind (d_321 n 203 s9.2) (fun r11 =>
        if ib ((a1 * 8) + s9.1) 96 then
        Option.bind (d_320 n (r11.2 15 (ix ((a1 * 8) + s9.1))) r11) (fun r13 =>
        Option.bind (d_330 n (((100 * a1) + 1) + s9.1) r13) (fun r14 =>
        if ib ((a1 * 8) + s9.1) 96 then
        lt ((r14.1 16 (ix ((a1 * 8) + s9.1))) : Int32) (fun v17 =>
        jn (fun p19 : cS =>
          Option.bind (d_322 n 59 p19) (fun r20 =>
          lt (s9.1 + 1 : Int32) (fun v22 =>
          some (.inl (v22, r20)))))
        (fun j157 =>
        if v17 = 0 then
          j157 r14
        else
          Option.bind (d_322 n 61 r14) (fun r24 =>
          Option.bind (d_323 n 1 ((v17 : Int32).toInt64) r24) (fun r25 =>
          j157 r25))))
        else none))
        else none)
      else none) n (0, r7))
    (fun x26 : cS =>
      some x26))))
  (fun j59 =>
  if (r3.1 13 (ix a1)) < 0 then
    j59 r3
  else
    Option.bind (d_322 n 58 r3) (fun r27 =>
    if ib a1 12 then
    if ib (r27.1 13 (ix a1)) 12 then
    Option.bind (d_320 n (r27.2 12 (ix (r27.1 13 (ix a1)))) r27) (fun r30 =>
    j59 r30)
    else none
    else none))
  else none)
  else none)
theorem sp_328 {F Lo n : Nat} {a1 : Int32} {c y : cS} {w : cW} {K : cS → Prop} {Q : ((Option Value) ⊕ String) → List va_E → Prop} (hw : rOK fm w) (hF : 8 ≤ F) (hLo : 178 ≤ Lo)  (h : wp (d_328 n a1 c) K) (hQ : ∀ r, K r → Q (.inl none) (hq true r y w)) : rs (rt_P sc fm) 328 F Lo 0 [(0, .ref 172), (1, .int a1)] [] (hq true c y w) Q := by
  unfold d_328 at h
  obtain ⟨lv, elv⟩ : ∃ lv : rx_L, lv = [(0, .ref 172), (1, .int a1)] := ⟨_, rfl⟩
  rw [← elv]
  have l0 : rx_ld lv 0 = some (.ref 172) := by rw [elv]; rfl
  have l1 : rx_ld lv 1 = some (.int a1) := by rw [elv]; rfl
  refine rs_aldn wi_328_0 l0 ?_
  refine rs_pure wi_328_1 rfl ?_
  refine rs_topi (v := 202) (by decide) ?_
  refine rs_V wi_328_4 wc_328_88 rfl (dq_isa tf_172_0 wa_12_321) (Nat.le_trans (by decide) hF) (ml_le wm_321 (Nat.le_trans (by decide) hLo)) rfl (sp_321 hw (Nat.le_trans (by decide : 3 ≤ 8 - 1) (Nat.sub_le_sub_right hF 1)) (ml_sub wm_321 (Nat.le_trans (by decide : 67 ≤ 178 - 21) (Nat.sub_le_sub_right hLo 21))) (wp_bind h) (fun r1 h => rs_back0 ?_))
  refine rs_aldn wi_328_7 l0 ?_
  refine rs_aldn wi_328_8 l0 ?_
  refine dq_gr wi_328_9 wf_328_19 tf_172_3 ?_
  refine dq_gr wi_328_12 wf_328_180 tf_7_8 ?_
  refine rs_ildn wi_328_15 l1 ?_
  obtain ⟨g2, h⟩ := wp_gd h
  refine dq_lald wi_328_16 t_12 g2 ?_
  refine rs_V wi_328_17 wc_328_51 rfl (dq_isa tf_172_0 wa_12_320) (Nat.le_trans (by decide) hF) (ml_le wm_320 (Nat.le_trans (by decide) hLo)) rfl (sp_320 hw (Nat.le_trans (by decide : 2 ≤ 8 - 1) (Nat.sub_le_sub_right hF 1)) (ml_sub wm_320 (Nat.le_trans (by decide : 45 ≤ 178 - 22) (Nat.sub_le_sub_right hLo 22))) (wp_bind h) (fun r3 h => rs_back0 ?_))
  refine rs_aldn wi_328_20 l0 ?_
  refine dq_gr wi_328_21 wf_328_19 tf_172_3 ?_
  refine dq_gr wi_328_24 wf_328_183 tf_7_9 ?_
  refine rs_ildn wi_328_27 l1 ?_
  obtain ⟨g4, h⟩ := wp_gd h
  refine dq_iald wi_328_28 t_13 g4 ?_
  refine wp_jn (B := fun p5 : cS => ∀ lv, rx_ld lv 0 = some (.ref 172) → rx_ld lv 1 = some (.int a1) → rs (rt_P sc fm) 328 F Lo 59 lv [] (hq true p5 y w) Q) h (fun p5 h lv l0 l1 => ?_) (fun j59 hj59 h => ?_)
  ·
    refine rs_aldn wi_328_59 l0 ?_
    refine rs_pure wi_328_60 rfl ?_
    refine rs_topi (v := 100) (by decide) ?_
    refine rs_ildn wi_328_62 l1 ?_
    refine rs_pure wi_328_63 rfl ?_
    refine rs_V wi_328_64 wc_328_104 rfl (dq_isa tf_172_0 wa_12_330) (Nat.le_trans (by decide) hF) (ml_le wm_330 (Nat.le_trans (by decide) hLo)) rfl (sp_330 hw (Nat.le_trans (by decide : 7 ≤ 8 - 1) (Nat.sub_le_sub_right hF 1)) (ml_sub wm_330 (Nat.le_trans (by decide : 155 ≤ 178 - 23) (Nat.sub_le_sub_right hLo 23))) (wp_bind h) (fun r6 h => rs_back0 ?_))
    refine rs_aldn wi_328_67 l0 ?_
    refine rs_pure wi_328_68 rfl ?_
    refine rs_topi (v := 123) (by decide) ?_
    refine rs_V wi_328_70 wc_328_54 rfl (dq_isa tf_172_0 wa_12_322) (Nat.le_trans (by decide) hF) (ml_le wm_322 (Nat.le_trans (by decide) hLo)) rfl (sp_322 hw (Nat.le_trans (by decide : 1 ≤ 8 - 1) (Nat.sub_le_sub_right hF 1)) (ml_sub wm_322 (Nat.le_trans (by decide : 21 ≤ 178 - 21) (Nat.sub_le_sub_right hLo 21))) (wp_bind h) (fun r7 h => rs_back0 ?_))
    refine rs_pure wi_328_73 rfl ?_
    refine rs_topi (v := 0) (by decide) ?_
    refine dl_istn wi_328_74 rfl (fun lv l2 t8 => ?_)
    have l0 := t8 _ _ (by decide) (Or.inl rfl) l0
    have l1 := t8 _ _ (by decide) (Or.inl rfl) l1
    refine whl_ex (A := fun s9 : Int32 × cS => ∀ lv, rx_ld lv 0 = some (.ref 172) → rx_ld lv 1 = some (.int a1) → rx_ld lv 2 = some (.int s9.1) → rs (rt_P sc fm) 328 F Lo 75 lv [] (hq true s9.2 y w) Q) (B := (fun x26 : cS => ∀ lv, rs (rt_P sc fm) 328 F Lo 169 lv [] (hq true x26 y w) Q)) ?_ ?_ _ _ (wp_bind h) _ l0 l1 l2
    · intro s9 h lv l0 l1 l2
      refine rs_ildn wi_328_75 l2 ?_
      refine rs_aldn wi_328_76 l0 ?_
      refine dq_gr wi_328_77 wf_328_19 tf_172_3 ?_
      refine dq_gr wi_328_80 wf_328_186 tf_7_11 ?_
      refine rs_ildn wi_328_83 l1 ?_
      obtain ⟨g10, h⟩ := wp_gd h
      refine dq_iald wi_328_84 t_14 g10 ?_
      refine rs_icge (tg := 169) wi_328_85 ⟨by decide, by decide⟩ (fun q => ?_) (fun q => ?_)
      ·
        have h := wp_pos h q
        exact h _
      ·
        have h := wp_neg h q
        refine rs_aldn wi_328_88 l0 ?_
        refine rs_pure wi_328_89 rfl ?_
        refine rs_topi (v := 203) (by decide) ?_
        refine rs_V wi_328_92 wc_328_88 rfl (dq_isa tf_172_0 wa_12_321) (Nat.le_trans (by decide) hF) (ml_le wm_321 (Nat.le_trans (by decide) hLo)) rfl (sp_321 hw (Nat.le_trans (by decide : 3 ≤ 8 - 1) (Nat.sub_le_sub_right hF 1)) (ml_sub wm_321 (Nat.le_trans (by decide : 67 ≤ 178 - 21) (Nat.sub_le_sub_right hLo 21))) (wp_bind h) (fun r11 h => rs_back0 ?_))
        refine rs_aldn wi_328_95 l0 ?_
        refine rs_aldn wi_328_96 l0 ?_
        refine dq_gr wi_328_97 wf_328_19 tf_172_3 ?_
        refine dq_gr wi_328_100 wf_328_189 tf_7_12 ?_
        refine rs_ildn wi_328_103 l1 ?_
        refine rs_pure wi_328_104 rfl ?_
        refine rs_topi (v := 8) (by decide) ?_
        refine rs_pure wi_328_106 rfl ?_
        refine rs_ildn wi_328_107 l2 ?_
        refine rs_pure wi_328_108 rfl ?_
        obtain ⟨g12, h⟩ := wp_gd h
        refine dq_lald wi_328_109 t_15 g12 ?_
        refine rs_V wi_328_110 wc_328_51 rfl (dq_isa tf_172_0 wa_12_320) (Nat.le_trans (by decide) hF) (ml_le wm_320 (Nat.le_trans (by decide) hLo)) rfl (sp_320 hw (Nat.le_trans (by decide : 2 ≤ 8 - 1) (Nat.sub_le_sub_right hF 1)) (ml_sub wm_320 (Nat.le_trans (by decide : 45 ≤ 178 - 22) (Nat.sub_le_sub_right hLo 22))) (wp_bind h) (fun r13 h => rs_back0 ?_))
        refine rs_aldn wi_328_113 l0 ?_
        refine rs_pure wi_328_114 rfl ?_
        refine rs_topi (v := 100) (by decide) ?_
        refine rs_ildn wi_328_116 l1 ?_
        refine rs_pure wi_328_117 rfl ?_
        refine rs_pure wi_328_118 rfl ?_
        refine rs_topi (v := 1) (by decide) ?_
        refine rs_pure wi_328_119 rfl ?_
        refine rs_ildn wi_328_120 l2 ?_
        refine rs_pure wi_328_121 rfl ?_
        refine rs_V wi_328_122 wc_328_104 rfl (dq_isa tf_172_0 wa_12_330) (Nat.le_trans (by decide) hF) (ml_le wm_330 (Nat.le_trans (by decide) hLo)) rfl (sp_330 hw (Nat.le_trans (by decide : 7 ≤ 8 - 1) (Nat.sub_le_sub_right hF 1)) (ml_sub wm_330 (Nat.le_trans (by decide : 155 ≤ 178 - 23) (Nat.sub_le_sub_right hLo 23))) (wp_bind h) (fun r14 h => rs_back0 ?_))
        refine rs_aldn wi_328_125 l0 ?_
        refine dq_gr wi_328_126 wf_328_19 tf_172_3 ?_
        refine dq_gr wi_328_129 wf_328_192 tf_7_13 ?_
        refine rs_ildn wi_328_132 l1 ?_
        refine rs_pure wi_328_133 rfl ?_
        refine rs_topi (v := 8) (by decide) ?_
        refine rs_pure wi_328_135 rfl ?_
        refine rs_ildn wi_328_136 l2 ?_
        refine rs_pure wi_328_137 rfl ?_
        obtain ⟨g15, h⟩ := wp_gd h
        refine dq_iald wi_328_138 t_16 g15 ?_
        obtain ⟨v17, e18, h⟩ := wp_lt h
        refine rs_topi e18 ?_
        refine dl_istn wi_328_139 rfl (fun lv l3 t16 => ?_)
        have l0 := t16 _ _ (by decide) (Or.inl rfl) l0
        have l1 := t16 _ _ (by decide) (Or.inl rfl) l1
        have l2 := t16 _ _ (by decide) (Or.inl rfl) l2
        refine rs_ildn wi_328_140 l3 ?_
        refine wp_jn (B := fun p19 : cS => ∀ lv, rx_ld lv 0 = some (.ref 172) → rx_ld lv 1 = some (.int a1) → rx_ld lv 2 = some (.int s9.1) → rs (rt_P sc fm) 328 F Lo 157 lv [] (hq true p19 y w) Q) h (fun p19 h lv l0 l1 l2 => ?_) (fun j157 hj157 h => ?_)
        ·
          refine rs_aldn wi_328_157 l0 ?_
          refine rs_pure wi_328_158 rfl ?_
          refine rs_topi (v := 59) (by decide) ?_
          refine rs_V wi_328_160 wc_328_54 rfl (dq_isa tf_172_0 wa_12_322) (Nat.le_trans (by decide) hF) (ml_le wm_322 (Nat.le_trans (by decide) hLo)) rfl (sp_322 hw (Nat.le_trans (by decide : 1 ≤ 8 - 1) (Nat.sub_le_sub_right hF 1)) (ml_sub wm_322 (Nat.le_trans (by decide : 21 ≤ 178 - 21) (Nat.sub_le_sub_right hLo 21))) (wp_bind h) (fun r20 h => rs_back0 ?_))
          obtain ⟨v22, e23, h⟩ := wp_lt h
          refine dl_inc wi_328_163 l2 rfl e23 (fun lv l2 t21 => ?_)
          have l0 := t21 _ _ (by decide) (Or.inl rfl) l0
          have l1 := t21 _ _ (by decide) (Or.inl rfl) l1
          refine rs_goto (tg := 75) wi_328_166 ⟨by decide, by decide⟩ ?_
          exact h _ l0 l1 l2
        refine rs_ifeq (tg := 157) wi_328_141 ⟨by decide, by decide⟩ (fun q => ?_) (fun q => ?_)
        ·
          have h := wp_pos h q
          exact hj157 _ h _ l0 l1 l2
        ·
          have h := wp_neg h q
          refine rs_aldn wi_328_144 l0 ?_
          refine rs_pure wi_328_145 rfl ?_
          refine rs_topi (v := 61) (by decide) ?_
          refine rs_V wi_328_147 wc_328_54 rfl (dq_isa tf_172_0 wa_12_322) (Nat.le_trans (by decide) hF) (ml_le wm_322 (Nat.le_trans (by decide) hLo)) rfl (sp_322 hw (Nat.le_trans (by decide : 1 ≤ 8 - 1) (Nat.sub_le_sub_right hF 1)) (ml_sub wm_322 (Nat.le_trans (by decide : 21 ≤ 178 - 21) (Nat.sub_le_sub_right hLo 21))) (wp_bind h) (fun r24 h => rs_back0 ?_))
          refine rs_aldn wi_328_150 l0 ?_
          refine rs_pure wi_328_151 rfl ?_
          refine rs_topi (v := 1) (by decide) ?_
          refine rs_ildn wi_328_152 l3 ?_
          refine rs_pure wi_328_153 rfl ?_
          refine rs_V wi_328_154 wc_328_158 rfl (dq_isa tf_172_0 wa_12_323) (Nat.le_trans (by decide) hF) (ml_le wm_323 (Nat.le_trans (by decide) hLo)) rfl (sp_323 hw (Nat.le_trans (by decide : 2 ≤ 8 - 1) (Nat.sub_le_sub_right hF 1)) (ml_sub wm_323 (Nat.le_trans (by decide : 47 ≤ 178 - 23) (Nat.sub_le_sub_right hLo 23))) (wp_bind h) (fun r25 h => rs_back0 ?_))
          exact hj157 _ h _ l0 l1 l2
    ·
      intro x26 h lv
      exact rs_vret wi_328_169 wr_328 (hQ x26 h)
  refine rs_iflt (tg := 59) wi_328_29 ⟨by decide, by decide⟩ (fun q => ?_) (fun q => ?_)
  ·
    have h := wp_pos h q
    exact hj59 _ h _ l0 l1
  ·
    have h := wp_neg h q
    refine rs_aldn wi_328_32 l0 ?_
    refine rs_pure wi_328_33 rfl ?_
    refine rs_topi (v := 58) (by decide) ?_
    refine rs_V wi_328_35 wc_328_54 rfl (dq_isa tf_172_0 wa_12_322) (Nat.le_trans (by decide) hF) (ml_le wm_322 (Nat.le_trans (by decide) hLo)) rfl (sp_322 hw (Nat.le_trans (by decide : 1 ≤ 8 - 1) (Nat.sub_le_sub_right hF 1)) (ml_sub wm_322 (Nat.le_trans (by decide : 21 ≤ 178 - 21) (Nat.sub_le_sub_right hLo 21))) (wp_bind h) (fun r27 h => rs_back0 ?_))
    refine rs_aldn wi_328_38 l0 ?_
    refine rs_aldn wi_328_39 l0 ?_
    refine dq_gr wi_328_40 wf_328_19 tf_172_3 ?_
    refine dq_gr wi_328_43 wf_328_180 tf_7_8 ?_
    refine rs_aldn wi_328_46 l0 ?_
    refine dq_gr wi_328_47 wf_328_19 tf_172_3 ?_
    refine dq_gr wi_328_50 wf_328_183 tf_7_9 ?_
    refine rs_ildn wi_328_53 l1 ?_
    obtain ⟨g28, h⟩ := wp_gd h
    refine dq_iald wi_328_54 t_13 g28 ?_
    obtain ⟨g29, h⟩ := wp_gd h
    refine dq_lald wi_328_55 t_12 g29 ?_
    refine rs_V wi_328_56 wc_328_51 rfl (dq_isa tf_172_0 wa_12_320) (Nat.le_trans (by decide) hF) (ml_le wm_320 (Nat.le_trans (by decide) hLo)) rfl (sp_320 hw (Nat.le_trans (by decide : 2 ≤ 8 - 1) (Nat.sub_le_sub_right hF 1)) (ml_sub wm_320 (Nat.le_trans (by decide : 45 ≤ 178 - 22) (Nat.sub_le_sub_right hLo 22))) (wp_bind h) (fun r30 h => rs_back0 ?_))
    exact hj59 _ h _ l0 l1
theorem tf_172_4 : fo true 172 12 4 (.ref 114) := ⟨_, rfl, rfl, by decide, by decide⟩
theorem wc_329_104 : rx_ct (rt_P sc fm) 329 104 = some (0, 330, 1) := (by decide +kernel : rt_ct 329 104 = some (0, 330, 1))
theorem wc_329_204 : rx_ct (rt_P sc fm) 329 204 = some (0, 156, 1) := (by decide +kernel : rt_ct 329 204 = some (0, 156, 1))
theorem wc_329_51 : rx_ct (rt_P sc fm) 329 51 = some (0, 320, 1) := (by decide +kernel : rt_ct 329 51 = some (0, 320, 1))
theorem wc_329_54 : rx_ct (rt_P sc fm) 329 54 = some (0, 322, 1) := (by decide +kernel : rt_ct 329 54 = some (0, 322, 1))
theorem wc_329_88 : rx_ct (rt_P sc fm) 329 88 = some (0, 321, 1) := (by decide +kernel : rt_ct 329 88 = some (0, 321, 1))
theorem wf_329_195 : rx_ft (rt_P sc fm) 329 195 = some (2, 1) := (by decide +kernel : rt_ft 329 195 = some (2, 1))
theorem wf_329_198 : rx_ft (rt_P sc fm) 329 198 = some (2, 2) := (by decide +kernel : rt_ft 329 198 = some (2, 2))
theorem wf_329_201 : rx_ft (rt_P sc fm) 329 201 = some (2, 4) := (by decide +kernel : rt_ft 329 201 = some (2, 4))
theorem wf_329_23 : rx_ft (rt_P sc fm) 329 23 = some (12, 4) := (by decide +kernel : rt_ft 329 23 = some (12, 4))
theorem wi_329_0 : ri (rt_P sc fm) 329 0 (.aload_n 0) (1) := ri_of (by decide +kernel) rfl
theorem wi_329_1 : ri (rt_P sc fm) 329 1 (.sipush 204) (4) := ri_of (by decide +kernel) rfl
theorem wi_329_102 : ri (rt_P sc fm) 329 102 (.iload_n 1) (103) := ri_of (by decide +kernel) rfl
theorem wi_329_103 : ri (rt_P sc fm) 329 103 (.invokevirtual 204) (106) := ri_of (by decide +kernel) rfl
theorem wi_329_106 : ri (rt_P sc fm) 329 106 (.invokevirtual 104) (109) := ri_of (by decide +kernel) rfl
theorem wi_329_109 : ri (rt_P sc fm) 329 109 (.aload_n 0) (110) := ri_of (by decide +kernel) rfl
theorem wi_329_110 : ri (rt_P sc fm) 329 110 (.bipush 123) (112) := ri_of (by decide +kernel) rfl
theorem wi_329_112 : ri (rt_P sc fm) 329 112 (.invokevirtual 54) (115) := ri_of (by decide +kernel) rfl
theorem wi_329_115 : ri (rt_P sc fm) 329 115 (.return_) (116) := ri_of (by decide +kernel) rfl
theorem wi_329_12 : ri (rt_P sc fm) 329 12 (.getfield 195) (15) := ri_of (by decide +kernel) rfl
theorem wi_329_15 : ri (rt_P sc fm) 329 15 (.iload_n 1) (16) := ri_of (by decide +kernel) rfl
theorem wi_329_16 : ri (rt_P sc fm) 329 16 (.laload) (17) := ri_of (by decide +kernel) rfl
theorem wi_329_17 : ri (rt_P sc fm) 329 17 (.invokevirtual 51) (20) := ri_of (by decide +kernel) rfl
theorem wi_329_20 : ri (rt_P sc fm) 329 20 (.aload_n 0) (21) := ri_of (by decide +kernel) rfl
theorem wi_329_21 : ri (rt_P sc fm) 329 21 (.bipush 40) (23) := ri_of (by decide +kernel) rfl
theorem wi_329_23 : ri (rt_P sc fm) 329 23 (.invokevirtual 54) (26) := ri_of (by decide +kernel) rfl
theorem wi_329_26 : ri (rt_P sc fm) 329 26 (.iconst 0) (27) := ri_of (by decide +kernel) rfl
theorem wi_329_27 : ri (rt_P sc fm) 329 27 (.istore_n 2) (28) := ri_of (by decide +kernel) rfl
theorem wi_329_28 : ri (rt_P sc fm) 329 28 (.iload_n 2) (29) := ri_of (by decide +kernel) rfl
theorem wi_329_29 : ri (rt_P sc fm) 329 29 (.aload_n 0) (30) := ri_of (by decide +kernel) rfl
theorem wi_329_30 : ri (rt_P sc fm) 329 30 (.getfield 23) (33) := ri_of (by decide +kernel) rfl
theorem wi_329_33 : ri (rt_P sc fm) 329 33 (.getfield 198) (36) := ri_of (by decide +kernel) rfl
theorem wi_329_36 : ri (rt_P sc fm) 329 36 (.iload_n 1) (37) := ri_of (by decide +kernel) rfl
theorem wi_329_37 : ri (rt_P sc fm) 329 37 (.iaload) (38) := ri_of (by decide +kernel) rfl
theorem wi_329_38 : ri (rt_P sc fm) 329 38 (.if_icmp .ge 53) (41) := ri_of (by decide +kernel) rfl
theorem wi_329_4 : ri (rt_P sc fm) 329 4 (.invokevirtual 88) (7) := ri_of (by decide +kernel) rfl
theorem wi_329_41 : ri (rt_P sc fm) 329 41 (.iload_n 2) (42) := ri_of (by decide +kernel) rfl
theorem wi_329_42 : ri (rt_P sc fm) 329 42 (.ifCond .le 9) (45) := ri_of (by decide +kernel) rfl
theorem wi_329_45 : ri (rt_P sc fm) 329 45 (.aload_n 0) (46) := ri_of (by decide +kernel) rfl
theorem wi_329_46 : ri (rt_P sc fm) 329 46 (.bipush 44) (48) := ri_of (by decide +kernel) rfl
theorem wi_329_48 : ri (rt_P sc fm) 329 48 (.invokevirtual 54) (51) := ri_of (by decide +kernel) rfl
theorem wi_329_51 : ri (rt_P sc fm) 329 51 (.aload_n 0) (52) := ri_of (by decide +kernel) rfl
theorem wi_329_52 : ri (rt_P sc fm) 329 52 (.aload_n 0) (53) := ri_of (by decide +kernel) rfl
theorem wi_329_53 : ri (rt_P sc fm) 329 53 (.getfield 23) (56) := ri_of (by decide +kernel) rfl
theorem wi_329_56 : ri (rt_P sc fm) 329 56 (.getfield 201) (59) := ri_of (by decide +kernel) rfl
theorem wi_329_59 : ri (rt_P sc fm) 329 59 (.iload_n 1) (60) := ri_of (by decide +kernel) rfl
theorem wi_329_60 : ri (rt_P sc fm) 329 60 (.bipush 8) (62) := ri_of (by decide +kernel) rfl
theorem wi_329_62 : ri (rt_P sc fm) 329 62 (.imul) (63) := ri_of (by decide +kernel) rfl
theorem wi_329_63 : ri (rt_P sc fm) 329 63 (.iload_n 2) (64) := ri_of (by decide +kernel) rfl
theorem wi_329_64 : ri (rt_P sc fm) 329 64 (.iadd) (65) := ri_of (by decide +kernel) rfl
theorem wi_329_65 : ri (rt_P sc fm) 329 65 (.laload) (66) := ri_of (by decide +kernel) rfl
theorem wi_329_66 : ri (rt_P sc fm) 329 66 (.invokevirtual 51) (69) := ri_of (by decide +kernel) rfl
theorem wi_329_69 : ri (rt_P sc fm) 329 69 (.aload_n 0) (70) := ri_of (by decide +kernel) rfl
theorem wi_329_7 : ri (rt_P sc fm) 329 7 (.aload_n 0) (8) := ri_of (by decide +kernel) rfl
theorem wi_329_70 : ri (rt_P sc fm) 329 70 (.aload_n 0) (71) := ri_of (by decide +kernel) rfl
theorem wi_329_71 : ri (rt_P sc fm) 329 71 (.getfield 23) (74) := ri_of (by decide +kernel) rfl
theorem wi_329_74 : ri (rt_P sc fm) 329 74 (.iload_n 1) (75) := ri_of (by decide +kernel) rfl
theorem wi_329_75 : ri (rt_P sc fm) 329 75 (.invokevirtual 204) (78) := ri_of (by decide +kernel) rfl
theorem wi_329_78 : ri (rt_P sc fm) 329 78 (.iconst 1) (79) := ri_of (by decide +kernel) rfl
theorem wi_329_79 : ri (rt_P sc fm) 329 79 (.iadd) (80) := ri_of (by decide +kernel) rfl
theorem wi_329_8 : ri (rt_P sc fm) 329 8 (.aload_n 0) (9) := ri_of (by decide +kernel) rfl
theorem wi_329_80 : ri (rt_P sc fm) 329 80 (.iload_n 2) (81) := ri_of (by decide +kernel) rfl
theorem wi_329_81 : ri (rt_P sc fm) 329 81 (.iadd) (82) := ri_of (by decide +kernel) rfl
theorem wi_329_82 : ri (rt_P sc fm) 329 82 (.invokevirtual 104) (85) := ri_of (by decide +kernel) rfl
theorem wi_329_85 : ri (rt_P sc fm) 329 85 (.iinc 2 1) (88) := ri_of (by decide +kernel) rfl
theorem wi_329_88 : ri (rt_P sc fm) 329 88 (.goto (-60)) (91) := ri_of (by decide +kernel) rfl
theorem wi_329_9 : ri (rt_P sc fm) 329 9 (.getfield 23) (12) := ri_of (by decide +kernel) rfl
theorem wi_329_91 : ri (rt_P sc fm) 329 91 (.aload_n 0) (92) := ri_of (by decide +kernel) rfl
theorem wi_329_92 : ri (rt_P sc fm) 329 92 (.bipush 41) (94) := ri_of (by decide +kernel) rfl
theorem wi_329_94 : ri (rt_P sc fm) 329 94 (.invokevirtual 54) (97) := ri_of (by decide +kernel) rfl
theorem wi_329_97 : ri (rt_P sc fm) 329 97 (.aload_n 0) (98) := ri_of (by decide +kernel) rfl
theorem wi_329_98 : ri (rt_P sc fm) 329 98 (.aload_n 0) (99) := ri_of (by decide +kernel) rfl
theorem wi_329_99 : ri (rt_P sc fm) 329 99 (.getfield 23) (102) := ri_of (by decide +kernel) rfl
theorem wr_329 : rx_rt (rt_P sc fm) 329 = none := (by decide +kernel : rt_rt 329 = none)
/-- MarkHouse$Teller.writeMethodHead(I)V -/
def d_329 (n : Nat) (a1 : Int32) (c : cS) : Option (cS) :=
  Option.bind (d_321 n 204 c) (fun r1 =>
  if ib a1 96 then
  Option.bind (d_320 n (r1.2 115 (ix a1)) r1) (fun r3 =>
  Option.bind (d_322 n 40 r3) (fun r4 =>
  Option.bind (whl (R := (cS)) (fun s6 : Int32 × cS =>
    if ib a1 96 then
    if (s6.2.1 116 (ix a1)) ≤ s6.1 then
      some (.inr s6.2)
    else
      jn (fun p8 : cS =>
        if ib ((a1 * 8) + s6.1) 768 then
        Option.bind (d_320 n (p8.2 118 (ix ((a1 * 8) + s6.1))) p8) (fun r10 =>
        Option.bind (d_156 n a1) (fun v11 =>
        Option.bind (d_330 n ((v11 + 1) + s6.1) r10) (fun r12 =>
        lt (s6.1 + 1 : Int32) (fun v14 =>
        some (.inl (v14, r12))))))
        else none)
      (fun j51 =>
      if s6.1 ≤ 0 then
        j51 s6.2
      else
        Option.bind (d_322 n 44 s6.2) (fun r16 =>
        j51 r16))
    else none) n (0, r4))
  (fun x17 : cS =>
    Option.bind (d_322 n 41 x17) (fun r18 =>
    Option.bind (d_156 n a1) (fun v19 =>
    Option.bind (d_330 n v19 r18) (fun r20 =>
    Option.bind (d_322 n 123 r20) (fun r21 =>
    some r21)))))))
  else none)
theorem sp_329 {F Lo n : Nat} {a1 : Int32} {c y : cS} {w : cW} {K : cS → Prop} {Q : ((Option Value) ⊕ String) → List va_E → Prop} (hw : rOK fm w) (hF : 8 ≤ F) (hLo : 178 ≤ Lo)  (h : wp (d_329 n a1 c) K) (hQ : ∀ r, K r → Q (.inl none) (hq true r y w)) : rs (rt_P sc fm) 329 F Lo 0 [(0, .ref 172), (1, .int a1)] [] (hq true c y w) Q := by
  unfold d_329 at h
  obtain ⟨lv, elv⟩ : ∃ lv : rx_L, lv = [(0, .ref 172), (1, .int a1)] := ⟨_, rfl⟩
  rw [← elv]
  have l0 : rx_ld lv 0 = some (.ref 172) := by rw [elv]; rfl
  have l1 : rx_ld lv 1 = some (.int a1) := by rw [elv]; rfl
  refine rs_aldn wi_329_0 l0 ?_
  refine rs_pure wi_329_1 rfl ?_
  refine rs_topi (v := 204) (by decide) ?_
  refine rs_V wi_329_4 wc_329_88 rfl (dq_isa tf_172_0 wa_12_321) (Nat.le_trans (by decide) hF) (ml_le wm_321 (Nat.le_trans (by decide) hLo)) rfl (sp_321 hw (Nat.le_trans (by decide : 3 ≤ 8 - 1) (Nat.sub_le_sub_right hF 1)) (ml_sub wm_321 (Nat.le_trans (by decide : 67 ≤ 178 - 21) (Nat.sub_le_sub_right hLo 21))) (wp_bind h) (fun r1 h => rs_back0 ?_))
  refine rs_aldn wi_329_7 l0 ?_
  refine rs_aldn wi_329_8 l0 ?_
  refine dq_gr wi_329_9 wf_329_23 tf_172_4 ?_
  refine dq_gr wi_329_12 wf_329_195 tf_114_1 ?_
  refine rs_ildn wi_329_15 l1 ?_
  obtain ⟨g2, h⟩ := wp_gd h
  refine dq_lald wi_329_16 t_115 g2 ?_
  refine rs_V wi_329_17 wc_329_51 rfl (dq_isa tf_172_0 wa_12_320) (Nat.le_trans (by decide) hF) (ml_le wm_320 (Nat.le_trans (by decide) hLo)) rfl (sp_320 hw (Nat.le_trans (by decide : 2 ≤ 8 - 1) (Nat.sub_le_sub_right hF 1)) (ml_sub wm_320 (Nat.le_trans (by decide : 45 ≤ 178 - 22) (Nat.sub_le_sub_right hLo 22))) (wp_bind h) (fun r3 h => rs_back0 ?_))
  refine rs_aldn wi_329_20 l0 ?_
  refine rs_pure wi_329_21 rfl ?_
  refine rs_topi (v := 40) (by decide) ?_
  refine rs_V wi_329_23 wc_329_54 rfl (dq_isa tf_172_0 wa_12_322) (Nat.le_trans (by decide) hF) (ml_le wm_322 (Nat.le_trans (by decide) hLo)) rfl (sp_322 hw (Nat.le_trans (by decide : 1 ≤ 8 - 1) (Nat.sub_le_sub_right hF 1)) (ml_sub wm_322 (Nat.le_trans (by decide : 21 ≤ 178 - 21) (Nat.sub_le_sub_right hLo 21))) (wp_bind h) (fun r4 h => rs_back0 ?_))
  refine rs_pure wi_329_26 rfl ?_
  refine rs_topi (v := 0) (by decide) ?_
  refine dl_istn wi_329_27 rfl (fun lv l2 t5 => ?_)
  have l0 := t5 _ _ (by decide) (Or.inl rfl) l0
  have l1 := t5 _ _ (by decide) (Or.inl rfl) l1
  refine whl_ex (A := fun s6 : Int32 × cS => ∀ lv, rx_ld lv 0 = some (.ref 172) → rx_ld lv 1 = some (.int a1) → rx_ld lv 2 = some (.int s6.1) → rs (rt_P sc fm) 329 F Lo 28 lv [] (hq true s6.2 y w) Q) (B := (fun x17 : cS => ∀ lv, rx_ld lv 0 = some (.ref 172) → rx_ld lv 1 = some (.int a1) → rs (rt_P sc fm) 329 F Lo 91 lv [] (hq true x17 y w) Q)) ?_ ?_ _ _ (wp_bind h) _ l0 l1 l2
  · intro s6 h lv l0 l1 l2
    refine rs_ildn wi_329_28 l2 ?_
    refine rs_aldn wi_329_29 l0 ?_
    refine dq_gr wi_329_30 wf_329_23 tf_172_4 ?_
    refine dq_gr wi_329_33 wf_329_198 tf_114_2 ?_
    refine rs_ildn wi_329_36 l1 ?_
    obtain ⟨g7, h⟩ := wp_gd h
    refine dq_iald wi_329_37 t_116 g7 ?_
    refine rs_icge (tg := 91) wi_329_38 ⟨by decide, by decide⟩ (fun q => ?_) (fun q => ?_)
    ·
      have h := wp_pos h q
      exact h _ l0 l1
    ·
      have h := wp_neg h q
      refine rs_ildn wi_329_41 l2 ?_
      refine wp_jn (B := fun p8 : cS => ∀ lv, rx_ld lv 0 = some (.ref 172) → rx_ld lv 1 = some (.int a1) → rx_ld lv 2 = some (.int s6.1) → rs (rt_P sc fm) 329 F Lo 51 lv [] (hq true p8 y w) Q) h (fun p8 h lv l0 l1 l2 => ?_) (fun j51 hj51 h => ?_)
      ·
        refine rs_aldn wi_329_51 l0 ?_
        refine rs_aldn wi_329_52 l0 ?_
        refine dq_gr wi_329_53 wf_329_23 tf_172_4 ?_
        refine dq_gr wi_329_56 wf_329_201 tf_114_4 ?_
        refine rs_ildn wi_329_59 l1 ?_
        refine rs_pure wi_329_60 rfl ?_
        refine rs_topi (v := 8) (by decide) ?_
        refine rs_pure wi_329_62 rfl ?_
        refine rs_ildn wi_329_63 l2 ?_
        refine rs_pure wi_329_64 rfl ?_
        obtain ⟨g9, h⟩ := wp_gd h
        refine dq_lald wi_329_65 t_118 g9 ?_
        refine rs_V wi_329_66 wc_329_51 rfl (dq_isa tf_172_0 wa_12_320) (Nat.le_trans (by decide) hF) (ml_le wm_320 (Nat.le_trans (by decide) hLo)) rfl (sp_320 hw (Nat.le_trans (by decide : 2 ≤ 8 - 1) (Nat.sub_le_sub_right hF 1)) (ml_sub wm_320 (Nat.le_trans (by decide : 45 ≤ 178 - 22) (Nat.sub_le_sub_right hLo 22))) (wp_bind h) (fun r10 h => rs_back0 ?_))
        refine rs_aldn wi_329_69 l0 ?_
        refine rs_aldn wi_329_70 l0 ?_
        refine dq_gr wi_329_71 wf_329_23 tf_172_4 ?_
        refine rs_ildn wi_329_74 l1 ?_
        refine rs_V wi_329_75 wc_329_204 rfl (dq_isa tf_114_0 wa_2_156) (Nat.le_trans (by decide) hF) (ml_le wm_156 (Nat.le_trans (by decide) hLo)) rfl (sp_156 (Nat.le_trans (by decide : 0 ≤ 8 - 1) (Nat.sub_le_sub_right hF 1)) (ml_sub wm_156 (Nat.le_trans (by decide : 0 ≤ 178 - 21) (Nat.sub_le_sub_right hLo 21))) (wp_bind h) (fun v11 h => rs_back1 ?_))
        refine rs_pure wi_329_78 rfl ?_
        refine rs_topi (v := 1) (by decide) ?_
        refine rs_pure wi_329_79 rfl ?_
        refine rs_ildn wi_329_80 l2 ?_
        refine rs_pure wi_329_81 rfl ?_
        refine rs_V wi_329_82 wc_329_104 rfl (dq_isa tf_172_0 wa_12_330) (Nat.le_trans (by decide) hF) (ml_le wm_330 (Nat.le_trans (by decide) hLo)) rfl (sp_330 hw (Nat.le_trans (by decide : 7 ≤ 8 - 1) (Nat.sub_le_sub_right hF 1)) (ml_sub wm_330 (Nat.le_trans (by decide : 155 ≤ 178 - 23) (Nat.sub_le_sub_right hLo 23))) (wp_bind h) (fun r12 h => rs_back0 ?_))
        obtain ⟨v14, e15, h⟩ := wp_lt h
        refine dl_inc wi_329_85 l2 rfl e15 (fun lv l2 t13 => ?_)
        have l0 := t13 _ _ (by decide) (Or.inl rfl) l0
        have l1 := t13 _ _ (by decide) (Or.inl rfl) l1
        refine rs_goto (tg := 28) wi_329_88 ⟨by decide, by decide⟩ ?_
        exact h _ l0 l1 l2
      refine rs_ifle (tg := 51) wi_329_42 ⟨by decide, by decide⟩ (fun q => ?_) (fun q => ?_)
      ·
        have h := wp_pos h q
        exact hj51 _ h _ l0 l1 l2
      ·
        have h := wp_neg h q
        refine rs_aldn wi_329_45 l0 ?_
        refine rs_pure wi_329_46 rfl ?_
        refine rs_topi (v := 44) (by decide) ?_
        refine rs_V wi_329_48 wc_329_54 rfl (dq_isa tf_172_0 wa_12_322) (Nat.le_trans (by decide) hF) (ml_le wm_322 (Nat.le_trans (by decide) hLo)) rfl (sp_322 hw (Nat.le_trans (by decide : 1 ≤ 8 - 1) (Nat.sub_le_sub_right hF 1)) (ml_sub wm_322 (Nat.le_trans (by decide : 21 ≤ 178 - 21) (Nat.sub_le_sub_right hLo 21))) (wp_bind h) (fun r16 h => rs_back0 ?_))
        exact hj51 _ h _ l0 l1 l2
  ·
    intro x17 h lv l0 l1
    refine rs_aldn wi_329_91 l0 ?_
    refine rs_pure wi_329_92 rfl ?_
    refine rs_topi (v := 41) (by decide) ?_
    refine rs_V wi_329_94 wc_329_54 rfl (dq_isa tf_172_0 wa_12_322) (Nat.le_trans (by decide) hF) (ml_le wm_322 (Nat.le_trans (by decide) hLo)) rfl (sp_322 hw (Nat.le_trans (by decide : 1 ≤ 8 - 1) (Nat.sub_le_sub_right hF 1)) (ml_sub wm_322 (Nat.le_trans (by decide : 21 ≤ 178 - 21) (Nat.sub_le_sub_right hLo 21))) (wp_bind h) (fun r18 h => rs_back0 ?_))
    refine rs_aldn wi_329_97 l0 ?_
    refine rs_aldn wi_329_98 l0 ?_
    refine dq_gr wi_329_99 wf_329_23 tf_172_4 ?_
    refine rs_ildn wi_329_102 l1 ?_
    refine rs_V wi_329_103 wc_329_204 rfl (dq_isa tf_114_0 wa_2_156) (Nat.le_trans (by decide) hF) (ml_le wm_156 (Nat.le_trans (by decide) hLo)) rfl (sp_156 (Nat.le_trans (by decide : 0 ≤ 8 - 1) (Nat.sub_le_sub_right hF 1)) (ml_sub wm_156 (Nat.le_trans (by decide : 0 ≤ 178 - 21) (Nat.sub_le_sub_right hLo 21))) (wp_bind h) (fun v19 h => rs_back1 ?_))
    refine rs_V wi_329_106 wc_329_104 rfl (dq_isa tf_172_0 wa_12_330) (Nat.le_trans (by decide) hF) (ml_le wm_330 (Nat.le_trans (by decide) hLo)) rfl (sp_330 hw (Nat.le_trans (by decide : 7 ≤ 8 - 1) (Nat.sub_le_sub_right hF 1)) (ml_sub wm_330 (Nat.le_trans (by decide : 155 ≤ 178 - 23) (Nat.sub_le_sub_right hLo 23))) (wp_bind h) (fun r20 h => rs_back0 ?_))
    refine rs_aldn wi_329_109 l0 ?_
    refine rs_pure wi_329_110 rfl ?_
    refine rs_topi (v := 123) (by decide) ?_
    refine rs_V wi_329_112 wc_329_54 rfl (dq_isa tf_172_0 wa_12_322) (Nat.le_trans (by decide) hF) (ml_le wm_322 (Nat.le_trans (by decide) hLo)) rfl (sp_322 hw (Nat.le_trans (by decide : 1 ≤ 8 - 1) (Nat.sub_le_sub_right hF 1)) (ml_sub wm_322 (Nat.le_trans (by decide : 21 ≤ 178 - 21) (Nat.sub_le_sub_right hLo 21))) (wp_bind h) (fun r21 h => rs_back0 ?_))
    exact rs_vret wi_329_115 wr_329 (hQ r21 h)
theorem wc_334_51 : rx_ct (rt_P sc fm) 334 51 = some (0, 320, 1) := (by decide +kernel : rt_ct 334 51 = some (0, 320, 1))
theorem wc_334_54 : rx_ct (rt_P sc fm) 334 54 = some (0, 322, 1) := (by decide +kernel : rt_ct 334 54 = some (0, 322, 1))
theorem wf_334_131 : rx_ft (rt_P sc fm) 334 131 = some (8, 0) := (by decide +kernel : rt_ft 334 131 = some (8, 0))
theorem wf_334_137 : rx_ft (rt_P sc fm) 334 137 = some (8, 4) := (by decide +kernel : rt_ft 334 137 = some (8, 4))
theorem wf_334_19 : rx_ft (rt_P sc fm) 334 19 = some (12, 3) := (by decide +kernel : rt_ft 334 19 = some (12, 3))
theorem wf_334_66 : rx_ft (rt_P sc fm) 334 66 = some (9, 1) := (by decide +kernel : rt_ft 334 66 = some (9, 1))
theorem wi_334_0 : ri (rt_P sc fm) 334 0 (.aload_n 0) (1) := ri_of (by decide +kernel) rfl
theorem wi_334_1 : ri (rt_P sc fm) 334 1 (.aload_n 0) (2) := ri_of (by decide +kernel) rfl
theorem wi_334_10 : ri (rt_P sc fm) 334 10 (.getfield 131) (13) := ri_of (by decide +kernel) rfl
theorem wi_334_13 : ri (rt_P sc fm) 334 13 (.invokevirtual 51) (16) := ri_of (by decide +kernel) rfl
theorem wi_334_16 : ri (rt_P sc fm) 334 16 (.aload_n 0) (17) := ri_of (by decide +kernel) rfl
theorem wi_334_17 : ri (rt_P sc fm) 334 17 (.bipush 46) (19) := ri_of (by decide +kernel) rfl
theorem wi_334_19 : ri (rt_P sc fm) 334 19 (.invokevirtual 54) (22) := ri_of (by decide +kernel) rfl
theorem wi_334_2 : ri (rt_P sc fm) 334 2 (.getfield 19) (5) := ri_of (by decide +kernel) rfl
theorem wi_334_22 : ri (rt_P sc fm) 334 22 (.aload_n 0) (23) := ri_of (by decide +kernel) rfl
theorem wi_334_23 : ri (rt_P sc fm) 334 23 (.aload_n 0) (24) := ri_of (by decide +kernel) rfl
theorem wi_334_24 : ri (rt_P sc fm) 334 24 (.getfield 19) (27) := ri_of (by decide +kernel) rfl
theorem wi_334_27 : ri (rt_P sc fm) 334 27 (.getfield 66) (30) := ri_of (by decide +kernel) rfl
theorem wi_334_30 : ri (rt_P sc fm) 334 30 (.iload_n 1) (31) := ri_of (by decide +kernel) rfl
theorem wi_334_31 : ri (rt_P sc fm) 334 31 (.aaload) (32) := ri_of (by decide +kernel) rfl
theorem wi_334_32 : ri (rt_P sc fm) 334 32 (.getfield 137) (35) := ri_of (by decide +kernel) rfl
theorem wi_334_35 : ri (rt_P sc fm) 334 35 (.iload_n 2) (36) := ri_of (by decide +kernel) rfl
theorem wi_334_36 : ri (rt_P sc fm) 334 36 (.laload) (37) := ri_of (by decide +kernel) rfl
theorem wi_334_37 : ri (rt_P sc fm) 334 37 (.invokevirtual 51) (40) := ri_of (by decide +kernel) rfl
theorem wi_334_40 : ri (rt_P sc fm) 334 40 (.return_) (41) := ri_of (by decide +kernel) rfl
theorem wi_334_5 : ri (rt_P sc fm) 334 5 (.getfield 66) (8) := ri_of (by decide +kernel) rfl
theorem wi_334_8 : ri (rt_P sc fm) 334 8 (.iload_n 1) (9) := ri_of (by decide +kernel) rfl
theorem wi_334_9 : ri (rt_P sc fm) 334 9 (.aaload) (10) := ri_of (by decide +kernel) rfl
theorem wr_334 : rx_rt (rt_P sc fm) 334 = none := (by decide +kernel : rt_rt 334 = none)
/-- MarkHouse$Teller.writeOrderElement(II)V -/
def d_334 (n : Nat) (a1 : Int32) (a2 : Int32) (c : cS) : Option (cS) :=
  if ib a1 4 then
  Option.bind (d_320 n (c.2 (oA (ix a1)) 0) c) (fun r2 =>
  Option.bind (d_322 n 46 r2) (fun r3 =>
  if ib a1 4 then
  if ib a2 12 then
  Option.bind (d_320 n (r3.2 (oA (ix a1) + 1) (ix a2)) r3) (fun r6 =>
  some r6)
  else none
  else none))
  else none
theorem sp_334 {F Lo n : Nat} {a1 : Int32} {a2 : Int32} {c y : cS} {w : cW} {K : cS → Prop} {Q : ((Option Value) ⊕ String) → List va_E → Prop} (hw : rOK fm w) (hF : 3 ≤ F) (hLo : 67 ≤ Lo)  (h : wp (d_334 n a1 a2 c) K) (hQ : ∀ r, K r → Q (.inl none) (hq true r y w)) : rs (rt_P sc fm) 334 F Lo 0 [(0, .ref 172), (1, .int a1), (2, .int a2)] [] (hq true c y w) Q := by
  unfold d_334 at h
  obtain ⟨lv, elv⟩ : ∃ lv : rx_L, lv = [(0, .ref 172), (1, .int a1), (2, .int a2)] := ⟨_, rfl⟩
  rw [← elv]
  have l0 : rx_ld lv 0 = some (.ref 172) := by rw [elv]; rfl
  have l1 : rx_ld lv 1 = some (.int a1) := by rw [elv]; rfl
  have l2 : rx_ld lv 2 = some (.int a2) := by rw [elv]; rfl
  refine rs_aldn wi_334_0 l0 ?_
  refine rs_aldn wi_334_1 l0 ?_
  refine dq_gr wi_334_2 wf_334_19 tf_172_3 ?_
  refine dq_gr wi_334_5 wf_334_66 tf_7_1 ?_
  refine rs_ildn wi_334_8 l1 ?_
  obtain ⟨g1, h⟩ := wp_gd h
  refine dq_aald wi_334_9 (by decide) t_8 g1 (hw.1 _ (ib_lt g1)) ?_
  refine dq_gl wi_334_10 wf_334_131 (fO_0 (ib_lt g1)) ?_
  refine rs_V wi_334_13 wc_334_51 rfl (dq_isa tf_172_0 wa_12_320) (Nat.le_trans (by decide) hF) (ml_le wm_320 (Nat.le_trans (by decide) hLo)) rfl (sp_320 hw (Nat.le_trans (by decide : 2 ≤ 3 - 1) (Nat.sub_le_sub_right hF 1)) (ml_sub wm_320 (Nat.le_trans (by decide : 45 ≤ 67 - 22) (Nat.sub_le_sub_right hLo 22))) (wp_bind h) (fun r2 h => rs_back0 ?_))
  refine rs_aldn wi_334_16 l0 ?_
  refine rs_pure wi_334_17 rfl ?_
  refine rs_topi (v := 46) (by decide) ?_
  refine rs_V wi_334_19 wc_334_54 rfl (dq_isa tf_172_0 wa_12_322) (Nat.le_trans (by decide) hF) (ml_le wm_322 (Nat.le_trans (by decide) hLo)) rfl (sp_322 hw (Nat.le_trans (by decide : 1 ≤ 3 - 1) (Nat.sub_le_sub_right hF 1)) (ml_sub wm_322 (Nat.le_trans (by decide : 21 ≤ 67 - 21) (Nat.sub_le_sub_right hLo 21))) (wp_bind h) (fun r3 h => rs_back0 ?_))
  refine rs_aldn wi_334_22 l0 ?_
  refine rs_aldn wi_334_23 l0 ?_
  refine dq_gr wi_334_24 wf_334_19 tf_172_3 ?_
  refine dq_gr wi_334_27 wf_334_66 tf_7_1 ?_
  refine rs_ildn wi_334_30 l1 ?_
  obtain ⟨g4, h⟩ := wp_gd h
  refine dq_aald wi_334_31 (by decide) t_8 g4 (hw.1 _ (ib_lt g4)) ?_
  refine dq_gr wi_334_32 wf_334_137 (fO_4 (ib_lt g4)) ?_
  refine rs_ildn wi_334_35 l2 ?_
  obtain ⟨g5, h⟩ := wp_gd h
  refine dq_lald wi_334_36 (tO_1 (ib_lt g4)) g5 ?_
  refine rs_V wi_334_37 wc_334_51 rfl (dq_isa tf_172_0 wa_12_320) (Nat.le_trans (by decide) hF) (ml_le wm_320 (Nat.le_trans (by decide) hLo)) rfl (sp_320 hw (Nat.le_trans (by decide : 2 ≤ 3 - 1) (Nat.sub_le_sub_right hF 1)) (ml_sub wm_320 (Nat.le_trans (by decide : 45 ≤ 67 - 22) (Nat.sub_le_sub_right hLo 22))) (wp_bind h) (fun r6 h => rs_back0 ?_))
  exact rs_vret wi_334_40 wr_334 (hQ r6 h)
theorem wa_12_334 : rz_cn 12 (rx_yn (rt_P sc fm) 334).cls = true := (by decide +kernel : rz_cn 12 (rt_yn 334).cls = true)
theorem wc_333_104 : rx_ct (rt_P sc fm) 333 104 = some (0, 330, 1) := (by decide +kernel : rt_ct 333 104 = some (0, 330, 1))
theorem wc_333_158 : rx_ct (rt_P sc fm) 333 158 = some (0, 323, 2) := (by decide +kernel : rt_ct 333 158 = some (0, 323, 2))
theorem wc_333_264 : rx_ct (rt_P sc fm) 333 264 = some (0, 334, 2) := (by decide +kernel : rt_ct 333 264 = some (0, 334, 2))
theorem wc_333_51 : rx_ct (rt_P sc fm) 333 51 = some (0, 320, 1) := (by decide +kernel : rt_ct 333 51 = some (0, 320, 1))
theorem wc_333_54 : rx_ct (rt_P sc fm) 333 54 = some (0, 322, 1) := (by decide +kernel : rt_ct 333 54 = some (0, 322, 1))
theorem wc_333_88 : rx_ct (rt_P sc fm) 333 88 = some (0, 321, 1) := (by decide +kernel : rt_ct 333 88 = some (0, 321, 1))
theorem wf_333_201 : rx_ft (rt_P sc fm) 333 201 = some (2, 4) := (by decide +kernel : rt_ft 333 201 = some (2, 4))
theorem wf_333_23 : rx_ft (rt_P sc fm) 333 23 = some (12, 4) := (by decide +kernel : rt_ft 333 23 = some (12, 4))
theorem wf_333_248 : rx_ft (rt_P sc fm) 333 248 = some (2, 14) := (by decide +kernel : rt_ft 333 248 = some (2, 14))
theorem wf_333_251 : rx_ft (rt_P sc fm) 333 251 = some (2, 8) := (by decide +kernel : rt_ft 333 251 = some (2, 8))
theorem wf_333_254 : rx_ft (rt_P sc fm) 333 254 = some (2, 9) := (by decide +kernel : rt_ft 333 254 = some (2, 9))
theorem wf_333_257 : rx_ft (rt_P sc fm) 333 257 = some (2, 15) := (by decide +kernel : rt_ft 333 257 = some (2, 15))
theorem wf_333_260 : rx_ft (rt_P sc fm) 333 260 = some (2, 16) := (by decide +kernel : rt_ft 333 260 = some (2, 16))
theorem wf_333_263 : rx_ft (rt_P sc fm) 333 263 = some (2, 10) := (by decide +kernel : rt_ft 333 263 = some (2, 10))
theorem wf_333_268 : rx_ft (rt_P sc fm) 333 268 = some (2, 11) := (by decide +kernel : rt_ft 333 268 = some (2, 11))
theorem wi_333_0 : ri (rt_P sc fm) 333 0 (.iload_n 3) (1) := ri_of (by decide +kernel) rfl
theorem wi_333_1 : ri (rt_P sc fm) 333 1 (.ifCond .ge 36) (4) := ri_of (by decide +kernel) rfl
theorem wi_333_11 : ri (rt_P sc fm) 333 11 (.iload_n 2) (12) := ri_of (by decide +kernel) rfl
theorem wi_333_12 : ri (rt_P sc fm) 333 12 (.laload) (13) := ri_of (by decide +kernel) rfl
theorem wi_333_13 : ri (rt_P sc fm) 333 13 (.lconst 0) (14) := ri_of (by decide +kernel) rfl
theorem wi_333_14 : ri (rt_P sc fm) 333 14 (.lcmp) (15) := ri_of (by decide +kernel) rfl
theorem wi_333_140 : ri (rt_P sc fm) 333 140 (.aload_n 0) (141) := ri_of (by decide +kernel) rfl
theorem wi_333_141 : ri (rt_P sc fm) 333 141 (.iconst 1) (142) := ri_of (by decide +kernel) rfl
theorem wi_333_142 : ri (rt_P sc fm) 333 142 (.aload_n 0) (143) := ri_of (by decide +kernel) rfl
theorem wi_333_143 : ri (rt_P sc fm) 333 143 (.getfield 23) (146) := ri_of (by decide +kernel) rfl
theorem wi_333_146 : ri (rt_P sc fm) 333 146 (.getfield 254) (149) := ri_of (by decide +kernel) rfl
theorem wi_333_149 : ri (rt_P sc fm) 333 149 (.iload_n 2) (150) := ri_of (by decide +kernel) rfl
theorem wi_333_15 : ri (rt_P sc fm) 333 15 (.ifCond .eq 22) (18) := ri_of (by decide +kernel) rfl
theorem wi_333_150 : ri (rt_P sc fm) 333 150 (.iaload) (151) := ri_of (by decide +kernel) rfl
theorem wi_333_151 : ri (rt_P sc fm) 333 151 (.i2l) (152) := ri_of (by decide +kernel) rfl
theorem wi_333_152 : ri (rt_P sc fm) 333 152 (.invokevirtual 158) (155) := ri_of (by decide +kernel) rfl
theorem wi_333_155 : ri (rt_P sc fm) 333 155 (.aload_n 0) (156) := ri_of (by decide +kernel) rfl
theorem wi_333_156 : ri (rt_P sc fm) 333 156 (.sipush 1218) (159) := ri_of (by decide +kernel) rfl
theorem wi_333_159 : ri (rt_P sc fm) 333 159 (.iload_n 2) (160) := ri_of (by decide +kernel) rfl
theorem wi_333_160 : ri (rt_P sc fm) 333 160 (.iadd) (161) := ri_of (by decide +kernel) rfl
theorem wi_333_161 : ri (rt_P sc fm) 333 161 (.invokevirtual 104) (164) := ri_of (by decide +kernel) rfl
theorem wi_333_164 : ri (rt_P sc fm) 333 164 (.goto 104) (167) := ri_of (by decide +kernel) rfl
theorem wi_333_167 : ri (rt_P sc fm) 333 167 (.aload_n 0) (168) := ri_of (by decide +kernel) rfl
theorem wi_333_168 : ri (rt_P sc fm) 333 168 (.sipush 1218) (171) := ri_of (by decide +kernel) rfl
theorem wi_333_171 : ri (rt_P sc fm) 333 171 (.iload_n 2) (172) := ri_of (by decide +kernel) rfl
theorem wi_333_172 : ri (rt_P sc fm) 333 172 (.iadd) (173) := ri_of (by decide +kernel) rfl
theorem wi_333_173 : ri (rt_P sc fm) 333 173 (.invokevirtual 104) (176) := ri_of (by decide +kernel) rfl
theorem wi_333_176 : ri (rt_P sc fm) 333 176 (.goto 92) (179) := ri_of (by decide +kernel) rfl
theorem wi_333_179 : ri (rt_P sc fm) 333 179 (.aload_n 0) (180) := ri_of (by decide +kernel) rfl
theorem wi_333_18 : ri (rt_P sc fm) 333 18 (.aload_n 0) (19) := ri_of (by decide +kernel) rfl
theorem wi_333_180 : ri (rt_P sc fm) 333 180 (.aload_n 0) (181) := ri_of (by decide +kernel) rfl
theorem wi_333_181 : ri (rt_P sc fm) 333 181 (.getfield 23) (184) := ri_of (by decide +kernel) rfl
theorem wi_333_184 : ri (rt_P sc fm) 333 184 (.getfield 201) (187) := ri_of (by decide +kernel) rfl
theorem wi_333_187 : ri (rt_P sc fm) 333 187 (.iload_n 1) (188) := ri_of (by decide +kernel) rfl
theorem wi_333_188 : ri (rt_P sc fm) 333 188 (.bipush 8) (190) := ri_of (by decide +kernel) rfl
theorem wi_333_19 : ri (rt_P sc fm) 333 19 (.aload_n 0) (20) := ri_of (by decide +kernel) rfl
theorem wi_333_190 : ri (rt_P sc fm) 333 190 (.imul) (191) := ri_of (by decide +kernel) rfl
theorem wi_333_191 : ri (rt_P sc fm) 333 191 (.aload_n 0) (192) := ri_of (by decide +kernel) rfl
theorem wi_333_192 : ri (rt_P sc fm) 333 192 (.getfield 23) (195) := ri_of (by decide +kernel) rfl
theorem wi_333_195 : ri (rt_P sc fm) 333 195 (.getfield 254) (198) := ri_of (by decide +kernel) rfl
theorem wi_333_198 : ri (rt_P sc fm) 333 198 (.iload_n 2) (199) := ri_of (by decide +kernel) rfl
theorem wi_333_199 : ri (rt_P sc fm) 333 199 (.iaload) (200) := ri_of (by decide +kernel) rfl
theorem wi_333_20 : ri (rt_P sc fm) 333 20 (.getfield 23) (23) := ri_of (by decide +kernel) rfl
theorem wi_333_200 : ri (rt_P sc fm) 333 200 (.iadd) (201) := ri_of (by decide +kernel) rfl
theorem wi_333_201 : ri (rt_P sc fm) 333 201 (.laload) (202) := ri_of (by decide +kernel) rfl
theorem wi_333_202 : ri (rt_P sc fm) 333 202 (.invokevirtual 51) (205) := ri_of (by decide +kernel) rfl
theorem wi_333_205 : ri (rt_P sc fm) 333 205 (.goto 63) (208) := ri_of (by decide +kernel) rfl
theorem wi_333_208 : ri (rt_P sc fm) 333 208 (.aload_n 0) (209) := ri_of (by decide +kernel) rfl
theorem wi_333_209 : ri (rt_P sc fm) 333 209 (.aload_n 0) (210) := ri_of (by decide +kernel) rfl
theorem wi_333_210 : ri (rt_P sc fm) 333 210 (.getfield 23) (213) := ri_of (by decide +kernel) rfl
theorem wi_333_213 : ri (rt_P sc fm) 333 213 (.getfield 257) (216) := ri_of (by decide +kernel) rfl
theorem wi_333_216 : ri (rt_P sc fm) 333 216 (.iload_n 2) (217) := ri_of (by decide +kernel) rfl
theorem wi_333_217 : ri (rt_P sc fm) 333 217 (.laload) (218) := ri_of (by decide +kernel) rfl
theorem wi_333_218 : ri (rt_P sc fm) 333 218 (.invokevirtual 51) (221) := ri_of (by decide +kernel) rfl
theorem wi_333_221 : ri (rt_P sc fm) 333 221 (.aload_n 0) (222) := ri_of (by decide +kernel) rfl
theorem wi_333_222 : ri (rt_P sc fm) 333 222 (.bipush 46) (224) := ri_of (by decide +kernel) rfl
theorem wi_333_224 : ri (rt_P sc fm) 333 224 (.invokevirtual 54) (227) := ri_of (by decide +kernel) rfl
theorem wi_333_227 : ri (rt_P sc fm) 333 227 (.aload_n 0) (228) := ri_of (by decide +kernel) rfl
theorem wi_333_228 : ri (rt_P sc fm) 333 228 (.aload_n 0) (229) := ri_of (by decide +kernel) rfl
theorem wi_333_229 : ri (rt_P sc fm) 333 229 (.getfield 23) (232) := ri_of (by decide +kernel) rfl
theorem wi_333_23 : ri (rt_P sc fm) 333 23 (.getfield 248) (26) := ri_of (by decide +kernel) rfl
theorem wi_333_232 : ri (rt_P sc fm) 333 232 (.getfield 260) (235) := ri_of (by decide +kernel) rfl
theorem wi_333_235 : ri (rt_P sc fm) 333 235 (.iload_n 2) (236) := ri_of (by decide +kernel) rfl
theorem wi_333_236 : ri (rt_P sc fm) 333 236 (.laload) (237) := ri_of (by decide +kernel) rfl
theorem wi_333_237 : ri (rt_P sc fm) 333 237 (.invokevirtual 51) (240) := ri_of (by decide +kernel) rfl
theorem wi_333_240 : ri (rt_P sc fm) 333 240 (.goto 28) (243) := ri_of (by decide +kernel) rfl
theorem wi_333_243 : ri (rt_P sc fm) 333 243 (.aload_n 0) (244) := ri_of (by decide +kernel) rfl
theorem wi_333_244 : ri (rt_P sc fm) 333 244 (.aload_n 0) (245) := ri_of (by decide +kernel) rfl
theorem wi_333_245 : ri (rt_P sc fm) 333 245 (.getfield 23) (248) := ri_of (by decide +kernel) rfl
theorem wi_333_248 : ri (rt_P sc fm) 333 248 (.getfield 263) (251) := ri_of (by decide +kernel) rfl
theorem wi_333_251 : ri (rt_P sc fm) 333 251 (.iload_n 2) (252) := ri_of (by decide +kernel) rfl
theorem wi_333_252 : ri (rt_P sc fm) 333 252 (.iaload) (253) := ri_of (by decide +kernel) rfl
theorem wi_333_253 : ri (rt_P sc fm) 333 253 (.aload_n 0) (254) := ri_of (by decide +kernel) rfl
theorem wi_333_254 : ri (rt_P sc fm) 333 254 (.getfield 23) (257) := ri_of (by decide +kernel) rfl
theorem wi_333_257 : ri (rt_P sc fm) 333 257 (.getfield 254) (260) := ri_of (by decide +kernel) rfl
theorem wi_333_26 : ri (rt_P sc fm) 333 26 (.iload_n 2) (27) := ri_of (by decide +kernel) rfl
theorem wi_333_260 : ri (rt_P sc fm) 333 260 (.iload_n 2) (261) := ri_of (by decide +kernel) rfl
theorem wi_333_261 : ri (rt_P sc fm) 333 261 (.iaload) (262) := ri_of (by decide +kernel) rfl
theorem wi_333_262 : ri (rt_P sc fm) 333 262 (.invokevirtual 264) (265) := ri_of (by decide +kernel) rfl
theorem wi_333_265 : ri (rt_P sc fm) 333 265 (.goto 3) (268) := ri_of (by decide +kernel) rfl
theorem wi_333_268 : ri (rt_P sc fm) 333 268 (.aload_n 0) (269) := ri_of (by decide +kernel) rfl
theorem wi_333_269 : ri (rt_P sc fm) 333 269 (.getfield 23) (272) := ri_of (by decide +kernel) rfl
theorem wi_333_27 : ri (rt_P sc fm) 333 27 (.laload) (28) := ri_of (by decide +kernel) rfl
theorem wi_333_272 : ri (rt_P sc fm) 333 272 (.getfield 268) (275) := ri_of (by decide +kernel) rfl
theorem wi_333_275 : ri (rt_P sc fm) 333 275 (.iload_n 2) (276) := ri_of (by decide +kernel) rfl
theorem wi_333_276 : ri (rt_P sc fm) 333 276 (.iaload) (277) := ri_of (by decide +kernel) rfl
theorem wi_333_277 : ri (rt_P sc fm) 333 277 (.ifCond .lt 23) (280) := ri_of (by decide +kernel) rfl
theorem wi_333_28 : ri (rt_P sc fm) 333 28 (.invokevirtual 51) (31) := ri_of (by decide +kernel) rfl
theorem wi_333_280 : ri (rt_P sc fm) 333 280 (.iload_n 3) (281) := ri_of (by decide +kernel) rfl
theorem wi_333_281 : ri (rt_P sc fm) 333 281 (.ifCond .ge 19) (284) := ri_of (by decide +kernel) rfl
theorem wi_333_284 : ri (rt_P sc fm) 333 284 (.aload_n 0) (285) := ri_of (by decide +kernel) rfl
theorem wi_333_285 : ri (rt_P sc fm) 333 285 (.aload_n 0) (286) := ri_of (by decide +kernel) rfl
theorem wi_333_286 : ri (rt_P sc fm) 333 286 (.getfield 23) (289) := ri_of (by decide +kernel) rfl
theorem wi_333_289 : ri (rt_P sc fm) 333 289 (.getfield 257) (292) := ri_of (by decide +kernel) rfl
theorem wi_333_292 : ri (rt_P sc fm) 333 292 (.iload_n 2) (293) := ri_of (by decide +kernel) rfl
theorem wi_333_293 : ri (rt_P sc fm) 333 293 (.laload) (294) := ri_of (by decide +kernel) rfl
theorem wi_333_294 : ri (rt_P sc fm) 333 294 (.invokevirtual 51) (297) := ri_of (by decide +kernel) rfl
theorem wi_333_297 : ri (rt_P sc fm) 333 297 (.goto 22) (300) := ri_of (by decide +kernel) rfl
theorem wi_333_300 : ri (rt_P sc fm) 333 300 (.aload_n 0) (301) := ri_of (by decide +kernel) rfl
theorem wi_333_301 : ri (rt_P sc fm) 333 301 (.getfield 23) (304) := ri_of (by decide +kernel) rfl
theorem wi_333_304 : ri (rt_P sc fm) 333 304 (.getfield 268) (307) := ri_of (by decide +kernel) rfl
theorem wi_333_307 : ri (rt_P sc fm) 333 307 (.iload_n 2) (308) := ri_of (by decide +kernel) rfl
theorem wi_333_308 : ri (rt_P sc fm) 333 308 (.iaload) (309) := ri_of (by decide +kernel) rfl
theorem wi_333_309 : ri (rt_P sc fm) 333 309 (.ifCond .lt 10) (312) := ri_of (by decide +kernel) rfl
theorem wi_333_31 : ri (rt_P sc fm) 333 31 (.aload_n 0) (32) := ri_of (by decide +kernel) rfl
theorem wi_333_312 : ri (rt_P sc fm) 333 312 (.aload_n 0) (313) := ri_of (by decide +kernel) rfl
theorem wi_333_313 : ri (rt_P sc fm) 333 313 (.iconst 1) (314) := ri_of (by decide +kernel) rfl
theorem wi_333_314 : ri (rt_P sc fm) 333 314 (.iload_n 3) (315) := ri_of (by decide +kernel) rfl
theorem wi_333_315 : ri (rt_P sc fm) 333 315 (.i2l) (316) := ri_of (by decide +kernel) rfl
theorem wi_333_316 : ri (rt_P sc fm) 333 316 (.invokevirtual 158) (319) := ri_of (by decide +kernel) rfl
theorem wi_333_319 : ri (rt_P sc fm) 333 319 (.aload_n 0) (320) := ri_of (by decide +kernel) rfl
theorem wi_333_32 : ri (rt_P sc fm) 333 32 (.bipush 58) (34) := ri_of (by decide +kernel) rfl
theorem wi_333_320 : ri (rt_P sc fm) 333 320 (.bipush 59) (322) := ri_of (by decide +kernel) rfl
theorem wi_333_322 : ri (rt_P sc fm) 333 322 (.invokevirtual 54) (325) := ri_of (by decide +kernel) rfl
theorem wi_333_325 : ri (rt_P sc fm) 333 325 (.return_) (326) := ri_of (by decide +kernel) rfl
theorem wi_333_34 : ri (rt_P sc fm) 333 34 (.invokevirtual 54) (37) := ri_of (by decide +kernel) rfl
theorem wi_333_37 : ri (rt_P sc fm) 333 37 (.aload_n 0) (38) := ri_of (by decide +kernel) rfl
theorem wi_333_38 : ri (rt_P sc fm) 333 38 (.aload_n 0) (39) := ri_of (by decide +kernel) rfl
theorem wi_333_39 : ri (rt_P sc fm) 333 39 (.getfield 23) (42) := ri_of (by decide +kernel) rfl
theorem wi_333_4 : ri (rt_P sc fm) 333 4 (.aload_n 0) (5) := ri_of (by decide +kernel) rfl
theorem wi_333_42 : ri (rt_P sc fm) 333 42 (.getfield 251) (45) := ri_of (by decide +kernel) rfl
theorem wi_333_45 : ri (rt_P sc fm) 333 45 (.iload_n 2) (46) := ri_of (by decide +kernel) rfl
theorem wi_333_46 : ri (rt_P sc fm) 333 46 (.iaload) (47) := ri_of (by decide +kernel) rfl
theorem wi_333_47 : ri (rt_P sc fm) 333 47 (.invokevirtual 88) (50) := ri_of (by decide +kernel) rfl
theorem wi_333_5 : ri (rt_P sc fm) 333 5 (.getfield 23) (8) := ri_of (by decide +kernel) rfl
theorem wi_333_50 : ri (rt_P sc fm) 333 50 (.aload_n 0) (51) := ri_of (by decide +kernel) rfl
theorem wi_333_51 : ri (rt_P sc fm) 333 51 (.getfield 23) (54) := ri_of (by decide +kernel) rfl
theorem wi_333_54 : ri (rt_P sc fm) 333 54 (.getfield 251) (57) := ri_of (by decide +kernel) rfl
theorem wi_333_57 : ri (rt_P sc fm) 333 57 (.iload_n 2) (58) := ri_of (by decide +kernel) rfl
theorem wi_333_58 : ri (rt_P sc fm) 333 58 (.iaload) (59) := ri_of (by decide +kernel) rfl
theorem wi_333_59 : ri (rt_P sc fm) 333 59 (.tableswitch 209 214 230 #[81, 108, 120, 120, 149, 149, 149, 209, 209, 209, 209, 209, 209, 209, 209, 184, 184]) (59 + rx_len (.tableswitch 209 214 230 #[81, 108, 120, 120, 149, 149, 149, 209, 209, 209, 209, 209, 209, 209, 209, 184, 184])) := ri_of (by decide +kernel) rfl
theorem wi_333_8 : ri (rt_P sc fm) 333 8 (.getfield 248) (11) := ri_of (by decide +kernel) rfl
theorem wm_334 : rx_ml (rt_P sc fm) 334 = 3 := (by decide +kernel : rt_ml 334 = 3)
theorem wr_333 : rx_rt (rt_P sc fm) 333 = none := (by decide +kernel : rt_rt 333 = none)
/-- MarkHouse$Teller.writeAct(III)V -/
def d_333 (n : Nat) (a1 : Int32) (a2 : Int32) (a3 : Int32) (c : cS) : Option (cS) :=
  jn (fun p1 : cS =>
    if ib a2 1024 then
    Option.bind (d_321 n (p1.1 121 (ix a2)) p1) (fun r3 =>
    if ib a2 1024 then
    jn (fun p5 : cS =>
      if ib a2 1024 then
      jn (fun p7 : cS =>
        Option.bind (d_322 n 59 p7) (fun r8 =>
        some r8))
      (fun j319 =>
      jn (fun p9 : Unit =>
        if ib a2 1024 then
        if (p5.1 124 (ix a2)) < 0 then
          j319 p5
        else
          Option.bind (d_323 n 1 ((a3 : Int32).toInt64) p5) (fun r11 =>
          j319 r11)
        else none)
      (fun j300 =>
      if (p5.1 124 (ix a2)) < 0 then
        j300 ()
      else
        if 0 ≤ a3 then
          j300 ()
        else
          if ib a2 1024 then
          Option.bind (d_320 n (p5.2 128 (ix a2)) p5) (fun r13 =>
          j319 r13)
          else none))
      else none)
    (fun j268 =>
    jn (fun p14 : Unit =>
      if ib a2 1024 then
      if ib ((a1 * 8) + (r3.1 122 (ix a2))) 768 then
      Option.bind (d_320 n (r3.2 118 (ix ((a1 * 8) + (r3.1 122 (ix a2))))) r3) (fun r17 =>
      j268 r17)
      else none
      else none)
    (fun j179 =>
    jn (fun p18 : Unit =>
      if ib a2 1024 then
      Option.bind (d_320 n (r3.2 128 (ix a2)) r3) (fun r20 =>
      Option.bind (d_322 n 46 r20) (fun r21 =>
      if ib a2 1024 then
      Option.bind (d_320 n (r21.2 129 (ix a2)) r21) (fun r23 =>
      j268 r23)
      else none))
      else none)
    (fun j208 =>
    jn (fun p24 : Unit =>
      if ib a2 1024 then
      if ib a2 1024 then
      Option.bind (d_334 n (r3.1 123 (ix a2)) (r3.1 122 (ix a2)) r3) (fun r27 =>
      j268 r27)
      else none
      else none)
    (fun j243 =>
    if (r3.1 121 (ix a2)) = 214 then
      if ib a2 1024 then
      Option.bind (d_323 n 1 (((r3.1 122 (ix a2)) : Int32).toInt64) r3) (fun r30 =>
      Option.bind (d_330 n (1218 + a2) r30) (fun r31 =>
      j268 r31))
      else none
    else
    if (r3.1 121 (ix a2)) = 215 then
      Option.bind (d_330 n (1218 + a2) r3) (fun r33 =>
      j268 r33)
    else
    if (r3.1 121 (ix a2)) = 216 then
      j179 ()
    else
    if (r3.1 121 (ix a2)) = 217 then
      j179 ()
    else
    if (r3.1 121 (ix a2)) = 218 then
      j208 ()
    else
    if (r3.1 121 (ix a2)) = 219 then
      j208 ()
    else
    if (r3.1 121 (ix a2)) = 220 then
      j208 ()
    else
    if (r3.1 121 (ix a2)) = 221 then
      j268 r3
    else
    if (r3.1 121 (ix a2)) = 222 then
      j268 r3
    else
    if (r3.1 121 (ix a2)) = 223 then
      j268 r3
    else
    if (r3.1 121 (ix a2)) = 224 then
      j268 r3
    else
    if (r3.1 121 (ix a2)) = 225 then
      j268 r3
    else
    if (r3.1 121 (ix a2)) = 226 then
      j268 r3
    else
    if (r3.1 121 (ix a2)) = 227 then
      j268 r3
    else
    if (r3.1 121 (ix a2)) = 228 then
      j268 r3
    else
    if (r3.1 121 (ix a2)) = 229 then
      j243 ()
    else
    if (r3.1 121 (ix a2)) = 230 then
      j243 ()
    else
    j268 r3))))
    else none)
    else none)
  (fun j37 =>
  if 0 ≤ a3 then
    j37 c
  else
    if ib a2 1024 then
    if (lg_cmp (c.2 127 (ix a2)) 0) = 0 then
      j37 c
    else
      if ib a2 1024 then
      Option.bind (d_320 n (c.2 127 (ix a2)) c) (fun r51 =>
      Option.bind (d_322 n 58 r51) (fun r52 =>
      j37 r52))
      else none
    else none)
theorem sp_333 {F Lo n : Nat} {a1 : Int32} {a2 : Int32} {a3 : Int32} {c y : cS} {w : cW} {K : cS → Prop} {Q : ((Option Value) ⊕ String) → List va_E → Prop} (hw : rOK fm w) (hF : 8 ≤ F) (hLo : 178 ≤ Lo)  (h : wp (d_333 n a1 a2 a3 c) K) (hQ : ∀ r, K r → Q (.inl none) (hq true r y w)) : rs (rt_P sc fm) 333 F Lo 0 [(0, .ref 172), (1, .int a1), (2, .int a2), (3, .int a3)] [] (hq true c y w) Q := by
  unfold d_333 at h
  obtain ⟨lv, elv⟩ : ∃ lv : rx_L, lv = [(0, .ref 172), (1, .int a1), (2, .int a2), (3, .int a3)] := ⟨_, rfl⟩
  rw [← elv]
  have l0 : rx_ld lv 0 = some (.ref 172) := by rw [elv]; rfl
  have l1 : rx_ld lv 1 = some (.int a1) := by rw [elv]; rfl
  have l2 : rx_ld lv 2 = some (.int a2) := by rw [elv]; rfl
  have l3 : rx_ld lv 3 = some (.int a3) := by rw [elv]; rfl
  refine rs_ildn wi_333_0 l3 ?_
  refine wp_jn (B := fun p1 : cS => ∀ lv, rx_ld lv 0 = some (.ref 172) → rx_ld lv 1 = some (.int a1) → rx_ld lv 2 = some (.int a2) → rx_ld lv 3 = some (.int a3) → rs (rt_P sc fm) 333 F Lo 37 lv [] (hq true p1 y w) Q) h (fun p1 h lv l0 l1 l2 l3 => ?_) (fun j37 hj37 h => ?_)
  ·
    refine rs_aldn wi_333_37 l0 ?_
    refine rs_aldn wi_333_38 l0 ?_
    refine dq_gr wi_333_39 wf_333_23 tf_172_4 ?_
    refine dq_gr wi_333_42 wf_333_251 tf_114_8 ?_
    refine rs_ildn wi_333_45 l2 ?_
    obtain ⟨g2, h⟩ := wp_gd h
    refine dq_iald wi_333_46 t_121 g2 ?_
    refine rs_V wi_333_47 wc_333_88 rfl (dq_isa tf_172_0 wa_12_321) (Nat.le_trans (by decide) hF) (ml_le wm_321 (Nat.le_trans (by decide) hLo)) rfl (sp_321 hw (Nat.le_trans (by decide : 3 ≤ 8 - 1) (Nat.sub_le_sub_right hF 1)) (ml_sub wm_321 (Nat.le_trans (by decide : 67 ≤ 178 - 21) (Nat.sub_le_sub_right hLo 21))) (wp_bind h) (fun r3 h => rs_back0 ?_))
    refine rs_aldn wi_333_50 l0 ?_
    refine dq_gr wi_333_51 wf_333_23 tf_172_4 ?_
    refine dq_gr wi_333_54 wf_333_251 tf_114_8 ?_
    refine rs_ildn wi_333_57 l2 ?_
    obtain ⟨g4, h⟩ := wp_gd h
    refine dq_iald wi_333_58 t_121 g4 ?_
    refine wp_jn (B := fun p5 : cS => ∀ lv, rx_ld lv 0 = some (.ref 172) → rx_ld lv 2 = some (.int a2) → rx_ld lv 3 = some (.int a3) → rs (rt_P sc fm) 333 F Lo 268 lv [] (hq true p5 y w) Q) h (fun p5 h lv l0 l2 l3 => ?_) (fun j268 hj268 h => ?_)
    ·
      refine rs_aldn wi_333_268 l0 ?_
      refine dq_gr wi_333_269 wf_333_23 tf_172_4 ?_
      refine dq_gr wi_333_272 wf_333_268 tf_114_11 ?_
      refine rs_ildn wi_333_275 l2 ?_
      obtain ⟨g6, h⟩ := wp_gd h
      refine dq_iald wi_333_276 t_124 g6 ?_
      refine wp_jn (B := fun p7 : cS => ∀ lv, rx_ld lv 0 = some (.ref 172) → rs (rt_P sc fm) 333 F Lo 319 lv [] (hq true p7 y w) Q) h (fun p7 h lv l0 => ?_) (fun j319 hj319 h => ?_)
      ·
        refine rs_aldn wi_333_319 l0 ?_
        refine rs_pure wi_333_320 rfl ?_
        refine rs_topi (v := 59) (by decide) ?_
        refine rs_V wi_333_322 wc_333_54 rfl (dq_isa tf_172_0 wa_12_322) (Nat.le_trans (by decide) hF) (ml_le wm_322 (Nat.le_trans (by decide) hLo)) rfl (sp_322 hw (Nat.le_trans (by decide : 1 ≤ 8 - 1) (Nat.sub_le_sub_right hF 1)) (ml_sub wm_322 (Nat.le_trans (by decide : 21 ≤ 178 - 21) (Nat.sub_le_sub_right hLo 21))) (wp_bind h) (fun r8 h => rs_back0 ?_))
        exact rs_vret wi_333_325 wr_333 (hQ r8 h)
      refine wp_jn (B := fun p9 : Unit => ∀ lv, rx_ld lv 0 = some (.ref 172) → rx_ld lv 2 = some (.int a2) → rx_ld lv 3 = some (.int a3) → rs (rt_P sc fm) 333 F Lo 300 lv [] (hq true p5 y w) Q) h (fun p9 h lv l0 l2 l3 => ?_) (fun j300 hj300 h => ?_)
      ·
        refine rs_aldn wi_333_300 l0 ?_
        refine dq_gr wi_333_301 wf_333_23 tf_172_4 ?_
        refine dq_gr wi_333_304 wf_333_268 tf_114_11 ?_
        refine rs_ildn wi_333_307 l2 ?_
        obtain ⟨g10, h⟩ := wp_gd h
        refine dq_iald wi_333_308 t_124 g10 ?_
        refine rs_iflt (tg := 319) wi_333_309 ⟨by decide, by decide⟩ (fun q => ?_) (fun q => ?_)
        ·
          have h := wp_pos h q
          exact hj319 _ h _ l0
        ·
          have h := wp_neg h q
          refine rs_aldn wi_333_312 l0 ?_
          refine rs_pure wi_333_313 rfl ?_
          refine rs_topi (v := 1) (by decide) ?_
          refine rs_ildn wi_333_314 l3 ?_
          refine rs_pure wi_333_315 rfl ?_
          refine rs_V wi_333_316 wc_333_158 rfl (dq_isa tf_172_0 wa_12_323) (Nat.le_trans (by decide) hF) (ml_le wm_323 (Nat.le_trans (by decide) hLo)) rfl (sp_323 hw (Nat.le_trans (by decide : 2 ≤ 8 - 1) (Nat.sub_le_sub_right hF 1)) (ml_sub wm_323 (Nat.le_trans (by decide : 47 ≤ 178 - 23) (Nat.sub_le_sub_right hLo 23))) (wp_bind h) (fun r11 h => rs_back0 ?_))
          exact hj319 _ h _ l0
      refine rs_iflt (tg := 300) wi_333_277 ⟨by decide, by decide⟩ (fun q => ?_) (fun q => ?_)
      ·
        have h := wp_pos h q
        exact hj300 _ h _ l0 l2 l3
      ·
        have h := wp_neg h q
        refine rs_ildn wi_333_280 l3 ?_
        refine rs_ifge (tg := 300) wi_333_281 ⟨by decide, by decide⟩ (fun q => ?_) (fun q => ?_)
        ·
          have h := wp_pos h q
          exact hj300 _ h _ l0 l2 l3
        ·
          have h := wp_neg h q
          refine rs_aldn wi_333_284 l0 ?_
          refine rs_aldn wi_333_285 l0 ?_
          refine dq_gr wi_333_286 wf_333_23 tf_172_4 ?_
          refine dq_gr wi_333_289 wf_333_257 tf_114_15 ?_
          refine rs_ildn wi_333_292 l2 ?_
          obtain ⟨g12, h⟩ := wp_gd h
          refine dq_lald wi_333_293 t_128 g12 ?_
          refine rs_V wi_333_294 wc_333_51 rfl (dq_isa tf_172_0 wa_12_320) (Nat.le_trans (by decide) hF) (ml_le wm_320 (Nat.le_trans (by decide) hLo)) rfl (sp_320 hw (Nat.le_trans (by decide : 2 ≤ 8 - 1) (Nat.sub_le_sub_right hF 1)) (ml_sub wm_320 (Nat.le_trans (by decide : 45 ≤ 178 - 22) (Nat.sub_le_sub_right hLo 22))) (wp_bind h) (fun r13 h => rs_back0 ?_))
          refine rs_goto (tg := 319) wi_333_297 ⟨by decide, by decide⟩ ?_
          exact hj319 _ h _ l0
    refine wp_jn (B := fun p14 : Unit => ∀ lv, rx_ld lv 0 = some (.ref 172) → rx_ld lv 1 = some (.int a1) → rx_ld lv 2 = some (.int a2) → rx_ld lv 3 = some (.int a3) → rs (rt_P sc fm) 333 F Lo 179 lv [] (hq true r3 y w) Q) h (fun p14 h lv l0 l1 l2 l3 => ?_) (fun j179 hj179 h => ?_)
    ·
      refine rs_aldn wi_333_179 l0 ?_
      refine rs_aldn wi_333_180 l0 ?_
      refine dq_gr wi_333_181 wf_333_23 tf_172_4 ?_
      refine dq_gr wi_333_184 wf_333_201 tf_114_4 ?_
      refine rs_ildn wi_333_187 l1 ?_
      refine rs_pure wi_333_188 rfl ?_
      refine rs_topi (v := 8) (by decide) ?_
      refine rs_pure wi_333_190 rfl ?_
      refine rs_aldn wi_333_191 l0 ?_
      refine dq_gr wi_333_192 wf_333_23 tf_172_4 ?_
      refine dq_gr wi_333_195 wf_333_254 tf_114_9 ?_
      refine rs_ildn wi_333_198 l2 ?_
      obtain ⟨g15, h⟩ := wp_gd h
      refine dq_iald wi_333_199 t_122 g15 ?_
      refine rs_pure wi_333_200 rfl ?_
      obtain ⟨g16, h⟩ := wp_gd h
      refine dq_lald wi_333_201 t_118 g16 ?_
      refine rs_V wi_333_202 wc_333_51 rfl (dq_isa tf_172_0 wa_12_320) (Nat.le_trans (by decide) hF) (ml_le wm_320 (Nat.le_trans (by decide) hLo)) rfl (sp_320 hw (Nat.le_trans (by decide : 2 ≤ 8 - 1) (Nat.sub_le_sub_right hF 1)) (ml_sub wm_320 (Nat.le_trans (by decide : 45 ≤ 178 - 22) (Nat.sub_le_sub_right hLo 22))) (wp_bind h) (fun r17 h => rs_back0 ?_))
      refine rs_goto (tg := 268) wi_333_205 ⟨by decide, by decide⟩ ?_
      exact hj268 _ h _ l0 l2 l3
    refine wp_jn (B := fun p18 : Unit => ∀ lv, rx_ld lv 0 = some (.ref 172) → rx_ld lv 2 = some (.int a2) → rx_ld lv 3 = some (.int a3) → rs (rt_P sc fm) 333 F Lo 208 lv [] (hq true r3 y w) Q) h (fun p18 h lv l0 l2 l3 => ?_) (fun j208 hj208 h => ?_)
    ·
      refine rs_aldn wi_333_208 l0 ?_
      refine rs_aldn wi_333_209 l0 ?_
      refine dq_gr wi_333_210 wf_333_23 tf_172_4 ?_
      refine dq_gr wi_333_213 wf_333_257 tf_114_15 ?_
      refine rs_ildn wi_333_216 l2 ?_
      obtain ⟨g19, h⟩ := wp_gd h
      refine dq_lald wi_333_217 t_128 g19 ?_
      refine rs_V wi_333_218 wc_333_51 rfl (dq_isa tf_172_0 wa_12_320) (Nat.le_trans (by decide) hF) (ml_le wm_320 (Nat.le_trans (by decide) hLo)) rfl (sp_320 hw (Nat.le_trans (by decide : 2 ≤ 8 - 1) (Nat.sub_le_sub_right hF 1)) (ml_sub wm_320 (Nat.le_trans (by decide : 45 ≤ 178 - 22) (Nat.sub_le_sub_right hLo 22))) (wp_bind h) (fun r20 h => rs_back0 ?_))
      refine rs_aldn wi_333_221 l0 ?_
      refine rs_pure wi_333_222 rfl ?_
      refine rs_topi (v := 46) (by decide) ?_
      refine rs_V wi_333_224 wc_333_54 rfl (dq_isa tf_172_0 wa_12_322) (Nat.le_trans (by decide) hF) (ml_le wm_322 (Nat.le_trans (by decide) hLo)) rfl (sp_322 hw (Nat.le_trans (by decide : 1 ≤ 8 - 1) (Nat.sub_le_sub_right hF 1)) (ml_sub wm_322 (Nat.le_trans (by decide : 21 ≤ 178 - 21) (Nat.sub_le_sub_right hLo 21))) (wp_bind h) (fun r21 h => rs_back0 ?_))
      refine rs_aldn wi_333_227 l0 ?_
      refine rs_aldn wi_333_228 l0 ?_
      refine dq_gr wi_333_229 wf_333_23 tf_172_4 ?_
      refine dq_gr wi_333_232 wf_333_260 tf_114_16 ?_
      refine rs_ildn wi_333_235 l2 ?_
      obtain ⟨g22, h⟩ := wp_gd h
      refine dq_lald wi_333_236 t_129 g22 ?_
      refine rs_V wi_333_237 wc_333_51 rfl (dq_isa tf_172_0 wa_12_320) (Nat.le_trans (by decide) hF) (ml_le wm_320 (Nat.le_trans (by decide) hLo)) rfl (sp_320 hw (Nat.le_trans (by decide : 2 ≤ 8 - 1) (Nat.sub_le_sub_right hF 1)) (ml_sub wm_320 (Nat.le_trans (by decide : 45 ≤ 178 - 22) (Nat.sub_le_sub_right hLo 22))) (wp_bind h) (fun r23 h => rs_back0 ?_))
      refine rs_goto (tg := 268) wi_333_240 ⟨by decide, by decide⟩ ?_
      exact hj268 _ h _ l0 l2 l3
    refine wp_jn (B := fun p24 : Unit => ∀ lv, rx_ld lv 0 = some (.ref 172) → rx_ld lv 2 = some (.int a2) → rx_ld lv 3 = some (.int a3) → rs (rt_P sc fm) 333 F Lo 243 lv [] (hq true r3 y w) Q) h (fun p24 h lv l0 l2 l3 => ?_) (fun j243 hj243 h => ?_)
    ·
      refine rs_aldn wi_333_243 l0 ?_
      refine rs_aldn wi_333_244 l0 ?_
      refine dq_gr wi_333_245 wf_333_23 tf_172_4 ?_
      refine dq_gr wi_333_248 wf_333_263 tf_114_10 ?_
      refine rs_ildn wi_333_251 l2 ?_
      obtain ⟨g25, h⟩ := wp_gd h
      refine dq_iald wi_333_252 t_123 g25 ?_
      refine rs_aldn wi_333_253 l0 ?_
      refine dq_gr wi_333_254 wf_333_23 tf_172_4 ?_
      refine dq_gr wi_333_257 wf_333_254 tf_114_9 ?_
      refine rs_ildn wi_333_260 l2 ?_
      obtain ⟨g26, h⟩ := wp_gd h
      refine dq_iald wi_333_261 t_122 g26 ?_
      refine rs_V wi_333_262 wc_333_264 rfl (dq_isa tf_172_0 wa_12_334) (Nat.le_trans (by decide) hF) (ml_le wm_334 (Nat.le_trans (by decide) hLo)) rfl (sp_334 hw (Nat.le_trans (by decide : 3 ≤ 8 - 1) (Nat.sub_le_sub_right hF 1)) (ml_sub wm_334 (Nat.le_trans (by decide : 67 ≤ 178 - 22) (Nat.sub_le_sub_right hLo 22))) (wp_bind h) (fun r27 h => rs_back0 ?_))
      refine rs_goto (tg := 268) wi_333_265 ⟨by decide, by decide⟩ ?_
      exact hj268 _ h _ l0 l2 l3
    by_cases q28 : (r3.1 121 (ix a2)) = 214
    ·
      have h := wp_pos h q28
      refine rs_tsk (tg := 140) (off := 81) (v := 214) wi_333_59 q28 (by decide) (by decide) ⟨by decide, by decide⟩ ?_
      refine rs_aldn wi_333_140 l0 ?_
      refine rs_pure wi_333_141 rfl ?_
      refine rs_topi (v := 1) (by decide) ?_
      refine rs_aldn wi_333_142 l0 ?_
      refine dq_gr wi_333_143 wf_333_23 tf_172_4 ?_
      refine dq_gr wi_333_146 wf_333_254 tf_114_9 ?_
      refine rs_ildn wi_333_149 l2 ?_
      obtain ⟨g29, h⟩ := wp_gd h
      refine dq_iald wi_333_150 t_122 g29 ?_
      refine rs_pure wi_333_151 rfl ?_
      refine rs_V wi_333_152 wc_333_158 rfl (dq_isa tf_172_0 wa_12_323) (Nat.le_trans (by decide) hF) (ml_le wm_323 (Nat.le_trans (by decide) hLo)) rfl (sp_323 hw (Nat.le_trans (by decide : 2 ≤ 8 - 1) (Nat.sub_le_sub_right hF 1)) (ml_sub wm_323 (Nat.le_trans (by decide : 47 ≤ 178 - 23) (Nat.sub_le_sub_right hLo 23))) (wp_bind h) (fun r30 h => rs_back0 ?_))
      refine rs_aldn wi_333_155 l0 ?_
      refine rs_pure wi_333_156 rfl ?_
      refine rs_topi (v := 1218) (by decide) ?_
      refine rs_ildn wi_333_159 l2 ?_
      refine rs_pure wi_333_160 rfl ?_
      refine rs_V wi_333_161 wc_333_104 rfl (dq_isa tf_172_0 wa_12_330) (Nat.le_trans (by decide) hF) (ml_le wm_330 (Nat.le_trans (by decide) hLo)) rfl (sp_330 hw (Nat.le_trans (by decide : 7 ≤ 8 - 1) (Nat.sub_le_sub_right hF 1)) (ml_sub wm_330 (Nat.le_trans (by decide : 155 ≤ 178 - 23) (Nat.sub_le_sub_right hLo 23))) (wp_bind h) (fun r31 h => rs_back0 ?_))
      refine rs_goto (tg := 268) wi_333_164 ⟨by decide, by decide⟩ ?_
      exact hj268 _ h _ l0 l2 l3
    have h := wp_neg h q28
    by_cases q32 : (r3.1 121 (ix a2)) = 215
    ·
      have h := wp_pos h q32
      refine rs_tsk (tg := 167) (off := 108) (v := 215) wi_333_59 q32 (by decide) (by decide) ⟨by decide, by decide⟩ ?_
      refine rs_aldn wi_333_167 l0 ?_
      refine rs_pure wi_333_168 rfl ?_
      refine rs_topi (v := 1218) (by decide) ?_
      refine rs_ildn wi_333_171 l2 ?_
      refine rs_pure wi_333_172 rfl ?_
      refine rs_V wi_333_173 wc_333_104 rfl (dq_isa tf_172_0 wa_12_330) (Nat.le_trans (by decide) hF) (ml_le wm_330 (Nat.le_trans (by decide) hLo)) rfl (sp_330 hw (Nat.le_trans (by decide : 7 ≤ 8 - 1) (Nat.sub_le_sub_right hF 1)) (ml_sub wm_330 (Nat.le_trans (by decide : 155 ≤ 178 - 23) (Nat.sub_le_sub_right hLo 23))) (wp_bind h) (fun r33 h => rs_back0 ?_))
      refine rs_goto (tg := 268) wi_333_176 ⟨by decide, by decide⟩ ?_
      exact hj268 _ h _ l0 l2 l3
    have h := wp_neg h q32
    by_cases q34 : (r3.1 121 (ix a2)) = 216
    ·
      have h := wp_pos h q34
      refine rs_tsk (tg := 179) (off := 120) (v := 216) wi_333_59 q34 (by decide) (by decide) ⟨by decide, by decide⟩ ?_
      exact hj179 _ h _ l0 l1 l2 l3
    have h := wp_neg h q34
    by_cases q35 : (r3.1 121 (ix a2)) = 217
    ·
      have h := wp_pos h q35
      refine rs_tsk (tg := 179) (off := 120) (v := 217) wi_333_59 q35 (by decide) (by decide) ⟨by decide, by decide⟩ ?_
      exact hj179 _ h _ l0 l1 l2 l3
    have h := wp_neg h q35
    by_cases q36 : (r3.1 121 (ix a2)) = 218
    ·
      have h := wp_pos h q36
      refine rs_tsk (tg := 208) (off := 149) (v := 218) wi_333_59 q36 (by decide) (by decide) ⟨by decide, by decide⟩ ?_
      exact hj208 _ h _ l0 l2 l3
    have h := wp_neg h q36
    by_cases q37 : (r3.1 121 (ix a2)) = 219
    ·
      have h := wp_pos h q37
      refine rs_tsk (tg := 208) (off := 149) (v := 219) wi_333_59 q37 (by decide) (by decide) ⟨by decide, by decide⟩ ?_
      exact hj208 _ h _ l0 l2 l3
    have h := wp_neg h q37
    by_cases q38 : (r3.1 121 (ix a2)) = 220
    ·
      have h := wp_pos h q38
      refine rs_tsk (tg := 208) (off := 149) (v := 220) wi_333_59 q38 (by decide) (by decide) ⟨by decide, by decide⟩ ?_
      exact hj208 _ h _ l0 l2 l3
    have h := wp_neg h q38
    by_cases q39 : (r3.1 121 (ix a2)) = 221
    ·
      have h := wp_pos h q39
      refine rs_tsk (tg := 268) (off := 209) (v := 221) wi_333_59 q39 (by decide) (by decide) ⟨by decide, by decide⟩ ?_
      exact hj268 _ h _ l0 l2 l3
    have h := wp_neg h q39
    by_cases q40 : (r3.1 121 (ix a2)) = 222
    ·
      have h := wp_pos h q40
      refine rs_tsk (tg := 268) (off := 209) (v := 222) wi_333_59 q40 (by decide) (by decide) ⟨by decide, by decide⟩ ?_
      exact hj268 _ h _ l0 l2 l3
    have h := wp_neg h q40
    by_cases q41 : (r3.1 121 (ix a2)) = 223
    ·
      have h := wp_pos h q41
      refine rs_tsk (tg := 268) (off := 209) (v := 223) wi_333_59 q41 (by decide) (by decide) ⟨by decide, by decide⟩ ?_
      exact hj268 _ h _ l0 l2 l3
    have h := wp_neg h q41
    by_cases q42 : (r3.1 121 (ix a2)) = 224
    ·
      have h := wp_pos h q42
      refine rs_tsk (tg := 268) (off := 209) (v := 224) wi_333_59 q42 (by decide) (by decide) ⟨by decide, by decide⟩ ?_
      exact hj268 _ h _ l0 l2 l3
    have h := wp_neg h q42
    by_cases q43 : (r3.1 121 (ix a2)) = 225
    ·
      have h := wp_pos h q43
      refine rs_tsk (tg := 268) (off := 209) (v := 225) wi_333_59 q43 (by decide) (by decide) ⟨by decide, by decide⟩ ?_
      exact hj268 _ h _ l0 l2 l3
    have h := wp_neg h q43
    by_cases q44 : (r3.1 121 (ix a2)) = 226
    ·
      have h := wp_pos h q44
      refine rs_tsk (tg := 268) (off := 209) (v := 226) wi_333_59 q44 (by decide) (by decide) ⟨by decide, by decide⟩ ?_
      exact hj268 _ h _ l0 l2 l3
    have h := wp_neg h q44
    by_cases q45 : (r3.1 121 (ix a2)) = 227
    ·
      have h := wp_pos h q45
      refine rs_tsk (tg := 268) (off := 209) (v := 227) wi_333_59 q45 (by decide) (by decide) ⟨by decide, by decide⟩ ?_
      exact hj268 _ h _ l0 l2 l3
    have h := wp_neg h q45
    by_cases q46 : (r3.1 121 (ix a2)) = 228
    ·
      have h := wp_pos h q46
      refine rs_tsk (tg := 268) (off := 209) (v := 228) wi_333_59 q46 (by decide) (by decide) ⟨by decide, by decide⟩ ?_
      exact hj268 _ h _ l0 l2 l3
    have h := wp_neg h q46
    by_cases q47 : (r3.1 121 (ix a2)) = 229
    ·
      have h := wp_pos h q47
      refine rs_tsk (tg := 243) (off := 184) (v := 229) wi_333_59 q47 (by decide) (by decide) ⟨by decide, by decide⟩ ?_
      exact hj243 _ h _ l0 l2 l3
    have h := wp_neg h q47
    by_cases q48 : (r3.1 121 (ix a2)) = 230
    ·
      have h := wp_pos h q48
      refine rs_tsk (tg := 243) (off := 184) (v := 230) wi_333_59 q48 (by decide) (by decide) ⟨by decide, by decide⟩ ?_
      exact hj243 _ h _ l0 l2 l3
    have h := wp_neg h q48
    refine rs_tsd (tg := 268) wi_333_59 (rz_sw fun k k1 k2 => by
      have kk : k = 214 ∨ k = 215 ∨ k = 216 ∨ k = 217 ∨ k = 218 ∨ k = 219 ∨ k = 220 ∨ k = 221 ∨ k = 222 ∨ k = 223 ∨ k = 224 ∨ k = 225 ∨ k = 226 ∨ k = 227 ∨ k = 228 ∨ k = 229 ∨ k = 230 := by omega
      rcases kk with rfl | rfl | rfl | rfl | rfl | rfl | rfl | rfl | rfl | rfl | rfl | rfl | rfl | rfl | rfl | rfl | rfl
      · exact q28
      · exact q32
      · exact q34
      · exact q35
      · exact q36
      · exact q37
      · exact q38
      · exact q39
      · exact q40
      · exact q41
      · exact q42
      · exact q43
      · exact q44
      · exact q45
      · exact q46
      · exact q47
      · exact q48
      ) ⟨by decide, by decide⟩ ?_
    exact hj268 _ h _ l0 l2 l3
  refine rs_ifge (tg := 37) wi_333_1 ⟨by decide, by decide⟩ (fun q => ?_) (fun q => ?_)
  ·
    have h := wp_pos h q
    exact hj37 _ h _ l0 l1 l2 l3
  ·
    have h := wp_neg h q
    refine rs_aldn wi_333_4 l0 ?_
    refine dq_gr wi_333_5 wf_333_23 tf_172_4 ?_
    refine dq_gr wi_333_8 wf_333_248 tf_114_14 ?_
    refine rs_ildn wi_333_11 l2 ?_
    obtain ⟨g49, h⟩ := wp_gd h
    refine dq_lald wi_333_12 t_127 g49 ?_
    refine rs_pure wi_333_13 rfl ?_
    refine rs_topl (v := 0) (by decide) ?_
    refine rs_pure wi_333_14 rfl ?_
    refine rs_ifeq (tg := 37) wi_333_15 ⟨by decide, by decide⟩ (fun q => ?_) (fun q => ?_)
    ·
      have h := wp_pos h q
      exact hj37 _ h _ l0 l1 l2 l3
    ·
      have h := wp_neg h q
      refine rs_aldn wi_333_18 l0 ?_
      refine rs_aldn wi_333_19 l0 ?_
      refine dq_gr wi_333_20 wf_333_23 tf_172_4 ?_
      refine dq_gr wi_333_23 wf_333_248 tf_114_14 ?_
      refine rs_ildn wi_333_26 l2 ?_
      obtain ⟨g50, h⟩ := wp_gd h
      refine dq_lald wi_333_27 t_127 g50 ?_
      refine rs_V wi_333_28 wc_333_51 rfl (dq_isa tf_172_0 wa_12_320) (Nat.le_trans (by decide) hF) (ml_le wm_320 (Nat.le_trans (by decide) hLo)) rfl (sp_320 hw (Nat.le_trans (by decide : 2 ≤ 8 - 1) (Nat.sub_le_sub_right hF 1)) (ml_sub wm_320 (Nat.le_trans (by decide : 45 ≤ 178 - 22) (Nat.sub_le_sub_right hLo 22))) (wp_bind h) (fun r51 h => rs_back0 ?_))
      refine rs_aldn wi_333_31 l0 ?_
      refine rs_pure wi_333_32 rfl ?_
      refine rs_topi (v := 58) (by decide) ?_
      refine rs_V wi_333_34 wc_333_54 rfl (dq_isa tf_172_0 wa_12_322) (Nat.le_trans (by decide) hF) (ml_le wm_322 (Nat.le_trans (by decide) hLo)) rfl (sp_322 hw (Nat.le_trans (by decide : 1 ≤ 8 - 1) (Nat.sub_le_sub_right hF 1)) (ml_sub wm_322 (Nat.le_trans (by decide : 21 ≤ 178 - 21) (Nat.sub_le_sub_right hLo 21))) (wp_bind h) (fun r52 h => rs_back0 ?_))
      exact hj37 _ h _ l0 l1 l2 l3
end D46
