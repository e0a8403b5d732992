/-! THE CODE AS PURE PROGRAMS, 3: by wip/whole/dc.py -/
section D44
variable {sc : Nat × (Nat → Int32)} {fm : Value}
theorem wf_230_19 : rx_ft (rt_P sc fm) 230 19 = some (7, 2) := (by decide +kernel : rt_ft 230 19 = some (7, 2))
theorem wf_230_29 : rx_ft (rt_P sc fm) 230 29 = some (7, 5) := (by decide +kernel : rt_ft 230 29 = some (7, 5))
theorem wi_230_0 : ri (rt_P sc fm) 230 0 (.iconst 0) (1) := ri_of (by decide +kernel) rfl
theorem wi_230_1 : ri (rt_P sc fm) 230 1 (.istore 4) (3) := ri_of (by decide +kernel) rfl
theorem wi_230_10 : ri (rt_P sc fm) 230 10 (.iaload) (11) := ri_of (by decide +kernel) rfl
theorem wi_230_11 : ri (rt_P sc fm) 230 11 (.if_icmp .ge 32) (14) := ri_of (by decide +kernel) rfl
theorem wi_230_14 : ri (rt_P sc fm) 230 14 (.aload_n 0) (15) := ri_of (by decide +kernel) rfl
theorem wi_230_15 : ri (rt_P sc fm) 230 15 (.getfield 29) (18) := ri_of (by decide +kernel) rfl
theorem wi_230_18 : ri (rt_P sc fm) 230 18 (.iload_n 1) (19) := ri_of (by decide +kernel) rfl
theorem wi_230_19 : ri (rt_P sc fm) 230 19 (.iconst 4) (20) := ri_of (by decide +kernel) rfl
theorem wi_230_20 : ri (rt_P sc fm) 230 20 (.imul) (21) := ri_of (by decide +kernel) rfl
theorem wi_230_21 : ri (rt_P sc fm) 230 21 (.iload 4) (23) := ri_of (by decide +kernel) rfl
theorem wi_230_23 : ri (rt_P sc fm) 230 23 (.iadd) (24) := ri_of (by decide +kernel) rfl
theorem wi_230_24 : ri (rt_P sc fm) 230 24 (.laload) (25) := ri_of (by decide +kernel) rfl
theorem wi_230_25 : ri (rt_P sc fm) 230 25 (.lload_n 2) (26) := ri_of (by decide +kernel) rfl
theorem wi_230_26 : ri (rt_P sc fm) 230 26 (.lcmp) (27) := ri_of (by decide +kernel) rfl
theorem wi_230_27 : ri (rt_P sc fm) 230 27 (.ifCond .ne 10) (30) := ri_of (by decide +kernel) rfl
theorem wi_230_3 : ri (rt_P sc fm) 230 3 (.iload 4) (5) := ri_of (by decide +kernel) rfl
theorem wi_230_30 : ri (rt_P sc fm) 230 30 (.iload_n 1) (31) := ri_of (by decide +kernel) rfl
theorem wi_230_31 : ri (rt_P sc fm) 230 31 (.iconst 4) (32) := ri_of (by decide +kernel) rfl
theorem wi_230_32 : ri (rt_P sc fm) 230 32 (.imul) (33) := ri_of (by decide +kernel) rfl
theorem wi_230_33 : ri (rt_P sc fm) 230 33 (.iload 4) (35) := ri_of (by decide +kernel) rfl
theorem wi_230_35 : ri (rt_P sc fm) 230 35 (.iadd) (36) := ri_of (by decide +kernel) rfl
theorem wi_230_36 : ri (rt_P sc fm) 230 36 (.ireturn) (37) := ri_of (by decide +kernel) rfl
theorem wi_230_37 : ri (rt_P sc fm) 230 37 (.iinc 4 1) (40) := ri_of (by decide +kernel) rfl
theorem wi_230_40 : ri (rt_P sc fm) 230 40 (.goto (-37)) (43) := ri_of (by decide +kernel) rfl
theorem wi_230_43 : ri (rt_P sc fm) 230 43 (.iconst (-1)) (44) := ri_of (by decide +kernel) rfl
theorem wi_230_44 : ri (rt_P sc fm) 230 44 (.ireturn) (45) := ri_of (by decide +kernel) rfl
theorem wi_230_5 : ri (rt_P sc fm) 230 5 (.aload_n 0) (6) := ri_of (by decide +kernel) rfl
theorem wi_230_6 : ri (rt_P sc fm) 230 6 (.getfield 19) (9) := ri_of (by decide +kernel) rfl
theorem wi_230_9 : ri (rt_P sc fm) 230 9 (.iload_n 1) (10) := ri_of (by decide +kernel) rfl
theorem wr_230 : rx_rt (rt_P sc fm) 230 = (some FieldType.int) := (by decide +kernel : rt_rt 230 = (some FieldType.int))
/-- MarkHouse$Marks.pairOf(IJ)I -/
def d_230 (n : Nat) (a1 : Int32) (a2 : Int64) (c : cS) : Option (Int32) :=
  Option.bind (whl (R := (Unit) ⊕ (Int32)) (fun s2 : Int32 =>
    if ib a1 4096 then
    if (c.1 136 (ix a1)) ≤ s2 then
      some (.inr (.inl ()))
    else
      if ib ((a1 * 4) + s2) 16384 then
      if (lg_cmp (c.2 139 (ix ((a1 * 4) + s2))) a2) = 0 then
        some (.inr (.inr s2))
      else
        lt (s2 + 1 : Int32) (fun v6 =>
        some (.inl v6))
      else none
    else none) n 0)
  (Sum.elim (fun x8 : Unit =>
    some (-1))
  (fun x9 : Int32 =>
    some ((a1 * 4) + x9)))
theorem sp_230 {F Lo n : Nat} {a1 : Int32} {a2 : Int64} {c y : cS} {w : cW} {K : Int32 → Prop} {Q : ((Option Value) ⊕ String) → List va_E → Prop} (hw : rOK fm w) (hF : 0 ≤ F) (hLo : 0 ≤ Lo)  (h : wp (d_230 n a1 a2 c) K) (hQ : ∀ r, K r → Q (.inl (some (.int r))) (hq true c y w)) : rs (rt_P sc fm) 230 F Lo 0 [(0, .ref 133), (1, .int a1), (2, .long a2)] [] (hq true c y w) Q := by
  unfold d_230 at h
  obtain ⟨lv, elv⟩ : ∃ lv : rx_L, lv = [(0, .ref 133), (1, .int a1), (2, .long a2)] := ⟨_, rfl⟩
  rw [← elv]
  have l0 : rx_ld lv 0 = some (.ref 133) := by rw [elv]; rfl
  have l1 : rx_ld lv 1 = some (.int a1) := by rw [elv]; rfl
  have l2 : rx_ld lv 2 = some (.long a2) := by rw [elv]; rfl
  refine rs_pure wi_230_0 rfl ?_
  refine rs_topi (v := 0) (by decide) ?_
  refine dl_ist wi_230_1 rfl (fun lv l4 t1 => ?_)
  have l0 := t1 _ _ (by decide) (Or.inl rfl) l0
  have l1 := t1 _ _ (by decide) (Or.inl rfl) l1
  have l2 := t1 _ _ (by decide) (Or.inr (by decide)) l2
  refine whl_ex (A := fun s2 : Int32 => ∀ lv, rx_ld lv 0 = some (.ref 133) → rx_ld lv 1 = some (.int a1) → rx_ld lv 2 = some (.long a2) → rx_ld lv 4 = some (.int s2) → rs (rt_P sc fm) 230 F Lo 3 lv [] (hq true c y w) Q) (B := (Sum.elim (fun x8 : Unit => ∀ lv, rs (rt_P sc fm) 230 F Lo 43 lv [] (hq true c y w) Q) (fun x9 : Int32 => ∀ lv, rx_ld lv 1 = some (.int a1) → rx_ld lv 4 = some (.int x9) → rs (rt_P sc fm) 230 F Lo 30 lv [] (hq true c y w) Q))) ?_ ?_ _ _ (wp_bind h) _ l0 l1 l2 l4
  · intro s2 h lv l0 l1 l2 l4
    refine rs_ild wi_230_3 l4 ?_
    refine rs_aldn wi_230_5 l0 ?_
    refine dq_gr wi_230_6 wf_230_19 tf_133_2 ?_
    refine rs_ildn wi_230_9 l1 ?_
    obtain ⟨g3, h⟩ := wp_gd h
    refine dq_iald wi_230_10 t_136 g3 ?_
    refine rs_icge (tg := 43) wi_230_11 ⟨by decide, by decide⟩ (fun q => ?_) (fun q => ?_)
    ·
      have h := wp_pos h q
      exact h _
    ·
      have h := wp_neg h q
      refine rs_aldn wi_230_14 l0 ?_
      refine dq_gr wi_230_15 wf_230_29 tf_133_5 ?_
      refine rs_ildn wi_230_18 l1 ?_
      refine rs_pure wi_230_19 rfl ?_
      refine rs_topi (v := 4) (by decide) ?_
      refine rs_pure wi_230_20 rfl ?_
      refine rs_ild wi_230_21 l4 ?_
      refine rs_pure wi_230_23 rfl ?_
      obtain ⟨g4, h⟩ := wp_gd h
      refine dq_lald wi_230_24 t_139 g4 ?_
      refine rs_lldn wi_230_25 l2 ?_
      refine rs_pure wi_230_26 rfl ?_
      refine rs_ifne (tg := 37) wi_230_27 ⟨by decide, by decide⟩ (fun q => ?_) (fun q => ?_)
      ·
        have h := wp_neg h q
        obtain ⟨v6, e7, h⟩ := wp_lt h
        refine dl_inc wi_230_37 l4 rfl e7 (fun lv l4 t5 => ?_)
        have l0 := t5 _ _ (by decide) (Or.inl rfl) l0
        have l1 := t5 _ _ (by decide) (Or.inl rfl) l1
        have l2 := t5 _ _ (by decide) (Or.inr (by decide)) l2
        refine rs_goto (tg := 3) wi_230_40 ⟨by decide, by decide⟩ ?_
        exact h _ l0 l1 l2 l4
      ·
        have h := wp_pos h q
        exact h _ l1 l4
  ·
    refine sum_all ?_ ?_
    ·
      intro x8 h lv
      have h := wp_inl h
      refine rs_pure wi_230_43 rfl ?_
      refine rs_topi (v := (-1)) (by decide) ?_
      exact rs_iret wi_230_44 wr_230 rfl (hQ (-1) h)
    ·
      intro x9 h lv l1 l4
      have h := wp_inr h
      refine rs_ildn wi_230_30 l1 ?_
      refine rs_pure wi_230_31 rfl ?_
      refine rs_topi (v := 4) (by decide) ?_
      refine rs_pure wi_230_32 rfl ?_
      refine rs_ild wi_230_33 l4 ?_
      refine rs_pure wi_230_35 rfl ?_
      exact rs_iret wi_230_36 wr_230 rfl (hQ ((a1 * 4) + x9) h)
theorem wa_7_230 : rz_cn 7 (rx_yn (rt_P sc fm) 230).cls = true := (by decide +kernel : rz_cn 7 (rt_yn 230).cls = true)
theorem wc_232_78 : rx_ct (rt_P sc fm) 232 78 = some (0, 230, 2) := (by decide +kernel : rt_ct 232 78 = some (0, 230, 2))
theorem wf_232_32 : rx_ft (rt_P sc fm) 232 32 = some (7, 6) := (by decide +kernel : rt_ft 232 32 = some (7, 6))
theorem wf_232_87 : rx_ft (rt_P sc fm) 232 87 = some (6, 2) := (by decide +kernel : rt_ft 232 87 = some (6, 2))
theorem wf_232_92 : rx_ft (rt_P sc fm) 232 92 = some (6, 4) := (by decide +kernel : rt_ft 232 92 = some (6, 4))
theorem wf_232_95 : rx_ft (rt_P sc fm) 232 95 = some (6, 3) := (by decide +kernel : rt_ft 232 95 = some (6, 3))
theorem wi_232_0 : ri (rt_P sc fm) 232 0 (.aload_n 0) (1) := ri_of (by decide +kernel) rfl
theorem wi_232_1 : ri (rt_P sc fm) 232 1 (.iload_n 1) (2) := ri_of (by decide +kernel) rfl
theorem wi_232_11 : ri (rt_P sc fm) 232 11 (.istore 4) (13) := ri_of (by decide +kernel) rfl
theorem wi_232_13 : ri (rt_P sc fm) 232 13 (.iload 4) (15) := ri_of (by decide +kernel) rfl
theorem wi_232_15 : ri (rt_P sc fm) 232 15 (.ifCond .ge 24) (18) := ri_of (by decide +kernel) rfl
theorem wi_232_18 : ri (rt_P sc fm) 232 18 (.aload_n 2) (19) := ri_of (by decide +kernel) rfl
theorem wi_232_19 : ri (rt_P sc fm) 232 19 (.getfield 92) (22) := ri_of (by decide +kernel) rfl
theorem wi_232_2 : ri (rt_P sc fm) 232 2 (.aload_n 2) (3) := ri_of (by decide +kernel) rfl
theorem wi_232_22 : ri (rt_P sc fm) 232 22 (.iload_n 3) (23) := ri_of (by decide +kernel) rfl
theorem wi_232_23 : ri (rt_P sc fm) 232 23 (.baload) (24) := ri_of (by decide +kernel) rfl
theorem wi_232_24 : ri (rt_P sc fm) 232 24 (.ifCond .eq 12) (27) := ri_of (by decide +kernel) rfl
theorem wi_232_27 : ri (rt_P sc fm) 232 27 (.aload_n 2) (28) := ri_of (by decide +kernel) rfl
theorem wi_232_28 : ri (rt_P sc fm) 232 28 (.getfield 95) (31) := ri_of (by decide +kernel) rfl
theorem wi_232_3 : ri (rt_P sc fm) 232 3 (.getfield 87) (6) := ri_of (by decide +kernel) rfl
theorem wi_232_31 : ri (rt_P sc fm) 232 31 (.iload_n 3) (32) := ri_of (by decide +kernel) rfl
theorem wi_232_32 : ri (rt_P sc fm) 232 32 (.iaload) (33) := ri_of (by decide +kernel) rfl
theorem wi_232_33 : ri (rt_P sc fm) 232 33 (.goto 5) (36) := ri_of (by decide +kernel) rfl
theorem wi_232_36 : ri (rt_P sc fm) 232 36 (.bipush (-3)) (38) := ri_of (by decide +kernel) rfl
theorem wi_232_38 : ri (rt_P sc fm) 232 38 (.ireturn) (39) := ri_of (by decide +kernel) rfl
theorem wi_232_39 : ri (rt_P sc fm) 232 39 (.aload_n 0) (40) := ri_of (by decide +kernel) rfl
theorem wi_232_40 : ri (rt_P sc fm) 232 40 (.getfield 32) (43) := ri_of (by decide +kernel) rfl
theorem wi_232_43 : ri (rt_P sc fm) 232 43 (.iload 4) (45) := ri_of (by decide +kernel) rfl
theorem wi_232_45 : ri (rt_P sc fm) 232 45 (.baload) (46) := ri_of (by decide +kernel) rfl
theorem wi_232_46 : ri (rt_P sc fm) 232 46 (.aload_n 2) (47) := ri_of (by decide +kernel) rfl
theorem wi_232_47 : ri (rt_P sc fm) 232 47 (.getfield 95) (50) := ri_of (by decide +kernel) rfl
theorem wi_232_50 : ri (rt_P sc fm) 232 50 (.iload_n 3) (51) := ri_of (by decide +kernel) rfl
theorem wi_232_51 : ri (rt_P sc fm) 232 51 (.iaload) (52) := ri_of (by decide +kernel) rfl
theorem wi_232_52 : ri (rt_P sc fm) 232 52 (.if_icmp .ne 12) (55) := ri_of (by decide +kernel) rfl
theorem wi_232_55 : ri (rt_P sc fm) 232 55 (.aload_n 2) (56) := ri_of (by decide +kernel) rfl
theorem wi_232_56 : ri (rt_P sc fm) 232 56 (.getfield 95) (59) := ri_of (by decide +kernel) rfl
theorem wi_232_59 : ri (rt_P sc fm) 232 59 (.iload_n 3) (60) := ri_of (by decide +kernel) rfl
theorem wi_232_6 : ri (rt_P sc fm) 232 6 (.iload_n 3) (7) := ri_of (by decide +kernel) rfl
theorem wi_232_60 : ri (rt_P sc fm) 232 60 (.iaload) (61) := ri_of (by decide +kernel) rfl
theorem wi_232_61 : ri (rt_P sc fm) 232 61 (.goto 5) (64) := ri_of (by decide +kernel) rfl
theorem wi_232_64 : ri (rt_P sc fm) 232 64 (.bipush (-2)) (66) := ri_of (by decide +kernel) rfl
theorem wi_232_66 : ri (rt_P sc fm) 232 66 (.ireturn) (67) := ri_of (by decide +kernel) rfl
theorem wi_232_7 : ri (rt_P sc fm) 232 7 (.laload) (8) := ri_of (by decide +kernel) rfl
theorem wi_232_8 : ri (rt_P sc fm) 232 8 (.invokevirtual 78) (11) := ri_of (by decide +kernel) rfl
theorem wm_230 : rx_ml (rt_P sc fm) 230 = 5 := (by decide +kernel : rt_ml 230 = 5)
theorem wr_232 : rx_rt (rt_P sc fm) 232 = (some FieldType.int) := (by decide +kernel : rt_rt 232 = (some FieldType.int))
/-- MarkHouse$Marks.memberSort(ILMarkHouse$Kind;I)I -/
def d_232 (n : Nat) (a1 : Int32) (k2 : Nat) (a3 : Int32) (c : cS) : Option (Int32) :=
  if ib a3 4 then
  Option.bind (d_230 n a1 (c.2 (kA k2 + 1) (ix a3)) c) (fun v2 =>
  if 0 ≤ v2 then
    if ib v2 16384 then
    if ib a3 4 then
    jn (fun p6 : Int32 =>
      some p6)
    (fun j66 =>
    if (c.1 140 (ix v2)) = (c.1 (kA k2 + 2) (ix a3)) then
      if ib a3 4 then
      j66 (c.1 (kA k2 + 2) (ix a3))
      else none
    else
      j66 (-2))
    else none
    else none
  else
    if ib a3 4 then
    jn (fun p9 : Int32 =>
      some p9)
    (fun j38 =>
    if (c.1 (kA k2 + 3) (ix a3)) = 0 then
      j38 (-3)
    else
      if ib a3 4 then
      j38 (c.1 (kA k2 + 2) (ix a3))
      else none)
    else none)
  else none
theorem sp_232 {F Lo n : Nat} {a1 : Int32} {k2 : Nat} {a3 : Int32} {c y : cS} {w : cW} {K : Int32 → Prop} {Q : ((Option Value) ⊕ String) → List va_E → Prop} (hw : rOK fm w) (hF : 1 ≤ F) (hLo : 24 ≤ Lo) (hk2 : k2 < 12) (h : wp (d_232 n a1 k2 a3 c) K) (hQ : ∀ r, K r → Q (.inl (some (.int r))) (hq true c y w)) : rs (rt_P sc fm) 232 F Lo 0 [(0, .ref 133), (1, .int a1), (2, .ref (kA k2)), (3, .int a3)] [] (hq true c y w) Q := by
  unfold d_232 at h
  obtain ⟨lv, elv⟩ : ∃ lv : rx_L, lv = [(0, .ref 133), (1, .int a1), (2, .ref (kA k2)), (3, .int a3)] := ⟨_, rfl⟩
  rw [← elv]
  have l0 : rx_ld lv 0 = some (.ref 133) := by rw [elv]; rfl
  have l1 : rx_ld lv 1 = some (.int a1) := by rw [elv]; rfl
  have l2 : rx_ld lv 2 = some (.ref (kA k2)) := by rw [elv]; rfl
  have l3 : rx_ld lv 3 = some (.int a3) := by rw [elv]; rfl
  refine rs_aldn wi_232_0 l0 ?_
  refine rs_ildn wi_232_1 l1 ?_
  refine rs_aldn wi_232_2 l2 ?_
  refine dq_gr wi_232_3 wf_232_87 (fK_2 hk2) ?_
  refine rs_ildn wi_232_6 l3 ?_
  obtain ⟨g1, h⟩ := wp_gd h
  refine dq_lald wi_232_7 (tK_1 hk2) g1 ?_
  refine rs_V wi_232_8 wc_232_78 rfl (dq_isa tf_133_0 wa_7_230) (Nat.le_trans (by decide) hF) (ml_le wm_230 (Nat.le_trans (by decide) hLo)) rfl (sp_230 hw (Nat.le_trans (by decide : 0 ≤ 1 - 1) (Nat.sub_le_sub_right hF 1)) (ml_sub wm_230 (Nat.le_trans (by decide : 0 ≤ 24 - 24) (Nat.sub_le_sub_right hLo 24))) (wp_bind h) (fun v2 h => rs_back1 ?_))
  refine dl_ist wi_232_11 rfl (fun lv l4 t3 => ?_)
  have l0 := t3 _ _ (by decide) (Or.inl rfl) l0
  have l2 := t3 _ _ (by decide) (Or.inl rfl) l2
  have l3 := t3 _ _ (by decide) (Or.inl rfl) l3
  refine rs_ild wi_232_13 l4 ?_
  refine rs_ifge (tg := 39) wi_232_15 ⟨by decide, by decide⟩ (fun q => ?_) (fun q => ?_)
  ·
    have h := wp_pos h q
    refine rs_aldn wi_232_39 l0 ?_
    refine dq_gr wi_232_40 wf_232_32 tf_133_6 ?_
    refine rs_ild wi_232_43 l4 ?_
    obtain ⟨g4, h⟩ := wp_gd h
    refine dq_bald wi_232_45 t_140 g4 ?_
    refine rs_aldn wi_232_46 l2 ?_
    refine dq_gr wi_232_47 wf_232_95 (fK_3 hk2) ?_
    refine rs_ildn wi_232_50 l3 ?_
    obtain ⟨g5, h⟩ := wp_gd h
    refine dq_iald wi_232_51 (tK_2 hk2) g5 ?_
    refine wp_jn (B := fun p6 : Int32 => ∀ lv, rs (rt_P sc fm) 232 F Lo 66 lv [.int p6] (hq true c y w) Q) h (fun p6 h lv => ?_) (fun j66 hj66 h => ?_)
    ·
      exact rs_iret wi_232_66 wr_232 rfl (hQ p6 h)
    refine rs_icne (tg := 64) wi_232_52 ⟨by decide, by decide⟩ (fun q => ?_) (fun q => ?_)
    ·
      have h := wp_neg h q
      refine rs_pure wi_232_64 rfl ?_
      refine rs_topi (v := (-2)) (by decide) ?_
      exact hj66 _ h _
    ·
      have h := wp_pos h q
      refine rs_aldn wi_232_55 l2 ?_
      refine dq_gr wi_232_56 wf_232_95 (fK_3 hk2) ?_
      refine rs_ildn wi_232_59 l3 ?_
      obtain ⟨g7, h⟩ := wp_gd h
      refine dq_iald wi_232_60 (tK_2 hk2) g7 ?_
      refine rs_goto (tg := 66) wi_232_61 ⟨by decide, by decide⟩ ?_
      exact hj66 _ h _
  ·
    have h := wp_neg h q
    refine rs_aldn wi_232_18 l2 ?_
    refine dq_gr wi_232_19 wf_232_92 (fK_4 hk2) ?_
    refine rs_ildn wi_232_22 l3 ?_
    obtain ⟨g8, h⟩ := wp_gd h
    refine dq_zald wi_232_23 (tK_3 hk2) g8 ?_
    refine wp_jn (B := fun p9 : Int32 => ∀ lv, rs (rt_P sc fm) 232 F Lo 38 lv [.int p9] (hq true c y w) Q) h (fun p9 h lv => ?_) (fun j38 hj38 h => ?_)
    ·
      exact rs_iret wi_232_38 wr_232 rfl (hQ p9 h)
    refine rs_ifeq (tg := 36) wi_232_24 ⟨by decide, by decide⟩ (fun q => ?_) (fun q => ?_)
    ·
      have h := wp_pos h q
      refine rs_pure wi_232_36 rfl ?_
      refine rs_topi (v := (-3)) (by decide) ?_
      exact hj38 _ h _
    ·
      have h := wp_neg h q
      refine rs_aldn wi_232_27 l2 ?_
      refine dq_gr wi_232_28 wf_232_95 (fK_3 hk2) ?_
      refine rs_ildn wi_232_31 l3 ?_
      obtain ⟨g10, h⟩ := wp_gd h
      refine dq_iald wi_232_32 (tK_2 hk2) g10 ?_
      refine rs_goto (tg := 38) wi_232_33 ⟨by decide, by decide⟩ ?_
      exact hj38 _ h _
theorem wa_7_225 : rz_cn 7 (rx_yn (rt_P sc fm) 225).cls = true := (by decide +kernel : rz_cn 7 (rt_yn 225).cls = true)
theorem wa_7_232 : rz_cn 7 (rx_yn (rt_P sc fm) 232).cls = true := (by decide +kernel : rz_cn 7 (rt_yn 232).cls = true)
theorem wc_277_114 : rx_ct (rt_P sc fm) 277 114 = some (0, 257, 1) := (by decide +kernel : rt_ct 277 114 = some (0, 257, 1))
theorem wc_277_149 : rx_ct (rt_P sc fm) 277 149 = some (0, 258, 1) := (by decide +kernel : rt_ct 277 149 = some (0, 258, 1))
theorem wc_277_200 : rx_ct (rt_P sc fm) 277 200 = some (0, 218, 1) := (by decide +kernel : rt_ct 277 200 = some (0, 218, 1))
theorem wc_277_207 : rx_ct (rt_P sc fm) 277 207 = some (0, 278, 1) := (by decide +kernel : rt_ct 277 207 = some (0, 278, 1))
theorem wc_277_328 : rx_ct (rt_P sc fm) 277 328 = some (0, 225, 4) := (by decide +kernel : rt_ct 277 328 = some (0, 225, 4))
theorem wc_277_359 : rx_ct (rt_P sc fm) 277 359 = some (0, 230, 2) := (by decide +kernel : rt_ct 277 359 = some (0, 230, 2))
theorem wc_277_362 : rx_ct (rt_P sc fm) 277 362 = some (0, 232, 3) := (by decide +kernel : rt_ct 277 362 = some (0, 232, 3))
theorem wc_277_61 : rx_ct (rt_P sc fm) 277 61 = some (0, 41, 2) := (by decide +kernel : rt_ct 277 61 = some (0, 41, 2))
theorem wc_277_79 : rx_ct (rt_P sc fm) 277 79 = some (0, 42, 0) := (by decide +kernel : rt_ct 277 79 = some (0, 42, 0))
theorem wc_277_89 : rx_ct (rt_P sc fm) 277 89 = some (0, 259, 0) := (by decide +kernel : rt_ct 277 89 = some (0, 259, 0))
theorem wf_277_203 : rx_ft (rt_P sc fm) 277 203 = some (6, 1) := (by decide +kernel : rt_ft 277 203 = some (6, 1))
theorem wf_277_215 : rx_ft (rt_P sc fm) 277 215 = some (6, 3) := (by decide +kernel : rt_ft 277 215 = some (6, 3))
theorem wf_277_23 : rx_ft (rt_P sc fm) 277 23 = some (10, 3) := (by decide +kernel : rt_ft 277 23 = some (10, 3))
theorem wf_277_49 : rx_ft (rt_P sc fm) 277 49 = some (10, 7) := (by decide +kernel : rt_ft 277 49 = some (10, 7))
theorem wf_277_72 : rx_ft (rt_P sc fm) 277 72 = some (3, 3) := (by decide +kernel : rt_ft 277 72 = some (3, 3))
theorem wf_277_9 : rx_ft (rt_P sc fm) 277 9 = some (10, 0) := (by decide +kernel : rt_ft 277 9 = some (10, 0))
theorem wh0_277_104 : rx_ht (rt_P sc fm) 277 104 "java/lang/IllegalArgumentException" = none := (by decide +kernel : rt_ht 277 104 "java/lang/IllegalArgumentException" = none)
theorem wh0_277_129 : rx_ht (rt_P sc fm) 277 129 "java/lang/IllegalArgumentException" = none := (by decide +kernel : rt_ht 277 129 "java/lang/IllegalArgumentException" = none)
theorem wh0_277_152 : rx_ht (rt_P sc fm) 277 152 "java/lang/IllegalArgumentException" = none := (by decide +kernel : rt_ht 277 152 "java/lang/IllegalArgumentException" = none)
theorem wh0_277_187 : rx_ht (rt_P sc fm) 277 187 "java/lang/IllegalArgumentException" = none := (by decide +kernel : rt_ht 277 187 "java/lang/IllegalArgumentException" = none)
theorem wh0_277_42 : rx_ht (rt_P sc fm) 277 42 "java/lang/IllegalArgumentException" = none := (by decide +kernel : rt_ht 277 42 "java/lang/IllegalArgumentException" = none)
theorem wh0_277_66 : rx_ht (rt_P sc fm) 277 66 "java/lang/IllegalArgumentException" = none := (by decide +kernel : rt_ht 277 66 "java/lang/IllegalArgumentException" = none)
theorem wh0_277_88 : rx_ht (rt_P sc fm) 277 88 "java/lang/IllegalArgumentException" = none := (by decide +kernel : rt_ht 277 88 "java/lang/IllegalArgumentException" = none)
theorem whh_277 : rx_hh (rt_P sc fm) 277 = [] := (by decide +kernel : rt_hh 277 = [])
theorem wi_277_0 : ri (rt_P sc fm) 277 0 (.aload_n 0) (1) := ri_of (by decide +kernel) rfl
theorem wi_277_1 : ri (rt_P sc fm) 277 1 (.getfield 9) (4) := ri_of (by decide +kernel) rfl
theorem wi_277_101 : ri (rt_P sc fm) 277 101 (.aload_n 0) (102) := ri_of (by decide +kernel) rfl
theorem wi_277_102 : ri (rt_P sc fm) 277 102 (.bipush 61) (104) := ri_of (by decide +kernel) rfl
theorem wi_277_104 : ri (rt_P sc fm) 277 104 (.invokevirtual 114) (107) := ri_of (by decide +kernel) rfl
theorem wi_277_107 : ri (rt_P sc fm) 277 107 (.aload_n 0) (108) := ri_of (by decide +kernel) rfl
theorem wi_277_108 : ri (rt_P sc fm) 277 108 (.getfield 23) (111) := ri_of (by decide +kernel) rfl
theorem wi_277_11 : ri (rt_P sc fm) 277 11 (.iconst 1) (12) := ri_of (by decide +kernel) rfl
theorem wi_277_111 : ri (rt_P sc fm) 277 111 (.iload_n 1) (112) := ri_of (by decide +kernel) rfl
theorem wi_277_112 : ri (rt_P sc fm) 277 112 (.lload 6) (114) := ri_of (by decide +kernel) rfl
theorem wi_277_114 : ri (rt_P sc fm) 277 114 (.aload_n 2) (115) := ri_of (by decide +kernel) rfl
theorem wi_277_115 : ri (rt_P sc fm) 277 115 (.getfield 215) (118) := ri_of (by decide +kernel) rfl
theorem wi_277_118 : ri (rt_P sc fm) 277 118 (.iload 8) (120) := ri_of (by decide +kernel) rfl
theorem wi_277_12 : ri (rt_P sc fm) 277 12 (.isub) (13) := ri_of (by decide +kernel) rfl
theorem wi_277_120 : ri (rt_P sc fm) 277 120 (.iaload) (121) := ri_of (by decide +kernel) rfl
theorem wi_277_121 : ri (rt_P sc fm) 277 121 (.aload_n 0) (122) := ri_of (by decide +kernel) rfl
theorem wi_277_122 : ri (rt_P sc fm) 277 122 (.aload_n 2) (123) := ri_of (by decide +kernel) rfl
theorem wi_277_123 : ri (rt_P sc fm) 277 123 (.getfield 215) (126) := ri_of (by decide +kernel) rfl
theorem wi_277_126 : ri (rt_P sc fm) 277 126 (.iload 8) (128) := ri_of (by decide +kernel) rfl
theorem wi_277_128 : ri (rt_P sc fm) 277 128 (.iaload) (129) := ri_of (by decide +kernel) rfl
theorem wi_277_129 : ri (rt_P sc fm) 277 129 (.invokevirtual 207) (132) := ri_of (by decide +kernel) rfl
theorem wi_277_13 : ri (rt_P sc fm) 277 13 (.iaload) (14) := ri_of (by decide +kernel) rfl
theorem wi_277_132 : ri (rt_P sc fm) 277 132 (.invokevirtual 328) (135) := ri_of (by decide +kernel) rfl
theorem wi_277_135 : ri (rt_P sc fm) 277 135 (.aload_n 0) (136) := ri_of (by decide +kernel) rfl
theorem wi_277_136 : ri (rt_P sc fm) 277 136 (.bipush 44) (138) := ri_of (by decide +kernel) rfl
theorem wi_277_138 : ri (rt_P sc fm) 277 138 (.invokevirtual 149) (141) := ri_of (by decide +kernel) rfl
theorem wi_277_14 : ri (rt_P sc fm) 277 14 (.istore_n 3) (15) := ri_of (by decide +kernel) rfl
theorem wi_277_141 : ri (rt_P sc fm) 277 141 (.istore 4) (143) := ri_of (by decide +kernel) rfl
theorem wi_277_143 : ri (rt_P sc fm) 277 143 (.iinc 5 1) (146) := ri_of (by decide +kernel) rfl
theorem wi_277_146 : ri (rt_P sc fm) 277 146 (.goto (-116)) (149) := ri_of (by decide +kernel) rfl
theorem wi_277_149 : ri (rt_P sc fm) 277 149 (.aload_n 0) (150) := ri_of (by decide +kernel) rfl
theorem wi_277_15 : ri (rt_P sc fm) 277 15 (.aload_n 0) (16) := ri_of (by decide +kernel) rfl
theorem wi_277_150 : ri (rt_P sc fm) 277 150 (.bipush 41) (152) := ri_of (by decide +kernel) rfl
theorem wi_277_152 : ri (rt_P sc fm) 277 152 (.invokevirtual 114) (155) := ri_of (by decide +kernel) rfl
theorem wi_277_155 : ri (rt_P sc fm) 277 155 (.iconst 0) (156) := ri_of (by decide +kernel) rfl
theorem wi_277_156 : ri (rt_P sc fm) 277 156 (.istore 4) (158) := ri_of (by decide +kernel) rfl
theorem wi_277_158 : ri (rt_P sc fm) 277 158 (.iload 4) (160) := ri_of (by decide +kernel) rfl
theorem wi_277_16 : ri (rt_P sc fm) 277 16 (.bipush 40) (18) := ri_of (by decide +kernel) rfl
theorem wi_277_160 : ri (rt_P sc fm) 277 160 (.aload_n 2) (161) := ri_of (by decide +kernel) rfl
theorem wi_277_161 : ri (rt_P sc fm) 277 161 (.getfield 203) (164) := ri_of (by decide +kernel) rfl
theorem wi_277_164 : ri (rt_P sc fm) 277 164 (.if_icmp .ge 32) (167) := ri_of (by decide +kernel) rfl
theorem wi_277_167 : ri (rt_P sc fm) 277 167 (.aload_n 0) (168) := ri_of (by decide +kernel) rfl
theorem wi_277_168 : ri (rt_P sc fm) 277 168 (.getfield 23) (171) := ri_of (by decide +kernel) rfl
theorem wi_277_171 : ri (rt_P sc fm) 277 171 (.iload_n 1) (172) := ri_of (by decide +kernel) rfl
theorem wi_277_172 : ri (rt_P sc fm) 277 172 (.aload_n 2) (173) := ri_of (by decide +kernel) rfl
theorem wi_277_173 : ri (rt_P sc fm) 277 173 (.iload 4) (175) := ri_of (by decide +kernel) rfl
theorem wi_277_175 : ri (rt_P sc fm) 277 175 (.invokevirtual 362) (178) := ri_of (by decide +kernel) rfl
theorem wi_277_178 : ri (rt_P sc fm) 277 178 (.bipush (-3)) (180) := ri_of (by decide +kernel) rfl
theorem wi_277_18 : ri (rt_P sc fm) 277 18 (.invokevirtual 149) (21) := ri_of (by decide +kernel) rfl
theorem wi_277_180 : ri (rt_P sc fm) 277 180 (.if_icmp .ne 10) (183) := ri_of (by decide +kernel) rfl
theorem wi_277_183 : ri (rt_P sc fm) 277 183 (.aload_n 0) (184) := ri_of (by decide +kernel) rfl
theorem wi_277_184 : ri (rt_P sc fm) 277 184 (.bipush 7) (186) := ri_of (by decide +kernel) rfl
theorem wi_277_186 : ri (rt_P sc fm) 277 186 (.iload_n 3) (187) := ri_of (by decide +kernel) rfl
theorem wi_277_187 : ri (rt_P sc fm) 277 187 (.invokevirtual 61) (190) := ri_of (by decide +kernel) rfl
theorem wi_277_190 : ri (rt_P sc fm) 277 190 (.iinc 4 1) (193) := ri_of (by decide +kernel) rfl
theorem wi_277_193 : ri (rt_P sc fm) 277 193 (.goto (-35)) (196) := ri_of (by decide +kernel) rfl
theorem wi_277_196 : ri (rt_P sc fm) 277 196 (.return_) (197) := ri_of (by decide +kernel) rfl
theorem wi_277_21 : ri (rt_P sc fm) 277 21 (.ifCond .eq 134) (24) := ri_of (by decide +kernel) rfl
theorem wi_277_24 : ri (rt_P sc fm) 277 24 (.iconst 1) (25) := ri_of (by decide +kernel) rfl
theorem wi_277_25 : ri (rt_P sc fm) 277 25 (.istore 4) (27) := ri_of (by decide +kernel) rfl
theorem wi_277_27 : ri (rt_P sc fm) 277 27 (.iconst 0) (28) := ri_of (by decide +kernel) rfl
theorem wi_277_28 : ri (rt_P sc fm) 277 28 (.istore 5) (30) := ri_of (by decide +kernel) rfl
theorem wi_277_30 : ri (rt_P sc fm) 277 30 (.iload 5) (32) := ri_of (by decide +kernel) rfl
theorem wi_277_32 : ri (rt_P sc fm) 277 32 (.iconst 4) (33) := ri_of (by decide +kernel) rfl
theorem wi_277_33 : ri (rt_P sc fm) 277 33 (.if_icmp .gt 116) (36) := ri_of (by decide +kernel) rfl
theorem wi_277_36 : ri (rt_P sc fm) 277 36 (.iload 4) (38) := ri_of (by decide +kernel) rfl
theorem wi_277_38 : ri (rt_P sc fm) 277 38 (.ifCond .eq 111) (41) := ri_of (by decide +kernel) rfl
theorem wi_277_4 : ri (rt_P sc fm) 277 4 (.getfield 72) (7) := ri_of (by decide +kernel) rfl
theorem wi_277_41 : ri (rt_P sc fm) 277 41 (.aload_n 0) (42) := ri_of (by decide +kernel) rfl
theorem wi_277_42 : ri (rt_P sc fm) 277 42 (.invokevirtual 89) (45) := ri_of (by decide +kernel) rfl
theorem wi_277_45 : ri (rt_P sc fm) 277 45 (.lstore 6) (47) := ri_of (by decide +kernel) rfl
theorem wi_277_47 : ri (rt_P sc fm) 277 47 (.aload_n 2) (48) := ri_of (by decide +kernel) rfl
theorem wi_277_48 : ri (rt_P sc fm) 277 48 (.lload 6) (50) := ri_of (by decide +kernel) rfl
theorem wi_277_50 : ri (rt_P sc fm) 277 50 (.invokevirtual 200) (53) := ri_of (by decide +kernel) rfl
theorem wi_277_53 : ri (rt_P sc fm) 277 53 (.istore 8) (55) := ri_of (by decide +kernel) rfl
theorem wi_277_55 : ri (rt_P sc fm) 277 55 (.iload 8) (57) := ri_of (by decide +kernel) rfl
theorem wi_277_57 : ri (rt_P sc fm) 277 57 (.ifCond .ge 12) (60) := ri_of (by decide +kernel) rfl
theorem wi_277_60 : ri (rt_P sc fm) 277 60 (.aload_n 0) (61) := ri_of (by decide +kernel) rfl
theorem wi_277_61 : ri (rt_P sc fm) 277 61 (.iconst 5) (62) := ri_of (by decide +kernel) rfl
theorem wi_277_62 : ri (rt_P sc fm) 277 62 (.aload_n 0) (63) := ri_of (by decide +kernel) rfl
theorem wi_277_63 : ri (rt_P sc fm) 277 63 (.invokevirtual 79) (66) := ri_of (by decide +kernel) rfl
theorem wi_277_66 : ri (rt_P sc fm) 277 66 (.invokevirtual 61) (69) := ri_of (by decide +kernel) rfl
theorem wi_277_69 : ri (rt_P sc fm) 277 69 (.aload_n 0) (70) := ri_of (by decide +kernel) rfl
theorem wi_277_7 : ri (rt_P sc fm) 277 7 (.aload_n 0) (8) := ri_of (by decide +kernel) rfl
theorem wi_277_70 : ri (rt_P sc fm) 277 70 (.getfield 23) (73) := ri_of (by decide +kernel) rfl
theorem wi_277_73 : ri (rt_P sc fm) 277 73 (.iload_n 1) (74) := ri_of (by decide +kernel) rfl
theorem wi_277_74 : ri (rt_P sc fm) 277 74 (.lload 6) (76) := ri_of (by decide +kernel) rfl
theorem wi_277_76 : ri (rt_P sc fm) 277 76 (.invokevirtual 359) (79) := ri_of (by decide +kernel) rfl
theorem wi_277_79 : ri (rt_P sc fm) 277 79 (.ifCond .lt 12) (82) := ri_of (by decide +kernel) rfl
theorem wi_277_8 : ri (rt_P sc fm) 277 8 (.getfield 49) (11) := ri_of (by decide +kernel) rfl
theorem wi_277_82 : ri (rt_P sc fm) 277 82 (.aload_n 0) (83) := ri_of (by decide +kernel) rfl
theorem wi_277_83 : ri (rt_P sc fm) 277 83 (.iconst 3) (84) := ri_of (by decide +kernel) rfl
theorem wi_277_84 : ri (rt_P sc fm) 277 84 (.aload_n 0) (85) := ri_of (by decide +kernel) rfl
theorem wi_277_85 : ri (rt_P sc fm) 277 85 (.invokevirtual 79) (88) := ri_of (by decide +kernel) rfl
theorem wi_277_88 : ri (rt_P sc fm) 277 88 (.invokevirtual 61) (91) := ri_of (by decide +kernel) rfl
theorem wi_277_91 : ri (rt_P sc fm) 277 91 (.aload_n 0) (92) := ri_of (by decide +kernel) rfl
theorem wi_277_92 : ri (rt_P sc fm) 277 92 (.dup) (93) := ri_of (by decide +kernel) rfl
theorem wi_277_93 : ri (rt_P sc fm) 277 93 (.getfield 49) (96) := ri_of (by decide +kernel) rfl
theorem wi_277_96 : ri (rt_P sc fm) 277 96 (.iconst 1) (97) := ri_of (by decide +kernel) rfl
theorem wi_277_97 : ri (rt_P sc fm) 277 97 (.iadd) (98) := ri_of (by decide +kernel) rfl
theorem wi_277_98 : ri (rt_P sc fm) 277 98 (.putfield 49) (101) := ri_of (by decide +kernel) rfl
theorem wm_225 : rx_ml (rt_P sc fm) 225 = 8 := (by decide +kernel : rt_ml 225 = 8)
theorem wm_232 : rx_ml (rt_P sc fm) 232 = 5 := (by decide +kernel : rt_ml 232 = 5)
theorem wp_277_49 : rx_pt (rt_P sc fm) 277 49 = some (10, 7, .int) := (by decide +kernel : rt_pt 277 49 = some (10, 7, .int))
theorem wr_277 : rx_rt (rt_P sc fm) 277 = none := (by decide +kernel : rt_rt 277 = none)
/-- MarkHouse$Reader.readPairs(ILMarkHouse$Kind;)V -/
def d_277 (n : Nat) (a1 : Int32) (k2 : Nat) (c : cS) : Option ((cS) ⊕ cS) :=
  if ib ((c.1 145 7) - 1) 4001 then
  lt ((c.1 4 (ix ((c.1 145 7) - 1))) : Int32) (fun v3 =>
  Option.bind (d_258 n 40 c) (fun r5 =>
  jn (fun p6 : cS =>
    Option.bind (whl (R := (cS) ⊕ ((cS) ⊕ cS)) (fun s8 : Int32 × cS =>
      if (s8.2.1 (kA k2) 1) ≤ s8.1 then
        some (.inr (.inl s8.2))
      else
        Option.bind (d_232 n a1 k2 s8.1 s8.2) (fun v9 =>
        jn (fun p10 : cS =>
          lt (s8.1 + 1 : Int32) (fun v12 =>
          some (.inl (v12, p10))))
        (fun j190 =>
        if v9 = (-3) then
          Option.bind (d_41 n 7 v3 s8.2) (Sum.elim (fun r14 =>
          j190 r14)
          (fun z15 => some (.inr (.inr (.inr z15)))))
        else
          j190 s8.2))) n (0, p6))
    (Sum.elim (fun x16 : cS =>
      some (.inl x16))
    (fun x17 : (cS) ⊕ cS =>
      some x17)))
  (fun j155 =>
  if r5.1 = 0 then
    j155 r5.2
  else
    Option.bind (whl (R := (cS) ⊕ ((cS) ⊕ cS)) (fun s20 : Int32 × Int32 × cS =>
      if 4 < s20.2.1 then
        some (.inr (.inl s20.2.2))
      else
        if s20.1 = 0 then
          some (.inr (.inl s20.2.2))
        else
          Option.bind (d_259 n s20.2.2) (Sum.elim (fun r21 =>
          Option.bind (d_218 n k2 r21.1 r21.2) (fun v24 =>
          jn (fun p26 : cS =>
            Option.bind (d_230 n a1 r21.1 p26) (fun v27 =>
            jn (fun p28 : cS =>
              lt (pI p28 145 7 ((p28.1 145 7) + 1)) (fun c29 =>
              Option.bind (d_257 n 61 c29) (Sum.elim (fun r31 =>
              if ib v24 4 then
              if ib v24 4 then
              Option.bind (d_278 n (r31.1 (kA k2 + 2) (ix v24)) r31) (Sum.elim (fun r35 =>
              Option.bind (d_225 n a1 r21.1 (r31.1 (kA k2 + 2) (ix v24)) r35.1 r35.2) (fun r37 =>
              Option.bind (d_258 n 44 r37) (fun r38 =>
              lt (s20.2.1 + 1 : Int32) (fun v41 =>
              some (.inl (r38.1, v41, r38.2))))))
              (fun z36 => some (.inr (.inr (.inr z36)))))
              else none
              else none)
              (fun z32 => some (.inr (.inr (.inr z32)))))))
            (fun j91 =>
            if v27 < 0 then
              j91 p26
            else
              Option.bind (d_42 n p26) (fun v43 =>
              Option.bind (d_41 n 3 v43 p26) (Sum.elim (fun r44 =>
              j91 r44)
              (fun z45 => some (.inr (.inr (.inr z45)))))))))
          (fun j69 =>
          if 0 ≤ v24 then
            j69 r21.2
          else
            Option.bind (d_42 n r21.2) (fun v46 =>
            Option.bind (d_41 n 5 v46 r21.2) (Sum.elim (fun r47 =>
            j69 r47)
            (fun z48 => some (.inr (.inr (.inr z48)))))))))
          (fun z22 => some (.inr (.inr (.inr z22)))))) n (1, 0, r5.2))
    (Sum.elim (fun x49 : cS =>
      Option.bind (d_257 n 41 x49) (Sum.elim (fun r50 =>
      j155 r50)
      (fun z51 => some (.inr z51))))
    (fun x52 : (cS) ⊕ cS =>
      some x52)))))
  else none
theorem sp_277 {F Lo n : Nat} {a1 : Int32} {k2 : Nat} {c y : cS} {w : cW} {K : (cS) ⊕ cS → Prop} {Q : ((Option Value) ⊕ String) → List va_E → Prop} (hw : rOK fm w) (hF : 8 ≤ F) (hLo : 129 ≤ Lo) (hk2 : k2 < 12) (h : wp (d_277 n a1 k2 c) K) (hQ : ∀ r, K (.inl r) → Q (.inl none) (hq true r y w)) (hT : ∀ r, K (.inr r) → Q (.inr "java/lang/IllegalArgumentException") (hq true r y w)) : rs (rt_P sc fm) 277 F Lo 0 [(0, .ref 145), (1, .int a1), (2, .ref (kA k2))] [] (hq true c y w) Q := by
  unfold d_277 at h
  obtain ⟨lv, elv⟩ : ∃ lv : rx_L, lv = [(0, .ref 145), (1, .int a1), (2, .ref (kA k2))] := ⟨_, rfl⟩
  rw [← elv]
  have l0 : rx_ld lv 0 = some (.ref 145) := by rw [elv]; rfl
  have l1 : rx_ld lv 1 = some (.int a1) := by rw [elv]; rfl
  have l2 : rx_ld lv 2 = some (.ref (kA k2)) := by rw [elv]; rfl
  refine rs_aldn wi_277_0 l0 ?_
  refine dq_gr wi_277_1 wf_277_9 tf_145_0 ?_
  refine dq_gr wi_277_4 wf_277_72 tf_1_3 ?_
  refine rs_aldn wi_277_7 l0 ?_
  refine dq_gi wi_277_8 wf_277_49 tf_145_7 ?_
  refine rs_pure wi_277_11 rfl ?_
  refine rs_topi (v := 1) (by decide) ?_
  refine rs_pure wi_277_12 rfl ?_
  obtain ⟨g1, h⟩ := wp_gd h
  refine dq_iald wi_277_13 t_4 g1 ?_
  obtain ⟨v3, e4, h⟩ := wp_lt h
  refine rs_topi e4 ?_
  refine dl_istn wi_277_14 rfl (fun lv l3 t2 => ?_)
  have l0 := t2 _ _ (by decide) (Or.inl rfl) l0
  have l1 := t2 _ _ (by decide) (Or.inl rfl) l1
  have l2 := t2 _ _ (by decide) (Or.inl rfl) l2
  refine rs_aldn wi_277_15 l0 ?_
  refine rs_pure wi_277_16 rfl ?_
  refine rs_topi (v := 40) (by decide) ?_
  refine rs_V wi_277_18 wc_277_149 rfl (dq_isa tf_145_0 wa_10_258) (Nat.le_trans (by decide) hF) (ml_le wm_258 (Nat.le_trans (by decide) hLo)) rfl (sp_258 hw (Nat.le_trans (by decide : 0 ≤ 8 - 1) (Nat.sub_le_sub_right hF 1)) (ml_sub wm_258 (Nat.le_trans (by decide : 0 ≤ 129 - 22) (Nat.sub_le_sub_right hLo 22))) (wp_bind h) (fun r5 h => rs_back1 ?_))
  refine wp_jn (B := fun p6 : cS => ∀ lv, rx_ld lv 0 = some (.ref 145) → rx_ld lv 1 = some (.int a1) → rx_ld lv 2 = some (.ref (kA k2)) → rx_ld lv 3 = some (.int v3) → rs (rt_P sc fm) 277 F Lo 155 lv [] (hq true p6 y w) Q) h (fun p6 h lv l0 l1 l2 l3 => ?_) (fun j155 hj155 h => ?_)
  ·
    refine rs_pure wi_277_155 rfl ?_
    refine rs_topi (v := 0) (by decide) ?_
    refine dl_ist wi_277_156 rfl (fun lv l4 t7 => ?_)
    have l0 := t7 _ _ (by decide) (Or.inl rfl) l0
    have l1 := t7 _ _ (by decide) (Or.inl rfl) l1
    have l2 := t7 _ _ (by decide) (Or.inl rfl) l2
    have l3 := t7 _ _ (by decide) (Or.inl rfl) l3
    refine whl_ex (A := fun s8 : Int32 × cS => ∀ lv, rx_ld lv 0 = some (.ref 145) → rx_ld lv 1 = some (.int a1) → rx_ld lv 2 = some (.ref (kA k2)) → rx_ld lv 3 = some (.int v3) → rx_ld lv 4 = some (.int s8.1) → rs (rt_P sc fm) 277 F Lo 158 lv [] (hq true s8.2 y w) Q) (B := (Sum.elim (fun x16 : cS => ∀ lv, rs (rt_P sc fm) 277 F Lo 196 lv [] (hq true x16 y w) Q) K)) ?_ ?_ _ _ (wp_bind h) _ l0 l1 l2 l3 l4
    · intro s8 h lv l0 l1 l2 l3 l4
      refine rs_ild wi_277_158 l4 ?_
      refine rs_aldn wi_277_160 l2 ?_
      refine dq_gi wi_277_161 wf_277_203 (fK_1 hk2) ?_
      refine rs_icge (tg := 196) wi_277_164 ⟨by decide, by decide⟩ (fun q => ?_) (fun q => ?_)
      ·
        have h := wp_pos h q
        exact h _
      ·
        have h := wp_neg h q
        refine rs_aldn wi_277_167 l0 ?_
        refine dq_gr wi_277_168 wf_277_23 tf_145_3 ?_
        refine rs_ildn wi_277_171 l1 ?_
        refine rs_aldn wi_277_172 l2 ?_
        refine rs_ild wi_277_173 l4 ?_
        refine rs_V wi_277_175 wc_277_362 rfl (dq_isa tf_133_0 wa_7_232) (Nat.le_trans (by decide) hF) (ml_le wm_232 (Nat.le_trans (by decide) hLo)) rfl (sp_232 hw (Nat.le_trans (by decide : 1 ≤ 8 - 1) (Nat.sub_le_sub_right hF 1)) (ml_sub wm_232 (Nat.le_trans (by decide : 24 ≤ 129 - 24) (Nat.sub_le_sub_right hLo 24))) hk2 (wp_bind h) (fun v9 h => rs_back1 ?_))
        refine rs_pure wi_277_178 rfl ?_
        refine rs_topi (v := (-3)) (by decide) ?_
        refine wp_jn (B := fun p10 : cS => ∀ lv, rx_ld lv 0 = some (.ref 145) → rx_ld lv 1 = some (.int a1) → rx_ld lv 2 = some (.ref (kA k2)) → rx_ld lv 3 = some (.int v3) → rx_ld lv 4 = some (.int s8.1) → rs (rt_P sc fm) 277 F Lo 190 lv [] (hq true p10 y w) Q) h (fun p10 h lv l0 l1 l2 l3 l4 => ?_) (fun j190 hj190 h => ?_)
        ·
          obtain ⟨v12, e13, h⟩ := wp_lt h
          refine dl_inc wi_277_190 l4 rfl e13 (fun lv l4 t11 => ?_)
          have l0 := t11 _ _ (by decide) (Or.inl rfl) l0
          have l1 := t11 _ _ (by decide) (Or.inl rfl) l1
          have l2 := t11 _ _ (by decide) (Or.inl rfl) l2
          have l3 := t11 _ _ (by decide) (Or.inl rfl) l3
          refine rs_goto (tg := 158) wi_277_193 ⟨by decide, by decide⟩ ?_
          exact h _ l0 l1 l2 l3 l4
        refine rs_icne (tg := 190) wi_277_180 ⟨by decide, by decide⟩ (fun q => ?_) (fun q => ?_)
        ·
          have h := wp_neg h q
          exact hj190 _ h _ l0 l1 l2 l3 l4
        ·
          have h := wp_pos h q
          refine rs_aldn wi_277_183 l0 ?_
          refine rs_pure wi_277_184 rfl ?_
          refine rs_topi (v := 7) (by decide) ?_
          refine rs_ildn wi_277_186 l3 ?_
          refine rs_V wi_277_187 wc_277_61 rfl (dq_isa tf_145_0 wa_10_41) (Nat.le_trans (by decide) hF) (ml_le wm_41 (Nat.le_trans (by decide) hLo)) rfl (sp_41 hw (Nat.le_trans (by decide : 6 ≤ 8 - 1) (Nat.sub_le_sub_right hF 1)) (ml_sub wm_41 (Nat.le_trans (by decide : 82 ≤ 129 - 22) (Nat.sub_le_sub_right hLo 22))) (wp_bind h) (fun r14 h => rs_back0 ?_) (fun z15 h => rs_up wh0_277_187 whh_277 (hT z15 (wp_inr h))))
          have h := wp_inl h
          exact hj190 _ h _ l0 l1 l2 l3 l4
    ·
      refine sum_all ?_ ?_
      ·
        intro x16 h lv
        have h := wp_inl h
        exact rs_vret wi_277_196 wr_277 (hQ x16 h)
      ·
        intro x17 h
        exact h
  refine rs_ifeq (tg := 155) wi_277_21 ⟨by decide, by decide⟩ (fun q => ?_) (fun q => ?_)
  ·
    have h := wp_pos h q
    exact hj155 _ h _ l0 l1 l2 l3
  ·
    have h := wp_neg h q
    refine rs_pure wi_277_24 rfl ?_
    refine rs_topi (v := 1) (by decide) ?_
    refine dl_ist wi_277_25 rfl (fun lv l4 t18 => ?_)
    have l0 := t18 _ _ (by decide) (Or.inl rfl) l0
    have l1 := t18 _ _ (by decide) (Or.inl rfl) l1
    have l2 := t18 _ _ (by decide) (Or.inl rfl) l2
    have l3 := t18 _ _ (by decide) (Or.inl rfl) l3
    refine rs_pure wi_277_27 rfl ?_
    refine rs_topi (v := 0) (by decide) ?_
    refine dl_ist wi_277_28 rfl (fun lv l5 t19 => ?_)
    have l0 := t19 _ _ (by decide) (Or.inl rfl) l0
    have l1 := t19 _ _ (by decide) (Or.inl rfl) l1
    have l2 := t19 _ _ (by decide) (Or.inl rfl) l2
    have l3 := t19 _ _ (by decide) (Or.inl rfl) l3
    have l4 := t19 _ _ (by decide) (Or.inl rfl) l4
    refine whl_ex (A := fun s20 : Int32 × Int32 × cS => ∀ lv, rx_ld lv 0 = some (.ref 145) → rx_ld lv 1 = some (.int a1) → rx_ld lv 2 = some (.ref (kA k2)) → rx_ld lv 3 = some (.int v3) → rx_ld lv 4 = some (.int s20.1) → rx_ld lv 5 = some (.int s20.2.1) → rs (rt_P sc fm) 277 F Lo 30 lv [] (hq true s20.2.2 y w) Q) (B := (Sum.elim (fun x49 : cS => ∀ lv, rx_ld lv 0 = some (.ref 145) → rx_ld lv 1 = some (.int a1) → rx_ld lv 2 = some (.ref (kA k2)) → rx_ld lv 3 = some (.int v3) → rs (rt_P sc fm) 277 F Lo 149 lv [] (hq true x49 y w) Q) K)) ?_ ?_ _ _ (wp_bind h) _ l0 l1 l2 l3 l4 l5
    · intro s20 h lv l0 l1 l2 l3 l4 l5
      refine rs_ild wi_277_30 l5 ?_
      refine rs_pure wi_277_32 rfl ?_
      refine rs_topi (v := 4) (by decide) ?_
      refine rs_icgt (tg := 149) wi_277_33 ⟨by decide, by decide⟩ (fun q => ?_) (fun q => ?_)
      ·
        have h := wp_pos h q
        exact h _ l0 l1 l2 l3
      ·
        have h := wp_neg h q
        refine rs_ild wi_277_36 l4 ?_
        refine rs_ifeq (tg := 149) wi_277_38 ⟨by decide, by decide⟩ (fun q => ?_) (fun q => ?_)
        ·
          have h := wp_pos h q
          exact h _ l0 l1 l2 l3
        ·
          have h := wp_neg h q
          refine rs_aldn wi_277_41 l0 ?_
          refine rs_V wi_277_42 wc_277_89 rfl (dq_isa tf_145_0 wa_10_259) (Nat.le_trans (by decide) hF) (ml_le wm_259 (Nat.le_trans (by decide) hLo)) rfl (sp_259 hw (Nat.le_trans (by decide : 7 ≤ 8 - 1) (Nat.sub_le_sub_right hF 1)) (ml_sub wm_259 (Nat.le_trans (by decide : 104 ≤ 129 - 20) (Nat.sub_le_sub_right hLo 20))) (wp_bind h) (fun r21 h => rs_back1 ?_) (fun z22 h => rs_up wh0_277_42 whh_277 (hT z22 (wp_inr h))))
          have h := wp_inl h
          refine dl_lst wi_277_45 rfl (fun lv l6 t23 => ?_)
          have l0 := t23 _ _ (by decide) (by decide) (Or.inl rfl) l0
          have l1 := t23 _ _ (by decide) (by decide) (Or.inl rfl) l1
          have l2 := t23 _ _ (by decide) (by decide) (Or.inl rfl) l2
          have l3 := t23 _ _ (by decide) (by decide) (Or.inl rfl) l3
          have l5 := t23 _ _ (by decide) (by decide) (Or.inl rfl) l5
          refine rs_aldn wi_277_47 l2 ?_
          refine rs_lld wi_277_48 l6 ?_
          refine rs_V wi_277_50 wc_277_200 rfl (dq_isa (fK_0 hk2) wa_6_218) (Nat.le_trans (by decide) hF) (ml_le wm_218 (Nat.le_trans (by decide) hLo)) rfl (sp_218 hw (Nat.le_trans (by decide : 0 ≤ 8 - 1) (Nat.sub_le_sub_right hF 1)) (ml_sub wm_218 (Nat.le_trans (by decide : 0 ≤ 129 - 23) (Nat.sub_le_sub_right hLo 23))) hk2 (wp_bind h) (fun v24 h => rs_back1 ?_))
          refine dl_ist wi_277_53 rfl (fun lv l8 t25 => ?_)
          have l0 := t25 _ _ (by decide) (Or.inl rfl) l0
          have l1 := t25 _ _ (by decide) (Or.inl rfl) l1
          have l2 := t25 _ _ (by decide) (Or.inl rfl) l2
          have l3 := t25 _ _ (by decide) (Or.inl rfl) l3
          have l5 := t25 _ _ (by decide) (Or.inl rfl) l5
          have l6 := t25 _ _ (by decide) (Or.inr (by decide)) l6
          refine rs_ild wi_277_55 l8 ?_
          refine wp_jn (B := fun p26 : cS => ∀ lv, rx_ld lv 0 = some (.ref 145) → rx_ld lv 1 = some (.int a1) → rx_ld lv 2 = some (.ref (kA k2)) → rx_ld lv 3 = some (.int v3) → rx_ld lv 5 = some (.int s20.2.1) → rx_ld lv 6 = some (.long r21.1) → rx_ld lv 8 = some (.int v24) → rs (rt_P sc fm) 277 F Lo 69 lv [] (hq true p26 y w) Q) h (fun p26 h lv l0 l1 l2 l3 l5 l6 l8 => ?_) (fun j69 hj69 h => ?_)
          ·
            refine rs_aldn wi_277_69 l0 ?_
            refine dq_gr wi_277_70 wf_277_23 tf_145_3 ?_
            refine rs_ildn wi_277_73 l1 ?_
            refine rs_lld wi_277_74 l6 ?_
            refine rs_V wi_277_76 wc_277_359 rfl (dq_isa tf_133_0 wa_7_230) (Nat.le_trans (by decide) hF) (ml_le wm_230 (Nat.le_trans (by decide) hLo)) rfl (sp_230 hw (Nat.le_trans (by decide : 0 ≤ 8 - 1) (Nat.sub_le_sub_right hF 1)) (ml_sub wm_230 (Nat.le_trans (by decide : 0 ≤ 129 - 24) (Nat.sub_le_sub_right hLo 24))) (wp_bind h) (fun v27 h => rs_back1 ?_))
            refine wp_jn (B := fun p28 : cS => ∀ lv, rx_ld lv 0 = some (.ref 145) → rx_ld lv 1 = some (.int a1) → rx_ld lv 2 = some (.ref (kA k2)) → rx_ld lv 3 = some (.int v3) → rx_ld lv 5 = some (.int s20.2.1) → rx_ld lv 6 = some (.long r21.1) → rx_ld lv 8 = some (.int v24) → rs (rt_P sc fm) 277 F Lo 91 lv [] (hq true p28 y w) Q) h (fun p28 h lv l0 l1 l2 l3 l5 l6 l8 => ?_) (fun j91 hj91 h => ?_)
            ·
              refine rs_aldn wi_277_91 l0 ?_
              refine rs_pure wi_277_92 rfl ?_
              refine dq_gi wi_277_93 wf_277_49 tf_145_7 ?_
              refine rs_pure wi_277_96 rfl ?_
              refine rs_topi (v := 1) (by decide) ?_
              refine rs_pure wi_277_97 rfl ?_
              obtain ⟨c29, e30, h⟩ := wp_lt h
              refine dq_pi wi_277_98 wp_277_49 tf_145_7 rfl rfl e30 ?_
              refine rs_aldn wi_277_101 l0 ?_
              refine rs_pure wi_277_102 rfl ?_
              refine rs_topi (v := 61) (by decide) ?_
              refine rs_V wi_277_104 wc_277_114 rfl (dq_isa tf_145_0 wa_10_257) (Nat.le_trans (by decide) hF) (ml_le wm_257 (Nat.le_trans (by decide) hLo)) rfl (sp_257 hw (Nat.le_trans (by decide : 7 ≤ 8 - 1) (Nat.sub_le_sub_right hF 1)) (ml_sub wm_257 (Nat.le_trans (by decide : 104 ≤ 129 - 21) (Nat.sub_le_sub_right hLo 21))) (wp_bind h) (fun r31 h => rs_back0 ?_) (fun z32 h => rs_up wh0_277_104 whh_277 (hT z32 (wp_inr h))))
              have h := wp_inl h
              refine rs_aldn wi_277_107 l0 ?_
              refine dq_gr wi_277_108 wf_277_23 tf_145_3 ?_
              refine rs_ildn wi_277_111 l1 ?_
              refine rs_lld wi_277_112 l6 ?_
              refine rs_aldn wi_277_114 l2 ?_
              refine dq_gr wi_277_115 wf_277_215 (fK_3 hk2) ?_
              refine rs_ild wi_277_118 l8 ?_
              obtain ⟨g33, h⟩ := wp_gd h
              refine dq_iald wi_277_120 (tK_2 hk2) g33 ?_
              refine rs_aldn wi_277_121 l0 ?_
              refine rs_aldn wi_277_122 l2 ?_
              refine dq_gr wi_277_123 wf_277_215 (fK_3 hk2) ?_
              refine rs_ild wi_277_126 l8 ?_
              obtain ⟨g34, h⟩ := wp_gd h
              refine dq_iald wi_277_128 (tK_2 hk2) g34 ?_
              refine rs_V wi_277_129 wc_277_207 rfl (dq_isa tf_145_0 wa_10_278) (Nat.le_trans (by decide) hF) (ml_le wm_278 (Nat.le_trans (by decide) hLo)) rfl (sp_278 hw (Nat.le_trans (by decide : 7 ≤ 8 - 1) (Nat.sub_le_sub_right hF 1)) (ml_sub wm_278 (Nat.le_trans (by decide : 104 ≤ 129 - 25) (Nat.sub_le_sub_right hLo 25))) (wp_bind h) (fun r35 h => rs_back1 ?_) (fun z36 h => rs_up wh0_277_129 whh_277 (hT z36 (wp_inr h))))
              have h := wp_inl h
              refine rs_V wi_277_132 wc_277_328 rfl (dq_isa tf_133_0 wa_7_225) (Nat.le_trans (by decide) hF) (ml_le wm_225 (Nat.le_trans (by decide) hLo)) rfl (sp_225 hw (Nat.le_trans (by decide : 0 ≤ 8 - 1) (Nat.sub_le_sub_right hF 1)) (ml_sub wm_225 (Nat.le_trans (by decide : 0 ≤ 129 - 27) (Nat.sub_le_sub_right hLo 27))) (wp_bind h) (fun r37 h => rs_back0 ?_))
              refine rs_aldn wi_277_135 l0 ?_
              refine rs_pure wi_277_136 rfl ?_
              refine rs_topi (v := 44) (by decide) ?_
              refine rs_V wi_277_138 wc_277_149 rfl (dq_isa tf_145_0 wa_10_258) (Nat.le_trans (by decide) hF) (ml_le wm_258 (Nat.le_trans (by decide) hLo)) rfl (sp_258 hw (Nat.le_trans (by decide : 0 ≤ 8 - 1) (Nat.sub_le_sub_right hF 1)) (ml_sub wm_258 (Nat.le_trans (by decide : 0 ≤ 129 - 22) (Nat.sub_le_sub_right hLo 22))) (wp_bind h) (fun r38 h => rs_back1 ?_))
              refine dl_ist wi_277_141 rfl (fun lv l4 t39 => ?_)
              have l0 := t39 _ _ (by decide) (Or.inl rfl) l0
              have l1 := t39 _ _ (by decide) (Or.inl rfl) l1
              have l2 := t39 _ _ (by decide) (Or.inl rfl) l2
              have l3 := t39 _ _ (by decide) (Or.inl rfl) l3
              have l5 := t39 _ _ (by decide) (Or.inl rfl) l5
              obtain ⟨v41, e42, h⟩ := wp_lt h
              refine dl_inc wi_277_143 l5 rfl e42 (fun lv l5 t40 => ?_)
              have l0 := t40 _ _ (by decide) (Or.inl rfl) l0
              have l1 := t40 _ _ (by decide) (Or.inl rfl) l1
              have l2 := t40 _ _ (by decide) (Or.inl rfl) l2
              have l3 := t40 _ _ (by decide) (Or.inl rfl) l3
              have l4 := t40 _ _ (by decide) (Or.inl rfl) l4
              refine rs_goto (tg := 30) wi_277_146 ⟨by decide, by decide⟩ ?_
              exact h _ l0 l1 l2 l3 l4 l5
            refine rs_iflt (tg := 91) wi_277_79 ⟨by decide, by decide⟩ (fun q => ?_) (fun q => ?_)
            ·
              have h := wp_pos h q
              exact hj91 _ h _ l0 l1 l2 l3 l5 l6 l8
            ·
              have h := wp_neg h q
              refine rs_aldn wi_277_82 l0 ?_
              refine rs_pure wi_277_83 rfl ?_
              refine rs_topi (v := 3) (by decide) ?_
              refine rs_aldn wi_277_84 l0 ?_
              refine rs_V wi_277_85 wc_277_79 rfl (dq_isa tf_145_0 wa_10_42) (Nat.le_trans (by decide) hF) (ml_le wm_42 (Nat.le_trans (by decide) hLo)) rfl (sp_42 hw (Nat.le_trans (by decide : 0 ≤ 8 - 1) (Nat.sub_le_sub_right hF 1)) (ml_sub wm_42 (Nat.le_trans (by decide : 0 ≤ 129 - 20) (Nat.sub_le_sub_right hLo 20))) (wp_bind h) (fun v43 h => rs_back1 ?_))
              refine rs_V wi_277_88 wc_277_61 rfl (dq_isa tf_145_0 wa_10_41) (Nat.le_trans (by decide) hF) (ml_le wm_41 (Nat.le_trans (by decide) hLo)) rfl (sp_41 hw (Nat.le_trans (by decide : 6 ≤ 8 - 1) (Nat.sub_le_sub_right hF 1)) (ml_sub wm_41 (Nat.le_trans (by decide : 82 ≤ 129 - 22) (Nat.sub_le_sub_right hLo 22))) (wp_bind h) (fun r44 h => rs_back0 ?_) (fun z45 h => rs_up wh0_277_88 whh_277 (hT z45 (wp_inr h))))
              have h := wp_inl h
              exact hj91 _ h _ l0 l1 l2 l3 l5 l6 l8
          refine rs_ifge (tg := 69) wi_277_57 ⟨by decide, by decide⟩ (fun q => ?_) (fun q => ?_)
          ·
            have h := wp_pos h q
            exact hj69 _ h _ l0 l1 l2 l3 l5 l6 l8
          ·
            have h := wp_neg h q
            refine rs_aldn wi_277_60 l0 ?_
            refine rs_pure wi_277_61 rfl ?_
            refine rs_topi (v := 5) (by decide) ?_
            refine rs_aldn wi_277_62 l0 ?_
            refine rs_V wi_277_63 wc_277_79 rfl (dq_isa tf_145_0 wa_10_42) (Nat.le_trans (by decide) hF) (ml_le wm_42 (Nat.le_trans (by decide) hLo)) rfl (sp_42 hw (Nat.le_trans (by decide : 0 ≤ 8 - 1) (Nat.sub_le_sub_right hF 1)) (ml_sub wm_42 (Nat.le_trans (by decide : 0 ≤ 129 - 20) (Nat.sub_le_sub_right hLo 20))) (wp_bind h) (fun v46 h => rs_back1 ?_))
            refine rs_V wi_277_66 wc_277_61 rfl (dq_isa tf_145_0 wa_10_41) (Nat.le_trans (by decide) hF) (ml_le wm_41 (Nat.le_trans (by decide) hLo)) rfl (sp_41 hw (Nat.le_trans (by decide : 6 ≤ 8 - 1) (Nat.sub_le_sub_right hF 1)) (ml_sub wm_41 (Nat.le_trans (by decide : 82 ≤ 129 - 22) (Nat.sub_le_sub_right hLo 22))) (wp_bind h) (fun r47 h => rs_back0 ?_) (fun z48 h => rs_up wh0_277_66 whh_277 (hT z48 (wp_inr h))))
            have h := wp_inl h
            exact hj69 _ h _ l0 l1 l2 l3 l5 l6 l8
    ·
      refine sum_all ?_ ?_
      ·
        intro x49 h lv l0 l1 l2 l3
        have h := wp_inl h
        refine rs_aldn wi_277_149 l0 ?_
        refine rs_pure wi_277_150 rfl ?_
        refine rs_topi (v := 41) (by decide) ?_
        refine rs_V wi_277_152 wc_277_114 rfl (dq_isa tf_145_0 wa_10_257) (Nat.le_trans (by decide) hF) (ml_le wm_257 (Nat.le_trans (by decide) hLo)) rfl (sp_257 hw (Nat.le_trans (by decide : 7 ≤ 8 - 1) (Nat.sub_le_sub_right hF 1)) (ml_sub wm_257 (Nat.le_trans (by decide : 104 ≤ 129 - 21) (Nat.sub_le_sub_right hLo 21))) (wp_bind h) (fun r50 h => rs_back0 ?_) (fun z51 h => rs_up wh0_277_152 whh_277 (hT z51 (wp_inr h))))
        have h := wp_inl h
        exact hj155 _ h _ l0 l1 l2 l3
      ·
        intro x52 h
        exact h
theorem wsb_41 : (rt_sb 41).isSome = true := by decide +kernel
theorem wa_10_274 : rz_cn 10 (rx_yn (rt_P sc fm) 274).cls = true := (by decide +kernel : rz_cn 10 (rt_yn 274).cls = true)
theorem wa_10_276 : rz_cn 10 (rx_yn (rt_P sc fm) 276).cls = true := (by decide +kernel : rz_cn 10 (rt_yn 276).cls = true)
theorem wa_10_277 : rz_cn 10 (rx_yn (rt_P sc fm) 277).cls = true := (by decide +kernel : rz_cn 10 (rt_yn 277).cls = true)
theorem wa_7_227 : rz_cn 7 (rx_yn (rt_P sc fm) 227).cls = true := (by decide +kernel : rz_cn 7 (rt_yn 227).cls = true)
theorem wc_273_114 : rx_ct (rt_P sc fm) 273 114 = some (0, 257, 1) := (by decide +kernel : rt_ct 273 114 = some (0, 257, 1))
theorem wc_273_313 : rx_ct (rt_P sc fm) 273 313 = some (0, 274, 2) := (by decide +kernel : rt_ct 273 313 = some (0, 274, 2))
theorem wc_273_317 : rx_ct (rt_P sc fm) 273 317 = some (0, 227, 1) := (by decide +kernel : rt_ct 273 317 = some (0, 227, 1))
theorem wc_273_320 : rx_ct (rt_P sc fm) 273 320 = some (0, 276, 1) := (by decide +kernel : rt_ct 273 320 = some (0, 276, 1))
theorem wc_273_324 : rx_ct (rt_P sc fm) 273 324 = some (11, 351, 1) := (by decide +kernel : rt_ct 273 324 = some (11, 351, 1))
theorem wc_273_328 : rx_ct (rt_P sc fm) 273 328 = some (0, 225, 4) := (by decide +kernel : rt_ct 273 328 = some (0, 225, 4))
theorem wc_273_332 : rx_ct (rt_P sc fm) 273 332 = some (0, 277, 2) := (by decide +kernel : rt_ct 273 332 = some (0, 277, 2))
theorem wc_273_82 : rx_ct (rt_P sc fm) 273 82 = some (0, 43, 0) := (by decide +kernel : rt_ct 273 82 = some (0, 43, 0))
theorem wf_273_136 : rx_ft (rt_P sc fm) 273 136 = some (9, 1) := (by decide +kernel : rt_ft 273 136 = some (9, 1))
theorem wf_273_15 : rx_ft (rt_P sc fm) 273 15 = some (10, 1) := (by decide +kernel : rt_ft 273 15 = some (10, 1))
theorem wf_273_172 : rx_ft (rt_P sc fm) 273 172 = some (9, 3) := (by decide +kernel : rt_ft 273 172 = some (9, 3))
theorem wf_273_228 : rx_ft (rt_P sc fm) 273 228 = some (7, 1) := (by decide +kernel : rt_ft 273 228 = some (7, 1))
theorem wf_273_23 : rx_ft (rt_P sc fm) 273 23 = some (10, 3) := (by decide +kernel : rt_ft 273 23 = some (10, 3))
theorem wf_273_49 : rx_ft (rt_P sc fm) 273 49 = some (10, 7) := (by decide +kernel : rt_ft 273 49 = some (10, 7))
theorem wf_273_85 : rx_ft (rt_P sc fm) 273 85 = some (3, 4) := (by decide +kernel : rt_ft 273 85 = some (3, 4))
theorem wf_273_9 : rx_ft (rt_P sc fm) 273 9 = some (10, 0) := (by decide +kernel : rt_ft 273 9 = some (10, 0))
theorem wh0_273_141 : rx_ht (rt_P sc fm) 273 141 "java/lang/IllegalArgumentException" = none := (by decide +kernel : rt_ht 273 141 "java/lang/IllegalArgumentException" = none)
theorem wh0_273_20 : rx_ht (rt_P sc fm) 273 20 "java/lang/IllegalArgumentException" = none := (by decide +kernel : rt_ht 273 20 "java/lang/IllegalArgumentException" = none)
theorem wh0_273_58 : rx_ht (rt_P sc fm) 273 58 "java/lang/IllegalArgumentException" = none := (by decide +kernel : rt_ht 273 58 "java/lang/IllegalArgumentException" = none)
theorem wh0_273_83 : rx_ht (rt_P sc fm) 273 83 "java/lang/IllegalArgumentException" = none := (by decide +kernel : rt_ht 273 83 "java/lang/IllegalArgumentException" = none)
theorem whh_273 : rx_hh (rt_P sc fm) 273 = [] := (by decide +kernel : rt_hh 273 = [])
theorem wi_273_0 : ri (rt_P sc fm) 273 0 (.iconst 0) (1) := ri_of (by decide +kernel) rfl
theorem wi_273_1 : ri (rt_P sc fm) 273 1 (.istore_n 3) (2) := ri_of (by decide +kernel) rfl
theorem wi_273_100 : ri (rt_P sc fm) 273 100 (.aload_n 0) (101) := ri_of (by decide +kernel) rfl
theorem wi_273_101 : ri (rt_P sc fm) 273 101 (.getfield 9) (104) := ri_of (by decide +kernel) rfl
theorem wi_273_104 : ri (rt_P sc fm) 273 104 (.getfield 85) (107) := ri_of (by decide +kernel) rfl
theorem wi_273_107 : ri (rt_P sc fm) 273 107 (.aload_n 0) (108) := ri_of (by decide +kernel) rfl
theorem wi_273_108 : ri (rt_P sc fm) 273 108 (.getfield 49) (111) := ri_of (by decide +kernel) rfl
theorem wi_273_111 : ri (rt_P sc fm) 273 111 (.iconst 1) (112) := ri_of (by decide +kernel) rfl
theorem wi_273_112 : ri (rt_P sc fm) 273 112 (.isub) (113) := ri_of (by decide +kernel) rfl
theorem wi_273_113 : ri (rt_P sc fm) 273 113 (.laload) (114) := ri_of (by decide +kernel) rfl
theorem wi_273_114 : ri (rt_P sc fm) 273 114 (.invokevirtual 328) (117) := ri_of (by decide +kernel) rfl
theorem wi_273_117 : ri (rt_P sc fm) 273 117 (.goto 27) (120) := ri_of (by decide +kernel) rfl
theorem wi_273_12 : ri (rt_P sc fm) 273 12 (.bipush 64) (14) := ri_of (by decide +kernel) rfl
theorem wi_273_120 : ri (rt_P sc fm) 273 120 (.aload_n 0) (121) := ri_of (by decide +kernel) rfl
theorem wi_273_121 : ri (rt_P sc fm) 273 121 (.iload 4) (123) := ri_of (by decide +kernel) rfl
theorem wi_273_123 : ri (rt_P sc fm) 273 123 (.aload_n 0) (124) := ri_of (by decide +kernel) rfl
theorem wi_273_124 : ri (rt_P sc fm) 273 124 (.getfield 15) (127) := ri_of (by decide +kernel) rfl
theorem wi_273_127 : ri (rt_P sc fm) 273 127 (.getfield 172) (130) := ri_of (by decide +kernel) rfl
theorem wi_273_130 : ri (rt_P sc fm) 273 130 (.aload_n 0) (131) := ri_of (by decide +kernel) rfl
theorem wi_273_131 : ri (rt_P sc fm) 273 131 (.getfield 23) (134) := ri_of (by decide +kernel) rfl
theorem wi_273_134 : ri (rt_P sc fm) 273 134 (.getfield 228) (137) := ri_of (by decide +kernel) rfl
theorem wi_273_137 : ri (rt_P sc fm) 273 137 (.iload 4) (139) := ri_of (by decide +kernel) rfl
theorem wi_273_139 : ri (rt_P sc fm) 273 139 (.iaload) (140) := ri_of (by decide +kernel) rfl
theorem wi_273_14 : ri (rt_P sc fm) 273 14 (.if_icmp .ne 136) (17) := ri_of (by decide +kernel) rfl
theorem wi_273_140 : ri (rt_P sc fm) 273 140 (.aaload) (141) := ri_of (by decide +kernel) rfl
theorem wi_273_141 : ri (rt_P sc fm) 273 141 (.invokevirtual 332) (144) := ri_of (by decide +kernel) rfl
theorem wi_273_144 : ri (rt_P sc fm) 273 144 (.iinc 3 1) (147) := ri_of (by decide +kernel) rfl
theorem wi_273_147 : ri (rt_P sc fm) 273 147 (.goto (-145)) (150) := ri_of (by decide +kernel) rfl
theorem wi_273_150 : ri (rt_P sc fm) 273 150 (.return_) (151) := ri_of (by decide +kernel) rfl
theorem wi_273_17 : ri (rt_P sc fm) 273 17 (.aload_n 0) (18) := ri_of (by decide +kernel) rfl
theorem wi_273_18 : ri (rt_P sc fm) 273 18 (.iload_n 1) (19) := ri_of (by decide +kernel) rfl
theorem wi_273_19 : ri (rt_P sc fm) 273 19 (.iload_n 2) (20) := ri_of (by decide +kernel) rfl
theorem wi_273_2 : ri (rt_P sc fm) 273 2 (.iload_n 3) (3) := ri_of (by decide +kernel) rfl
theorem wi_273_20 : ri (rt_P sc fm) 273 20 (.invokevirtual 313) (23) := ri_of (by decide +kernel) rfl
theorem wi_273_23 : ri (rt_P sc fm) 273 23 (.istore 4) (25) := ri_of (by decide +kernel) rfl
theorem wi_273_25 : ri (rt_P sc fm) 273 25 (.aload_n 0) (26) := ri_of (by decide +kernel) rfl
theorem wi_273_26 : ri (rt_P sc fm) 273 26 (.getfield 23) (29) := ri_of (by decide +kernel) rfl
theorem wi_273_29 : ri (rt_P sc fm) 273 29 (.iload 4) (31) := ri_of (by decide +kernel) rfl
theorem wi_273_3 : ri (rt_P sc fm) 273 3 (.bipush 20) (5) := ri_of (by decide +kernel) rfl
theorem wi_273_31 : ri (rt_P sc fm) 273 31 (.invokevirtual 317) (34) := ri_of (by decide +kernel) rfl
theorem wi_273_34 : ri (rt_P sc fm) 273 34 (.ifCond .eq 6) (37) := ri_of (by decide +kernel) rfl
theorem wi_273_37 : ri (rt_P sc fm) 273 37 (.goto 107) (40) := ri_of (by decide +kernel) rfl
theorem wi_273_40 : ri (rt_P sc fm) 273 40 (.aload_n 0) (41) := ri_of (by decide +kernel) rfl
theorem wi_273_41 : ri (rt_P sc fm) 273 41 (.getfield 23) (44) := ri_of (by decide +kernel) rfl
theorem wi_273_44 : ri (rt_P sc fm) 273 44 (.getfield 228) (47) := ri_of (by decide +kernel) rfl
theorem wi_273_47 : ri (rt_P sc fm) 273 47 (.iload 4) (49) := ri_of (by decide +kernel) rfl
theorem wi_273_49 : ri (rt_P sc fm) 273 49 (.iaload) (50) := ri_of (by decide +kernel) rfl
theorem wi_273_5 : ri (rt_P sc fm) 273 5 (.if_icmp .gt 145) (8) := ri_of (by decide +kernel) rfl
theorem wi_273_50 : ri (rt_P sc fm) 273 50 (.bipush 100) (52) := ri_of (by decide +kernel) rfl
theorem wi_273_52 : ri (rt_P sc fm) 273 52 (.if_icmp .lt 68) (55) := ri_of (by decide +kernel) rfl
theorem wi_273_55 : ri (rt_P sc fm) 273 55 (.aload_n 0) (56) := ri_of (by decide +kernel) rfl
theorem wi_273_56 : ri (rt_P sc fm) 273 56 (.bipush 46) (58) := ri_of (by decide +kernel) rfl
theorem wi_273_58 : ri (rt_P sc fm) 273 58 (.invokevirtual 114) (61) := ri_of (by decide +kernel) rfl
theorem wi_273_61 : ri (rt_P sc fm) 273 61 (.aload_n 0) (62) := ri_of (by decide +kernel) rfl
theorem wi_273_62 : ri (rt_P sc fm) 273 62 (.aload_n 0) (63) := ri_of (by decide +kernel) rfl
theorem wi_273_63 : ri (rt_P sc fm) 273 63 (.getfield 15) (66) := ri_of (by decide +kernel) rfl
theorem wi_273_66 : ri (rt_P sc fm) 273 66 (.getfield 136) (69) := ri_of (by decide +kernel) rfl
theorem wi_273_69 : ri (rt_P sc fm) 273 69 (.aload_n 0) (70) := ri_of (by decide +kernel) rfl
theorem wi_273_70 : ri (rt_P sc fm) 273 70 (.getfield 23) (73) := ri_of (by decide +kernel) rfl
theorem wi_273_73 : ri (rt_P sc fm) 273 73 (.getfield 228) (76) := ri_of (by decide +kernel) rfl
theorem wi_273_76 : ri (rt_P sc fm) 273 76 (.iload 4) (78) := ri_of (by decide +kernel) rfl
theorem wi_273_78 : ri (rt_P sc fm) 273 78 (.iaload) (79) := ri_of (by decide +kernel) rfl
theorem wi_273_79 : ri (rt_P sc fm) 273 79 (.bipush 100) (81) := ri_of (by decide +kernel) rfl
theorem wi_273_8 : ri (rt_P sc fm) 273 8 (.aload_n 0) (9) := ri_of (by decide +kernel) rfl
theorem wi_273_81 : ri (rt_P sc fm) 273 81 (.isub) (82) := ri_of (by decide +kernel) rfl
theorem wi_273_82 : ri (rt_P sc fm) 273 82 (.aaload) (83) := ri_of (by decide +kernel) rfl
theorem wi_273_83 : ri (rt_P sc fm) 273 83 (.invokevirtual 320) (86) := ri_of (by decide +kernel) rfl
theorem wi_273_86 : ri (rt_P sc fm) 273 86 (.pop) (87) := ri_of (by decide +kernel) rfl
theorem wi_273_87 : ri (rt_P sc fm) 273 87 (.aload_n 0) (88) := ri_of (by decide +kernel) rfl
theorem wi_273_88 : ri (rt_P sc fm) 273 88 (.getfield 23) (91) := ri_of (by decide +kernel) rfl
theorem wi_273_9 : ri (rt_P sc fm) 273 9 (.invokevirtual 82) (12) := ri_of (by decide +kernel) rfl
theorem wi_273_91 : ri (rt_P sc fm) 273 91 (.iload 4) (93) := ri_of (by decide +kernel) rfl
theorem wi_273_93 : ri (rt_P sc fm) 273 93 (.ldc_w 323) (96) := ri_of (by decide +kernel) rfl
theorem wi_273_96 : ri (rt_P sc fm) 273 96 (.invokestatic 324) (99) := ri_of (by decide +kernel) rfl
theorem wi_273_99 : ri (rt_P sc fm) 273 99 (.iconst 3) (100) := ri_of (by decide +kernel) rfl
theorem wk_273_323 : rx_kt (rt_P sc fm) 273 323 = some (.ref (rx_K 41)) := (by decide +kernel : rt_kt 273 323 = some (.ref (rx_K 41)))
theorem wm_227 : rx_ml (rt_P sc fm) 227 = 2 := (by decide +kernel : rt_ml 227 = 2)
theorem wm_274 : rx_ml (rt_P sc fm) 274 = 8 := (by decide +kernel : rt_ml 274 = 8)
theorem wm_276 : rx_ml (rt_P sc fm) 276 = 3 := (by decide +kernel : rt_ml 276 = 3)
theorem wm_277 : rx_ml (rt_P sc fm) 277 = 9 := (by decide +kernel : rt_ml 277 = 9)
theorem wm_351 : rx_ml (rt_P sc fm) 351 = 4 := (by decide +kernel : rt_ml 351 = 4)
theorem wr_273 : rx_rt (rt_P sc fm) 273 = none := (by decide +kernel : rt_rt 273 = none)
/-- MarkHouse$Reader.readMarks(II)V -/
def d_273 (n : Nat) (a1 : Int32) (a2 : Int32) (c : cS) : Option ((cS) ⊕ cS) :=
  Option.bind (whl (R := (cS) ⊕ ((cS) ⊕ cS)) (fun s2 : Int32 × cS =>
    if 20 < s2.1 then
      some (.inr (.inl s2.2))
    else
      Option.bind (d_43 n s2.2) (fun v3 =>
      if v3 = 64 then
        Option.bind (d_274 n a1 a2 s2.2) (Sum.elim (fun r4 =>
        Option.bind (d_227 n r4.1 r4.2) (fun v7 =>
        jn (fun p8 : cS =>
          lt (s2.1 + 1 : Int32) (fun v10 =>
          some (.inl (v10, p8))))
        (fun j144 =>
        if v7 = 0 then
          if ib r4.1 4096 then
          if (r4.2.1 135 (ix r4.1)) < 100 then
            if ib r4.1 4096 then
            if ib (r4.2.1 135 (ix r4.1)) 12 then
            Option.bind (d_277 n r4.1 (ix (r4.2.1 135 (ix r4.1))) r4.2) (Sum.elim (fun r15 =>
            j144 r15)
            (fun z16 => some (.inr (.inr (.inr z16)))))
            else none
            else none
          else
            Option.bind (d_257 n 46 r4.2) (Sum.elim (fun r17 =>
            if ib r4.1 4096 then
            if ib ((r17.1 135 (ix r4.1)) - 100) 4 then
            Option.bind (d_276 n (ix ((r17.1 135 (ix r4.1)) - 100)) r17) (Sum.elim (fun r21 =>
            Option.bind (d_351 n 41) (fun v23 =>
            if ib ((r21.2.1 145 7) - 1) 4001 then
            Option.bind (d_225 n r4.1 v23 3 (r21.2.2 5 (ix ((r21.2.1 145 7) - 1))) r21.2) (fun r25 =>
            j144 r25)
            else none))
            (fun z22 => some (.inr (.inr (.inr z22)))))
            else none
            else none)
            (fun z18 => some (.inr (.inr (.inr z18)))))
          else none
        else
          j144 r4.2)))
        (fun z5 => some (.inr (.inr (.inr z5)))))
      else
        some (.inr (.inl s2.2)))) n (0, c))
  (Sum.elim (fun x26 : cS =>
    some (.inl x26))
  (fun x27 : (cS) ⊕ cS =>
    some x27))
theorem sp_273 {F Lo n : Nat} {a1 : Int32} {a2 : Int32} {c y : cS} {w : cW} {K : (cS) ⊕ cS → Prop} {Q : ((Option Value) ⊕ String) → List va_E → Prop} (hw : rOK fm w) (hF : 9 ≤ F) (hLo : 157 ≤ Lo)  (h : wp (d_273 n a1 a2 c) K) (hQ : ∀ r, K (.inl r) → Q (.inl none) (hq true r y w)) (hT : ∀ r, K (.inr r) → Q (.inr "java/lang/IllegalArgumentException") (hq true r y w)) : rs (rt_P sc fm) 273 F Lo 0 [(0, .ref 145), (1, .int a1), (2, .int a2)] [] (hq true c y w) Q := by
  unfold d_273 at h
  obtain ⟨lv, elv⟩ : ∃ lv : rx_L, lv = [(0, .ref 145), (1, .int a1), (2, .int a2)] := ⟨_, rfl⟩
  rw [← elv]
  have l0 : rx_ld lv 0 = some (.ref 145) := by rw [elv]; rfl
  have l1 : rx_ld lv 1 = some (.int a1) := by rw [elv]; rfl
  have l2 : rx_ld lv 2 = some (.int a2) := by rw [elv]; rfl
  refine rs_pure wi_273_0 rfl ?_
  refine rs_topi (v := 0) (by decide) ?_
  refine dl_istn wi_273_1 rfl (fun lv l3 t1 => ?_)
  have l0 := t1 _ _ (by decide) (Or.inl rfl) l0
  have l1 := t1 _ _ (by decide) (Or.inl rfl) l1
  have l2 := t1 _ _ (by decide) (Or.inl rfl) l2
  refine whl_ex (A := fun s2 : Int32 × cS => ∀ lv, rx_ld lv 0 = some (.ref 145) → rx_ld lv 1 = some (.int a1) → rx_ld lv 2 = some (.int a2) → rx_ld lv 3 = some (.int s2.1) → rs (rt_P sc fm) 273 F Lo 2 lv [] (hq true s2.2 y w) Q) (B := (Sum.elim (fun x26 : cS => ∀ lv, rs (rt_P sc fm) 273 F Lo 150 lv [] (hq true x26 y w) Q) K)) ?_ ?_ _ _ (wp_bind h) _ l0 l1 l2 l3
  · intro s2 h lv l0 l1 l2 l3
    refine rs_ildn wi_273_2 l3 ?_
    refine rs_pure wi_273_3 rfl ?_
    refine rs_topi (v := 20) (by decide) ?_
    refine rs_icgt (tg := 150) wi_273_5 ⟨by decide, by decide⟩ (fun q => ?_) (fun q => ?_)
    ·
      have h := wp_pos h q
      exact h _
    ·
      have h := wp_neg h q
      refine rs_aldn wi_273_8 l0 ?_
      refine rs_V wi_273_9 wc_273_82 rfl (dq_isa tf_145_0 wa_10_43) (Nat.le_trans (by decide) hF) (ml_le wm_43 (Nat.le_trans (by decide) hLo)) rfl (sp_43 hw (Nat.le_trans (by decide : 0 ≤ 9 - 1) (Nat.sub_le_sub_right hF 1)) (ml_sub wm_43 (Nat.le_trans (by decide : 0 ≤ 157 - 20) (Nat.sub_le_sub_right hLo 20))) (wp_bind h) (fun v3 h => rs_back1 ?_))
      refine rs_pure wi_273_12 rfl ?_
      refine rs_topi (v := 64) (by decide) ?_
      refine rs_icne (tg := 150) wi_273_14 ⟨by decide, by decide⟩ (fun q => ?_) (fun q => ?_)
      ·
        have h := wp_neg h q
        exact h _
      ·
        have h := wp_pos h q
        refine rs_aldn wi_273_17 l0 ?_
        refine rs_ildn wi_273_18 l1 ?_
        refine rs_ildn wi_273_19 l2 ?_
        refine rs_V wi_273_20 wc_273_313 rfl (dq_isa tf_145_0 wa_10_274) (Nat.le_trans (by decide) hF) (ml_le wm_274 (Nat.le_trans (by decide) hLo)) rfl (sp_274 hw (Nat.le_trans (by decide : 8 ≤ 9 - 1) (Nat.sub_le_sub_right hF 1)) (ml_sub wm_274 (Nat.le_trans (by decide : 124 ≤ 157 - 27) (Nat.sub_le_sub_right hLo 27))) (wp_bind h) (fun r4 h => rs_back1 ?_) (fun z5 h => rs_up wh0_273_20 whh_273 (hT z5 (wp_inr h))))
        have h := wp_inl h
        refine dl_ist wi_273_23 rfl (fun lv l4 t6 => ?_)
        have l0 := t6 _ _ (by decide) (Or.inl rfl) l0
        have l1 := t6 _ _ (by decide) (Or.inl rfl) l1
        have l2 := t6 _ _ (by decide) (Or.inl rfl) l2
        have l3 := t6 _ _ (by decide) (Or.inl rfl) l3
        refine rs_aldn wi_273_25 l0 ?_
        refine dq_gr wi_273_26 wf_273_23 tf_145_3 ?_
        refine rs_ild wi_273_29 l4 ?_
        refine rs_V wi_273_31 wc_273_317 rfl (dq_isa tf_133_0 wa_7_227) (Nat.le_trans (by decide) hF) (ml_le wm_227 (Nat.le_trans (by decide) hLo)) rfl (sp_227 hw (Nat.le_trans (by decide : 0 ≤ 9 - 1) (Nat.sub_le_sub_right hF 1)) (ml_sub wm_227 (Nat.le_trans (by decide : 0 ≤ 157 - 21) (Nat.sub_le_sub_right hLo 21))) (wp_bind h) (fun v7 h => rs_back1 ?_))
        refine wp_jn (B := fun p8 : cS => ∀ lv, rx_ld lv 0 = some (.ref 145) → rx_ld lv 1 = some (.int a1) → rx_ld lv 2 = some (.int a2) → rx_ld lv 3 = some (.int s2.1) → rs (rt_P sc fm) 273 F Lo 144 lv [] (hq true p8 y w) Q) h (fun p8 h lv l0 l1 l2 l3 => ?_) (fun j144 hj144 h => ?_)
        ·
          obtain ⟨v10, e11, h⟩ := wp_lt h
          refine dl_inc wi_273_144 l3 rfl e11 (fun lv l3 t9 => ?_)
          have l0 := t9 _ _ (by decide) (Or.inl rfl) l0
          have l1 := t9 _ _ (by decide) (Or.inl rfl) l1
          have l2 := t9 _ _ (by decide) (Or.inl rfl) l2
          refine rs_goto (tg := 2) wi_273_147 ⟨by decide, by decide⟩ ?_
          exact h _ l0 l1 l2 l3
        refine rs_ifeq (tg := 40) wi_273_34 ⟨by decide, by decide⟩ (fun q => ?_) (fun q => ?_)
        ·
          have h := wp_pos h q
          refine rs_aldn wi_273_40 l0 ?_
          refine dq_gr wi_273_41 wf_273_23 tf_145_3 ?_
          refine dq_gr wi_273_44 wf_273_228 tf_133_1 ?_
          refine rs_ild wi_273_47 l4 ?_
          obtain ⟨g12, h⟩ := wp_gd h
          refine dq_iald wi_273_49 t_135 g12 ?_
          refine rs_pure wi_273_50 rfl ?_
          refine rs_topi (v := 100) (by decide) ?_
          refine rs_iclt (tg := 120) wi_273_52 ⟨by decide, by decide⟩ (fun q => ?_) (fun q => ?_)
          ·
            have h := wp_pos h q
            refine rs_aldn wi_273_120 l0 ?_
            refine rs_ild wi_273_121 l4 ?_
            refine rs_aldn wi_273_123 l0 ?_
            refine dq_gr wi_273_124 wf_273_15 tf_145_1 ?_
            refine dq_gr wi_273_127 wf_273_172 tf_7_3 ?_
            refine rs_aldn wi_273_130 l0 ?_
            refine dq_gr wi_273_131 wf_273_23 tf_145_3 ?_
            refine dq_gr wi_273_134 wf_273_228 tf_133_1 ?_
            refine rs_ild wi_273_137 l4 ?_
            obtain ⟨g13, h⟩ := wp_gd h
            refine dq_iald wi_273_139 t_135 g13 ?_
            obtain ⟨g14, h⟩ := wp_gd h
            refine dq_aald wi_273_140 (by decide) t_9 g14 (hw.2.1 _ (ib_lt g14)) ?_
            refine rs_V wi_273_141 wc_273_332 rfl (dq_isa tf_145_0 wa_10_277) (Nat.le_trans (by decide) hF) (ml_le wm_277 (Nat.le_trans (by decide) hLo)) rfl (sp_277 hw (Nat.le_trans (by decide : 8 ≤ 9 - 1) (Nat.sub_le_sub_right hF 1)) (ml_sub wm_277 (Nat.le_trans (by decide : 129 ≤ 157 - 28) (Nat.sub_le_sub_right hLo 28))) (ib_lt g14) (wp_bind h) (fun r15 h => rs_back0 ?_) (fun z16 h => rs_up wh0_273_141 whh_273 (hT z16 (wp_inr h))))
            have h := wp_inl h
            exact hj144 _ h _ l0 l1 l2 l3
          ·
            have h := wp_neg h q
            refine rs_aldn wi_273_55 l0 ?_
            refine rs_pure wi_273_56 rfl ?_
            refine rs_topi (v := 46) (by decide) ?_
            refine rs_V wi_273_58 wc_273_114 rfl (dq_isa tf_145_0 wa_10_257) (Nat.le_trans (by decide) hF) (ml_le wm_257 (Nat.le_trans (by decide) hLo)) rfl (sp_257 hw (Nat.le_trans (by decide : 7 ≤ 9 - 1) (Nat.sub_le_sub_right hF 1)) (ml_sub wm_257 (Nat.le_trans (by decide : 104 ≤ 157 - 21) (Nat.sub_le_sub_right hLo 21))) (wp_bind h) (fun r17 h => rs_back0 ?_) (fun z18 h => rs_up wh0_273_58 whh_273 (hT z18 (wp_inr h))))
            have h := wp_inl h
            refine rs_aldn wi_273_61 l0 ?_
            refine rs_aldn wi_273_62 l0 ?_
            refine dq_gr wi_273_63 wf_273_15 tf_145_1 ?_
            refine dq_gr wi_273_66 wf_273_136 tf_7_1 ?_
            refine rs_aldn wi_273_69 l0 ?_
            refine dq_gr wi_273_70 wf_273_23 tf_145_3 ?_
            refine dq_gr wi_273_73 wf_273_228 tf_133_1 ?_
            refine rs_ild wi_273_76 l4 ?_
            obtain ⟨g19, h⟩ := wp_gd h
            refine dq_iald wi_273_78 t_135 g19 ?_
            refine rs_pure wi_273_79 rfl ?_
            refine rs_topi (v := 100) (by decide) ?_
            refine rs_pure wi_273_81 rfl ?_
            obtain ⟨g20, h⟩ := wp_gd h
            refine dq_aald wi_273_82 (by decide) t_8 g20 (hw.1 _ (ib_lt g20)) ?_
            refine rs_V wi_273_83 wc_273_320 rfl (dq_isa tf_145_0 wa_10_276) (Nat.le_trans (by decide) hF) (ml_le wm_276 (Nat.le_trans (by decide) hLo)) rfl (sp_276 hw (Nat.le_trans (by decide : 8 ≤ 9 - 1) (Nat.sub_le_sub_right hF 1)) (ml_sub wm_276 (Nat.le_trans (by decide : 124 ≤ 157 - 22) (Nat.sub_le_sub_right hLo 22))) (ib_lt g20) (wp_bind h) (fun r21 h => rs_back1 ?_) (fun z22 h => rs_up wh0_273_83 whh_273 (hT z22 (wp_inr h))))
            have h := wp_inl h
            refine rs_pure wi_273_86 rfl ?_
            refine rs_aldn wi_273_87 l0 ?_
            refine dq_gr wi_273_88 wf_273_23 tf_145_3 ?_
            refine rs_ild wi_273_91 l4 ?_
            refine rs_ldcwS wi_273_93 wk_273_323 ?_
            refine rs_SN wi_273_96 wc_273_324 rfl (Nat.le_trans (by decide) hF) (ml_le wm_351 (Nat.le_trans (by decide) hLo)) rfl (sp_351 hq_len hw.2.2.2 (Nat.le_trans (by decide : 4 ≤ 9 - 1) (Nat.sub_le_sub_right hF 1)) (ml_sub wm_351 (Nat.le_trans (by decide : 85 ≤ 157 - 23) (Nat.sub_le_sub_right hLo 23))) wsb_41 (wp_bind h) (fun v23 h => rs_back1 ?_))
            refine rs_pure wi_273_99 rfl ?_
            refine rs_topi (v := 3) (by decide) ?_
            refine rs_aldn wi_273_100 l0 ?_
            refine dq_gr wi_273_101 wf_273_9 tf_145_0 ?_
            refine dq_gr wi_273_104 wf_273_85 tf_1_4 ?_
            refine rs_aldn wi_273_107 l0 ?_
            refine dq_gi wi_273_108 wf_273_49 tf_145_7 ?_
            refine rs_pure wi_273_111 rfl ?_
            refine rs_topi (v := 1) (by decide) ?_
            refine rs_pure wi_273_112 rfl ?_
            obtain ⟨g24, h⟩ := wp_gd h
            refine dq_lald wi_273_113 t_5 g24 ?_
            refine rs_V wi_273_114 wc_273_328 rfl (dq_isa tf_133_0 wa_7_225) (Nat.le_trans (by decide) hF) (ml_le wm_225 (Nat.le_trans (by decide) hLo)) rfl (sp_225 hw (Nat.le_trans (by decide : 0 ≤ 9 - 1) (Nat.sub_le_sub_right hF 1)) (ml_sub wm_225 (Nat.le_trans (by decide : 0 ≤ 157 - 27) (Nat.sub_le_sub_right hLo 27))) (wp_bind h) (fun r25 h => rs_back0 ?_))
            refine rs_goto (tg := 144) wi_273_117 ⟨by decide, by decide⟩ ?_
            exact hj144 _ h _ l0 l1 l2 l3
        ·
          have h := wp_neg h q
          refine rs_goto (tg := 144) wi_273_37 ⟨by decide, by decide⟩ ?_
          exact hj144 _ h _ l0 l1 l2 l3
  ·
    refine sum_all ?_ ?_
    ·
      intro x26 h lv
      have h := wp_inl h
      exact rs_vret wi_273_150 wr_273 (hQ x26 h)
    ·
      intro x27 h
      exact h
theorem wa_10_273 : rz_cn 10 (rx_yn (rt_P sc fm) 273).cls = true := (by decide +kernel : rz_cn 10 (rt_yn 273).cls = true)
theorem wc_272_269 : rx_ct (rt_P sc fm) 272 269 = some (0, 273, 2) := (by decide +kernel : rt_ct 272 269 = some (0, 273, 2))
theorem wc_272_61 : rx_ct (rt_P sc fm) 272 61 = some (0, 41, 2) := (by decide +kernel : rt_ct 272 61 = some (0, 41, 2))
theorem wc_272_79 : rx_ct (rt_P sc fm) 272 79 = some (0, 42, 0) := (by decide +kernel : rt_ct 272 79 = some (0, 42, 0))
theorem wc_272_82 : rx_ct (rt_P sc fm) 272 82 = some (0, 43, 0) := (by decide +kernel : rt_ct 272 82 = some (0, 43, 0))
theorem wh0_272_15 : rx_ht (rt_P sc fm) 272 15 "java/lang/IllegalArgumentException" = none := (by decide +kernel : rt_ht 272 15 "java/lang/IllegalArgumentException" = none)
theorem wh0_272_21 : rx_ht (rt_P sc fm) 272 21 "java/lang/IllegalArgumentException" = none := (by decide +kernel : rt_ht 272 21 "java/lang/IllegalArgumentException" = none)
theorem whh_272 : rx_hh (rt_P sc fm) 272 = [] := (by decide +kernel : rt_hh 272 = [])
theorem wi_272_0 : ri (rt_P sc fm) 272 0 (.aload_n 0) (1) := ri_of (by decide +kernel) rfl
theorem wi_272_1 : ri (rt_P sc fm) 272 1 (.invokevirtual 82) (4) := ri_of (by decide +kernel) rfl
theorem wi_272_10 : ri (rt_P sc fm) 272 10 (.iconst 2) (11) := ri_of (by decide +kernel) rfl
theorem wi_272_11 : ri (rt_P sc fm) 272 11 (.aload_n 0) (12) := ri_of (by decide +kernel) rfl
theorem wi_272_12 : ri (rt_P sc fm) 272 12 (.invokevirtual 79) (15) := ri_of (by decide +kernel) rfl
theorem wi_272_15 : ri (rt_P sc fm) 272 15 (.invokevirtual 61) (18) := ri_of (by decide +kernel) rfl
theorem wi_272_18 : ri (rt_P sc fm) 272 18 (.aload_n 0) (19) := ri_of (by decide +kernel) rfl
theorem wi_272_19 : ri (rt_P sc fm) 272 19 (.iload_n 1) (20) := ri_of (by decide +kernel) rfl
theorem wi_272_20 : ri (rt_P sc fm) 272 20 (.iload_n 2) (21) := ri_of (by decide +kernel) rfl
theorem wi_272_21 : ri (rt_P sc fm) 272 21 (.invokevirtual 269) (24) := ri_of (by decide +kernel) rfl
theorem wi_272_24 : ri (rt_P sc fm) 272 24 (.return_) (25) := ri_of (by decide +kernel) rfl
theorem wi_272_4 : ri (rt_P sc fm) 272 4 (.bipush 64) (6) := ri_of (by decide +kernel) rfl
theorem wi_272_6 : ri (rt_P sc fm) 272 6 (.if_icmp .eq 12) (9) := ri_of (by decide +kernel) rfl
theorem wi_272_9 : ri (rt_P sc fm) 272 9 (.aload_n 0) (10) := ri_of (by decide +kernel) rfl
theorem wm_273 : rx_ml (rt_P sc fm) 273 = 5 := (by decide +kernel : rt_ml 273 = 5)
theorem wr_272 : rx_rt (rt_P sc fm) 272 = none := (by decide +kernel : rt_rt 272 = none)
/-- MarkHouse$Reader.readSomeMarks(II)V -/
def d_272 (n : Nat) (a1 : Int32) (a2 : Int32) (c : cS) : Option ((cS) ⊕ cS) :=
  Option.bind (d_43 n c) (fun v1 =>
  jn (fun p2 : cS =>
    Option.bind (d_273 n a1 a2 p2) (Sum.elim (fun r3 =>
    some (.inl r3))
    (fun z4 => some (.inr z4))))
  (fun j18 =>
  if v1 = 64 then
    j18 c
  else
    Option.bind (d_42 n c) (fun v5 =>
    Option.bind (d_41 n 2 v5 c) (Sum.elim (fun r6 =>
    j18 r6)
    (fun z7 => some (.inr z7))))))
theorem sp_272 {F Lo n : Nat} {a1 : Int32} {a2 : Int32} {c y : cS} {w : cW} {K : (cS) ⊕ cS → Prop} {Q : ((Option Value) ⊕ String) → List va_E → Prop} (hw : rOK fm w) (hF : 10 ≤ F) (hLo : 181 ≤ Lo)  (h : wp (d_272 n a1 a2 c) K) (hQ : ∀ r, K (.inl r) → Q (.inl none) (hq true r y w)) (hT : ∀ r, K (.inr r) → Q (.inr "java/lang/IllegalArgumentException") (hq true r y w)) : rs (rt_P sc fm) 272 F Lo 0 [(0, .ref 145), (1, .int a1), (2, .int a2)] [] (hq true c y w) Q := by
  unfold d_272 at h
  obtain ⟨lv, elv⟩ : ∃ lv : rx_L, lv = [(0, .ref 145), (1, .int a1), (2, .int a2)] := ⟨_, rfl⟩
  rw [← elv]
  have l0 : rx_ld lv 0 = some (.ref 145) := by rw [elv]; rfl
  have l1 : rx_ld lv 1 = some (.int a1) := by rw [elv]; rfl
  have l2 : rx_ld lv 2 = some (.int a2) := by rw [elv]; rfl
  refine rs_aldn wi_272_0 l0 ?_
  refine rs_V wi_272_1 wc_272_82 rfl (dq_isa tf_145_0 wa_10_43) (Nat.le_trans (by decide) hF) (ml_le wm_43 (Nat.le_trans (by decide) hLo)) rfl (sp_43 hw (Nat.le_trans (by decide : 0 ≤ 10 - 1) (Nat.sub_le_sub_right hF 1)) (ml_sub wm_43 (Nat.le_trans (by decide : 0 ≤ 181 - 20) (Nat.sub_le_sub_right hLo 20))) (wp_bind h) (fun v1 h => rs_back1 ?_))
  refine rs_pure wi_272_4 rfl ?_
  refine rs_topi (v := 64) (by decide) ?_
  refine wp_jn (B := fun p2 : cS => ∀ lv, rx_ld lv 0 = some (.ref 145) → rx_ld lv 1 = some (.int a1) → rx_ld lv 2 = some (.int a2) → rs (rt_P sc fm) 272 F Lo 18 lv [] (hq true p2 y w) Q) h (fun p2 h lv l0 l1 l2 => ?_) (fun j18 hj18 h => ?_)
  ·
    refine rs_aldn wi_272_18 l0 ?_
    refine rs_ildn wi_272_19 l1 ?_
    refine rs_ildn wi_272_20 l2 ?_
    refine rs_V wi_272_21 wc_272_269 rfl (dq_isa tf_145_0 wa_10_273) (Nat.le_trans (by decide) hF) (ml_le wm_273 (Nat.le_trans (by decide) hLo)) rfl (sp_273 hw (Nat.le_trans (by decide : 9 ≤ 10 - 1) (Nat.sub_le_sub_right hF 1)) (ml_sub wm_273 (Nat.le_trans (by decide : 157 ≤ 181 - 24) (Nat.sub_le_sub_right hLo 24))) (wp_bind h) (fun r3 h => rs_back0 ?_) (fun z4 h => rs_up wh0_272_21 whh_272 (hT z4 (wp_inr h))))
    have h := wp_inl h
    exact rs_vret wi_272_24 wr_272 (hQ r3 h)
  refine rs_iceq (tg := 18) wi_272_6 ⟨by decide, by decide⟩ (fun q => ?_) (fun q => ?_)
  ·
    have h := wp_pos h q
    exact hj18 _ h _ l0 l1 l2
  ·
    have h := wp_neg h q
    refine rs_aldn wi_272_9 l0 ?_
    refine rs_pure wi_272_10 rfl ?_
    refine rs_topi (v := 2) (by decide) ?_
    refine rs_aldn wi_272_11 l0 ?_
    refine rs_V wi_272_12 wc_272_79 rfl (dq_isa tf_145_0 wa_10_42) (Nat.le_trans (by decide) hF) (ml_le wm_42 (Nat.le_trans (by decide) hLo)) rfl (sp_42 hw (Nat.le_trans (by decide : 0 ≤ 10 - 1) (Nat.sub_le_sub_right hF 1)) (ml_sub wm_42 (Nat.le_trans (by decide : 0 ≤ 181 - 20) (Nat.sub_le_sub_right hLo 20))) (wp_bind h) (fun v5 h => rs_back1 ?_))
    refine rs_V wi_272_15 wc_272_61 rfl (dq_isa tf_145_0 wa_10_41) (Nat.le_trans (by decide) hF) (ml_le wm_41 (Nat.le_trans (by decide) hLo)) rfl (sp_41 hw (Nat.le_trans (by decide : 6 ≤ 10 - 1) (Nat.sub_le_sub_right hF 1)) (ml_sub wm_41 (Nat.le_trans (by decide : 82 ≤ 181 - 22) (Nat.sub_le_sub_right hLo 22))) (wp_bind h) (fun r6 h => rs_back0 ?_) (fun z7 h => rs_up wh0_272_15 whh_272 (hT z7 (wp_inr h))))
    have h := wp_inl h
    exact hj18 _ h _ l0 l1 l2
theorem wf_220_26 : rx_ft (rt_P sc fm) 220 26 = some (6, 9) := (by decide +kernel : rt_ft 220 26 = some (6, 9))
theorem wi_220_0 : ri (rt_P sc fm) 220 0 (.iload_n 1) (1) := ri_of (by decide +kernel) rfl
theorem wi_220_1 : ri (rt_P sc fm) 220 1 (.bipush 100) (3) := ri_of (by decide +kernel) rfl
theorem wi_220_10 : ri (rt_P sc fm) 220 10 (.bipush 100) (12) := ri_of (by decide +kernel) rfl
theorem wi_220_12 : ri (rt_P sc fm) 220 12 (.isub) (13) := ri_of (by decide +kernel) rfl
theorem wi_220_13 : ri (rt_P sc fm) 220 13 (.goto 4) (16) := ri_of (by decide +kernel) rfl
theorem wi_220_16 : ri (rt_P sc fm) 220 16 (.iload_n 1) (17) := ri_of (by decide +kernel) rfl
theorem wi_220_17 : ri (rt_P sc fm) 220 17 (.istore_n 3) (18) := ri_of (by decide +kernel) rfl
theorem wi_220_18 : ri (rt_P sc fm) 220 18 (.aload_n 0) (19) := ri_of (by decide +kernel) rfl
theorem wi_220_19 : ri (rt_P sc fm) 220 19 (.getfield 26) (22) := ri_of (by decide +kernel) rfl
theorem wi_220_22 : ri (rt_P sc fm) 220 22 (.iload_n 3) (23) := ri_of (by decide +kernel) rfl
theorem wi_220_23 : ri (rt_P sc fm) 220 23 (.iaload) (24) := ri_of (by decide +kernel) rfl
theorem wi_220_24 : ri (rt_P sc fm) 220 24 (.ifCond .ge 10) (27) := ri_of (by decide +kernel) rfl
theorem wi_220_27 : ri (rt_P sc fm) 220 27 (.aload_n 0) (28) := ri_of (by decide +kernel) rfl
theorem wi_220_28 : ri (rt_P sc fm) 220 28 (.getfield 26) (31) := ri_of (by decide +kernel) rfl
theorem wi_220_3 : ri (rt_P sc fm) 220 3 (.if_icmp .lt 13) (6) := ri_of (by decide +kernel) rfl
theorem wi_220_31 : ri (rt_P sc fm) 220 31 (.iload_n 3) (32) := ri_of (by decide +kernel) rfl
theorem wi_220_32 : ri (rt_P sc fm) 220 32 (.iload_n 2) (33) := ri_of (by decide +kernel) rfl
theorem wi_220_33 : ri (rt_P sc fm) 220 33 (.iastore) (34) := ri_of (by decide +kernel) rfl
theorem wi_220_34 : ri (rt_P sc fm) 220 34 (.return_) (35) := ri_of (by decide +kernel) rfl
theorem wi_220_6 : ri (rt_P sc fm) 220 6 (.bipush 12) (8) := ri_of (by decide +kernel) rfl
theorem wi_220_8 : ri (rt_P sc fm) 220 8 (.iload_n 1) (9) := ri_of (by decide +kernel) rfl
theorem wi_220_9 : ri (rt_P sc fm) 220 9 (.iadd) (10) := ri_of (by decide +kernel) rfl
theorem wr_220 : rx_rt (rt_P sc fm) 220 = none := (by decide +kernel : rt_rt 220 = none)
/-- MarkHouse$Kind.giveAlso(II)V -/
def d_220 (n : Nat) (k0 : Nat) (a1 : Int32) (a2 : Int32) (c : cS) : Option (cS) :=
  jn (fun p1 : Int32 =>
    if ib p1 16 then
    jn (fun p4 : cS =>
      some p4)
    (fun j34 =>
    if 0 ≤ (c.1 (kA k0 + 5) (ix p1)) then
      j34 c
    else
      if ib p1 16 then
      lt (pI c (kA k0 + 5) (ix p1) a2) (fun c6 =>
      j34 c6)
      else none)
    else none)
  (fun j17 =>
  if a1 < 100 then
    j17 a1
  else
    j17 ((12 + a1) - 100))
theorem sp_220 {F Lo n : Nat} {k0 : Nat} {a1 : Int32} {a2 : Int32} {c y : cS} {w : cW} {K : cS → Prop} {Q : ((Option Value) ⊕ String) → List va_E → Prop} (hw : rOK fm w) (hF : 0 ≤ F) (hLo : 0 ≤ Lo) (hk0 : k0 < 12) (h : wp (d_220 n k0 a1 a2 c) K) (hQ : ∀ r, K r → Q (.inl none) (hq true r y w)) : rs (rt_P sc fm) 220 F Lo 0 [(0, .ref (kA k0)), (1, .int a1), (2, .int a2)] [] (hq true c y w) Q := by
  unfold d_220 at h
  obtain ⟨lv, elv⟩ : ∃ lv : rx_L, lv = [(0, .ref (kA k0)), (1, .int a1), (2, .int a2)] := ⟨_, rfl⟩
  rw [← elv]
  have l0 : rx_ld lv 0 = some (.ref (kA k0)) := by rw [elv]; rfl
  have l1 : rx_ld lv 1 = some (.int a1) := by rw [elv]; rfl
  have l2 : rx_ld lv 2 = some (.int a2) := by rw [elv]; rfl
  refine rs_ildn wi_220_0 l1 ?_
  refine rs_pure wi_220_1 rfl ?_
  refine rs_topi (v := 100) (by decide) ?_
  refine wp_jn (B := fun p1 : Int32 => ∀ lv, rx_ld lv 0 = some (.ref (kA k0)) → rx_ld lv 2 = some (.int a2) → rs (rt_P sc fm) 220 F Lo 17 lv [.int p1] (hq true c y w) Q) h (fun p1 h lv l0 l2 => ?_) (fun j17 hj17 h => ?_)
  ·
    refine dl_istn wi_220_17 rfl (fun lv l3 t2 => ?_)
    have l0 := t2 _ _ (by decide) (Or.inl rfl) l0
    have l2 := t2 _ _ (by decide) (Or.inl rfl) l2
    refine rs_aldn wi_220_18 l0 ?_
    refine dq_gr wi_220_19 wf_220_26 (fK_9 hk0) ?_
    refine rs_ildn wi_220_22 l3 ?_
    obtain ⟨g3, h⟩ := wp_gd h
    refine dq_iald wi_220_23 (tK_5 hk0) g3 ?_
    refine wp_jn (B := fun p4 : cS => ∀ lv, rs (rt_P sc fm) 220 F Lo 34 lv [] (hq true p4 y w) Q) h (fun p4 h lv => ?_) (fun j34 hj34 h => ?_)
    ·
      exact rs_vret wi_220_34 wr_220 (hQ p4 h)
    refine rs_ifge (tg := 34) wi_220_24 ⟨by decide, by decide⟩ (fun q => ?_) (fun q => ?_)
    ·
      have h := wp_pos h q
      exact hj34 _ h _
    ·
      have h := wp_neg h q
      refine rs_aldn wi_220_27 l0 ?_
      refine dq_gr wi_220_28 wf_220_26 (fK_9 hk0) ?_
      refine rs_ildn wi_220_31 l3 ?_
      refine rs_ildn wi_220_32 l2 ?_
      obtain ⟨g5, h⟩ := wp_gd h
      obtain ⟨c6, e7, h⟩ := wp_lt h
      refine dq_iast wi_220_33 (tK_5 hk0) g5 e7 ?_
      exact hj34 _ h _
  refine rs_iclt (tg := 16) wi_220_3 ⟨by decide, by decide⟩ (fun q => ?_) (fun q => ?_)
  ·
    have h := wp_pos h q
    refine rs_ildn wi_220_16 l1 ?_
    exact hj17 _ h _ l0 l2
  ·
    have h := wp_neg h q
    refine rs_pure wi_220_6 rfl ?_
    refine rs_topi (v := 12) (by decide) ?_
    refine rs_ildn wi_220_8 l1 ?_
    refine rs_pure wi_220_9 rfl ?_
    refine rs_pure wi_220_10 rfl ?_
    refine rs_topi (v := 100) (by decide) ?_
    refine rs_pure wi_220_12 rfl ?_
    refine rs_goto (tg := 17) wi_220_13 ⟨by decide, by decide⟩ ?_
    exact hj17 _ h _ l0 l2
theorem wf_221_26 : rx_ft (rt_P sc fm) 221 26 = some (6, 9) := (by decide +kernel : rt_ft 221 26 = some (6, 9))
theorem wi_221_0 : ri (rt_P sc fm) 221 0 (.iconst 0) (1) := ri_of (by decide +kernel) rfl
theorem wi_221_1 : ri (rt_P sc fm) 221 1 (.istore_n 2) (2) := ri_of (by decide +kernel) rfl
theorem wi_221_11 : ri (rt_P sc fm) 221 11 (.aload_n 0) (12) := ri_of (by decide +kernel) rfl
theorem wi_221_12 : ri (rt_P sc fm) 221 12 (.getfield 26) (15) := ri_of (by decide +kernel) rfl
theorem wi_221_15 : ri (rt_P sc fm) 221 15 (.iload_n 2) (16) := ri_of (by decide +kernel) rfl
theorem wi_221_16 : ri (rt_P sc fm) 221 16 (.iaload) (17) := ri_of (by decide +kernel) rfl
theorem wi_221_17 : ri (rt_P sc fm) 221 17 (.ifCond .ge 15) (20) := ri_of (by decide +kernel) rfl
theorem wi_221_2 : ri (rt_P sc fm) 221 2 (.iload_n 2) (3) := ri_of (by decide +kernel) rfl
theorem wi_221_20 : ri (rt_P sc fm) 221 20 (.aload_n 0) (21) := ri_of (by decide +kernel) rfl
theorem wi_221_21 : ri (rt_P sc fm) 221 21 (.getfield 26) (24) := ri_of (by decide +kernel) rfl
theorem wi_221_24 : ri (rt_P sc fm) 221 24 (.iload_n 2) (25) := ri_of (by decide +kernel) rfl
theorem wi_221_25 : ri (rt_P sc fm) 221 25 (.aload_n 1) (26) := ri_of (by decide +kernel) rfl
theorem wi_221_26 : ri (rt_P sc fm) 221 26 (.getfield 26) (29) := ri_of (by decide +kernel) rfl
theorem wi_221_29 : ri (rt_P sc fm) 221 29 (.iload_n 2) (30) := ri_of (by decide +kernel) rfl
theorem wi_221_3 : ri (rt_P sc fm) 221 3 (.aload_n 0) (4) := ri_of (by decide +kernel) rfl
theorem wi_221_30 : ri (rt_P sc fm) 221 30 (.iaload) (31) := ri_of (by decide +kernel) rfl
theorem wi_221_31 : ri (rt_P sc fm) 221 31 (.iastore) (32) := ri_of (by decide +kernel) rfl
theorem wi_221_32 : ri (rt_P sc fm) 221 32 (.iinc 2 1) (35) := ri_of (by decide +kernel) rfl
theorem wi_221_35 : ri (rt_P sc fm) 221 35 (.goto (-33)) (38) := ri_of (by decide +kernel) rfl
theorem wi_221_38 : ri (rt_P sc fm) 221 38 (.return_) (39) := ri_of (by decide +kernel) rfl
theorem wi_221_4 : ri (rt_P sc fm) 221 4 (.getfield 26) (7) := ri_of (by decide +kernel) rfl
theorem wi_221_7 : ri (rt_P sc fm) 221 7 (.arraylength) (8) := ri_of (by decide +kernel) rfl
theorem wi_221_8 : ri (rt_P sc fm) 221 8 (.if_icmp .ge 30) (11) := ri_of (by decide +kernel) rfl
theorem wr_221 : rx_rt (rt_P sc fm) 221 = none := (by decide +kernel : rt_rt 221 = none)
/-- MarkHouse$Kind.giveInTurn(LMarkHouse$Kind;)V -/
def d_221 (n : Nat) (k0 : Nat) (k1 : Nat) (c : cS) : Option (cS) :=
  Option.bind (whl (R := (cS)) (fun s2 : Int32 × cS =>
    if 16 ≤ s2.1 then
      some (.inr s2.2)
    else
      if ib s2.1 16 then
      jn (fun p4 : cS =>
        lt (s2.1 + 1 : Int32) (fun v6 =>
        some (.inl (v6, p4))))
      (fun j32 =>
      if 0 ≤ (s2.2.1 (kA k0 + 5) (ix s2.1)) then
        j32 s2.2
      else
        if ib s2.1 16 then
        if ib s2.1 16 then
        lt (pI s2.2 (kA k0 + 5) (ix s2.1) (s2.2.1 (kA k1 + 5) (ix s2.1))) (fun c10 =>
        j32 c10)
        else none
        else none)
      else none) n (0, c))
  (fun x12 : cS =>
    some x12)
theorem sp_221 {F Lo n : Nat} {k0 : Nat} {k1 : Nat} {c y : cS} {w : cW} {K : cS → Prop} {Q : ((Option Value) ⊕ String) → List va_E → Prop} (hw : rOK fm w) (hF : 0 ≤ F) (hLo : 0 ≤ Lo) (hk0 : k0 < 12) (hk1 : k1 < 12) (h : wp (d_221 n k0 k1 c) K) (hQ : ∀ r, K r → Q (.inl none) (hq true r y w)) : rs (rt_P sc fm) 221 F Lo 0 [(0, .ref (kA k0)), (1, .ref (kA k1))] [] (hq true c y w) Q := by
  unfold d_221 at h
  obtain ⟨lv, elv⟩ : ∃ lv : rx_L, lv = [(0, .ref (kA k0)), (1, .ref (kA k1))] := ⟨_, rfl⟩
  rw [← elv]
  have l0 : rx_ld lv 0 = some (.ref (kA k0)) := by rw [elv]; rfl
  have l1 : rx_ld lv 1 = some (.ref (kA k1)) := by rw [elv]; rfl
  refine rs_pure wi_221_0 rfl ?_
  refine rs_topi (v := 0) (by decide) ?_
  refine dl_istn wi_221_1 rfl (fun lv l2 t1 => ?_)
  have l0 := t1 _ _ (by decide) (Or.inl rfl) l0
  have l1 := t1 _ _ (by decide) (Or.inl rfl) l1
  refine whl_ex (A := fun s2 : Int32 × cS => ∀ lv, rx_ld lv 0 = some (.ref (kA k0)) → rx_ld lv 1 = some (.ref (kA k1)) → rx_ld lv 2 = some (.int s2.1) → rs (rt_P sc fm) 221 F Lo 2 lv [] (hq true s2.2 y w) Q) (B := (fun x12 : cS => ∀ lv, rs (rt_P sc fm) 221 F Lo 38 lv [] (hq true x12 y w) Q)) ?_ ?_ _ _ (wp_bind h) _ l0 l1 l2
  · intro s2 h lv l0 l1 l2
    refine rs_ildn wi_221_2 l2 ?_
    refine rs_aldn wi_221_3 l0 ?_
    refine dq_gr wi_221_4 wf_221_26 (fK_9 hk0) ?_
    refine dq_alen wi_221_7 (by decide) (tK_5 hk0) ?_
    refine rs_topi (v := 16) (by decide) ?_
    refine rs_icge (tg := 38) wi_221_8 ⟨by decide, by decide⟩ (fun q => ?_) (fun q => ?_)
    ·
      have h := wp_pos h q
      exact h _
    ·
      have h := wp_neg h q
      refine rs_aldn wi_221_11 l0 ?_
      refine dq_gr wi_221_12 wf_221_26 (fK_9 hk0) ?_
      refine rs_ildn wi_221_15 l2 ?_
      obtain ⟨g3, h⟩ := wp_gd h
      refine dq_iald wi_221_16 (tK_5 hk0) g3 ?_
      refine wp_jn (B := fun p4 : cS => ∀ lv, rx_ld lv 0 = some (.ref (kA k0)) → rx_ld lv 1 = some (.ref (kA k1)) → rx_ld lv 2 = some (.int s2.1) → rs (rt_P sc fm) 221 F Lo 32 lv [] (hq true p4 y w) Q) h (fun p4 h lv l0 l1 l2 => ?_) (fun j32 hj32 h => ?_)
      ·
        obtain ⟨v6, e7, h⟩ := wp_lt h
        refine dl_inc wi_221_32 l2 rfl e7 (fun lv l2 t5 => ?_)
        have l0 := t5 _ _ (by decide) (Or.inl rfl) l0
        have l1 := t5 _ _ (by decide) (Or.inl rfl) l1
        refine rs_goto (tg := 2) wi_221_35 ⟨by decide, by decide⟩ ?_
        exact h _ l0 l1 l2
      refine rs_ifge (tg := 32) wi_221_17 ⟨by decide, by decide⟩ (fun q => ?_) (fun q => ?_)
      ·
        have h := wp_pos h q
        exact hj32 _ h _ l0 l1 l2
      ·
        have h := wp_neg h q
        refine rs_aldn wi_221_20 l0 ?_
        refine dq_gr wi_221_21 wf_221_26 (fK_9 hk0) ?_
        refine rs_ildn wi_221_24 l2 ?_
        refine rs_aldn wi_221_25 l1 ?_
        refine dq_gr wi_221_26 wf_221_26 (fK_9 hk1) ?_
        refine rs_ildn wi_221_29 l2 ?_
        obtain ⟨g8, h⟩ := wp_gd h
        refine dq_iald wi_221_30 (tK_5 hk1) g8 ?_
        obtain ⟨g9, h⟩ := wp_gd h
        obtain ⟨c10, e11, h⟩ := wp_lt h
        refine dq_iast wi_221_31 (tK_5 hk0) g9 e11 ?_
        exact hj32 _ h _ l0 l1 l2
  ·
    intro x12 h lv
    exact rs_vret wi_221_38 wr_221 (hQ x12 h)
theorem wa_6_220 : rz_cn 6 (rx_yn (rt_P sc fm) 220).cls = true := (by decide +kernel : rz_cn 6 (rt_yn 220).cls = true)
theorem wa_6_221 : rz_cn 6 (rx_yn (rt_P sc fm) 221).cls = true := (by decide +kernel : rz_cn 6 (rt_yn 221).cls = true)
theorem wc_267_231 : rx_ct (rt_P sc fm) 267 231 = some (0, 220, 2) := (by decide +kernel : rt_ct 267 231 = some (0, 220, 2))
theorem wc_267_236 : rx_ct (rt_P sc fm) 267 236 = some (0, 221, 1) := (by decide +kernel : rt_ct 267 236 = some (0, 221, 1))
theorem wf_267_15 : rx_ft (rt_P sc fm) 267 15 = some (10, 1) := (by decide +kernel : rt_ft 267 15 = some (10, 1))
theorem wf_267_172 : rx_ft (rt_P sc fm) 267 172 = some (9, 3) := (by decide +kernel : rt_ft 267 172 = some (9, 3))
theorem wf_267_222 : rx_ft (rt_P sc fm) 267 222 = some (7, 8) := (by decide +kernel : rt_ft 267 222 = some (7, 8))
theorem wf_267_225 : rx_ft (rt_P sc fm) 267 225 = some (7, 10) := (by decide +kernel : rt_ft 267 225 = some (7, 10))
theorem wf_267_228 : rx_ft (rt_P sc fm) 267 228 = some (7, 1) := (by decide +kernel : rt_ft 267 228 = some (7, 1))
theorem wf_267_23 : rx_ft (rt_P sc fm) 267 23 = some (10, 3) := (by decide +kernel : rt_ft 267 23 = some (10, 3))
theorem wf_267_234 : rx_ft (rt_P sc fm) 267 234 = some (7, 4) := (by decide +kernel : rt_ft 267 234 = some (7, 4))
theorem wi_267_0 : ri (rt_P sc fm) 267 0 (.aload_n 0) (1) := ri_of (by decide +kernel) rfl
theorem wi_267_1 : ri (rt_P sc fm) 267 1 (.getfield 23) (4) := ri_of (by decide +kernel) rfl
theorem wi_267_10 : ri (rt_P sc fm) 267 10 (.iconst 0) (11) := ri_of (by decide +kernel) rfl
theorem wi_267_100 : ri (rt_P sc fm) 267 100 (.getfield 15) (103) := ri_of (by decide +kernel) rfl
theorem wi_267_103 : ri (rt_P sc fm) 267 103 (.getfield 172) (106) := ri_of (by decide +kernel) rfl
theorem wi_267_106 : ri (rt_P sc fm) 267 106 (.aload_n 0) (107) := ri_of (by decide +kernel) rfl
theorem wi_267_107 : ri (rt_P sc fm) 267 107 (.getfield 23) (110) := ri_of (by decide +kernel) rfl
theorem wi_267_11 : ri (rt_P sc fm) 267 11 (.istore 4) (13) := ri_of (by decide +kernel) rfl
theorem wi_267_110 : ri (rt_P sc fm) 267 110 (.getfield 228) (113) := ri_of (by decide +kernel) rfl
theorem wi_267_113 : ri (rt_P sc fm) 267 113 (.iload_n 3) (114) := ri_of (by decide +kernel) rfl
theorem wi_267_114 : ri (rt_P sc fm) 267 114 (.iaload) (115) := ri_of (by decide +kernel) rfl
theorem wi_267_115 : ri (rt_P sc fm) 267 115 (.aaload) (116) := ri_of (by decide +kernel) rfl
theorem wi_267_116 : ri (rt_P sc fm) 267 116 (.invokevirtual 236) (119) := ri_of (by decide +kernel) rfl
theorem wi_267_119 : ri (rt_P sc fm) 267 119 (.aload_n 0) (120) := ri_of (by decide +kernel) rfl
theorem wi_267_120 : ri (rt_P sc fm) 267 120 (.getfield 23) (123) := ri_of (by decide +kernel) rfl
theorem wi_267_123 : ri (rt_P sc fm) 267 123 (.getfield 234) (126) := ri_of (by decide +kernel) rfl
theorem wi_267_126 : ri (rt_P sc fm) 267 126 (.iload_n 3) (127) := ri_of (by decide +kernel) rfl
theorem wi_267_127 : ri (rt_P sc fm) 267 127 (.iaload) (128) := ri_of (by decide +kernel) rfl
theorem wi_267_128 : ri (rt_P sc fm) 267 128 (.istore_n 3) (129) := ri_of (by decide +kernel) rfl
theorem wi_267_129 : ri (rt_P sc fm) 267 129 (.iinc 4 1) (132) := ri_of (by decide +kernel) rfl
theorem wi_267_13 : ri (rt_P sc fm) 267 13 (.iload 4) (15) := ri_of (by decide +kernel) rfl
theorem wi_267_132 : ri (rt_P sc fm) 267 132 (.goto (-62)) (135) := ri_of (by decide +kernel) rfl
theorem wi_267_135 : ri (rt_P sc fm) 267 135 (.return_) (136) := ri_of (by decide +kernel) rfl
theorem wi_267_15 : ri (rt_P sc fm) 267 15 (.aload_n 0) (16) := ri_of (by decide +kernel) rfl
theorem wi_267_16 : ri (rt_P sc fm) 267 16 (.getfield 23) (19) := ri_of (by decide +kernel) rfl
theorem wi_267_19 : ri (rt_P sc fm) 267 19 (.getfield 225) (22) := ri_of (by decide +kernel) rfl
theorem wi_267_22 : ri (rt_P sc fm) 267 22 (.iload_n 2) (23) := ri_of (by decide +kernel) rfl
theorem wi_267_23 : ri (rt_P sc fm) 267 23 (.iaload) (24) := ri_of (by decide +kernel) rfl
theorem wi_267_24 : ri (rt_P sc fm) 267 24 (.if_icmp .ge 33) (27) := ri_of (by decide +kernel) rfl
theorem wi_267_27 : ri (rt_P sc fm) 267 27 (.aload_n 1) (28) := ri_of (by decide +kernel) rfl
theorem wi_267_28 : ri (rt_P sc fm) 267 28 (.aload_n 0) (29) := ri_of (by decide +kernel) rfl
theorem wi_267_29 : ri (rt_P sc fm) 267 29 (.getfield 23) (32) := ri_of (by decide +kernel) rfl
theorem wi_267_32 : ri (rt_P sc fm) 267 32 (.getfield 228) (35) := ri_of (by decide +kernel) rfl
theorem wi_267_35 : ri (rt_P sc fm) 267 35 (.iload_n 3) (36) := ri_of (by decide +kernel) rfl
theorem wi_267_36 : ri (rt_P sc fm) 267 36 (.iaload) (37) := ri_of (by decide +kernel) rfl
theorem wi_267_37 : ri (rt_P sc fm) 267 37 (.iload_n 3) (38) := ri_of (by decide +kernel) rfl
theorem wi_267_38 : ri (rt_P sc fm) 267 38 (.invokevirtual 231) (41) := ri_of (by decide +kernel) rfl
theorem wi_267_4 : ri (rt_P sc fm) 267 4 (.getfield 222) (7) := ri_of (by decide +kernel) rfl
theorem wi_267_41 : ri (rt_P sc fm) 267 41 (.aload_n 0) (42) := ri_of (by decide +kernel) rfl
theorem wi_267_42 : ri (rt_P sc fm) 267 42 (.getfield 23) (45) := ri_of (by decide +kernel) rfl
theorem wi_267_45 : ri (rt_P sc fm) 267 45 (.getfield 234) (48) := ri_of (by decide +kernel) rfl
theorem wi_267_48 : ri (rt_P sc fm) 267 48 (.iload_n 3) (49) := ri_of (by decide +kernel) rfl
theorem wi_267_49 : ri (rt_P sc fm) 267 49 (.iaload) (50) := ri_of (by decide +kernel) rfl
theorem wi_267_50 : ri (rt_P sc fm) 267 50 (.istore_n 3) (51) := ri_of (by decide +kernel) rfl
theorem wi_267_51 : ri (rt_P sc fm) 267 51 (.iinc 4 1) (54) := ri_of (by decide +kernel) rfl
theorem wi_267_54 : ri (rt_P sc fm) 267 54 (.goto (-41)) (57) := ri_of (by decide +kernel) rfl
theorem wi_267_57 : ri (rt_P sc fm) 267 57 (.aload_n 0) (58) := ri_of (by decide +kernel) rfl
theorem wi_267_58 : ri (rt_P sc fm) 267 58 (.getfield 23) (61) := ri_of (by decide +kernel) rfl
theorem wi_267_61 : ri (rt_P sc fm) 267 61 (.getfield 222) (64) := ri_of (by decide +kernel) rfl
theorem wi_267_64 : ri (rt_P sc fm) 267 64 (.iload_n 2) (65) := ri_of (by decide +kernel) rfl
theorem wi_267_65 : ri (rt_P sc fm) 267 65 (.iaload) (66) := ri_of (by decide +kernel) rfl
theorem wi_267_66 : ri (rt_P sc fm) 267 66 (.istore_n 3) (67) := ri_of (by decide +kernel) rfl
theorem wi_267_67 : ri (rt_P sc fm) 267 67 (.iconst 0) (68) := ri_of (by decide +kernel) rfl
theorem wi_267_68 : ri (rt_P sc fm) 267 68 (.istore 4) (70) := ri_of (by decide +kernel) rfl
theorem wi_267_7 : ri (rt_P sc fm) 267 7 (.iload_n 2) (8) := ri_of (by decide +kernel) rfl
theorem wi_267_70 : ri (rt_P sc fm) 267 70 (.iload 4) (72) := ri_of (by decide +kernel) rfl
theorem wi_267_72 : ri (rt_P sc fm) 267 72 (.aload_n 0) (73) := ri_of (by decide +kernel) rfl
theorem wi_267_73 : ri (rt_P sc fm) 267 73 (.getfield 23) (76) := ri_of (by decide +kernel) rfl
theorem wi_267_76 : ri (rt_P sc fm) 267 76 (.getfield 225) (79) := ri_of (by decide +kernel) rfl
theorem wi_267_79 : ri (rt_P sc fm) 267 79 (.iload_n 2) (80) := ri_of (by decide +kernel) rfl
theorem wi_267_8 : ri (rt_P sc fm) 267 8 (.iaload) (9) := ri_of (by decide +kernel) rfl
theorem wi_267_80 : ri (rt_P sc fm) 267 80 (.iaload) (81) := ri_of (by decide +kernel) rfl
theorem wi_267_81 : ri (rt_P sc fm) 267 81 (.if_icmp .ge 54) (84) := ri_of (by decide +kernel) rfl
theorem wi_267_84 : ri (rt_P sc fm) 267 84 (.aload_n 0) (85) := ri_of (by decide +kernel) rfl
theorem wi_267_85 : ri (rt_P sc fm) 267 85 (.getfield 23) (88) := ri_of (by decide +kernel) rfl
theorem wi_267_88 : ri (rt_P sc fm) 267 88 (.getfield 228) (91) := ri_of (by decide +kernel) rfl
theorem wi_267_9 : ri (rt_P sc fm) 267 9 (.istore_n 3) (10) := ri_of (by decide +kernel) rfl
theorem wi_267_91 : ri (rt_P sc fm) 267 91 (.iload_n 3) (92) := ri_of (by decide +kernel) rfl
theorem wi_267_92 : ri (rt_P sc fm) 267 92 (.iaload) (93) := ri_of (by decide +kernel) rfl
theorem wi_267_93 : ri (rt_P sc fm) 267 93 (.bipush 100) (95) := ri_of (by decide +kernel) rfl
theorem wi_267_95 : ri (rt_P sc fm) 267 95 (.if_icmp .ge 24) (98) := ri_of (by decide +kernel) rfl
theorem wi_267_98 : ri (rt_P sc fm) 267 98 (.aload_n 1) (99) := ri_of (by decide +kernel) rfl
theorem wi_267_99 : ri (rt_P sc fm) 267 99 (.aload_n 0) (100) := ri_of (by decide +kernel) rfl
theorem wm_220 : rx_ml (rt_P sc fm) 220 = 4 := (by decide +kernel : rt_ml 220 = 4)
theorem wm_221 : rx_ml (rt_P sc fm) 221 = 3 := (by decide +kernel : rt_ml 221 = 3)
theorem wr_267 : rx_rt (rt_P sc fm) 267 = none := (by decide +kernel : rt_rt 267 = none)
/-- MarkHouse$Reader.settleGives(LMarkHouse$Kind;I)V -/
def d_267 (n : Nat) (k1 : Nat) (a2 : Int32) (c : cS) : Option (cS) :=
  if ib a2 2242 then
  lt ((c.1 142 (ix a2)) : Int32) (fun v3 =>
  Option.bind (whl (R := (cS)) (fun s6 : Int32 × Int32 × cS =>
    if ib a2 2242 then
    if (s6.2.2.1 144 (ix a2)) ≤ s6.2.1 then
      some (.inr s6.2.2)
    else
      if ib s6.1 4096 then
      Option.bind (d_220 n k1 (s6.2.2.1 135 (ix s6.1)) s6.1 s6.2.2) (fun r9 =>
      if ib s6.1 4096 then
      lt ((r9.1 138 (ix s6.1)) : Int32) (fun v12 =>
      lt (s6.2.1 + 1 : Int32) (fun v15 =>
      some (.inl (v12, v15, r9))))
      else none)
      else none
    else none) n (v3, 0, c))
  (fun x17 : cS =>
    if ib a2 2242 then
    lt ((x17.1 142 (ix a2)) : Int32) (fun v20 =>
    Option.bind (whl (R := (cS)) (fun s23 : Int32 × Int32 × cS =>
      if ib a2 2242 then
      if (s23.2.2.1 144 (ix a2)) ≤ s23.2.1 then
        some (.inr s23.2.2)
      else
        if ib s23.1 4096 then
        jn (fun p26 : cS =>
          if ib s23.1 4096 then
          lt ((p26.1 138 (ix s23.1)) : Int32) (fun v29 =>
          lt (s23.2.1 + 1 : Int32) (fun v32 =>
          some (.inl (v29, v32, p26))))
          else none)
        (fun j119 =>
        if 100 ≤ (s23.2.2.1 135 (ix s23.1)) then
          j119 s23.2.2
        else
          if ib s23.1 4096 then
          if ib (s23.2.2.1 135 (ix s23.1)) 12 then
          Option.bind (d_221 n k1 (ix (s23.2.2.1 135 (ix s23.1))) s23.2.2) (fun r36 =>
          j119 r36)
          else none
          else none)
        else none
      else none) n (v20, 0, x17))
    (fun x37 : cS =>
      some x37))
    else none))
  else none
theorem sp_267 {F Lo n : Nat} {k1 : Nat} {a2 : Int32} {c y : cS} {w : cW} {K : cS → Prop} {Q : ((Option Value) ⊕ String) → List va_E → Prop} (hw : rOK fm w) (hF : 1 ≤ F) (hLo : 23 ≤ Lo) (hk1 : k1 < 12) (h : wp (d_267 n k1 a2 c) K) (hQ : ∀ r, K r → Q (.inl none) (hq true r y w)) : rs (rt_P sc fm) 267 F Lo 0 [(0, .ref 145), (1, .ref (kA k1)), (2, .int a2)] [] (hq true c y w) Q := by
  unfold d_267 at h
  obtain ⟨lv, elv⟩ : ∃ lv : rx_L, lv = [(0, .ref 145), (1, .ref (kA k1)), (2, .int a2)] := ⟨_, rfl⟩
  rw [← elv]
  have l0 : rx_ld lv 0 = some (.ref 145) := by rw [elv]; rfl
  have l1 : rx_ld lv 1 = some (.ref (kA k1)) := by rw [elv]; rfl
  have l2 : rx_ld lv 2 = some (.int a2) := by rw [elv]; rfl
  refine rs_aldn wi_267_0 l0 ?_
  refine dq_gr wi_267_1 wf_267_23 tf_145_3 ?_
  refine dq_gr wi_267_4 wf_267_222 tf_133_8 ?_
  refine rs_ildn wi_267_7 l2 ?_
  obtain ⟨g1, h⟩ := wp_gd h
  refine dq_iald wi_267_8 t_142 g1 ?_
  obtain ⟨v3, e4, h⟩ := wp_lt h
  refine rs_topi e4 ?_
  refine dl_istn wi_267_9 rfl (fun lv l3 t2 => ?_)
  have l0 := t2 _ _ (by decide) (Or.inl rfl) l0
  have l1 := t2 _ _ (by decide) (Or.inl rfl) l1
  have l2 := t2 _ _ (by decide) (Or.inl rfl) l2
  refine rs_pure wi_267_10 rfl ?_
  refine rs_topi (v := 0) (by decide) ?_
  refine dl_ist wi_267_11 rfl (fun lv l4 t5 => ?_)
  have l0 := t5 _ _ (by decide) (Or.inl rfl) l0
  have l1 := t5 _ _ (by decide) (Or.inl rfl) l1
  have l2 := t5 _ _ (by decide) (Or.inl rfl) l2
  have l3 := t5 _ _ (by decide) (Or.inl rfl) l3
  refine whl_ex (A := fun s6 : Int32 × Int32 × cS => ∀ lv, rx_ld lv 0 = some (.ref 145) → rx_ld lv 1 = some (.ref (kA k1)) → rx_ld lv 2 = some (.int a2) → rx_ld lv 3 = some (.int s6.1) → rx_ld lv 4 = some (.int s6.2.1) → rs (rt_P sc fm) 267 F Lo 13 lv [] (hq true s6.2.2 y w) Q) (B := (fun x17 : cS => ∀ lv, rx_ld lv 0 = some (.ref 145) → rx_ld lv 1 = some (.ref (kA k1)) → rx_ld lv 2 = some (.int a2) → rs (rt_P sc fm) 267 F Lo 57 lv [] (hq true x17 y w) Q)) ?_ ?_ _ _ (wp_bind h) _ l0 l1 l2 l3 l4
  · intro s6 h lv l0 l1 l2 l3 l4
    refine rs_ild wi_267_13 l4 ?_
    refine rs_aldn wi_267_15 l0 ?_
    refine dq_gr wi_267_16 wf_267_23 tf_145_3 ?_
    refine dq_gr wi_267_19 wf_267_225 tf_133_10 ?_
    refine rs_ildn wi_267_22 l2 ?_
    obtain ⟨g7, h⟩ := wp_gd h
    refine dq_iald wi_267_23 t_144 g7 ?_
    refine rs_icge (tg := 57) wi_267_24 ⟨by decide, by decide⟩ (fun q => ?_) (fun q => ?_)
    ·
      have h := wp_pos h q
      exact h _ l0 l1 l2
    ·
      have h := wp_neg h q
      refine rs_aldn wi_267_27 l1 ?_
      refine rs_aldn wi_267_28 l0 ?_
      refine dq_gr wi_267_29 wf_267_23 tf_145_3 ?_
      refine dq_gr wi_267_32 wf_267_228 tf_133_1 ?_
      refine rs_ildn wi_267_35 l3 ?_
      obtain ⟨g8, h⟩ := wp_gd h
      refine dq_iald wi_267_36 t_135 g8 ?_
      refine rs_ildn wi_267_37 l3 ?_
      refine rs_V wi_267_38 wc_267_231 rfl (dq_isa (fK_0 hk1) wa_6_220) (Nat.le_trans (by decide) hF) (ml_le wm_220 (Nat.le_trans (by decide) hLo)) rfl (sp_220 hw (Nat.le_trans (by decide : 0 ≤ 1 - 1) (Nat.sub_le_sub_right hF 1)) (ml_sub wm_220 (Nat.le_trans (by decide : 0 ≤ 23 - 23) (Nat.sub_le_sub_right hLo 23))) hk1 (wp_bind h) (fun r9 h => rs_back0 ?_))
      refine rs_aldn wi_267_41 l0 ?_
      refine dq_gr wi_267_42 wf_267_23 tf_145_3 ?_
      refine dq_gr wi_267_45 wf_267_234 tf_133_4 ?_
      refine rs_ildn wi_267_48 l3 ?_
      obtain ⟨g10, h⟩ := wp_gd h
      refine dq_iald wi_267_49 t_138 g10 ?_
      obtain ⟨v12, e13, h⟩ := wp_lt h
      refine rs_topi e13 ?_
      refine dl_istn wi_267_50 rfl (fun lv l3 t11 => ?_)
      have l0 := t11 _ _ (by decide) (Or.inl rfl) l0
      have l1 := t11 _ _ (by decide) (Or.inl rfl) l1
      have l2 := t11 _ _ (by decide) (Or.inl rfl) l2
      have l4 := t11 _ _ (by decide) (Or.inl rfl) l4
      obtain ⟨v15, e16, h⟩ := wp_lt h
      refine dl_inc wi_267_51 l4 rfl e16 (fun lv l4 t14 => ?_)
      have l0 := t14 _ _ (by decide) (Or.inl rfl) l0
      have l1 := t14 _ _ (by decide) (Or.inl rfl) l1
      have l2 := t14 _ _ (by decide) (Or.inl rfl) l2
      have l3 := t14 _ _ (by decide) (Or.inl rfl) l3
      refine rs_goto (tg := 13) wi_267_54 ⟨by decide, by decide⟩ ?_
      exact h _ l0 l1 l2 l3 l4
  ·
    intro x17 h lv l0 l1 l2
    refine rs_aldn wi_267_57 l0 ?_
    refine dq_gr wi_267_58 wf_267_23 tf_145_3 ?_
    refine dq_gr wi_267_61 wf_267_222 tf_133_8 ?_
    refine rs_ildn wi_267_64 l2 ?_
    obtain ⟨g18, h⟩ := wp_gd h
    refine dq_iald wi_267_65 t_142 g18 ?_
    obtain ⟨v20, e21, h⟩ := wp_lt h
    refine rs_topi e21 ?_
    refine dl_istn wi_267_66 rfl (fun lv l3 t19 => ?_)
    have l0 := t19 _ _ (by decide) (Or.inl rfl) l0
    have l1 := t19 _ _ (by decide) (Or.inl rfl) l1
    have l2 := t19 _ _ (by decide) (Or.inl rfl) l2
    refine rs_pure wi_267_67 rfl ?_
    refine rs_topi (v := 0) (by decide) ?_
    refine dl_ist wi_267_68 rfl (fun lv l4 t22 => ?_)
    have l0 := t22 _ _ (by decide) (Or.inl rfl) l0
    have l1 := t22 _ _ (by decide) (Or.inl rfl) l1
    have l2 := t22 _ _ (by decide) (Or.inl rfl) l2
    have l3 := t22 _ _ (by decide) (Or.inl rfl) l3
    refine whl_ex (A := fun s23 : Int32 × Int32 × cS => ∀ lv, rx_ld lv 0 = some (.ref 145) → rx_ld lv 1 = some (.ref (kA k1)) → rx_ld lv 2 = some (.int a2) → rx_ld lv 3 = some (.int s23.1) → rx_ld lv 4 = some (.int s23.2.1) → rs (rt_P sc fm) 267 F Lo 70 lv [] (hq true s23.2.2 y w) Q) (B := (fun x37 : cS => ∀ lv, rs (rt_P sc fm) 267 F Lo 135 lv [] (hq true x37 y w) Q)) ?_ ?_ _ _ (wp_bind h) _ l0 l1 l2 l3 l4
    · intro s23 h lv l0 l1 l2 l3 l4
      refine rs_ild wi_267_70 l4 ?_
      refine rs_aldn wi_267_72 l0 ?_
      refine dq_gr wi_267_73 wf_267_23 tf_145_3 ?_
      refine dq_gr wi_267_76 wf_267_225 tf_133_10 ?_
      refine rs_ildn wi_267_79 l2 ?_
      obtain ⟨g24, h⟩ := wp_gd h
      refine dq_iald wi_267_80 t_144 g24 ?_
      refine rs_icge (tg := 135) wi_267_81 ⟨by decide, by decide⟩ (fun q => ?_) (fun q => ?_)
      ·
        have h := wp_pos h q
        exact h _
      ·
        have h := wp_neg h q
        refine rs_aldn wi_267_84 l0 ?_
        refine dq_gr wi_267_85 wf_267_23 tf_145_3 ?_
        refine dq_gr wi_267_88 wf_267_228 tf_133_1 ?_
        refine rs_ildn wi_267_91 l3 ?_
        obtain ⟨g25, h⟩ := wp_gd h
        refine dq_iald wi_267_92 t_135 g25 ?_
        refine rs_pure wi_267_93 rfl ?_
        refine rs_topi (v := 100) (by decide) ?_
        refine wp_jn (B := fun p26 : cS => ∀ lv, rx_ld lv 0 = some (.ref 145) → rx_ld lv 1 = some (.ref (kA k1)) → rx_ld lv 2 = some (.int a2) → rx_ld lv 3 = some (.int s23.1) → rx_ld lv 4 = some (.int s23.2.1) → rs (rt_P sc fm) 267 F Lo 119 lv [] (hq true p26 y w) Q) h (fun p26 h lv l0 l1 l2 l3 l4 => ?_) (fun j119 hj119 h => ?_)
        ·
          refine rs_aldn wi_267_119 l0 ?_
          refine dq_gr wi_267_120 wf_267_23 tf_145_3 ?_
          refine dq_gr wi_267_123 wf_267_234 tf_133_4 ?_
          refine rs_ildn wi_267_126 l3 ?_
          obtain ⟨g27, h⟩ := wp_gd h
          refine dq_iald wi_267_127 t_138 g27 ?_
          obtain ⟨v29, e30, h⟩ := wp_lt h
          refine rs_topi e30 ?_
          refine dl_istn wi_267_128 rfl (fun lv l3 t28 => ?_)
          have l0 := t28 _ _ (by decide) (Or.inl rfl) l0
          have l1 := t28 _ _ (by decide) (Or.inl rfl) l1
          have l2 := t28 _ _ (by decide) (Or.inl rfl) l2
          have l4 := t28 _ _ (by decide) (Or.inl rfl) l4
          obtain ⟨v32, e33, h⟩ := wp_lt h
          refine dl_inc wi_267_129 l4 rfl e33 (fun lv l4 t31 => ?_)
          have l0 := t31 _ _ (by decide) (Or.inl rfl) l0
          have l1 := t31 _ _ (by decide) (Or.inl rfl) l1
          have l2 := t31 _ _ (by decide) (Or.inl rfl) l2
          have l3 := t31 _ _ (by decide) (Or.inl rfl) l3
          refine rs_goto (tg := 70) wi_267_132 ⟨by decide, by decide⟩ ?_
          exact h _ l0 l1 l2 l3 l4
        refine rs_icge (tg := 119) wi_267_95 ⟨by decide, by decide⟩ (fun q => ?_) (fun q => ?_)
        ·
          have h := wp_pos h q
          exact hj119 _ h _ l0 l1 l2 l3 l4
        ·
          have h := wp_neg h q
          refine rs_aldn wi_267_98 l1 ?_
          refine rs_aldn wi_267_99 l0 ?_
          refine dq_gr wi_267_100 wf_267_15 tf_145_1 ?_
          refine dq_gr wi_267_103 wf_267_172 tf_7_3 ?_
          refine rs_aldn wi_267_106 l0 ?_
          refine dq_gr wi_267_107 wf_267_23 tf_145_3 ?_
          refine dq_gr wi_267_110 wf_267_228 tf_133_1 ?_
          refine rs_ildn wi_267_113 l3 ?_
          obtain ⟨g34, h⟩ := wp_gd h
          refine dq_iald wi_267_114 t_135 g34 ?_
          obtain ⟨g35, h⟩ := wp_gd h
          refine dq_aald wi_267_115 (by decide) t_9 g35 (hw.2.1 _ (ib_lt g35)) ?_
          refine rs_V wi_267_116 wc_267_236 rfl (dq_isa (fK_0 hk1) wa_6_221) (Nat.le_trans (by decide) hF) (ml_le wm_221 (Nat.le_trans (by decide) hLo)) rfl (sp_221 hw (Nat.le_trans (by decide : 0 ≤ 1 - 1) (Nat.sub_le_sub_right hF 1)) (ml_sub wm_221 (Nat.le_trans (by decide : 0 ≤ 23 - 22) (Nat.sub_le_sub_right hLo 22))) hk1 (ib_lt g35) (wp_bind h) (fun r36 h => rs_back0 ?_))
          exact hj119 _ h _ l0 l1 l2 l3 l4
    ·
      intro x37 h lv
      exact rs_vret wi_267_135 wr_267 (hQ x37 h)
theorem wa_10_265 : rz_cn 10 (rx_yn (rt_P sc fm) 265).cls = true := (by decide +kernel : rz_cn 10 (rt_yn 265).cls = true)
theorem wa_10_266 : rz_cn 10 (rx_yn (rt_P sc fm) 266).cls = true := (by decide +kernel : rz_cn 10 (rt_yn 266).cls = true)
theorem wa_10_267 : rz_cn 10 (rx_yn (rt_P sc fm) 267).cls = true := (by decide +kernel : rz_cn 10 (rt_yn 267).cls = true)
theorem wa_10_272 : rz_cn 10 (rx_yn (rt_P sc fm) 272).cls = true := (by decide +kernel : rz_cn 10 (rt_yn 272).cls = true)
theorem wa_6_217 : rz_cn 6 (rx_yn (rt_P sc fm) 217).cls = true := (by decide +kernel : rz_cn 6 (rt_yn 217).cls = true)
theorem wc_264_114 : rx_ct (rt_P sc fm) 264 114 = some (0, 257, 1) := (by decide +kernel : rt_ct 264 114 = some (0, 257, 1))
theorem wc_264_125 : rx_ct (rt_P sc fm) 264 125 = some (0, 261, 0) := (by decide +kernel : rt_ct 264 125 = some (0, 261, 0))
theorem wc_264_132 : rx_ct (rt_P sc fm) 264 132 = some (0, 260, 2) := (by decide +kernel : rt_ct 264 132 = some (0, 260, 2))
theorem wc_264_149 : rx_ct (rt_P sc fm) 264 149 = some (0, 258, 1) := (by decide +kernel : rt_ct 264 149 = some (0, 258, 1))
theorem wc_264_176 : rx_ct (rt_P sc fm) 264 176 = some (0, 217, 1) := (by decide +kernel : rt_ct 264 176 = some (0, 217, 1))
theorem wc_264_179 : rx_ct (rt_P sc fm) 264 179 = some (0, 265, 1) := (by decide +kernel : rt_ct 264 179 = some (0, 265, 1))
theorem wc_264_183 : rx_ct (rt_P sc fm) 264 183 = some (0, 266, 1) := (by decide +kernel : rt_ct 264 183 = some (0, 266, 1))
theorem wc_264_193 : rx_ct (rt_P sc fm) 264 193 = some (0, 272, 2) := (by decide +kernel : rt_ct 264 193 = some (0, 272, 2))
theorem wc_264_196 : rx_ct (rt_P sc fm) 264 196 = some (0, 267, 2) := (by decide +kernel : rt_ct 264 196 = some (0, 267, 2))
theorem wf_264_15 : rx_ft (rt_P sc fm) 264 15 = some (10, 1) := (by decide +kernel : rt_ft 264 15 = some (10, 1))
theorem wf_264_169 : rx_ft (rt_P sc fm) 264 169 = some (9, 4) := (by decide +kernel : rt_ft 264 169 = some (9, 4))
theorem wf_264_172 : rx_ft (rt_P sc fm) 264 172 = some (9, 3) := (by decide +kernel : rt_ft 264 172 = some (9, 3))
theorem wf_264_49 : rx_ft (rt_P sc fm) 264 49 = some (10, 7) := (by decide +kernel : rt_ft 264 49 = some (10, 7))
theorem wh0_264_130 : rx_ht (rt_P sc fm) 264 130 "java/lang/IllegalArgumentException" = none := (by decide +kernel : rt_ht 264 130 "java/lang/IllegalArgumentException" = none)
theorem wh0_264_152 : rx_ht (rt_P sc fm) 264 152 "java/lang/IllegalArgumentException" = none := (by decide +kernel : rt_ht 264 152 "java/lang/IllegalArgumentException" = none)
theorem wh0_264_32 : rx_ht (rt_P sc fm) 264 32 "java/lang/IllegalArgumentException" = none := (by decide +kernel : rt_ht 264 32 "java/lang/IllegalArgumentException" = none)
theorem wh0_264_68 : rx_ht (rt_P sc fm) 264 68 "java/lang/IllegalArgumentException" = none := (by decide +kernel : rt_ht 264 68 "java/lang/IllegalArgumentException" = none)
theorem wh0_264_83 : rx_ht (rt_P sc fm) 264 83 "java/lang/IllegalArgumentException" = none := (by decide +kernel : rt_ht 264 83 "java/lang/IllegalArgumentException" = none)
theorem whh_264 : rx_hh (rt_P sc fm) 264 = [] := (by decide +kernel : rt_hh 264 = [])
theorem wi_264_0 : ri (rt_P sc fm) 264 0 (.aload_n 0) (1) := ri_of (by decide +kernel) rfl
theorem wi_264_1 : ri (rt_P sc fm) 264 1 (.dup) (2) := ri_of (by decide +kernel) rfl
theorem wi_264_10 : ri (rt_P sc fm) 264 10 (.aload_n 0) (11) := ri_of (by decide +kernel) rfl
theorem wi_264_102 : ri (rt_P sc fm) 264 102 (.invokevirtual 149) (105) := ri_of (by decide +kernel) rfl
theorem wi_264_105 : ri (rt_P sc fm) 264 105 (.putfield 190) (108) := ri_of (by decide +kernel) rfl
theorem wi_264_108 : ri (rt_P sc fm) 264 108 (.aload_n 0) (109) := ri_of (by decide +kernel) rfl
theorem wi_264_109 : ri (rt_P sc fm) 264 109 (.bipush 61) (111) := ri_of (by decide +kernel) rfl
theorem wi_264_11 : ri (rt_P sc fm) 264 11 (.aload_n 0) (12) := ri_of (by decide +kernel) rfl
theorem wi_264_111 : ri (rt_P sc fm) 264 111 (.invokevirtual 149) (114) := ri_of (by decide +kernel) rfl
theorem wi_264_114 : ri (rt_P sc fm) 264 114 (.ifCond .eq 35) (117) := ri_of (by decide +kernel) rfl
theorem wi_264_117 : ri (rt_P sc fm) 264 117 (.aload_n 0) (118) := ri_of (by decide +kernel) rfl
theorem wi_264_118 : ri (rt_P sc fm) 264 118 (.sipush 1200) (121) := ri_of (by decide +kernel) rfl
theorem wi_264_12 : ri (rt_P sc fm) 264 12 (.invokevirtual 125) (15) := ri_of (by decide +kernel) rfl
theorem wi_264_121 : ri (rt_P sc fm) 264 121 (.aload_n 0) (122) := ri_of (by decide +kernel) rfl
theorem wi_264_122 : ri (rt_P sc fm) 264 122 (.getfield 15) (125) := ri_of (by decide +kernel) rfl
theorem wi_264_125 : ri (rt_P sc fm) 264 125 (.getfield 169) (128) := ri_of (by decide +kernel) rfl
theorem wi_264_128 : ri (rt_P sc fm) 264 128 (.iadd) (129) := ri_of (by decide +kernel) rfl
theorem wi_264_129 : ri (rt_P sc fm) 264 129 (.iconst 4) (130) := ri_of (by decide +kernel) rfl
theorem wi_264_130 : ri (rt_P sc fm) 264 130 (.invokevirtual 193) (133) := ri_of (by decide +kernel) rfl
theorem wi_264_133 : ri (rt_P sc fm) 264 133 (.aload_n 0) (134) := ri_of (by decide +kernel) rfl
theorem wi_264_134 : ri (rt_P sc fm) 264 134 (.aload_n 3) (135) := ri_of (by decide +kernel) rfl
theorem wi_264_135 : ri (rt_P sc fm) 264 135 (.sipush 1200) (138) := ri_of (by decide +kernel) rfl
theorem wi_264_138 : ri (rt_P sc fm) 264 138 (.aload_n 0) (139) := ri_of (by decide +kernel) rfl
theorem wi_264_139 : ri (rt_P sc fm) 264 139 (.getfield 15) (142) := ri_of (by decide +kernel) rfl
theorem wi_264_142 : ri (rt_P sc fm) 264 142 (.getfield 169) (145) := ri_of (by decide +kernel) rfl
theorem wi_264_145 : ri (rt_P sc fm) 264 145 (.iadd) (146) := ri_of (by decide +kernel) rfl
theorem wi_264_146 : ri (rt_P sc fm) 264 146 (.invokevirtual 196) (149) := ri_of (by decide +kernel) rfl
theorem wi_264_149 : ri (rt_P sc fm) 264 149 (.aload_n 0) (150) := ri_of (by decide +kernel) rfl
theorem wi_264_15 : ri (rt_P sc fm) 264 15 (.aload_n 0) (16) := ri_of (by decide +kernel) rfl
theorem wi_264_150 : ri (rt_P sc fm) 264 150 (.bipush 59) (152) := ri_of (by decide +kernel) rfl
theorem wi_264_152 : ri (rt_P sc fm) 264 152 (.invokevirtual 114) (155) := ri_of (by decide +kernel) rfl
theorem wi_264_155 : ri (rt_P sc fm) 264 155 (.aload_n 0) (156) := ri_of (by decide +kernel) rfl
theorem wi_264_156 : ri (rt_P sc fm) 264 156 (.getfield 15) (159) := ri_of (by decide +kernel) rfl
theorem wi_264_159 : ri (rt_P sc fm) 264 159 (.dup) (160) := ri_of (by decide +kernel) rfl
theorem wi_264_16 : ri (rt_P sc fm) 264 16 (.getfield 15) (19) := ri_of (by decide +kernel) rfl
theorem wi_264_160 : ri (rt_P sc fm) 264 160 (.getfield 169) (163) := ri_of (by decide +kernel) rfl
theorem wi_264_163 : ri (rt_P sc fm) 264 163 (.iconst 1) (164) := ri_of (by decide +kernel) rfl
theorem wi_264_164 : ri (rt_P sc fm) 264 164 (.iadd) (165) := ri_of (by decide +kernel) rfl
theorem wi_264_165 : ri (rt_P sc fm) 264 165 (.putfield 169) (168) := ri_of (by decide +kernel) rfl
theorem wi_264_168 : ri (rt_P sc fm) 264 168 (.return_) (169) := ri_of (by decide +kernel) rfl
theorem wi_264_19 : ri (rt_P sc fm) 264 19 (.getfield 169) (22) := ri_of (by decide +kernel) rfl
theorem wi_264_2 : ri (rt_P sc fm) 264 2 (.getfield 49) (5) := ri_of (by decide +kernel) rfl
theorem wi_264_22 : ri (rt_P sc fm) 264 22 (.bipush 12) (24) := ri_of (by decide +kernel) rfl
theorem wi_264_24 : ri (rt_P sc fm) 264 24 (.if_icmp .lt 7) (27) := ri_of (by decide +kernel) rfl
theorem wi_264_27 : ri (rt_P sc fm) 264 27 (.iconst 1) (28) := ri_of (by decide +kernel) rfl
theorem wi_264_28 : ri (rt_P sc fm) 264 28 (.goto 4) (31) := ri_of (by decide +kernel) rfl
theorem wi_264_31 : ri (rt_P sc fm) 264 31 (.iconst 0) (32) := ri_of (by decide +kernel) rfl
theorem wi_264_32 : ri (rt_P sc fm) 264 32 (.invokevirtual 132) (35) := ri_of (by decide +kernel) rfl
theorem wi_264_35 : ri (rt_P sc fm) 264 35 (.lstore_n 1) (36) := ri_of (by decide +kernel) rfl
theorem wi_264_36 : ri (rt_P sc fm) 264 36 (.aload_n 0) (37) := ri_of (by decide +kernel) rfl
theorem wi_264_37 : ri (rt_P sc fm) 264 37 (.getfield 15) (40) := ri_of (by decide +kernel) rfl
theorem wi_264_40 : ri (rt_P sc fm) 264 40 (.getfield 172) (43) := ri_of (by decide +kernel) rfl
theorem wi_264_43 : ri (rt_P sc fm) 264 43 (.aload_n 0) (44) := ri_of (by decide +kernel) rfl
theorem wi_264_44 : ri (rt_P sc fm) 264 44 (.getfield 15) (47) := ri_of (by decide +kernel) rfl
theorem wi_264_47 : ri (rt_P sc fm) 264 47 (.getfield 169) (50) := ri_of (by decide +kernel) rfl
theorem wi_264_5 : ri (rt_P sc fm) 264 5 (.iconst 1) (6) := ri_of (by decide +kernel) rfl
theorem wi_264_50 : ri (rt_P sc fm) 264 50 (.aaload) (51) := ri_of (by decide +kernel) rfl
theorem wi_264_51 : ri (rt_P sc fm) 264 51 (.astore_n 3) (52) := ri_of (by decide +kernel) rfl
theorem wi_264_52 : ri (rt_P sc fm) 264 52 (.aload_n 3) (53) := ri_of (by decide +kernel) rfl
theorem wi_264_53 : ri (rt_P sc fm) 264 53 (.lload_n 1) (54) := ri_of (by decide +kernel) rfl
theorem wi_264_54 : ri (rt_P sc fm) 264 54 (.invokevirtual 176) (57) := ri_of (by decide +kernel) rfl
theorem wi_264_57 : ri (rt_P sc fm) 264 57 (.aload_n 0) (58) := ri_of (by decide +kernel) rfl
theorem wi_264_58 : ri (rt_P sc fm) 264 58 (.bipush 40) (60) := ri_of (by decide +kernel) rfl
theorem wi_264_6 : ri (rt_P sc fm) 264 6 (.iadd) (7) := ri_of (by decide +kernel) rfl
theorem wi_264_60 : ri (rt_P sc fm) 264 60 (.invokevirtual 149) (63) := ri_of (by decide +kernel) rfl
theorem wi_264_63 : ri (rt_P sc fm) 264 63 (.ifCond .eq 8) (66) := ri_of (by decide +kernel) rfl
theorem wi_264_66 : ri (rt_P sc fm) 264 66 (.aload_n 0) (67) := ri_of (by decide +kernel) rfl
theorem wi_264_67 : ri (rt_P sc fm) 264 67 (.aload_n 3) (68) := ri_of (by decide +kernel) rfl
theorem wi_264_68 : ri (rt_P sc fm) 264 68 (.invokevirtual 179) (71) := ri_of (by decide +kernel) rfl
theorem wi_264_7 : ri (rt_P sc fm) 264 7 (.putfield 49) (10) := ri_of (by decide +kernel) rfl
theorem wi_264_71 : ri (rt_P sc fm) 264 71 (.aload_n 0) (72) := ri_of (by decide +kernel) rfl
theorem wi_264_72 : ri (rt_P sc fm) 264 72 (.sipush 208) (75) := ri_of (by decide +kernel) rfl
theorem wi_264_75 : ri (rt_P sc fm) 264 75 (.invokevirtual 149) (78) := ri_of (by decide +kernel) rfl
theorem wi_264_78 : ri (rt_P sc fm) 264 78 (.ifCond .eq 8) (81) := ri_of (by decide +kernel) rfl
theorem wi_264_81 : ri (rt_P sc fm) 264 81 (.aload_n 0) (82) := ri_of (by decide +kernel) rfl
theorem wi_264_82 : ri (rt_P sc fm) 264 82 (.aload_n 3) (83) := ri_of (by decide +kernel) rfl
theorem wi_264_83 : ri (rt_P sc fm) 264 83 (.invokevirtual 183) (86) := ri_of (by decide +kernel) rfl
theorem wi_264_86 : ri (rt_P sc fm) 264 86 (.aload_n 3) (87) := ri_of (by decide +kernel) rfl
theorem wi_264_87 : ri (rt_P sc fm) 264 87 (.aload_n 0) (88) := ri_of (by decide +kernel) rfl
theorem wi_264_88 : ri (rt_P sc fm) 264 88 (.sipush 209) (91) := ri_of (by decide +kernel) rfl
theorem wi_264_91 : ri (rt_P sc fm) 264 91 (.invokevirtual 149) (94) := ri_of (by decide +kernel) rfl
theorem wi_264_94 : ri (rt_P sc fm) 264 94 (.putfield 186) (97) := ri_of (by decide +kernel) rfl
theorem wi_264_97 : ri (rt_P sc fm) 264 97 (.aload_n 3) (98) := ri_of (by decide +kernel) rfl
theorem wi_264_98 : ri (rt_P sc fm) 264 98 (.aload_n 0) (99) := ri_of (by decide +kernel) rfl
theorem wi_264_99 : ri (rt_P sc fm) 264 99 (.sipush 210) (102) := ri_of (by decide +kernel) rfl
theorem wm_217 : rx_ml (rt_P sc fm) 217 = 3 := (by decide +kernel : rt_ml 217 = 3)
theorem wm_265 : rx_ml (rt_P sc fm) 265 = 8 := (by decide +kernel : rt_ml 265 = 8)
theorem wm_266 : rx_ml (rt_P sc fm) 266 = 3 := (by decide +kernel : rt_ml 266 = 3)
theorem wm_267 : rx_ml (rt_P sc fm) 267 = 5 := (by decide +kernel : rt_ml 267 = 5)
theorem wm_272 : rx_ml (rt_P sc fm) 272 = 3 := (by decide +kernel : rt_ml 272 = 3)
theorem wp_264_169 : rx_pt (rt_P sc fm) 264 169 = some (9, 4, .int) := (by decide +kernel : rt_pt 264 169 = some (9, 4, .int))
theorem wp_264_186 : rx_pt (rt_P sc fm) 264 186 = some (6, 7, .boolean) := (by decide +kernel : rt_pt 264 186 = some (6, 7, .boolean))
theorem wp_264_190 : rx_pt (rt_P sc fm) 264 190 = some (6, 8, .boolean) := (by decide +kernel : rt_pt 264 190 = some (6, 8, .boolean))
theorem wp_264_49 : rx_pt (rt_P sc fm) 264 49 = some (10, 7, .int) := (by decide +kernel : rt_pt 264 49 = some (10, 7, .int))
theorem wr_264 : rx_rt (rt_P sc fm) 264 = none := (by decide +kernel : rt_rt 264 = none)
/-- MarkHouse$Reader.readKind()V -/
def d_264 (n : Nat)  (c : cS) : Option ((cS) ⊕ cS) :=
  lt (pI c 145 7 ((c.1 145 7) + 1)) (fun c1 =>
  Option.bind (d_261 n c1) (fun v3 =>
  jn (fun p4 : Int32 =>
    Option.bind (d_260 n v3 p4 c1) (Sum.elim (fun r5 =>
    if ib (r5.2.1 7 4) 12 then
    Option.bind (d_217 n (ix (r5.2.1 7 4)) r5.1 r5.2) (fun r10 =>
    Option.bind (d_258 n 40 r10) (fun r11 =>
    jn (fun p12 : cS =>
      Option.bind (d_258 n 208 p12) (fun r13 =>
      jn (fun p14 : cS =>
        Option.bind (d_258 n 209 p14) (fun r15 =>
        if nb r15.1 then
        lt (pI r15.2 (kA (ix (r5.2.1 7 4))) 7 r15.1) (fun c17 =>
        Option.bind (d_258 n 210 c17) (fun r19 =>
        if nb r19.1 then
        lt (pI r19.2 (kA (ix (r5.2.1 7 4))) 8 r19.1) (fun c21 =>
        Option.bind (d_258 n 61 c21) (fun r23 =>
        jn (fun p24 : cS =>
          Option.bind (d_257 n 59 p24) (Sum.elim (fun r25 =>
          lt (pI r25 7 4 ((r25.1 7 4) + 1)) (fun c27 =>
          some (.inl c27)))
          (fun z26 => some (.inr z26))))
        (fun j149 =>
        if r23.1 = 0 then
          j149 r23.2
        else
          Option.bind (d_272 n (1200 + (r23.2.1 7 4)) 4 r23.2) (Sum.elim (fun r29 =>
          Option.bind (d_267 n (ix (r5.2.1 7 4)) (1200 + (r29.1 7 4)) r29) (fun r31 =>
          j149 r31))
          (fun z30 => some (.inr z30))))))
        else none))
        else none))
      (fun j86 =>
      if r13.1 = 0 then
        j86 r13.2
      else
        Option.bind (d_266 n (ix (r5.2.1 7 4)) r13.2) (Sum.elim (fun r32 =>
        j86 r32)
        (fun z33 => some (.inr z33))))))
    (fun j71 =>
    if r11.1 = 0 then
      j71 r11.2
    else
      Option.bind (d_265 n (ix (r5.2.1 7 4)) r11.2) (Sum.elim (fun r34 =>
      j71 r34)
      (fun z35 => some (.inr z35))))))
    else none)
    (fun z6 => some (.inr z6))))
  (fun j32 =>
  if (c1.1 7 4) < 12 then
    j32 0
  else
    j32 1)))
theorem sp_264 {F Lo n : Nat}  {c y : cS} {w : cW} {K : (cS) ⊕ cS → Prop} {Q : ((Option Value) ⊕ String) → List va_E → Prop} (hw : rOK fm w) (hF : 11 ≤ F) (hLo : 203 ≤ Lo)  (h : wp (d_264 n  c) K) (hQ : ∀ r, K (.inl r) → Q (.inl none) (hq true r y w)) (hT : ∀ r, K (.inr r) → Q (.inr "java/lang/IllegalArgumentException") (hq true r y w)) : rs (rt_P sc fm) 264 F Lo 0 [(0, .ref 145)] [] (hq true c y w) Q := by
  unfold d_264 at h
  obtain ⟨lv, elv⟩ : ∃ lv : rx_L, lv = [(0, .ref 145)] := ⟨_, rfl⟩
  rw [← elv]
  have l0 : rx_ld lv 0 = some (.ref 145) := by rw [elv]; rfl
  refine rs_aldn wi_264_0 l0 ?_
  refine rs_pure wi_264_1 rfl ?_
  refine dq_gi wi_264_2 wf_264_49 tf_145_7 ?_
  refine rs_pure wi_264_5 rfl ?_
  refine rs_topi (v := 1) (by decide) ?_
  refine rs_pure wi_264_6 rfl ?_
  obtain ⟨c1, e2, h⟩ := wp_lt h
  refine dq_pi wi_264_7 wp_264_49 tf_145_7 rfl rfl e2 ?_
  refine rs_aldn wi_264_10 l0 ?_
  refine rs_aldn wi_264_11 l0 ?_
  refine rs_V wi_264_12 wc_264_125 rfl (dq_isa tf_145_0 wa_10_261) (Nat.le_trans (by decide) hF) (ml_le wm_261 (Nat.le_trans (by decide) hLo)) rfl (sp_261 hw (Nat.le_trans (by decide : 3 ≤ 11 - 1) (Nat.sub_le_sub_right hF 1)) (ml_sub wm_261 (Nat.le_trans (by decide : 68 ≤ 203 - 20) (Nat.sub_le_sub_right hLo 20))) (wp_bind h) (fun v3 h => rs_back1 ?_))
  refine rs_aldn wi_264_15 l0 ?_
  refine dq_gr wi_264_16 wf_264_15 tf_145_1 ?_
  refine dq_gi wi_264_19 wf_264_169 tf_7_4 ?_
  refine rs_pure wi_264_22 rfl ?_
  refine rs_topi (v := 12) (by decide) ?_
  refine wp_jn (B := fun p4 : Int32 => ∀ lv, rx_ld lv 0 = some (.ref 145) → rs (rt_P sc fm) 264 F Lo 32 lv [.int p4, .int v3, .ref 145] (hq true c1 y w) Q) h (fun p4 h lv l0 => ?_) (fun j32 hj32 h => ?_)
  ·
    refine rs_V wi_264_32 wc_264_132 rfl (dq_isa tf_145_0 wa_10_260) (Nat.le_trans (by decide) hF) (ml_le wm_260 (Nat.le_trans (by decide) hLo)) rfl (sp_260 hw (Nat.le_trans (by decide : 8 ≤ 11 - 1) (Nat.sub_le_sub_right hF 1)) (ml_sub wm_260 (Nat.le_trans (by decide : 124 ≤ 203 - 24) (Nat.sub_le_sub_right hLo 24))) (wp_bind h) (fun r5 h => rs_back1 ?_) (fun z6 h => rs_up wh0_264_32 whh_264 (hT z6 (wp_inr h))))
    have h := wp_inl h
    refine dl_lstn wi_264_35 rfl (fun lv l1 t7 => ?_)
    have l0 := t7 _ _ (by decide) (by decide) (Or.inl rfl) l0
    refine rs_aldn wi_264_36 l0 ?_
    refine dq_gr wi_264_37 wf_264_15 tf_145_1 ?_
    refine dq_gr wi_264_40 wf_264_172 tf_7_3 ?_
    refine rs_aldn wi_264_43 l0 ?_
    refine dq_gr wi_264_44 wf_264_15 tf_145_1 ?_
    refine dq_gi wi_264_47 wf_264_169 tf_7_4 ?_
    obtain ⟨g8, h⟩ := wp_gd h
    refine dq_aald wi_264_50 (by decide) t_9 g8 (hw.2.1 _ (ib_lt g8)) ?_
    refine dl_astn wi_264_51 rfl (fun lv l3 t9 => ?_)
    have l0 := t9 _ _ (by decide) (Or.inl rfl) l0
    have l1 := t9 _ _ (by decide) (Or.inr (by decide)) l1
    refine rs_aldn wi_264_52 l3 ?_
    refine rs_lldn wi_264_53 l1 ?_
    refine rs_V wi_264_54 wc_264_176 rfl (dq_isa (fK_0 (ib_lt g8)) wa_6_217) (Nat.le_trans (by decide) hF) (ml_le wm_217 (Nat.le_trans (by decide) hLo)) rfl (sp_217 hw (Nat.le_trans (by decide : 1 ≤ 11 - 1) (Nat.sub_le_sub_right hF 1)) (ml_sub wm_217 (Nat.le_trans (by decide : 23 ≤ 203 - 22) (Nat.sub_le_sub_right hLo 22))) (ib_lt g8) (wp_bind h) (fun r10 h => rs_back0 ?_))
    refine rs_aldn wi_264_57 l0 ?_
    refine rs_pure wi_264_58 rfl ?_
    refine rs_topi (v := 40) (by decide) ?_
    refine rs_V wi_264_60 wc_264_149 rfl (dq_isa tf_145_0 wa_10_258) (Nat.le_trans (by decide) hF) (ml_le wm_258 (Nat.le_trans (by decide) hLo)) rfl (sp_258 hw (Nat.le_trans (by decide : 0 ≤ 11 - 1) (Nat.sub_le_sub_right hF 1)) (ml_sub wm_258 (Nat.le_trans (by decide : 0 ≤ 203 - 22) (Nat.sub_le_sub_right hLo 22))) (wp_bind h) (fun r11 h => rs_back1 ?_))
    refine wp_jn (B := fun p12 : cS => ∀ lv, rx_ld lv 0 = some (.ref 145) → rx_ld lv 3 = some (.ref (kA (ix (r5.2.1 7 4)))) → rs (rt_P sc fm) 264 F Lo 71 lv [] (hq true p12 y w) Q) h (fun p12 h lv l0 l3 => ?_) (fun j71 hj71 h => ?_)
    ·
      refine rs_aldn wi_264_71 l0 ?_
      refine rs_pure wi_264_72 rfl ?_
      refine rs_topi (v := 208) (by decide) ?_
      refine rs_V wi_264_75 wc_264_149 rfl (dq_isa tf_145_0 wa_10_258) (Nat.le_trans (by decide) hF) (ml_le wm_258 (Nat.le_trans (by decide) hLo)) rfl (sp_258 hw (Nat.le_trans (by decide : 0 ≤ 11 - 1) (Nat.sub_le_sub_right hF 1)) (ml_sub wm_258 (Nat.le_trans (by decide : 0 ≤ 203 - 22) (Nat.sub_le_sub_right hLo 22))) (wp_bind h) (fun r13 h => rs_back1 ?_))
      refine wp_jn (B := fun p14 : cS => ∀ lv, rx_ld lv 0 = some (.ref 145) → rx_ld lv 3 = some (.ref (kA (ix (r5.2.1 7 4)))) → rs (rt_P sc fm) 264 F Lo 86 lv [] (hq true p14 y w) Q) h (fun p14 h lv l0 l3 => ?_) (fun j86 hj86 h => ?_)
      ·
        refine rs_aldn wi_264_86 l3 ?_
        refine rs_aldn wi_264_87 l0 ?_
        refine rs_pure wi_264_88 rfl ?_
        refine rs_topi (v := 209) (by decide) ?_
        refine rs_V wi_264_91 wc_264_149 rfl (dq_isa tf_145_0 wa_10_258) (Nat.le_trans (by decide) hF) (ml_le wm_258 (Nat.le_trans (by decide) hLo)) rfl (sp_258 hw (Nat.le_trans (by decide : 0 ≤ 11 - 1) (Nat.sub_le_sub_right hF 1)) (ml_sub wm_258 (Nat.le_trans (by decide : 0 ≤ 203 - 22) (Nat.sub_le_sub_right hLo 22))) (wp_bind h) (fun r15 h => rs_back1 ?_))
        obtain ⟨g16, h⟩ := wp_gd h
        obtain ⟨c17, e18, h⟩ := wp_lt h
        refine dq_pi wi_264_94 wp_264_186 (fK_7 (ib_lt g8)) (nb_n g16) (nb_f g16) e18 ?_
        refine rs_aldn wi_264_97 l3 ?_
        refine rs_aldn wi_264_98 l0 ?_
        refine rs_pure wi_264_99 rfl ?_
        refine rs_topi (v := 210) (by decide) ?_
        refine rs_V wi_264_102 wc_264_149 rfl (dq_isa tf_145_0 wa_10_258) (Nat.le_trans (by decide) hF) (ml_le wm_258 (Nat.le_trans (by decide) hLo)) rfl (sp_258 hw (Nat.le_trans (by decide : 0 ≤ 11 - 1) (Nat.sub_le_sub_right hF 1)) (ml_sub wm_258 (Nat.le_trans (by decide : 0 ≤ 203 - 22) (Nat.sub_le_sub_right hLo 22))) (wp_bind h) (fun r19 h => rs_back1 ?_))
        obtain ⟨g20, h⟩ := wp_gd h
        obtain ⟨c21, e22, h⟩ := wp_lt h
        refine dq_pi wi_264_105 wp_264_190 (fK_8 (ib_lt g8)) (nb_n g20) (nb_f g20) e22 ?_
        refine rs_aldn wi_264_108 l0 ?_
        refine rs_pure wi_264_109 rfl ?_
        refine rs_topi (v := 61) (by decide) ?_
        refine rs_V wi_264_111 wc_264_149 rfl (dq_isa tf_145_0 wa_10_258) (Nat.le_trans (by decide) hF) (ml_le wm_258 (Nat.le_trans (by decide) hLo)) rfl (sp_258 hw (Nat.le_trans (by decide : 0 ≤ 11 - 1) (Nat.sub_le_sub_right hF 1)) (ml_sub wm_258 (Nat.le_trans (by decide : 0 ≤ 203 - 22) (Nat.sub_le_sub_right hLo 22))) (wp_bind h) (fun r23 h => rs_back1 ?_))
        refine wp_jn (B := fun p24 : cS => ∀ lv, rx_ld lv 0 = some (.ref 145) → rs (rt_P sc fm) 264 F Lo 149 lv [] (hq true p24 y w) Q) h (fun p24 h lv l0 => ?_) (fun j149 hj149 h => ?_)
        ·
          refine rs_aldn wi_264_149 l0 ?_
          refine rs_pure wi_264_150 rfl ?_
          refine rs_topi (v := 59) (by decide) ?_
          refine rs_V wi_264_152 wc_264_114 rfl (dq_isa tf_145_0 wa_10_257) (Nat.le_trans (by decide) hF) (ml_le wm_257 (Nat.le_trans (by decide) hLo)) rfl (sp_257 hw (Nat.le_trans (by decide : 7 ≤ 11 - 1) (Nat.sub_le_sub_right hF 1)) (ml_sub wm_257 (Nat.le_trans (by decide : 104 ≤ 203 - 21) (Nat.sub_le_sub_right hLo 21))) (wp_bind h) (fun r25 h => rs_back0 ?_) (fun z26 h => rs_up wh0_264_152 whh_264 (hT z26 (wp_inr h))))
          have h := wp_inl h
          refine rs_aldn wi_264_155 l0 ?_
          refine dq_gr wi_264_156 wf_264_15 tf_145_1 ?_
          refine rs_pure wi_264_159 rfl ?_
          refine dq_gi wi_264_160 wf_264_169 tf_7_4 ?_
          refine rs_pure wi_264_163 rfl ?_
          refine rs_topi (v := 1) (by decide) ?_
          refine rs_pure wi_264_164 rfl ?_
          obtain ⟨c27, e28, h⟩ := wp_lt h
          refine dq_pi wi_264_165 wp_264_169 tf_7_4 rfl rfl e28 ?_
          exact rs_vret wi_264_168 wr_264 (hQ c27 h)
        refine rs_ifeq (tg := 149) wi_264_114 ⟨by decide, by decide⟩ (fun q => ?_) (fun q => ?_)
        ·
          have h := wp_pos h q
          exact hj149 _ h _ l0
        ·
          have h := wp_neg h q
          refine rs_aldn wi_264_117 l0 ?_
          refine rs_pure wi_264_118 rfl ?_
          refine rs_topi (v := 1200) (by decide) ?_
          refine rs_aldn wi_264_121 l0 ?_
          refine dq_gr wi_264_122 wf_264_15 tf_145_1 ?_
          refine dq_gi wi_264_125 wf_264_169 tf_7_4 ?_
          refine rs_pure wi_264_128 rfl ?_
          refine rs_pure wi_264_129 rfl ?_
          refine rs_topi (v := 4) (by decide) ?_
          refine rs_V wi_264_130 wc_264_193 rfl (dq_isa tf_145_0 wa_10_272) (Nat.le_trans (by decide) hF) (ml_le wm_272 (Nat.le_trans (by decide) hLo)) rfl (sp_272 hw (Nat.le_trans (by decide : 10 ≤ 11 - 1) (Nat.sub_le_sub_right hF 1)) (ml_sub wm_272 (Nat.le_trans (by decide : 181 ≤ 203 - 22) (Nat.sub_le_sub_right hLo 22))) (wp_bind h) (fun r29 h => rs_back0 ?_) (fun z30 h => rs_up wh0_264_130 whh_264 (hT z30 (wp_inr h))))
          have h := wp_inl h
          refine rs_aldn wi_264_133 l0 ?_
          refine rs_aldn wi_264_134 l3 ?_
          refine rs_pure wi_264_135 rfl ?_
          refine rs_topi (v := 1200) (by decide) ?_
          refine rs_aldn wi_264_138 l0 ?_
          refine dq_gr wi_264_139 wf_264_15 tf_145_1 ?_
          refine dq_gi wi_264_142 wf_264_169 tf_7_4 ?_
          refine rs_pure wi_264_145 rfl ?_
          refine rs_V wi_264_146 wc_264_196 rfl (dq_isa tf_145_0 wa_10_267) (Nat.le_trans (by decide) hF) (ml_le wm_267 (Nat.le_trans (by decide) hLo)) rfl (sp_267 hw (Nat.le_trans (by decide : 1 ≤ 11 - 1) (Nat.sub_le_sub_right hF 1)) (ml_sub wm_267 (Nat.le_trans (by decide : 23 ≤ 203 - 24) (Nat.sub_le_sub_right hLo 24))) (ib_lt g8) (wp_bind h) (fun r31 h => rs_back0 ?_))
          exact hj149 _ h _ l0
      refine rs_ifeq (tg := 86) wi_264_78 ⟨by decide, by decide⟩ (fun q => ?_) (fun q => ?_)
      ·
        have h := wp_pos h q
        exact hj86 _ h _ l0 l3
      ·
        have h := wp_neg h q
        refine rs_aldn wi_264_81 l0 ?_
        refine rs_aldn wi_264_82 l3 ?_
        refine rs_V wi_264_83 wc_264_183 rfl (dq_isa tf_145_0 wa_10_266) (Nat.le_trans (by decide) hF) (ml_le wm_266 (Nat.le_trans (by decide) hLo)) rfl (sp_266 hw (Nat.le_trans (by decide : 7 ≤ 11 - 1) (Nat.sub_le_sub_right hF 1)) (ml_sub wm_266 (Nat.le_trans (by decide : 104 ≤ 203 - 22) (Nat.sub_le_sub_right hLo 22))) (ib_lt g8) (wp_bind h) (fun r32 h => rs_back0 ?_) (fun z33 h => rs_up wh0_264_83 whh_264 (hT z33 (wp_inr h))))
        have h := wp_inl h
        exact hj86 _ h _ l0 l3
    refine rs_ifeq (tg := 71) wi_264_63 ⟨by decide, by decide⟩ (fun q => ?_) (fun q => ?_)
    ·
      have h := wp_pos h q
      exact hj71 _ h _ l0 l3
    ·
      have h := wp_neg h q
      refine rs_aldn wi_264_66 l0 ?_
      refine rs_aldn wi_264_67 l3 ?_
      refine rs_V wi_264_68 wc_264_179 rfl (dq_isa tf_145_0 wa_10_265) (Nat.le_trans (by decide) hF) (ml_le wm_265 (Nat.le_trans (by decide) hLo)) rfl (sp_265 hw (Nat.le_trans (by decide : 9 ≤ 11 - 1) (Nat.sub_le_sub_right hF 1)) (ml_sub wm_265 (Nat.le_trans (by decide : 148 ≤ 203 - 27) (Nat.sub_le_sub_right hLo 27))) (ib_lt g8) (wp_bind h) (fun r34 h => rs_back0 ?_) (fun z35 h => rs_up wh0_264_68 whh_264 (hT z35 (wp_inr h))))
      have h := wp_inl h
      exact hj71 _ h _ l0 l3
  refine rs_iclt (tg := 31) wi_264_24 ⟨by decide, by decide⟩ (fun q => ?_) (fun q => ?_)
  ·
    have h := wp_pos h q
    refine rs_pure wi_264_31 rfl ?_
    refine rs_topi (v := 0) (by decide) ?_
    exact hj32 _ h _ l0
  ·
    have h := wp_neg h q
    refine rs_pure wi_264_27 rfl ?_
    refine rs_topi (v := 1) (by decide) ?_
    refine rs_goto (tg := 32) wi_264_28 ⟨by decide, by decide⟩ ?_
    exact hj32 _ h _ l0
theorem t_11 : ta true 11 0 6 := ⟨rfl, by decide, by decide⟩
theorem tf_7_6 : fo true 7 9 6 (.ref 11) := ⟨_, rfl, rfl, by decide, by decide⟩
theorem wc_268_114 : rx_ct (rt_P sc fm) 268 114 = some (0, 257, 1) := (by decide +kernel : rt_ct 268 114 = some (0, 257, 1))
theorem wc_268_125 : rx_ct (rt_P sc fm) 268 125 = some (0, 261, 0) := (by decide +kernel : rt_ct 268 125 = some (0, 261, 0))
theorem wc_268_132 : rx_ct (rt_P sc fm) 268 132 = some (0, 260, 2) := (by decide +kernel : rt_ct 268 132 = some (0, 260, 2))
theorem wc_268_193 : rx_ct (rt_P sc fm) 268 193 = some (0, 272, 2) := (by decide +kernel : rt_ct 268 193 = some (0, 272, 2))
theorem wc_268_242 : rx_ct (rt_P sc fm) 268 242 = some (0, 248, 1) := (by decide +kernel : rt_ct 268 242 = some (0, 248, 1))
theorem wc_268_61 : rx_ct (rt_P sc fm) 268 61 = some (0, 41, 2) := (by decide +kernel : rt_ct 268 61 = some (0, 41, 2))
theorem wc_268_79 : rx_ct (rt_P sc fm) 268 79 = some (0, 42, 0) := (by decide +kernel : rt_ct 268 79 = some (0, 42, 0))
theorem wc_268_89 : rx_ct (rt_P sc fm) 268 89 = some (0, 259, 0) := (by decide +kernel : rt_ct 268 89 = some (0, 259, 0))
theorem wf_268_15 : rx_ft (rt_P sc fm) 268 15 = some (10, 1) := (by decide +kernel : rt_ft 268 15 = some (10, 1))
theorem wf_268_239 : rx_ft (rt_P sc fm) 268 239 = some (9, 7) := (by decide +kernel : rt_ft 268 239 = some (9, 7))
theorem wf_268_245 : rx_ft (rt_P sc fm) 268 245 = some (9, 5) := (by decide +kernel : rt_ft 268 245 = some (9, 5))
theorem wf_268_248 : rx_ft (rt_P sc fm) 268 248 = some (9, 6) := (by decide +kernel : rt_ft 268 248 = some (9, 6))
theorem wf_268_49 : rx_ft (rt_P sc fm) 268 49 = some (10, 7) := (by decide +kernel : rt_ft 268 49 = some (10, 7))
theorem wh0_268_103 : rx_ht (rt_P sc fm) 268 103 "java/lang/IllegalArgumentException" = none := (by decide +kernel : rt_ht 268 103 "java/lang/IllegalArgumentException" = none)
theorem wh0_268_32 : rx_ht (rt_P sc fm) 268 32 "java/lang/IllegalArgumentException" = none := (by decide +kernel : rt_ht 268 32 "java/lang/IllegalArgumentException" = none)
theorem wh0_268_39 : rx_ht (rt_P sc fm) 268 39 "java/lang/IllegalArgumentException" = none := (by decide +kernel : rt_ht 268 39 "java/lang/IllegalArgumentException" = none)
theorem wh0_268_47 : rx_ht (rt_P sc fm) 268 47 "java/lang/IllegalArgumentException" = none := (by decide +kernel : rt_ht 268 47 "java/lang/IllegalArgumentException" = none)
theorem wh0_268_64 : rx_ht (rt_P sc fm) 268 64 "java/lang/IllegalArgumentException" = none := (by decide +kernel : rt_ht 268 64 "java/lang/IllegalArgumentException" = none)
theorem wh0_268_81 : rx_ht (rt_P sc fm) 268 81 "java/lang/IllegalArgumentException" = none := (by decide +kernel : rt_ht 268 81 "java/lang/IllegalArgumentException" = none)
theorem wh0_268_97 : rx_ht (rt_P sc fm) 268 97 "java/lang/IllegalArgumentException" = none := (by decide +kernel : rt_ht 268 97 "java/lang/IllegalArgumentException" = none)
theorem whh_268 : rx_hh (rt_P sc fm) 268 = [] := (by decide +kernel : rt_hh 268 = [])
theorem wi_268_0 : ri (rt_P sc fm) 268 0 (.aload_n 0) (1) := ri_of (by decide +kernel) rfl
theorem wi_268_1 : ri (rt_P sc fm) 268 1 (.dup) (2) := ri_of (by decide +kernel) rfl
theorem wi_268_10 : ri (rt_P sc fm) 268 10 (.aload_n 0) (11) := ri_of (by decide +kernel) rfl
theorem wi_268_100 : ri (rt_P sc fm) 268 100 (.aload_n 0) (101) := ri_of (by decide +kernel) rfl
theorem wi_268_101 : ri (rt_P sc fm) 268 101 (.bipush 59) (103) := ri_of (by decide +kernel) rfl
theorem wi_268_103 : ri (rt_P sc fm) 268 103 (.invokevirtual 114) (106) := ri_of (by decide +kernel) rfl
theorem wi_268_106 : ri (rt_P sc fm) 268 106 (.aload_n 0) (107) := ri_of (by decide +kernel) rfl
theorem wi_268_107 : ri (rt_P sc fm) 268 107 (.getfield 15) (110) := ri_of (by decide +kernel) rfl
theorem wi_268_11 : ri (rt_P sc fm) 268 11 (.aload_n 0) (12) := ri_of (by decide +kernel) rfl
theorem wi_268_110 : ri (rt_P sc fm) 268 110 (.getfield 245) (113) := ri_of (by decide +kernel) rfl
theorem wi_268_113 : ri (rt_P sc fm) 268 113 (.aload_n 0) (114) := ri_of (by decide +kernel) rfl
theorem wi_268_114 : ri (rt_P sc fm) 268 114 (.getfield 15) (117) := ri_of (by decide +kernel) rfl
theorem wi_268_117 : ri (rt_P sc fm) 268 117 (.getfield 239) (120) := ri_of (by decide +kernel) rfl
theorem wi_268_12 : ri (rt_P sc fm) 268 12 (.invokevirtual 125) (15) := ri_of (by decide +kernel) rfl
theorem wi_268_120 : ri (rt_P sc fm) 268 120 (.lload_n 1) (121) := ri_of (by decide +kernel) rfl
theorem wi_268_121 : ri (rt_P sc fm) 268 121 (.lastore) (122) := ri_of (by decide +kernel) rfl
theorem wi_268_122 : ri (rt_P sc fm) 268 122 (.aload_n 0) (123) := ri_of (by decide +kernel) rfl
theorem wi_268_123 : ri (rt_P sc fm) 268 123 (.getfield 15) (126) := ri_of (by decide +kernel) rfl
theorem wi_268_126 : ri (rt_P sc fm) 268 126 (.getfield 248) (129) := ri_of (by decide +kernel) rfl
theorem wi_268_129 : ri (rt_P sc fm) 268 129 (.aload_n 0) (130) := ri_of (by decide +kernel) rfl
theorem wi_268_130 : ri (rt_P sc fm) 268 130 (.getfield 15) (133) := ri_of (by decide +kernel) rfl
theorem wi_268_133 : ri (rt_P sc fm) 268 133 (.getfield 239) (136) := ri_of (by decide +kernel) rfl
theorem wi_268_136 : ri (rt_P sc fm) 268 136 (.iload_n 3) (137) := ri_of (by decide +kernel) rfl
theorem wi_268_137 : ri (rt_P sc fm) 268 137 (.iastore) (138) := ri_of (by decide +kernel) rfl
theorem wi_268_138 : ri (rt_P sc fm) 268 138 (.aload_n 0) (139) := ri_of (by decide +kernel) rfl
theorem wi_268_139 : ri (rt_P sc fm) 268 139 (.getfield 15) (142) := ri_of (by decide +kernel) rfl
theorem wi_268_142 : ri (rt_P sc fm) 268 142 (.dup) (143) := ri_of (by decide +kernel) rfl
theorem wi_268_143 : ri (rt_P sc fm) 268 143 (.getfield 239) (146) := ri_of (by decide +kernel) rfl
theorem wi_268_146 : ri (rt_P sc fm) 268 146 (.iconst 1) (147) := ri_of (by decide +kernel) rfl
theorem wi_268_147 : ri (rt_P sc fm) 268 147 (.iadd) (148) := ri_of (by decide +kernel) rfl
theorem wi_268_148 : ri (rt_P sc fm) 268 148 (.putfield 239) (151) := ri_of (by decide +kernel) rfl
theorem wi_268_15 : ri (rt_P sc fm) 268 15 (.aload_n 0) (16) := ri_of (by decide +kernel) rfl
theorem wi_268_151 : ri (rt_P sc fm) 268 151 (.return_) (152) := ri_of (by decide +kernel) rfl
theorem wi_268_16 : ri (rt_P sc fm) 268 16 (.getfield 15) (19) := ri_of (by decide +kernel) rfl
theorem wi_268_19 : ri (rt_P sc fm) 268 19 (.getfield 239) (22) := ri_of (by decide +kernel) rfl
theorem wi_268_2 : ri (rt_P sc fm) 268 2 (.getfield 49) (5) := ri_of (by decide +kernel) rfl
theorem wi_268_22 : ri (rt_P sc fm) 268 22 (.bipush 6) (24) := ri_of (by decide +kernel) rfl
theorem wi_268_24 : ri (rt_P sc fm) 268 24 (.if_icmp .lt 7) (27) := ri_of (by decide +kernel) rfl
theorem wi_268_27 : ri (rt_P sc fm) 268 27 (.iconst 1) (28) := ri_of (by decide +kernel) rfl
theorem wi_268_28 : ri (rt_P sc fm) 268 28 (.goto 4) (31) := ri_of (by decide +kernel) rfl
theorem wi_268_31 : ri (rt_P sc fm) 268 31 (.iconst 0) (32) := ri_of (by decide +kernel) rfl
theorem wi_268_32 : ri (rt_P sc fm) 268 32 (.invokevirtual 132) (35) := ri_of (by decide +kernel) rfl
theorem wi_268_35 : ri (rt_P sc fm) 268 35 (.lstore_n 1) (36) := ri_of (by decide +kernel) rfl
theorem wi_268_36 : ri (rt_P sc fm) 268 36 (.aload_n 0) (37) := ri_of (by decide +kernel) rfl
theorem wi_268_37 : ri (rt_P sc fm) 268 37 (.bipush 58) (39) := ri_of (by decide +kernel) rfl
theorem wi_268_39 : ri (rt_P sc fm) 268 39 (.invokevirtual 114) (42) := ri_of (by decide +kernel) rfl
theorem wi_268_42 : ri (rt_P sc fm) 268 42 (.aload_n 0) (43) := ri_of (by decide +kernel) rfl
theorem wi_268_43 : ri (rt_P sc fm) 268 43 (.getfield 15) (46) := ri_of (by decide +kernel) rfl
theorem wi_268_46 : ri (rt_P sc fm) 268 46 (.aload_n 0) (47) := ri_of (by decide +kernel) rfl
theorem wi_268_47 : ri (rt_P sc fm) 268 47 (.invokevirtual 89) (50) := ri_of (by decide +kernel) rfl
theorem wi_268_5 : ri (rt_P sc fm) 268 5 (.iconst 1) (6) := ri_of (by decide +kernel) rfl
theorem wi_268_50 : ri (rt_P sc fm) 268 50 (.invokevirtual 242) (53) := ri_of (by decide +kernel) rfl
theorem wi_268_53 : ri (rt_P sc fm) 268 53 (.istore_n 3) (54) := ri_of (by decide +kernel) rfl
theorem wi_268_54 : ri (rt_P sc fm) 268 54 (.iload_n 3) (55) := ri_of (by decide +kernel) rfl
theorem wi_268_55 : ri (rt_P sc fm) 268 55 (.ifCond .ge 12) (58) := ri_of (by decide +kernel) rfl
theorem wi_268_58 : ri (rt_P sc fm) 268 58 (.aload_n 0) (59) := ri_of (by decide +kernel) rfl
theorem wi_268_59 : ri (rt_P sc fm) 268 59 (.iconst 5) (60) := ri_of (by decide +kernel) rfl
theorem wi_268_6 : ri (rt_P sc fm) 268 6 (.iadd) (7) := ri_of (by decide +kernel) rfl
theorem wi_268_60 : ri (rt_P sc fm) 268 60 (.aload_n 0) (61) := ri_of (by decide +kernel) rfl
theorem wi_268_61 : ri (rt_P sc fm) 268 61 (.invokevirtual 79) (64) := ri_of (by decide +kernel) rfl
theorem wi_268_64 : ri (rt_P sc fm) 268 64 (.invokevirtual 61) (67) := ri_of (by decide +kernel) rfl
theorem wi_268_67 : ri (rt_P sc fm) 268 67 (.aload_n 0) (68) := ri_of (by decide +kernel) rfl
theorem wi_268_68 : ri (rt_P sc fm) 268 68 (.dup) (69) := ri_of (by decide +kernel) rfl
theorem wi_268_69 : ri (rt_P sc fm) 268 69 (.getfield 49) (72) := ri_of (by decide +kernel) rfl
theorem wi_268_7 : ri (rt_P sc fm) 268 7 (.putfield 49) (10) := ri_of (by decide +kernel) rfl
theorem wi_268_72 : ri (rt_P sc fm) 268 72 (.iconst 1) (73) := ri_of (by decide +kernel) rfl
theorem wi_268_73 : ri (rt_P sc fm) 268 73 (.iadd) (74) := ri_of (by decide +kernel) rfl
theorem wi_268_74 : ri (rt_P sc fm) 268 74 (.putfield 49) (77) := ri_of (by decide +kernel) rfl
theorem wi_268_77 : ri (rt_P sc fm) 268 77 (.aload_n 0) (78) := ri_of (by decide +kernel) rfl
theorem wi_268_78 : ri (rt_P sc fm) 268 78 (.sipush 207) (81) := ri_of (by decide +kernel) rfl
theorem wi_268_81 : ri (rt_P sc fm) 268 81 (.invokevirtual 114) (84) := ri_of (by decide +kernel) rfl
theorem wi_268_84 : ri (rt_P sc fm) 268 84 (.aload_n 0) (85) := ri_of (by decide +kernel) rfl
theorem wi_268_85 : ri (rt_P sc fm) 268 85 (.sipush 1212) (88) := ri_of (by decide +kernel) rfl
theorem wi_268_88 : ri (rt_P sc fm) 268 88 (.aload_n 0) (89) := ri_of (by decide +kernel) rfl
theorem wi_268_89 : ri (rt_P sc fm) 268 89 (.getfield 15) (92) := ri_of (by decide +kernel) rfl
theorem wi_268_92 : ri (rt_P sc fm) 268 92 (.getfield 239) (95) := ri_of (by decide +kernel) rfl
theorem wi_268_95 : ri (rt_P sc fm) 268 95 (.iadd) (96) := ri_of (by decide +kernel) rfl
theorem wi_268_96 : ri (rt_P sc fm) 268 96 (.iconst 5) (97) := ri_of (by decide +kernel) rfl
theorem wi_268_97 : ri (rt_P sc fm) 268 97 (.invokevirtual 193) (100) := ri_of (by decide +kernel) rfl
theorem wp_268_239 : rx_pt (rt_P sc fm) 268 239 = some (9, 7, .int) := (by decide +kernel : rt_pt 268 239 = some (9, 7, .int))
theorem wp_268_49 : rx_pt (rt_P sc fm) 268 49 = some (10, 7, .int) := (by decide +kernel : rt_pt 268 49 = some (10, 7, .int))
theorem wr_268 : rx_rt (rt_P sc fm) 268 = none := (by decide +kernel : rt_rt 268 = none)
/-- MarkHouse$Reader.readMaker()V -/
def d_268 (n : Nat)  (c : cS) : Option ((cS) ⊕ cS) :=
  lt (pI c 145 7 ((c.1 145 7) + 1)) (fun c1 =>
  Option.bind (d_261 n c1) (fun v3 =>
  jn (fun p4 : Int32 =>
    Option.bind (d_260 n v3 p4 c1) (Sum.elim (fun r5 =>
    Option.bind (d_257 n 58 r5.2) (Sum.elim (fun r8 =>
    Option.bind (d_259 n r8) (Sum.elim (fun r10 =>
    Option.bind (d_248 n r10.1 r10.2) (fun v12 =>
    jn (fun p14 : cS =>
      lt (pI p14 145 7 ((p14.1 145 7) + 1)) (fun c15 =>
      Option.bind (d_257 n 207 c15) (Sum.elim (fun r17 =>
      Option.bind (d_272 n (1212 + (r17.1 7 7)) 5 r17) (Sum.elim (fun r19 =>
      Option.bind (d_257 n 59 r19) (Sum.elim (fun r21 =>
      if ib (r21.1 7 7) 6 then
      lt (pL r21 10 (ix (r21.1 7 7)) r5.1) (fun c24 =>
      if ib (c24.1 7 7) 6 then
      lt (pI c24 11 (ix (c24.1 7 7)) v12) (fun c27 =>
      lt (pI c27 7 7 ((c27.1 7 7) + 1)) (fun c29 =>
      some (.inl c29)))
      else none)
      else none)
      (fun z22 => some (.inr z22))))
      (fun z20 => some (.inr z20))))
      (fun z18 => some (.inr z18)))))
    (fun j67 =>
    if 0 ≤ v12 then
      j67 r10.2
    else
      Option.bind (d_42 n r10.2) (fun v31 =>
      Option.bind (d_41 n 5 v31 r10.2) (Sum.elim (fun r32 =>
      j67 r32)
      (fun z33 => some (.inr z33)))))))
    (fun z11 => some (.inr z11))))
    (fun z9 => some (.inr z9))))
    (fun z6 => some (.inr z6))))
  (fun j32 =>
  if (c1.1 7 7) < 6 then
    j32 0
  else
    j32 1)))
theorem sp_268 {F Lo n : Nat}  {c y : cS} {w : cW} {K : (cS) ⊕ cS → Prop} {Q : ((Option Value) ⊕ String) → List va_E → Prop} (hw : rOK fm w) (hF : 11 ≤ F) (hLo : 203 ≤ Lo)  (h : wp (d_268 n  c) K) (hQ : ∀ r, K (.inl r) → Q (.inl none) (hq true r y w)) (hT : ∀ r, K (.inr r) → Q (.inr "java/lang/IllegalArgumentException") (hq true r y w)) : rs (rt_P sc fm) 268 F Lo 0 [(0, .ref 145)] [] (hq true c y w) Q := by
  unfold d_268 at h
  obtain ⟨lv, elv⟩ : ∃ lv : rx_L, lv = [(0, .ref 145)] := ⟨_, rfl⟩
  rw [← elv]
  have l0 : rx_ld lv 0 = some (.ref 145) := by rw [elv]; rfl
  refine rs_aldn wi_268_0 l0 ?_
  refine rs_pure wi_268_1 rfl ?_
  refine dq_gi wi_268_2 wf_268_49 tf_145_7 ?_
  refine rs_pure wi_268_5 rfl ?_
  refine rs_topi (v := 1) (by decide) ?_
  refine rs_pure wi_268_6 rfl ?_
  obtain ⟨c1, e2, h⟩ := wp_lt h
  refine dq_pi wi_268_7 wp_268_49 tf_145_7 rfl rfl e2 ?_
  refine rs_aldn wi_268_10 l0 ?_
  refine rs_aldn wi_268_11 l0 ?_
  refine rs_V wi_268_12 wc_268_125 rfl (dq_isa tf_145_0 wa_10_261) (Nat.le_trans (by decide) hF) (ml_le wm_261 (Nat.le_trans (by decide) hLo)) rfl (sp_261 hw (Nat.le_trans (by decide : 3 ≤ 11 - 1) (Nat.sub_le_sub_right hF 1)) (ml_sub wm_261 (Nat.le_trans (by decide : 68 ≤ 203 - 20) (Nat.sub_le_sub_right hLo 20))) (wp_bind h) (fun v3 h => rs_back1 ?_))
  refine rs_aldn wi_268_15 l0 ?_
  refine dq_gr wi_268_16 wf_268_15 tf_145_1 ?_
  refine dq_gi wi_268_19 wf_268_239 tf_7_7 ?_
  refine rs_pure wi_268_22 rfl ?_
  refine rs_topi (v := 6) (by decide) ?_
  refine wp_jn (B := fun p4 : Int32 => ∀ lv, rx_ld lv 0 = some (.ref 145) → rs (rt_P sc fm) 268 F Lo 32 lv [.int p4, .int v3, .ref 145] (hq true c1 y w) Q) h (fun p4 h lv l0 => ?_) (fun j32 hj32 h => ?_)
  ·
    refine rs_V wi_268_32 wc_268_132 rfl (dq_isa tf_145_0 wa_10_260) (Nat.le_trans (by decide) hF) (ml_le wm_260 (Nat.le_trans (by decide) hLo)) rfl (sp_260 hw (Nat.le_trans (by decide : 8 ≤ 11 - 1) (Nat.sub_le_sub_right hF 1)) (ml_sub wm_260 (Nat.le_trans (by decide : 124 ≤ 203 - 24) (Nat.sub_le_sub_right hLo 24))) (wp_bind h) (fun r5 h => rs_back1 ?_) (fun z6 h => rs_up wh0_268_32 whh_268 (hT z6 (wp_inr h))))
    have h := wp_inl h
    refine dl_lstn wi_268_35 rfl (fun lv l1 t7 => ?_)
    have l0 := t7 _ _ (by decide) (by decide) (Or.inl rfl) l0
    refine rs_aldn wi_268_36 l0 ?_
    refine rs_pure wi_268_37 rfl ?_
    refine rs_topi (v := 58) (by decide) ?_
    refine rs_V wi_268_39 wc_268_114 rfl (dq_isa tf_145_0 wa_10_257) (Nat.le_trans (by decide) hF) (ml_le wm_257 (Nat.le_trans (by decide) hLo)) rfl (sp_257 hw (Nat.le_trans (by decide : 7 ≤ 11 - 1) (Nat.sub_le_sub_right hF 1)) (ml_sub wm_257 (Nat.le_trans (by decide : 104 ≤ 203 - 21) (Nat.sub_le_sub_right hLo 21))) (wp_bind h) (fun r8 h => rs_back0 ?_) (fun z9 h => rs_up wh0_268_39 whh_268 (hT z9 (wp_inr h))))
    have h := wp_inl h
    refine rs_aldn wi_268_42 l0 ?_
    refine dq_gr wi_268_43 wf_268_15 tf_145_1 ?_
    refine rs_aldn wi_268_46 l0 ?_
    refine rs_V wi_268_47 wc_268_89 rfl (dq_isa tf_145_0 wa_10_259) (Nat.le_trans (by decide) hF) (ml_le wm_259 (Nat.le_trans (by decide) hLo)) rfl (sp_259 hw (Nat.le_trans (by decide : 7 ≤ 11 - 1) (Nat.sub_le_sub_right hF 1)) (ml_sub wm_259 (Nat.le_trans (by decide : 104 ≤ 203 - 20) (Nat.sub_le_sub_right hLo 20))) (wp_bind h) (fun r10 h => rs_back1 ?_) (fun z11 h => rs_up wh0_268_47 whh_268 (hT z11 (wp_inr h))))
    have h := wp_inl h
    refine rs_V wi_268_50 wc_268_242 rfl (dq_isa tf_7_0 wa_9_248) (Nat.le_trans (by decide) hF) (ml_le wm_248 (Nat.le_trans (by decide) hLo)) rfl (sp_248 hw (Nat.le_trans (by decide : 0 ≤ 11 - 1) (Nat.sub_le_sub_right hF 1)) (ml_sub wm_248 (Nat.le_trans (by decide : 0 ≤ 203 - 23) (Nat.sub_le_sub_right hLo 23))) (wp_bind h) (fun v12 h => rs_back1 ?_))
    refine dl_istn wi_268_53 rfl (fun lv l3 t13 => ?_)
    have l0 := t13 _ _ (by decide) (Or.inl rfl) l0
    have l1 := t13 _ _ (by decide) (Or.inr (by decide)) l1
    refine rs_ildn wi_268_54 l3 ?_
    refine wp_jn (B := fun p14 : cS => ∀ lv, rx_ld lv 0 = some (.ref 145) → rx_ld lv 1 = some (.long r5.1) → rx_ld lv 3 = some (.int v12) → rs (rt_P sc fm) 268 F Lo 67 lv [] (hq true p14 y w) Q) h (fun p14 h lv l0 l1 l3 => ?_) (fun j67 hj67 h => ?_)
    ·
      refine rs_aldn wi_268_67 l0 ?_
      refine rs_pure wi_268_68 rfl ?_
      refine dq_gi wi_268_69 wf_268_49 tf_145_7 ?_
      refine rs_pure wi_268_72 rfl ?_
      refine rs_topi (v := 1) (by decide) ?_
      refine rs_pure wi_268_73 rfl ?_
      obtain ⟨c15, e16, h⟩ := wp_lt h
      refine dq_pi wi_268_74 wp_268_49 tf_145_7 rfl rfl e16 ?_
      refine rs_aldn wi_268_77 l0 ?_
      refine rs_pure wi_268_78 rfl ?_
      refine rs_topi (v := 207) (by decide) ?_
      refine rs_V wi_268_81 wc_268_114 rfl (dq_isa tf_145_0 wa_10_257) (Nat.le_trans (by decide) hF) (ml_le wm_257 (Nat.le_trans (by decide) hLo)) rfl (sp_257 hw (Nat.le_trans (by decide : 7 ≤ 11 - 1) (Nat.sub_le_sub_right hF 1)) (ml_sub wm_257 (Nat.le_trans (by decide : 104 ≤ 203 - 21) (Nat.sub_le_sub_right hLo 21))) (wp_bind h) (fun r17 h => rs_back0 ?_) (fun z18 h => rs_up wh0_268_81 whh_268 (hT z18 (wp_inr h))))
      have h := wp_inl h
      refine rs_aldn wi_268_84 l0 ?_
      refine rs_pure wi_268_85 rfl ?_
      refine rs_topi (v := 1212) (by decide) ?_
      refine rs_aldn wi_268_88 l0 ?_
      refine dq_gr wi_268_89 wf_268_15 tf_145_1 ?_
      refine dq_gi wi_268_92 wf_268_239 tf_7_7 ?_
      refine rs_pure wi_268_95 rfl ?_
      refine rs_pure wi_268_96 rfl ?_
      refine rs_topi (v := 5) (by decide) ?_
      refine rs_V wi_268_97 wc_268_193 rfl (dq_isa tf_145_0 wa_10_272) (Nat.le_trans (by decide) hF) (ml_le wm_272 (Nat.le_trans (by decide) hLo)) rfl (sp_272 hw (Nat.le_trans (by decide : 10 ≤ 11 - 1) (Nat.sub_le_sub_right hF 1)) (ml_sub wm_272 (Nat.le_trans (by decide : 181 ≤ 203 - 22) (Nat.sub_le_sub_right hLo 22))) (wp_bind h) (fun r19 h => rs_back0 ?_) (fun z20 h => rs_up wh0_268_97 whh_268 (hT z20 (wp_inr h))))
      have h := wp_inl h
      refine rs_aldn wi_268_100 l0 ?_
      refine rs_pure wi_268_101 rfl ?_
      refine rs_topi (v := 59) (by decide) ?_
      refine rs_V wi_268_103 wc_268_114 rfl (dq_isa tf_145_0 wa_10_257) (Nat.le_trans (by decide) hF) (ml_le wm_257 (Nat.le_trans (by decide) hLo)) rfl (sp_257 hw (Nat.le_trans (by decide : 7 ≤ 11 - 1) (Nat.sub_le_sub_right hF 1)) (ml_sub wm_257 (Nat.le_trans (by decide : 104 ≤ 203 - 21) (Nat.sub_le_sub_right hLo 21))) (wp_bind h) (fun r21 h => rs_back0 ?_) (fun z22 h => rs_up wh0_268_103 whh_268 (hT z22 (wp_inr h))))
      have h := wp_inl h
      refine rs_aldn wi_268_106 l0 ?_
      refine dq_gr wi_268_107 wf_268_15 tf_145_1 ?_
      refine dq_gr wi_268_110 wf_268_245 tf_7_5 ?_
      refine rs_aldn wi_268_113 l0 ?_
      refine dq_gr wi_268_114 wf_268_15 tf_145_1 ?_
      refine dq_gi wi_268_117 wf_268_239 tf_7_7 ?_
      refine rs_lldn wi_268_120 l1 ?_
      obtain ⟨g23, h⟩ := wp_gd h
      obtain ⟨c24, e25, h⟩ := wp_lt h
      refine dq_last wi_268_121 t_10 g23 e25 ?_
      refine rs_aldn wi_268_122 l0 ?_
      refine dq_gr wi_268_123 wf_268_15 tf_145_1 ?_
      refine dq_gr wi_268_126 wf_268_248 tf_7_6 ?_
      refine rs_aldn wi_268_129 l0 ?_
      refine dq_gr wi_268_130 wf_268_15 tf_145_1 ?_
      refine dq_gi wi_268_133 wf_268_239 tf_7_7 ?_
      refine rs_ildn wi_268_136 l3 ?_
      obtain ⟨g26, h⟩ := wp_gd h
      obtain ⟨c27, e28, h⟩ := wp_lt h
      refine dq_iast wi_268_137 t_11 g26 e28 ?_
      refine rs_aldn wi_268_138 l0 ?_
      refine dq_gr wi_268_139 wf_268_15 tf_145_1 ?_
      refine rs_pure wi_268_142 rfl ?_
      refine dq_gi wi_268_143 wf_268_239 tf_7_7 ?_
      refine rs_pure wi_268_146 rfl ?_
      refine rs_topi (v := 1) (by decide) ?_
      refine rs_pure wi_268_147 rfl ?_
      obtain ⟨c29, e30, h⟩ := wp_lt h
      refine dq_pi wi_268_148 wp_268_239 tf_7_7 rfl rfl e30 ?_
      exact rs_vret wi_268_151 wr_268 (hQ c29 h)
    refine rs_ifge (tg := 67) wi_268_55 ⟨by decide, by decide⟩ (fun q => ?_) (fun q => ?_)
    ·
      have h := wp_pos h q
      exact hj67 _ h _ l0 l1 l3
    ·
      have h := wp_neg h q
      refine rs_aldn wi_268_58 l0 ?_
      refine rs_pure wi_268_59 rfl ?_
      refine rs_topi (v := 5) (by decide) ?_
      refine rs_aldn wi_268_60 l0 ?_
      refine rs_V wi_268_61 wc_268_79 rfl (dq_isa tf_145_0 wa_10_42) (Nat.le_trans (by decide) hF) (ml_le wm_42 (Nat.le_trans (by decide) hLo)) rfl (sp_42 hw (Nat.le_trans (by decide : 0 ≤ 11 - 1) (Nat.sub_le_sub_right hF 1)) (ml_sub wm_42 (Nat.le_trans (by decide : 0 ≤ 203 - 20) (Nat.sub_le_sub_right hLo 20))) (wp_bind h) (fun v31 h => rs_back1 ?_))
      refine rs_V wi_268_64 wc_268_61 rfl (dq_isa tf_145_0 wa_10_41) (Nat.le_trans (by decide) hF) (ml_le wm_41 (Nat.le_trans (by decide) hLo)) rfl (sp_41 hw (Nat.le_trans (by decide : 6 ≤ 11 - 1) (Nat.sub_le_sub_right hF 1)) (ml_sub wm_41 (Nat.le_trans (by decide : 82 ≤ 203 - 22) (Nat.sub_le_sub_right hLo 22))) (wp_bind h) (fun r32 h => rs_back0 ?_) (fun z33 h => rs_up wh0_268_64 whh_268 (hT z33 (wp_inr h))))
      have h := wp_inl h
      exact hj67 _ h _ l0 l1 l3
  refine rs_iclt (tg := 31) wi_268_24 ⟨by decide, by decide⟩ (fun q => ?_) (fun q => ?_)
  ·
    have h := wp_pos h q
    refine rs_pure wi_268_31 rfl ?_
    refine rs_topi (v := 0) (by decide) ?_
    exact hj32 _ h _ l0
  ·
    have h := wp_neg h q
    refine rs_pure wi_268_27 rfl ?_
    refine rs_topi (v := 1) (by decide) ?_
    refine rs_goto (tg := 32) wi_268_28 ⟨by decide, by decide⟩ ?_
    exact hj32 _ h _ l0
theorem wa_10_262 : rz_cn 10 (rx_yn (rt_P sc fm) 262).cls = true := (by decide +kernel : rz_cn 10 (rt_yn 262).cls = true)
theorem wa_10_264 : rz_cn 10 (rx_yn (rt_P sc fm) 264).cls = true := (by decide +kernel : rz_cn 10 (rt_yn 264).cls = true)
theorem wa_10_268 : rz_cn 10 (rx_yn (rt_P sc fm) 268).cls = true := (by decide +kernel : rz_cn 10 (rt_yn 268).cls = true)
theorem wc_44_82 : rx_ct (rt_P sc fm) 44 82 = some (0, 43, 0) := (by decide +kernel : rt_ct 44 82 = some (0, 43, 0))
theorem wc_44_93 : rx_ct (rt_P sc fm) 44 93 = some (0, 262, 0) := (by decide +kernel : rt_ct 44 93 = some (0, 262, 0))
theorem wc_44_96 : rx_ct (rt_P sc fm) 44 96 = some (0, 264, 0) := (by decide +kernel : rt_ct 44 96 = some (0, 264, 0))
theorem wc_44_99 : rx_ct (rt_P sc fm) 44 99 = some (0, 268, 0) := (by decide +kernel : rt_ct 44 99 = some (0, 268, 0))
theorem wh0_44_20 : rx_ht (rt_P sc fm) 44 20 "java/lang/IllegalArgumentException" = none := (by decide +kernel : rt_ht 44 20 "java/lang/IllegalArgumentException" = none)
theorem wh0_44_49 : rx_ht (rt_P sc fm) 44 49 "java/lang/IllegalArgumentException" = none := (by decide +kernel : rt_ht 44 49 "java/lang/IllegalArgumentException" = none)
theorem wh0_44_78 : rx_ht (rt_P sc fm) 44 78 "java/lang/IllegalArgumentException" = none := (by decide +kernel : rt_ht 44 78 "java/lang/IllegalArgumentException" = none)
theorem whh_44 : rx_hh (rt_P sc fm) 44 = [] := (by decide +kernel : rt_hh 44 = [])
theorem wi_44_0 : ri (rt_P sc fm) 44 0 (.iconst 0) (1) := ri_of (by decide +kernel) rfl
theorem wi_44_1 : ri (rt_P sc fm) 44 1 (.istore_n 1) (2) := ri_of (by decide +kernel) rfl
theorem wi_44_10 : ri (rt_P sc fm) 44 10 (.invokevirtual 82) (13) := ri_of (by decide +kernel) rfl
theorem wi_44_13 : ri (rt_P sc fm) 44 13 (.sipush 200) (16) := ri_of (by decide +kernel) rfl
theorem wi_44_16 : ri (rt_P sc fm) 44 16 (.if_icmp .ne 13) (19) := ri_of (by decide +kernel) rfl
theorem wi_44_19 : ri (rt_P sc fm) 44 19 (.aload_n 0) (20) := ri_of (by decide +kernel) rfl
theorem wi_44_2 : ri (rt_P sc fm) 44 2 (.iload_n 1) (3) := ri_of (by decide +kernel) rfl
theorem wi_44_20 : ri (rt_P sc fm) 44 20 (.invokevirtual 93) (23) := ri_of (by decide +kernel) rfl
theorem wi_44_23 : ri (rt_P sc fm) 44 23 (.iinc 1 1) (26) := ri_of (by decide +kernel) rfl
theorem wi_44_26 : ri (rt_P sc fm) 44 26 (.goto (-24)) (29) := ri_of (by decide +kernel) rfl
theorem wi_44_29 : ri (rt_P sc fm) 44 29 (.iconst 0) (30) := ri_of (by decide +kernel) rfl
theorem wi_44_3 : ri (rt_P sc fm) 44 3 (.sipush 4000) (6) := ri_of (by decide +kernel) rfl
theorem wi_44_30 : ri (rt_P sc fm) 44 30 (.istore_n 1) (31) := ri_of (by decide +kernel) rfl
theorem wi_44_31 : ri (rt_P sc fm) 44 31 (.iload_n 1) (32) := ri_of (by decide +kernel) rfl
theorem wi_44_32 : ri (rt_P sc fm) 44 32 (.sipush 4000) (35) := ri_of (by decide +kernel) rfl
theorem wi_44_35 : ri (rt_P sc fm) 44 35 (.if_icmp .ge 23) (38) := ri_of (by decide +kernel) rfl
theorem wi_44_38 : ri (rt_P sc fm) 44 38 (.aload_n 0) (39) := ri_of (by decide +kernel) rfl
theorem wi_44_39 : ri (rt_P sc fm) 44 39 (.invokevirtual 82) (42) := ri_of (by decide +kernel) rfl
theorem wi_44_42 : ri (rt_P sc fm) 44 42 (.sipush 201) (45) := ri_of (by decide +kernel) rfl
theorem wi_44_45 : ri (rt_P sc fm) 44 45 (.if_icmp .ne 13) (48) := ri_of (by decide +kernel) rfl
theorem wi_44_48 : ri (rt_P sc fm) 44 48 (.aload_n 0) (49) := ri_of (by decide +kernel) rfl
theorem wi_44_49 : ri (rt_P sc fm) 44 49 (.invokevirtual 96) (52) := ri_of (by decide +kernel) rfl
theorem wi_44_52 : ri (rt_P sc fm) 44 52 (.iinc 1 1) (55) := ri_of (by decide +kernel) rfl
theorem wi_44_55 : ri (rt_P sc fm) 44 55 (.goto (-24)) (58) := ri_of (by decide +kernel) rfl
theorem wi_44_58 : ri (rt_P sc fm) 44 58 (.iconst 0) (59) := ri_of (by decide +kernel) rfl
theorem wi_44_59 : ri (rt_P sc fm) 44 59 (.istore_n 1) (60) := ri_of (by decide +kernel) rfl
theorem wi_44_6 : ri (rt_P sc fm) 44 6 (.if_icmp .ge 23) (9) := ri_of (by decide +kernel) rfl
theorem wi_44_60 : ri (rt_P sc fm) 44 60 (.iload_n 1) (61) := ri_of (by decide +kernel) rfl
theorem wi_44_61 : ri (rt_P sc fm) 44 61 (.sipush 4000) (64) := ri_of (by decide +kernel) rfl
theorem wi_44_64 : ri (rt_P sc fm) 44 64 (.if_icmp .ge 23) (67) := ri_of (by decide +kernel) rfl
theorem wi_44_67 : ri (rt_P sc fm) 44 67 (.aload_n 0) (68) := ri_of (by decide +kernel) rfl
theorem wi_44_68 : ri (rt_P sc fm) 44 68 (.invokevirtual 82) (71) := ri_of (by decide +kernel) rfl
theorem wi_44_71 : ri (rt_P sc fm) 44 71 (.sipush 206) (74) := ri_of (by decide +kernel) rfl
theorem wi_44_74 : ri (rt_P sc fm) 44 74 (.if_icmp .ne 13) (77) := ri_of (by decide +kernel) rfl
theorem wi_44_77 : ri (rt_P sc fm) 44 77 (.aload_n 0) (78) := ri_of (by decide +kernel) rfl
theorem wi_44_78 : ri (rt_P sc fm) 44 78 (.invokevirtual 99) (81) := ri_of (by decide +kernel) rfl
theorem wi_44_81 : ri (rt_P sc fm) 44 81 (.iinc 1 1) (84) := ri_of (by decide +kernel) rfl
theorem wi_44_84 : ri (rt_P sc fm) 44 84 (.goto (-24)) (87) := ri_of (by decide +kernel) rfl
theorem wi_44_87 : ri (rt_P sc fm) 44 87 (.return_) (88) := ri_of (by decide +kernel) rfl
theorem wi_44_9 : ri (rt_P sc fm) 44 9 (.aload_n 0) (10) := ri_of (by decide +kernel) rfl
theorem wm_262 : rx_ml (rt_P sc fm) 262 = 8 := (by decide +kernel : rt_ml 262 = 8)
theorem wm_264 : rx_ml (rt_P sc fm) 264 = 4 := (by decide +kernel : rt_ml 264 = 4)
theorem wm_268 : rx_ml (rt_P sc fm) 268 = 4 := (by decide +kernel : rt_ml 268 = 4)
theorem wr_44 : rx_rt (rt_P sc fm) 44 = none := (by decide +kernel : rt_rt 44 = none)
/-- MarkHouse$Reader.readFront()V -/
def d_44 (n : Nat)  (c : cS) : Option ((cS) ⊕ cS) :=
  Option.bind (whl (R := (cS) ⊕ ((cS) ⊕ cS)) (fun s2 : Int32 × cS =>
    if 4000 ≤ s2.1 then
      some (.inr (.inl s2.2))
    else
      Option.bind (d_43 n s2.2) (fun v3 =>
      if v3 = 200 then
        Option.bind (d_262 n s2.2) (Sum.elim (fun r4 =>
        lt (s2.1 + 1 : Int32) (fun v7 =>
        some (.inl (v7, r4))))
        (fun z5 => some (.inr (.inr (.inr z5)))))
      else
        some (.inr (.inl s2.2)))) n (0, c))
  (Sum.elim (fun x9 : cS =>
    Option.bind (whl (R := (cS) ⊕ ((cS) ⊕ cS)) (fun s11 : Int32 × cS =>
      if 4000 ≤ s11.1 then
        some (.inr (.inl s11.2))
      else
        Option.bind (d_43 n s11.2) (fun v12 =>
        if v12 = 201 then
          Option.bind (d_264 n s11.2) (Sum.elim (fun r13 =>
          lt (s11.1 + 1 : Int32) (fun v16 =>
          some (.inl (v16, r13))))
          (fun z14 => some (.inr (.inr (.inr z14)))))
        else
          some (.inr (.inl s11.2)))) n (0, x9))
    (Sum.elim (fun x18 : cS =>
      Option.bind (whl (R := (cS) ⊕ ((cS) ⊕ cS)) (fun s20 : Int32 × cS =>
        if 4000 ≤ s20.1 then
          some (.inr (.inl s20.2))
        else
          Option.bind (d_43 n s20.2) (fun v21 =>
          if v21 = 206 then
            Option.bind (d_268 n s20.2) (Sum.elim (fun r22 =>
            lt (s20.1 + 1 : Int32) (fun v25 =>
            some (.inl (v25, r22))))
            (fun z23 => some (.inr (.inr (.inr z23)))))
          else
            some (.inr (.inl s20.2)))) n (0, x18))
      (Sum.elim (fun x27 : cS =>
        some (.inl x27))
      (fun x28 : (cS) ⊕ cS =>
        some x28)))
    (fun x29 : (cS) ⊕ cS =>
      some x29)))
  (fun x30 : (cS) ⊕ cS =>
    some x30))
theorem sp_44 {F Lo n : Nat}  {c y : cS} {w : cW} {K : (cS) ⊕ cS → Prop} {Q : ((Option Value) ⊕ String) → List va_E → Prop} (hw : rOK fm w) (hF : 12 ≤ F) (hLo : 226 ≤ Lo)  (h : wp (d_44 n  c) K) (hQ : ∀ r, K (.inl r) → Q (.inl none) (hq true r y w)) (hT : ∀ r, K (.inr r) → Q (.inr "java/lang/IllegalArgumentException") (hq true r y w)) : rs (rt_P sc fm) 44 F Lo 0 [(0, .ref 145)] [] (hq true c y w) Q := by
  unfold d_44 at h
  obtain ⟨lv, elv⟩ : ∃ lv : rx_L, lv = [(0, .ref 145)] := ⟨_, rfl⟩
  rw [← elv]
  have l0 : rx_ld lv 0 = some (.ref 145) := by rw [elv]; rfl
  refine rs_pure wi_44_0 rfl ?_
  refine rs_topi (v := 0) (by decide) ?_
  refine dl_istn wi_44_1 rfl (fun lv l1 t1 => ?_)
  have l0 := t1 _ _ (by decide) (Or.inl rfl) l0
  refine whl_ex (A := fun s2 : Int32 × cS => ∀ lv, rx_ld lv 0 = some (.ref 145) → rx_ld lv 1 = some (.int s2.1) → rs (rt_P sc fm) 44 F Lo 2 lv [] (hq true s2.2 y w) Q) (B := (Sum.elim (fun x9 : cS => ∀ lv, rx_ld lv 0 = some (.ref 145) → rs (rt_P sc fm) 44 F Lo 29 lv [] (hq true x9 y w) Q) K)) ?_ ?_ _ _ (wp_bind h) _ l0 l1
  · intro s2 h lv l0 l1
    refine rs_ildn wi_44_2 l1 ?_
    refine rs_pure wi_44_3 rfl ?_
    refine rs_topi (v := 4000) (by decide) ?_
    refine rs_icge (tg := 29) wi_44_6 ⟨by decide, by decide⟩ (fun q => ?_) (fun q => ?_)
    ·
      have h := wp_pos h q
      exact h _ l0
    ·
      have h := wp_neg h q
      refine rs_aldn wi_44_9 l0 ?_
      refine rs_V wi_44_10 wc_44_82 rfl (dq_isa tf_145_0 wa_10_43) (Nat.le_trans (by decide) hF) (ml_le wm_43 (Nat.le_trans (by decide) hLo)) rfl (sp_43 hw (Nat.le_trans (by decide : 0 ≤ 12 - 1) (Nat.sub_le_sub_right hF 1)) (ml_sub wm_43 (Nat.le_trans (by decide : 0 ≤ 226 - 20) (Nat.sub_le_sub_right hLo 20))) (wp_bind h) (fun v3 h => rs_back1 ?_))
      refine rs_pure wi_44_13 rfl ?_
      refine rs_topi (v := 200) (by decide) ?_
      refine rs_icne (tg := 29) wi_44_16 ⟨by decide, by decide⟩ (fun q => ?_) (fun q => ?_)
      ·
        have h := wp_neg h q
        exact h _ l0
      ·
        have h := wp_pos h q
        refine rs_aldn wi_44_19 l0 ?_
        refine rs_V wi_44_20 wc_44_93 rfl (dq_isa tf_145_0 wa_10_262) (Nat.le_trans (by decide) hF) (ml_le wm_262 (Nat.le_trans (by decide) hLo)) rfl (sp_262 hw (Nat.le_trans (by decide : 9 ≤ 12 - 1) (Nat.sub_le_sub_right hF 1)) (ml_sub wm_262 (Nat.le_trans (by decide : 148 ≤ 226 - 27) (Nat.sub_le_sub_right hLo 27))) (wp_bind h) (fun r4 h => rs_back0 ?_) (fun z5 h => rs_up wh0_44_20 whh_44 (hT z5 (wp_inr h))))
        have h := wp_inl h
        obtain ⟨v7, e8, h⟩ := wp_lt h
        refine dl_inc wi_44_23 l1 rfl e8 (fun lv l1 t6 => ?_)
        have l0 := t6 _ _ (by decide) (Or.inl rfl) l0
        refine rs_goto (tg := 2) wi_44_26 ⟨by decide, by decide⟩ ?_
        exact h _ l0 l1
  ·
    refine sum_all ?_ ?_
    ·
      intro x9 h lv l0
      have h := wp_inl h
      refine rs_pure wi_44_29 rfl ?_
      refine rs_topi (v := 0) (by decide) ?_
      refine dl_istn wi_44_30 rfl (fun lv l1 t10 => ?_)
      have l0 := t10 _ _ (by decide) (Or.inl rfl) l0
      refine whl_ex (A := fun s11 : Int32 × cS => ∀ lv, rx_ld lv 0 = some (.ref 145) → rx_ld lv 1 = some (.int s11.1) → rs (rt_P sc fm) 44 F Lo 31 lv [] (hq true s11.2 y w) Q) (B := (Sum.elim (fun x18 : cS => ∀ lv, rx_ld lv 0 = some (.ref 145) → rs (rt_P sc fm) 44 F Lo 58 lv [] (hq true x18 y w) Q) K)) ?_ ?_ _ _ (wp_bind h) _ l0 l1
      · intro s11 h lv l0 l1
        refine rs_ildn wi_44_31 l1 ?_
        refine rs_pure wi_44_32 rfl ?_
        refine rs_topi (v := 4000) (by decide) ?_
        refine rs_icge (tg := 58) wi_44_35 ⟨by decide, by decide⟩ (fun q => ?_) (fun q => ?_)
        ·
          have h := wp_pos h q
          exact h _ l0
        ·
          have h := wp_neg h q
          refine rs_aldn wi_44_38 l0 ?_
          refine rs_V wi_44_39 wc_44_82 rfl (dq_isa tf_145_0 wa_10_43) (Nat.le_trans (by decide) hF) (ml_le wm_43 (Nat.le_trans (by decide) hLo)) rfl (sp_43 hw (Nat.le_trans (by decide : 0 ≤ 12 - 1) (Nat.sub_le_sub_right hF 1)) (ml_sub wm_43 (Nat.le_trans (by decide : 0 ≤ 226 - 20) (Nat.sub_le_sub_right hLo 20))) (wp_bind h) (fun v12 h => rs_back1 ?_))
          refine rs_pure wi_44_42 rfl ?_
          refine rs_topi (v := 201) (by decide) ?_
          refine rs_icne (tg := 58) wi_44_45 ⟨by decide, by decide⟩ (fun q => ?_) (fun q => ?_)
          ·
            have h := wp_neg h q
            exact h _ l0
          ·
            have h := wp_pos h q
            refine rs_aldn wi_44_48 l0 ?_
            refine rs_V wi_44_49 wc_44_96 rfl (dq_isa tf_145_0 wa_10_264) (Nat.le_trans (by decide) hF) (ml_le wm_264 (Nat.le_trans (by decide) hLo)) rfl (sp_264 hw (Nat.le_trans (by decide : 11 ≤ 12 - 1) (Nat.sub_le_sub_right hF 1)) (ml_sub wm_264 (Nat.le_trans (by decide : 203 ≤ 226 - 23) (Nat.sub_le_sub_right hLo 23))) (wp_bind h) (fun r13 h => rs_back0 ?_) (fun z14 h => rs_up wh0_44_49 whh_44 (hT z14 (wp_inr h))))
            have h := wp_inl h
            obtain ⟨v16, e17, h⟩ := wp_lt h
            refine dl_inc wi_44_52 l1 rfl e17 (fun lv l1 t15 => ?_)
            have l0 := t15 _ _ (by decide) (Or.inl rfl) l0
            refine rs_goto (tg := 31) wi_44_55 ⟨by decide, by decide⟩ ?_
            exact h _ l0 l1
      ·
        refine sum_all ?_ ?_
        ·
          intro x18 h lv l0
          have h := wp_inl h
          refine rs_pure wi_44_58 rfl ?_
          refine rs_topi (v := 0) (by decide) ?_
          refine dl_istn wi_44_59 rfl (fun lv l1 t19 => ?_)
          have l0 := t19 _ _ (by decide) (Or.inl rfl) l0
          refine whl_ex (A := fun s20 : Int32 × cS => ∀ lv, rx_ld lv 0 = some (.ref 145) → rx_ld lv 1 = some (.int s20.1) → rs (rt_P sc fm) 44 F Lo 60 lv [] (hq true s20.2 y w) Q) (B := (Sum.elim (fun x27 : cS => ∀ lv, rs (rt_P sc fm) 44 F Lo 87 lv [] (hq true x27 y w) Q) K)) ?_ ?_ _ _ (wp_bind h) _ l0 l1
          · intro s20 h lv l0 l1
            refine rs_ildn wi_44_60 l1 ?_
            refine rs_pure wi_44_61 rfl ?_
            refine rs_topi (v := 4000) (by decide) ?_
            refine rs_icge (tg := 87) wi_44_64 ⟨by decide, by decide⟩ (fun q => ?_) (fun q => ?_)
            ·
              have h := wp_pos h q
              exact h _
            ·
              have h := wp_neg h q
              refine rs_aldn wi_44_67 l0 ?_
              refine rs_V wi_44_68 wc_44_82 rfl (dq_isa tf_145_0 wa_10_43) (Nat.le_trans (by decide) hF) (ml_le wm_43 (Nat.le_trans (by decide) hLo)) rfl (sp_43 hw (Nat.le_trans (by decide : 0 ≤ 12 - 1) (Nat.sub_le_sub_right hF 1)) (ml_sub wm_43 (Nat.le_trans (by decide : 0 ≤ 226 - 20) (Nat.sub_le_sub_right hLo 20))) (wp_bind h) (fun v21 h => rs_back1 ?_))
              refine rs_pure wi_44_71 rfl ?_
              refine rs_topi (v := 206) (by decide) ?_
              refine rs_icne (tg := 87) wi_44_74 ⟨by decide, by decide⟩ (fun q => ?_) (fun q => ?_)
              ·
                have h := wp_neg h q
                exact h _
              ·
                have h := wp_pos h q
                refine rs_aldn wi_44_77 l0 ?_
                refine rs_V wi_44_78 wc_44_99 rfl (dq_isa tf_145_0 wa_10_268) (Nat.le_trans (by decide) hF) (ml_le wm_268 (Nat.le_trans (by decide) hLo)) rfl (sp_268 hw (Nat.le_trans (by decide : 11 ≤ 12 - 1) (Nat.sub_le_sub_right hF 1)) (ml_sub wm_268 (Nat.le_trans (by decide : 203 ≤ 226 - 23) (Nat.sub_le_sub_right hLo 23))) (wp_bind h) (fun r22 h => rs_back0 ?_) (fun z23 h => rs_up wh0_44_78 whh_44 (hT z23 (wp_inr h))))
                have h := wp_inl h
                obtain ⟨v25, e26, h⟩ := wp_lt h
                refine dl_inc wi_44_81 l1 rfl e26 (fun lv l1 t24 => ?_)
                have l0 := t24 _ _ (by decide) (Or.inl rfl) l0
                refine rs_goto (tg := 60) wi_44_84 ⟨by decide, by decide⟩ ?_
                exact h _ l0 l1
          ·
            refine sum_all ?_ ?_
            ·
              intro x27 h lv
              have h := wp_inl h
              exact rs_vret wi_44_87 wr_44 (hQ x27 h)
            ·
              intro x28 h
              exact h
        ·
          intro x29 h
          exact h
    ·
      intro x30 h
      exact h
theorem t_13 : ta true 13 0 12 := ⟨rfl, by decide, by decide⟩
theorem tf_145_8 : fo true 145 10 8 (.int 0) := ⟨_, rfl, rfl, by decide, by decide⟩
theorem tf_7_9 : fo true 7 9 9 (.ref 13) := ⟨_, rfl, rfl, by decide, by decide⟩
theorem wc_269_114 : rx_ct (rt_P sc fm) 269 114 = some (0, 257, 1) := (by decide +kernel : rt_ct 269 114 = some (0, 257, 1))
theorem wc_269_125 : rx_ct (rt_P sc fm) 269 125 = some (0, 261, 0) := (by decide +kernel : rt_ct 269 125 = some (0, 261, 0))
theorem wc_269_132 : rx_ct (rt_P sc fm) 269 132 = some (0, 260, 2) := (by decide +kernel : rt_ct 269 132 = some (0, 260, 2))
theorem wc_269_149 : rx_ct (rt_P sc fm) 269 149 = some (0, 258, 1) := (by decide +kernel : rt_ct 269 149 = some (0, 258, 1))
theorem wc_269_251 : rx_ct (rt_P sc fm) 269 251 = some (0, 249, 1) := (by decide +kernel : rt_ct 269 251 = some (0, 249, 1))
theorem wc_269_269 : rx_ct (rt_P sc fm) 269 269 = some (0, 273, 2) := (by decide +kernel : rt_ct 269 269 = some (0, 273, 2))
theorem wc_269_61 : rx_ct (rt_P sc fm) 269 61 = some (0, 41, 2) := (by decide +kernel : rt_ct 269 61 = some (0, 41, 2))
theorem wc_269_79 : rx_ct (rt_P sc fm) 269 79 = some (0, 42, 0) := (by decide +kernel : rt_ct 269 79 = some (0, 42, 0))
theorem wc_269_89 : rx_ct (rt_P sc fm) 269 89 = some (0, 259, 0) := (by decide +kernel : rt_ct 269 89 = some (0, 259, 0))
theorem wf_269_118 : rx_ft (rt_P sc fm) 269 118 = some (9, 10) := (by decide +kernel : rt_ft 269 118 = some (9, 10))
theorem wf_269_15 : rx_ft (rt_P sc fm) 269 15 = some (10, 1) := (by decide +kernel : rt_ft 269 15 = some (10, 1))
theorem wf_269_254 : rx_ft (rt_P sc fm) 269 254 = some (10, 8) := (by decide +kernel : rt_ft 269 254 = some (10, 8))
theorem wf_269_257 : rx_ft (rt_P sc fm) 269 257 = some (9, 8) := (by decide +kernel : rt_ft 269 257 = some (9, 8))
theorem wf_269_260 : rx_ft (rt_P sc fm) 269 260 = some (9, 9) := (by decide +kernel : rt_ft 269 260 = some (9, 9))
theorem wf_269_263 : rx_ft (rt_P sc fm) 269 263 = some (9, 11) := (by decide +kernel : rt_ft 269 263 = some (9, 11))
theorem wf_269_266 : rx_ft (rt_P sc fm) 269 266 = some (9, 14) := (by decide +kernel : rt_ft 269 266 = some (9, 14))
theorem wf_269_49 : rx_ft (rt_P sc fm) 269 49 = some (10, 7) := (by decide +kernel : rt_ft 269 49 = some (10, 7))
theorem wh0_269_167 : rx_ht (rt_P sc fm) 269 167 "java/lang/IllegalArgumentException" = none := (by decide +kernel : rt_ht 269 167 "java/lang/IllegalArgumentException" = none)
theorem wh0_269_173 : rx_ht (rt_P sc fm) 269 173 "java/lang/IllegalArgumentException" = none := (by decide +kernel : rt_ht 269 173 "java/lang/IllegalArgumentException" = none)
theorem wh0_269_32 : rx_ht (rt_P sc fm) 269 32 "java/lang/IllegalArgumentException" = none := (by decide +kernel : rt_ht 269 32 "java/lang/IllegalArgumentException" = none)
theorem wh0_269_52 : rx_ht (rt_P sc fm) 269 52 "java/lang/IllegalArgumentException" = none := (by decide +kernel : rt_ht 269 52 "java/lang/IllegalArgumentException" = none)
theorem wh0_269_69 : rx_ht (rt_P sc fm) 269 69 "java/lang/IllegalArgumentException" = none := (by decide +kernel : rt_ht 269 69 "java/lang/IllegalArgumentException" = none)
theorem whh_269 : rx_hh (rt_P sc fm) 269 = [] := (by decide +kernel : rt_hh 269 = [])
theorem wi_269_0 : ri (rt_P sc fm) 269 0 (.aload_n 0) (1) := ri_of (by decide +kernel) rfl
theorem wi_269_1 : ri (rt_P sc fm) 269 1 (.dup) (2) := ri_of (by decide +kernel) rfl
theorem wi_269_10 : ri (rt_P sc fm) 269 10 (.aload_n 0) (11) := ri_of (by decide +kernel) rfl
theorem wi_269_100 : ri (rt_P sc fm) 269 100 (.aload_n 0) (101) := ri_of (by decide +kernel) rfl
theorem wi_269_101 : ri (rt_P sc fm) 269 101 (.getfield 254) (104) := ri_of (by decide +kernel) rfl
theorem wi_269_104 : ri (rt_P sc fm) 269 104 (.lload_n 1) (105) := ri_of (by decide +kernel) rfl
theorem wi_269_105 : ri (rt_P sc fm) 269 105 (.lastore) (106) := ri_of (by decide +kernel) rfl
theorem wi_269_106 : ri (rt_P sc fm) 269 106 (.aload_n 0) (107) := ri_of (by decide +kernel) rfl
theorem wi_269_107 : ri (rt_P sc fm) 269 107 (.getfield 15) (110) := ri_of (by decide +kernel) rfl
theorem wi_269_11 : ri (rt_P sc fm) 269 11 (.aload_n 0) (12) := ri_of (by decide +kernel) rfl
theorem wi_269_110 : ri (rt_P sc fm) 269 110 (.getfield 260) (113) := ri_of (by decide +kernel) rfl
theorem wi_269_113 : ri (rt_P sc fm) 269 113 (.aload_n 0) (114) := ri_of (by decide +kernel) rfl
theorem wi_269_114 : ri (rt_P sc fm) 269 114 (.getfield 254) (117) := ri_of (by decide +kernel) rfl
theorem wi_269_117 : ri (rt_P sc fm) 269 117 (.iload_n 3) (118) := ri_of (by decide +kernel) rfl
theorem wi_269_118 : ri (rt_P sc fm) 269 118 (.iastore) (119) := ri_of (by decide +kernel) rfl
theorem wi_269_119 : ri (rt_P sc fm) 269 119 (.aload_n 0) (120) := ri_of (by decide +kernel) rfl
theorem wi_269_12 : ri (rt_P sc fm) 269 12 (.invokevirtual 125) (15) := ri_of (by decide +kernel) rfl
theorem wi_269_120 : ri (rt_P sc fm) 269 120 (.getfield 15) (123) := ri_of (by decide +kernel) rfl
theorem wi_269_123 : ri (rt_P sc fm) 269 123 (.getfield 263) (126) := ri_of (by decide +kernel) rfl
theorem wi_269_126 : ri (rt_P sc fm) 269 126 (.aload_n 0) (127) := ri_of (by decide +kernel) rfl
theorem wi_269_127 : ri (rt_P sc fm) 269 127 (.getfield 254) (130) := ri_of (by decide +kernel) rfl
theorem wi_269_130 : ri (rt_P sc fm) 269 130 (.iconst 0) (131) := ri_of (by decide +kernel) rfl
theorem wi_269_131 : ri (rt_P sc fm) 269 131 (.iastore) (132) := ri_of (by decide +kernel) rfl
theorem wi_269_132 : ri (rt_P sc fm) 269 132 (.aload_n 0) (133) := ri_of (by decide +kernel) rfl
theorem wi_269_133 : ri (rt_P sc fm) 269 133 (.getfield 15) (136) := ri_of (by decide +kernel) rfl
theorem wi_269_136 : ri (rt_P sc fm) 269 136 (.getfield 266) (139) := ri_of (by decide +kernel) rfl
theorem wi_269_139 : ri (rt_P sc fm) 269 139 (.aload_n 0) (140) := ri_of (by decide +kernel) rfl
theorem wi_269_140 : ri (rt_P sc fm) 269 140 (.getfield 254) (143) := ri_of (by decide +kernel) rfl
theorem wi_269_143 : ri (rt_P sc fm) 269 143 (.iconst 0) (144) := ri_of (by decide +kernel) rfl
theorem wi_269_144 : ri (rt_P sc fm) 269 144 (.iastore) (145) := ri_of (by decide +kernel) rfl
theorem wi_269_145 : ri (rt_P sc fm) 269 145 (.aload_n 0) (146) := ri_of (by decide +kernel) rfl
theorem wi_269_146 : ri (rt_P sc fm) 269 146 (.getfield 15) (149) := ri_of (by decide +kernel) rfl
theorem wi_269_149 : ri (rt_P sc fm) 269 149 (.dup) (150) := ri_of (by decide +kernel) rfl
theorem wi_269_15 : ri (rt_P sc fm) 269 15 (.aload_n 0) (16) := ri_of (by decide +kernel) rfl
theorem wi_269_150 : ri (rt_P sc fm) 269 150 (.getfield 118) (153) := ri_of (by decide +kernel) rfl
theorem wi_269_153 : ri (rt_P sc fm) 269 153 (.iconst 1) (154) := ri_of (by decide +kernel) rfl
theorem wi_269_154 : ri (rt_P sc fm) 269 154 (.iadd) (155) := ri_of (by decide +kernel) rfl
theorem wi_269_155 : ri (rt_P sc fm) 269 155 (.putfield 118) (158) := ri_of (by decide +kernel) rfl
theorem wi_269_158 : ri (rt_P sc fm) 269 158 (.aload_n 0) (159) := ri_of (by decide +kernel) rfl
theorem wi_269_159 : ri (rt_P sc fm) 269 159 (.bipush 100) (161) := ri_of (by decide +kernel) rfl
theorem wi_269_16 : ri (rt_P sc fm) 269 16 (.getfield 15) (19) := ri_of (by decide +kernel) rfl
theorem wi_269_161 : ri (rt_P sc fm) 269 161 (.aload_n 0) (162) := ri_of (by decide +kernel) rfl
theorem wi_269_162 : ri (rt_P sc fm) 269 162 (.getfield 254) (165) := ri_of (by decide +kernel) rfl
theorem wi_269_165 : ri (rt_P sc fm) 269 165 (.imul) (166) := ri_of (by decide +kernel) rfl
theorem wi_269_166 : ri (rt_P sc fm) 269 166 (.iconst 0) (167) := ri_of (by decide +kernel) rfl
theorem wi_269_167 : ri (rt_P sc fm) 269 167 (.invokevirtual 269) (170) := ri_of (by decide +kernel) rfl
theorem wi_269_170 : ri (rt_P sc fm) 269 170 (.aload_n 0) (171) := ri_of (by decide +kernel) rfl
theorem wi_269_171 : ri (rt_P sc fm) 269 171 (.bipush 123) (173) := ri_of (by decide +kernel) rfl
theorem wi_269_173 : ri (rt_P sc fm) 269 173 (.invokevirtual 114) (176) := ri_of (by decide +kernel) rfl
theorem wi_269_176 : ri (rt_P sc fm) 269 176 (.return_) (177) := ri_of (by decide +kernel) rfl
theorem wi_269_19 : ri (rt_P sc fm) 269 19 (.getfield 118) (22) := ri_of (by decide +kernel) rfl
theorem wi_269_2 : ri (rt_P sc fm) 269 2 (.getfield 49) (5) := ri_of (by decide +kernel) rfl
theorem wi_269_22 : ri (rt_P sc fm) 269 22 (.bipush 12) (24) := ri_of (by decide +kernel) rfl
theorem wi_269_24 : ri (rt_P sc fm) 269 24 (.if_icmp .lt 7) (27) := ri_of (by decide +kernel) rfl
theorem wi_269_27 : ri (rt_P sc fm) 269 27 (.iconst 1) (28) := ri_of (by decide +kernel) rfl
theorem wi_269_28 : ri (rt_P sc fm) 269 28 (.goto 4) (31) := ri_of (by decide +kernel) rfl
theorem wi_269_31 : ri (rt_P sc fm) 269 31 (.iconst 0) (32) := ri_of (by decide +kernel) rfl
theorem wi_269_32 : ri (rt_P sc fm) 269 32 (.invokevirtual 132) (35) := ri_of (by decide +kernel) rfl
theorem wi_269_35 : ri (rt_P sc fm) 269 35 (.lstore_n 1) (36) := ri_of (by decide +kernel) rfl
theorem wi_269_36 : ri (rt_P sc fm) 269 36 (.iconst (-1)) (37) := ri_of (by decide +kernel) rfl
theorem wi_269_37 : ri (rt_P sc fm) 269 37 (.istore_n 3) (38) := ri_of (by decide +kernel) rfl
theorem wi_269_38 : ri (rt_P sc fm) 269 38 (.aload_n 0) (39) := ri_of (by decide +kernel) rfl
theorem wi_269_39 : ri (rt_P sc fm) 269 39 (.bipush 58) (41) := ri_of (by decide +kernel) rfl
theorem wi_269_41 : ri (rt_P sc fm) 269 41 (.invokevirtual 149) (44) := ri_of (by decide +kernel) rfl
theorem wi_269_44 : ri (rt_P sc fm) 269 44 (.ifCond .eq 38) (47) := ri_of (by decide +kernel) rfl
theorem wi_269_47 : ri (rt_P sc fm) 269 47 (.aload_n 0) (48) := ri_of (by decide +kernel) rfl
theorem wi_269_48 : ri (rt_P sc fm) 269 48 (.getfield 15) (51) := ri_of (by decide +kernel) rfl
theorem wi_269_5 : ri (rt_P sc fm) 269 5 (.iconst 1) (6) := ri_of (by decide +kernel) rfl
theorem wi_269_51 : ri (rt_P sc fm) 269 51 (.aload_n 0) (52) := ri_of (by decide +kernel) rfl
theorem wi_269_52 : ri (rt_P sc fm) 269 52 (.invokevirtual 89) (55) := ri_of (by decide +kernel) rfl
theorem wi_269_55 : ri (rt_P sc fm) 269 55 (.invokevirtual 251) (58) := ri_of (by decide +kernel) rfl
theorem wi_269_58 : ri (rt_P sc fm) 269 58 (.istore_n 3) (59) := ri_of (by decide +kernel) rfl
theorem wi_269_59 : ri (rt_P sc fm) 269 59 (.iload_n 3) (60) := ri_of (by decide +kernel) rfl
theorem wi_269_6 : ri (rt_P sc fm) 269 6 (.iadd) (7) := ri_of (by decide +kernel) rfl
theorem wi_269_60 : ri (rt_P sc fm) 269 60 (.ifCond .ge 12) (63) := ri_of (by decide +kernel) rfl
theorem wi_269_63 : ri (rt_P sc fm) 269 63 (.aload_n 0) (64) := ri_of (by decide +kernel) rfl
theorem wi_269_64 : ri (rt_P sc fm) 269 64 (.iconst 5) (65) := ri_of (by decide +kernel) rfl
theorem wi_269_65 : ri (rt_P sc fm) 269 65 (.aload_n 0) (66) := ri_of (by decide +kernel) rfl
theorem wi_269_66 : ri (rt_P sc fm) 269 66 (.invokevirtual 79) (69) := ri_of (by decide +kernel) rfl
theorem wi_269_69 : ri (rt_P sc fm) 269 69 (.invokevirtual 61) (72) := ri_of (by decide +kernel) rfl
theorem wi_269_7 : ri (rt_P sc fm) 269 7 (.putfield 49) (10) := ri_of (by decide +kernel) rfl
theorem wi_269_72 : ri (rt_P sc fm) 269 72 (.aload_n 0) (73) := ri_of (by decide +kernel) rfl
theorem wi_269_73 : ri (rt_P sc fm) 269 73 (.dup) (74) := ri_of (by decide +kernel) rfl
theorem wi_269_74 : ri (rt_P sc fm) 269 74 (.getfield 49) (77) := ri_of (by decide +kernel) rfl
theorem wi_269_77 : ri (rt_P sc fm) 269 77 (.iconst 1) (78) := ri_of (by decide +kernel) rfl
theorem wi_269_78 : ri (rt_P sc fm) 269 78 (.iadd) (79) := ri_of (by decide +kernel) rfl
theorem wi_269_79 : ri (rt_P sc fm) 269 79 (.putfield 49) (82) := ri_of (by decide +kernel) rfl
theorem wi_269_82 : ri (rt_P sc fm) 269 82 (.aload_n 0) (83) := ri_of (by decide +kernel) rfl
theorem wi_269_83 : ri (rt_P sc fm) 269 83 (.aload_n 0) (84) := ri_of (by decide +kernel) rfl
theorem wi_269_84 : ri (rt_P sc fm) 269 84 (.getfield 15) (87) := ri_of (by decide +kernel) rfl
theorem wi_269_87 : ri (rt_P sc fm) 269 87 (.getfield 118) (90) := ri_of (by decide +kernel) rfl
theorem wi_269_90 : ri (rt_P sc fm) 269 90 (.putfield 254) (93) := ri_of (by decide +kernel) rfl
theorem wi_269_93 : ri (rt_P sc fm) 269 93 (.aload_n 0) (94) := ri_of (by decide +kernel) rfl
theorem wi_269_94 : ri (rt_P sc fm) 269 94 (.getfield 15) (97) := ri_of (by decide +kernel) rfl
theorem wi_269_97 : ri (rt_P sc fm) 269 97 (.getfield 257) (100) := ri_of (by decide +kernel) rfl
theorem wp_269_118 : rx_pt (rt_P sc fm) 269 118 = some (9, 10, .int) := (by decide +kernel : rt_pt 269 118 = some (9, 10, .int))
theorem wp_269_254 : rx_pt (rt_P sc fm) 269 254 = some (10, 8, .int) := (by decide +kernel : rt_pt 269 254 = some (10, 8, .int))
theorem wp_269_49 : rx_pt (rt_P sc fm) 269 49 = some (10, 7, .int) := (by decide +kernel : rt_pt 269 49 = some (10, 7, .int))
theorem wr_269 : rx_rt (rt_P sc fm) 269 = none := (by decide +kernel : rt_rt 269 = none)
/-- MarkHouse$Reader.readClassHead()V -/
def d_269 (n : Nat)  (c : cS) : Option ((cS) ⊕ cS) :=
  lt (pI c 145 7 ((c.1 145 7) + 1)) (fun c1 =>
  Option.bind (d_261 n c1) (fun v3 =>
  jn (fun p4 : Int32 =>
    Option.bind (d_260 n v3 p4 c1) (Sum.elim (fun r5 =>
    Option.bind (d_258 n 58 r5.2) (fun r9 =>
    jn (fun p10 : Int32 × cS =>
      lt (pI p10.2 145 8 (p10.2.1 7 10)) (fun c11 =>
      if ib (c11.1 145 8) 12 then
      lt (pL c11 12 (ix (c11.1 145 8)) r5.1) (fun c14 =>
      if ib (c14.1 145 8) 12 then
      lt (pI c14 13 (ix (c14.1 145 8)) p10.1) (fun c17 =>
      if ib (c17.1 145 8) 12 then
      lt (pI c17 14 (ix (c17.1 145 8)) 0) (fun c20 =>
      if ib (c20.1 145 8) 12 then
      lt (pI c20 17 (ix (c20.1 145 8)) 0) (fun c23 =>
      lt (pI c23 7 10 ((c23.1 7 10) + 1)) (fun c25 =>
      Option.bind (d_273 n (100 * (c25.1 145 8)) 0 c25) (Sum.elim (fun r27 =>
      Option.bind (d_257 n 123 r27) (Sum.elim (fun r29 =>
      some (.inl r29))
      (fun z30 => some (.inr z30))))
      (fun z28 => some (.inr z28)))))
      else none)
      else none)
      else none)
      else none))
    (fun j82 =>
    if r9.1 = 0 then
      j82 ((-1), r9.2)
    else
      Option.bind (d_259 n r9.2) (Sum.elim (fun r31 =>
      Option.bind (d_249 n r31.1 r31.2) (fun v33 =>
      jn (fun p35 : cS =>
        lt (pI p35 145 7 ((p35.1 145 7) + 1)) (fun c36 =>
        j82 (v33, c36)))
      (fun j72 =>
      if 0 ≤ v33 then
        j72 r31.2
      else
        Option.bind (d_42 n r31.2) (fun v38 =>
        Option.bind (d_41 n 5 v38 r31.2) (Sum.elim (fun r39 =>
        j72 r39)
        (fun z40 => some (.inr z40)))))))
      (fun z32 => some (.inr z32))))))
    (fun z6 => some (.inr z6))))
  (fun j32 =>
  if (c1.1 7 10) < 12 then
    j32 0
  else
    j32 1)))
theorem sp_269 {F Lo n : Nat}  {c y : cS} {w : cW} {K : (cS) ⊕ cS → Prop} {Q : ((Option Value) ⊕ String) → List va_E → Prop} (hw : rOK fm w) (hF : 10 ≤ F) (hLo : 181 ≤ Lo)  (h : wp (d_269 n  c) K) (hQ : ∀ r, K (.inl r) → Q (.inl none) (hq true r y w)) (hT : ∀ r, K (.inr r) → Q (.inr "java/lang/IllegalArgumentException") (hq true r y w)) : rs (rt_P sc fm) 269 F Lo 0 [(0, .ref 145)] [] (hq true c y w) Q := by
  unfold d_269 at h
  obtain ⟨lv, elv⟩ : ∃ lv : rx_L, lv = [(0, .ref 145)] := ⟨_, rfl⟩
  rw [← elv]
  have l0 : rx_ld lv 0 = some (.ref 145) := by rw [elv]; rfl
  refine rs_aldn wi_269_0 l0 ?_
  refine rs_pure wi_269_1 rfl ?_
  refine dq_gi wi_269_2 wf_269_49 tf_145_7 ?_
  refine rs_pure wi_269_5 rfl ?_
  refine rs_topi (v := 1) (by decide) ?_
  refine rs_pure wi_269_6 rfl ?_
  obtain ⟨c1, e2, h⟩ := wp_lt h
  refine dq_pi wi_269_7 wp_269_49 tf_145_7 rfl rfl e2 ?_
  refine rs_aldn wi_269_10 l0 ?_
  refine rs_aldn wi_269_11 l0 ?_
  refine rs_V wi_269_12 wc_269_125 rfl (dq_isa tf_145_0 wa_10_261) (Nat.le_trans (by decide) hF) (ml_le wm_261 (Nat.le_trans (by decide) hLo)) rfl (sp_261 hw (Nat.le_trans (by decide : 3 ≤ 10 - 1) (Nat.sub_le_sub_right hF 1)) (ml_sub wm_261 (Nat.le_trans (by decide : 68 ≤ 181 - 20) (Nat.sub_le_sub_right hLo 20))) (wp_bind h) (fun v3 h => rs_back1 ?_))
  refine rs_aldn wi_269_15 l0 ?_
  refine dq_gr wi_269_16 wf_269_15 tf_145_1 ?_
  refine dq_gi wi_269_19 wf_269_118 tf_7_10 ?_
  refine rs_pure wi_269_22 rfl ?_
  refine rs_topi (v := 12) (by decide) ?_
  refine wp_jn (B := fun p4 : Int32 => ∀ lv, rx_ld lv 0 = some (.ref 145) → rs (rt_P sc fm) 269 F Lo 32 lv [.int p4, .int v3, .ref 145] (hq true c1 y w) Q) h (fun p4 h lv l0 => ?_) (fun j32 hj32 h => ?_)
  ·
    refine rs_V wi_269_32 wc_269_132 rfl (dq_isa tf_145_0 wa_10_260) (Nat.le_trans (by decide) hF) (ml_le wm_260 (Nat.le_trans (by decide) hLo)) rfl (sp_260 hw (Nat.le_trans (by decide : 8 ≤ 10 - 1) (Nat.sub_le_sub_right hF 1)) (ml_sub wm_260 (Nat.le_trans (by decide : 124 ≤ 181 - 24) (Nat.sub_le_sub_right hLo 24))) (wp_bind h) (fun r5 h => rs_back1 ?_) (fun z6 h => rs_up wh0_269_32 whh_269 (hT z6 (wp_inr h))))
    have h := wp_inl h
    refine dl_lstn wi_269_35 rfl (fun lv l1 t7 => ?_)
    have l0 := t7 _ _ (by decide) (by decide) (Or.inl rfl) l0
    refine rs_pure wi_269_36 rfl ?_
    refine rs_topi (v := (-1)) (by decide) ?_
    refine dl_istn wi_269_37 rfl (fun lv l3 t8 => ?_)
    have l0 := t8 _ _ (by decide) (Or.inl rfl) l0
    have l1 := t8 _ _ (by decide) (Or.inr (by decide)) l1
    refine rs_aldn wi_269_38 l0 ?_
    refine rs_pure wi_269_39 rfl ?_
    refine rs_topi (v := 58) (by decide) ?_
    refine rs_V wi_269_41 wc_269_149 rfl (dq_isa tf_145_0 wa_10_258) (Nat.le_trans (by decide) hF) (ml_le wm_258 (Nat.le_trans (by decide) hLo)) rfl (sp_258 hw (Nat.le_trans (by decide : 0 ≤ 10 - 1) (Nat.sub_le_sub_right hF 1)) (ml_sub wm_258 (Nat.le_trans (by decide : 0 ≤ 181 - 22) (Nat.sub_le_sub_right hLo 22))) (wp_bind h) (fun r9 h => rs_back1 ?_))
    refine wp_jn (B := fun p10 : Int32 × cS => ∀ lv, rx_ld lv 0 = some (.ref 145) → rx_ld lv 1 = some (.long r5.1) → rx_ld lv 3 = some (.int p10.1) → rs (rt_P sc fm) 269 F Lo 82 lv [] (hq true p10.2 y w) Q) h (fun p10 h lv l0 l1 l3 => ?_) (fun j82 hj82 h => ?_)
    ·
      refine rs_aldn wi_269_82 l0 ?_
      refine rs_aldn wi_269_83 l0 ?_
      refine dq_gr wi_269_84 wf_269_15 tf_145_1 ?_
      refine dq_gi wi_269_87 wf_269_118 tf_7_10 ?_
      obtain ⟨c11, e12, h⟩ := wp_lt h
      refine dq_pi wi_269_90 wp_269_254 tf_145_8 rfl rfl e12 ?_
      refine rs_aldn wi_269_93 l0 ?_
      refine dq_gr wi_269_94 wf_269_15 tf_145_1 ?_
      refine dq_gr wi_269_97 wf_269_257 tf_7_8 ?_
      refine rs_aldn wi_269_100 l0 ?_
      refine dq_gi wi_269_101 wf_269_254 tf_145_8 ?_
      refine rs_lldn wi_269_104 l1 ?_
      obtain ⟨g13, h⟩ := wp_gd h
      obtain ⟨c14, e15, h⟩ := wp_lt h
      refine dq_last wi_269_105 t_12 g13 e15 ?_
      refine rs_aldn wi_269_106 l0 ?_
      refine dq_gr wi_269_107 wf_269_15 tf_145_1 ?_
      refine dq_gr wi_269_110 wf_269_260 tf_7_9 ?_
      refine rs_aldn wi_269_113 l0 ?_
      refine dq_gi wi_269_114 wf_269_254 tf_145_8 ?_
      refine rs_ildn wi_269_117 l3 ?_
      obtain ⟨g16, h⟩ := wp_gd h
      obtain ⟨c17, e18, h⟩ := wp_lt h
      refine dq_iast wi_269_118 t_13 g16 e18 ?_
      refine rs_aldn wi_269_119 l0 ?_
      refine dq_gr wi_269_120 wf_269_15 tf_145_1 ?_
      refine dq_gr wi_269_123 wf_269_263 tf_7_11 ?_
      refine rs_aldn wi_269_126 l0 ?_
      refine dq_gi wi_269_127 wf_269_254 tf_145_8 ?_
      refine rs_pure wi_269_130 rfl ?_
      refine rs_topi (v := 0) (by decide) ?_
      obtain ⟨g19, h⟩ := wp_gd h
      obtain ⟨c20, e21, h⟩ := wp_lt h
      refine dq_iast wi_269_131 t_14 g19 e21 ?_
      refine rs_aldn wi_269_132 l0 ?_
      refine dq_gr wi_269_133 wf_269_15 tf_145_1 ?_
      refine dq_gr wi_269_136 wf_269_266 tf_7_14 ?_
      refine rs_aldn wi_269_139 l0 ?_
      refine dq_gi wi_269_140 wf_269_254 tf_145_8 ?_
      refine rs_pure wi_269_143 rfl ?_
      refine rs_topi (v := 0) (by decide) ?_
      obtain ⟨g22, h⟩ := wp_gd h
      obtain ⟨c23, e24, h⟩ := wp_lt h
      refine dq_iast wi_269_144 t_17 g22 e24 ?_
      refine rs_aldn wi_269_145 l0 ?_
      refine dq_gr wi_269_146 wf_269_15 tf_145_1 ?_
      refine rs_pure wi_269_149 rfl ?_
      refine dq_gi wi_269_150 wf_269_118 tf_7_10 ?_
      refine rs_pure wi_269_153 rfl ?_
      refine rs_topi (v := 1) (by decide) ?_
      refine rs_pure wi_269_154 rfl ?_
      obtain ⟨c25, e26, h⟩ := wp_lt h
      refine dq_pi wi_269_155 wp_269_118 tf_7_10 rfl rfl e26 ?_
      refine rs_aldn wi_269_158 l0 ?_
      refine rs_pure wi_269_159 rfl ?_
      refine rs_topi (v := 100) (by decide) ?_
      refine rs_aldn wi_269_161 l0 ?_
      refine dq_gi wi_269_162 wf_269_254 tf_145_8 ?_
      refine rs_pure wi_269_165 rfl ?_
      refine rs_pure wi_269_166 rfl ?_
      refine rs_topi (v := 0) (by decide) ?_
      refine rs_V wi_269_167 wc_269_269 rfl (dq_isa tf_145_0 wa_10_273) (Nat.le_trans (by decide) hF) (ml_le wm_273 (Nat.le_trans (by decide) hLo)) rfl (sp_273 hw (Nat.le_trans (by decide : 9 ≤ 10 - 1) (Nat.sub_le_sub_right hF 1)) (ml_sub wm_273 (Nat.le_trans (by decide : 157 ≤ 181 - 24) (Nat.sub_le_sub_right hLo 24))) (wp_bind h) (fun r27 h => rs_back0 ?_) (fun z28 h => rs_up wh0_269_167 whh_269 (hT z28 (wp_inr h))))
      have h := wp_inl h
      refine rs_aldn wi_269_170 l0 ?_
      refine rs_pure wi_269_171 rfl ?_
      refine rs_topi (v := 123) (by decide) ?_
      refine rs_V wi_269_173 wc_269_114 rfl (dq_isa tf_145_0 wa_10_257) (Nat.le_trans (by decide) hF) (ml_le wm_257 (Nat.le_trans (by decide) hLo)) rfl (sp_257 hw (Nat.le_trans (by decide : 7 ≤ 10 - 1) (Nat.sub_le_sub_right hF 1)) (ml_sub wm_257 (Nat.le_trans (by decide : 104 ≤ 181 - 21) (Nat.sub_le_sub_right hLo 21))) (wp_bind h) (fun r29 h => rs_back0 ?_) (fun z30 h => rs_up wh0_269_173 whh_269 (hT z30 (wp_inr h))))
      have h := wp_inl h
      exact rs_vret wi_269_176 wr_269 (hQ r29 h)
    refine rs_ifeq (tg := 82) wi_269_44 ⟨by decide, by decide⟩ (fun q => ?_) (fun q => ?_)
    ·
      have h := wp_pos h q
      exact hj82 _ h _ l0 l1 l3
    ·
      have h := wp_neg h q
      refine rs_aldn wi_269_47 l0 ?_
      refine dq_gr wi_269_48 wf_269_15 tf_145_1 ?_
      refine rs_aldn wi_269_51 l0 ?_
      refine rs_V wi_269_52 wc_269_89 rfl (dq_isa tf_145_0 wa_10_259) (Nat.le_trans (by decide) hF) (ml_le wm_259 (Nat.le_trans (by decide) hLo)) rfl (sp_259 hw (Nat.le_trans (by decide : 7 ≤ 10 - 1) (Nat.sub_le_sub_right hF 1)) (ml_sub wm_259 (Nat.le_trans (by decide : 104 ≤ 181 - 20) (Nat.sub_le_sub_right hLo 20))) (wp_bind h) (fun r31 h => rs_back1 ?_) (fun z32 h => rs_up wh0_269_52 whh_269 (hT z32 (wp_inr h))))
      have h := wp_inl h
      refine rs_V wi_269_55 wc_269_251 rfl (dq_isa tf_7_0 wa_9_249) (Nat.le_trans (by decide) hF) (ml_le wm_249 (Nat.le_trans (by decide) hLo)) rfl (sp_249 hw (Nat.le_trans (by decide : 0 ≤ 10 - 1) (Nat.sub_le_sub_right hF 1)) (ml_sub wm_249 (Nat.le_trans (by decide : 0 ≤ 181 - 23) (Nat.sub_le_sub_right hLo 23))) (wp_bind h) (fun v33 h => rs_back1 ?_))
      refine dl_istn wi_269_58 rfl (fun lv l3 t34 => ?_)
      have l0 := t34 _ _ (by decide) (Or.inl rfl) l0
      have l1 := t34 _ _ (by decide) (Or.inr (by decide)) l1
      refine rs_ildn wi_269_59 l3 ?_
      refine wp_jn (B := fun p35 : cS => ∀ lv, rx_ld lv 0 = some (.ref 145) → rx_ld lv 1 = some (.long r5.1) → rx_ld lv 3 = some (.int v33) → rs (rt_P sc fm) 269 F Lo 72 lv [] (hq true p35 y w) Q) h (fun p35 h lv l0 l1 l3 => ?_) (fun j72 hj72 h => ?_)
      ·
        refine rs_aldn wi_269_72 l0 ?_
        refine rs_pure wi_269_73 rfl ?_
        refine dq_gi wi_269_74 wf_269_49 tf_145_7 ?_
        refine rs_pure wi_269_77 rfl ?_
        refine rs_topi (v := 1) (by decide) ?_
        refine rs_pure wi_269_78 rfl ?_
        obtain ⟨c36, e37, h⟩ := wp_lt h
        refine dq_pi wi_269_79 wp_269_49 tf_145_7 rfl rfl e37 ?_
        exact hj82 _ h _ l0 l1 l3
      refine rs_ifge (tg := 72) wi_269_60 ⟨by decide, by decide⟩ (fun q => ?_) (fun q => ?_)
      ·
        have h := wp_pos h q
        exact hj72 _ h _ l0 l1 l3
      ·
        have h := wp_neg h q
        refine rs_aldn wi_269_63 l0 ?_
        refine rs_pure wi_269_64 rfl ?_
        refine rs_topi (v := 5) (by decide) ?_
        refine rs_aldn wi_269_65 l0 ?_
        refine rs_V wi_269_66 wc_269_79 rfl (dq_isa tf_145_0 wa_10_42) (Nat.le_trans (by decide) hF) (ml_le wm_42 (Nat.le_trans (by decide) hLo)) rfl (sp_42 hw (Nat.le_trans (by decide : 0 ≤ 10 - 1) (Nat.sub_le_sub_right hF 1)) (ml_sub wm_42 (Nat.le_trans (by decide : 0 ≤ 181 - 20) (Nat.sub_le_sub_right hLo 20))) (wp_bind h) (fun v38 h => rs_back1 ?_))
        refine rs_V wi_269_69 wc_269_61 rfl (dq_isa tf_145_0 wa_10_41) (Nat.le_trans (by decide) hF) (ml_le wm_41 (Nat.le_trans (by decide) hLo)) rfl (sp_41 hw (Nat.le_trans (by decide : 6 ≤ 10 - 1) (Nat.sub_le_sub_right hF 1)) (ml_sub wm_41 (Nat.le_trans (by decide : 82 ≤ 181 - 22) (Nat.sub_le_sub_right hLo 22))) (wp_bind h) (fun r39 h => rs_back0 ?_) (fun z40 h => rs_up wh0_269_69 whh_269 (hT z40 (wp_inr h))))
        have h := wp_inl h
        exact hj72 _ h _ l0 l1 l3
  refine rs_iclt (tg := 31) wi_269_24 ⟨by decide, by decide⟩ (fun q => ?_) (fun q => ?_)
  ·
    have h := wp_pos h q
    refine rs_pure wi_269_31 rfl ?_
    refine rs_topi (v := 0) (by decide) ?_
    exact hj32 _ h _ l0
  ·
    have h := wp_neg h q
    refine rs_pure wi_269_27 rfl ?_
    refine rs_topi (v := 1) (by decide) ?_
    refine rs_goto (tg := 32) wi_269_28 ⟨by decide, by decide⟩ ?_
    exact hj32 _ h _ l0
theorem t_15 : ta true 15 1 96 := ⟨rfl, by decide, by decide⟩
theorem tf_7_12 : fo true 7 9 12 (.ref 15) := ⟨_, rfl, rfl, by decide, by decide⟩
theorem wf_253_37 : rx_ft (rt_P sc fm) 253 37 = some (9, 11) := (by decide +kernel : rt_ft 253 37 = some (9, 11))
theorem wf_253_40 : rx_ft (rt_P sc fm) 253 40 = some (9, 12) := (by decide +kernel : rt_ft 253 40 = some (9, 12))
theorem wi_253_0 : ri (rt_P sc fm) 253 0 (.iconst 0) (1) := ri_of (by decide +kernel) rfl
theorem wi_253_1 : ri (rt_P sc fm) 253 1 (.istore 4) (3) := ri_of (by decide +kernel) rfl
theorem wi_253_10 : ri (rt_P sc fm) 253 10 (.iaload) (11) := ri_of (by decide +kernel) rfl
theorem wi_253_11 : ri (rt_P sc fm) 253 11 (.if_icmp .ge 29) (14) := ri_of (by decide +kernel) rfl
theorem wi_253_14 : ri (rt_P sc fm) 253 14 (.aload_n 0) (15) := ri_of (by decide +kernel) rfl
theorem wi_253_15 : ri (rt_P sc fm) 253 15 (.getfield 40) (18) := ri_of (by decide +kernel) rfl
theorem wi_253_18 : ri (rt_P sc fm) 253 18 (.iload_n 1) (19) := ri_of (by decide +kernel) rfl
theorem wi_253_19 : ri (rt_P sc fm) 253 19 (.bipush 8) (21) := ri_of (by decide +kernel) rfl
theorem wi_253_21 : ri (rt_P sc fm) 253 21 (.imul) (22) := ri_of (by decide +kernel) rfl
theorem wi_253_22 : ri (rt_P sc fm) 253 22 (.iload 4) (24) := ri_of (by decide +kernel) rfl
theorem wi_253_24 : ri (rt_P sc fm) 253 24 (.iadd) (25) := ri_of (by decide +kernel) rfl
theorem wi_253_25 : ri (rt_P sc fm) 253 25 (.laload) (26) := ri_of (by decide +kernel) rfl
theorem wi_253_26 : ri (rt_P sc fm) 253 26 (.lload_n 2) (27) := ri_of (by decide +kernel) rfl
theorem wi_253_27 : ri (rt_P sc fm) 253 27 (.lcmp) (28) := ri_of (by decide +kernel) rfl
theorem wi_253_28 : ri (rt_P sc fm) 253 28 (.ifCond .ne 6) (31) := ri_of (by decide +kernel) rfl
theorem wi_253_3 : ri (rt_P sc fm) 253 3 (.iload 4) (5) := ri_of (by decide +kernel) rfl
theorem wi_253_31 : ri (rt_P sc fm) 253 31 (.iload 4) (33) := ri_of (by decide +kernel) rfl
theorem wi_253_33 : ri (rt_P sc fm) 253 33 (.ireturn) (34) := ri_of (by decide +kernel) rfl
theorem wi_253_34 : ri (rt_P sc fm) 253 34 (.iinc 4 1) (37) := ri_of (by decide +kernel) rfl
theorem wi_253_37 : ri (rt_P sc fm) 253 37 (.goto (-34)) (40) := ri_of (by decide +kernel) rfl
theorem wi_253_40 : ri (rt_P sc fm) 253 40 (.iconst (-1)) (41) := ri_of (by decide +kernel) rfl
theorem wi_253_41 : ri (rt_P sc fm) 253 41 (.ireturn) (42) := ri_of (by decide +kernel) rfl
theorem wi_253_5 : ri (rt_P sc fm) 253 5 (.aload_n 0) (6) := ri_of (by decide +kernel) rfl
theorem wi_253_6 : ri (rt_P sc fm) 253 6 (.getfield 37) (9) := ri_of (by decide +kernel) rfl
theorem wi_253_9 : ri (rt_P sc fm) 253 9 (.iload_n 1) (10) := ri_of (by decide +kernel) rfl
theorem wr_253 : rx_rt (rt_P sc fm) 253 = (some FieldType.int) := (by decide +kernel : rt_rt 253 = (some FieldType.int))
/-- MarkHouse$Program.fieldOf(IJ)I -/
def d_253 (n : Nat) (a1 : Int32) (a2 : Int64) (c : cS) : Option (Int32) :=
  Option.bind (whl (R := (Unit) ⊕ (Int32)) (fun s2 : Int32 =>
    if ib a1 12 then
    if (c.1 14 (ix a1)) ≤ s2 then
      some (.inr (.inl ()))
    else
      if ib ((a1 * 8) + s2) 96 then
      if (lg_cmp (c.2 15 (ix ((a1 * 8) + s2))) a2) = 0 then
        some (.inr (.inr s2))
      else
        lt (s2 + 1 : Int32) (fun v6 =>
        some (.inl v6))
      else none
    else none) n 0)
  (Sum.elim (fun x8 : Unit =>
    some (-1))
  (fun x9 : Int32 =>
    some x9))
theorem sp_253 {F Lo n : Nat} {a1 : Int32} {a2 : Int64} {c y : cS} {w : cW} {K : Int32 → Prop} {Q : ((Option Value) ⊕ String) → List va_E → Prop} (hw : rOK fm w) (hF : 0 ≤ F) (hLo : 0 ≤ Lo)  (h : wp (d_253 n a1 a2 c) K) (hQ : ∀ r, K r → Q (.inl (some (.int r))) (hq true c y w)) : rs (rt_P sc fm) 253 F Lo 0 [(0, .ref 7), (1, .int a1), (2, .long a2)] [] (hq true c y w) Q := by
  unfold d_253 at h
  obtain ⟨lv, elv⟩ : ∃ lv : rx_L, lv = [(0, .ref 7), (1, .int a1), (2, .long a2)] := ⟨_, rfl⟩
  rw [← elv]
  have l0 : rx_ld lv 0 = some (.ref 7) := by rw [elv]; rfl
  have l1 : rx_ld lv 1 = some (.int a1) := by rw [elv]; rfl
  have l2 : rx_ld lv 2 = some (.long a2) := by rw [elv]; rfl
  refine rs_pure wi_253_0 rfl ?_
  refine rs_topi (v := 0) (by decide) ?_
  refine dl_ist wi_253_1 rfl (fun lv l4 t1 => ?_)
  have l0 := t1 _ _ (by decide) (Or.inl rfl) l0
  have l1 := t1 _ _ (by decide) (Or.inl rfl) l1
  have l2 := t1 _ _ (by decide) (Or.inr (by decide)) l2
  refine whl_ex (A := fun s2 : Int32 => ∀ lv, rx_ld lv 0 = some (.ref 7) → rx_ld lv 1 = some (.int a1) → rx_ld lv 2 = some (.long a2) → rx_ld lv 4 = some (.int s2) → rs (rt_P sc fm) 253 F Lo 3 lv [] (hq true c y w) Q) (B := (Sum.elim (fun x8 : Unit => ∀ lv, rs (rt_P sc fm) 253 F Lo 40 lv [] (hq true c y w) Q) (fun x9 : Int32 => ∀ lv, rx_ld lv 4 = some (.int x9) → rs (rt_P sc fm) 253 F Lo 31 lv [] (hq true c y w) Q))) ?_ ?_ _ _ (wp_bind h) _ l0 l1 l2 l4
  · intro s2 h lv l0 l1 l2 l4
    refine rs_ild wi_253_3 l4 ?_
    refine rs_aldn wi_253_5 l0 ?_
    refine dq_gr wi_253_6 wf_253_37 tf_7_11 ?_
    refine rs_ildn wi_253_9 l1 ?_
    obtain ⟨g3, h⟩ := wp_gd h
    refine dq_iald wi_253_10 t_14 g3 ?_
    refine rs_icge (tg := 40) wi_253_11 ⟨by decide, by decide⟩ (fun q => ?_) (fun q => ?_)
    ·
      have h := wp_pos h q
      exact h _
    ·
      have h := wp_neg h q
      refine rs_aldn wi_253_14 l0 ?_
      refine dq_gr wi_253_15 wf_253_40 tf_7_12 ?_
      refine rs_ildn wi_253_18 l1 ?_
      refine rs_pure wi_253_19 rfl ?_
      refine rs_topi (v := 8) (by decide) ?_
      refine rs_pure wi_253_21 rfl ?_
      refine rs_ild wi_253_22 l4 ?_
      refine rs_pure wi_253_24 rfl ?_
      obtain ⟨g4, h⟩ := wp_gd h
      refine dq_lald wi_253_25 t_15 g4 ?_
      refine rs_lldn wi_253_26 l2 ?_
      refine rs_pure wi_253_27 rfl ?_
      refine rs_ifne (tg := 34) wi_253_28 ⟨by decide, by decide⟩ (fun q => ?_) (fun q => ?_)
      ·
        have h := wp_neg h q
        obtain ⟨v6, e7, h⟩ := wp_lt h
        refine dl_inc wi_253_34 l4 rfl e7 (fun lv l4 t5 => ?_)
        have l0 := t5 _ _ (by decide) (Or.inl rfl) l0
        have l1 := t5 _ _ (by decide) (Or.inl rfl) l1
        have l2 := t5 _ _ (by decide) (Or.inr (by decide)) l2
        refine rs_goto (tg := 3) wi_253_37 ⟨by decide, by decide⟩ ?_
        exact h _ l0 l1 l2 l4
      ·
        have h := wp_pos h q
        exact h _ l4
  ·
    refine sum_all ?_ ?_
    ·
      intro x8 h lv
      have h := wp_inl h
      refine rs_pure wi_253_40 rfl ?_
      refine rs_topi (v := (-1)) (by decide) ?_
      exact rs_iret wi_253_41 wr_253 rfl (hQ (-1) h)
    ·
      intro x9 h lv l4
      have h := wp_inr h
      refine rs_ild wi_253_31 l4 ?_
      exact rs_iret wi_253_33 wr_253 rfl (hQ x9 h)
theorem t_16 : ta true 16 0 96 := ⟨rfl, by decide, by decide⟩
theorem tf_7_13 : fo true 7 9 13 (.ref 16) := ⟨_, rfl, rfl, by decide, by decide⟩
theorem wa_9_253 : rz_cn 9 (rx_yn (rt_P sc fm) 253).cls = true := (by decide +kernel : rz_cn 9 (rt_yn 253).cls = true)
theorem wc_270_114 : rx_ct (rt_P sc fm) 270 114 = some (0, 257, 1) := (by decide +kernel : rt_ct 270 114 = some (0, 257, 1))
theorem wc_270_132 : rx_ct (rt_P sc fm) 270 132 = some (0, 260, 2) := (by decide +kernel : rt_ct 270 132 = some (0, 260, 2))
theorem wc_270_149 : rx_ct (rt_P sc fm) 270 149 = some (0, 258, 1) := (by decide +kernel : rt_ct 270 149 = some (0, 258, 1))
theorem wc_270_207 : rx_ct (rt_P sc fm) 270 207 = some (0, 278, 1) := (by decide +kernel : rt_ct 270 207 = some (0, 278, 1))
theorem wc_270_269 : rx_ct (rt_P sc fm) 270 269 = some (0, 273, 2) := (by decide +kernel : rt_ct 270 269 = some (0, 273, 2))
theorem wc_270_272 : rx_ct (rt_P sc fm) 270 272 = some (0, 253, 2) := (by decide +kernel : rt_ct 270 272 = some (0, 253, 2))
theorem wf_270_15 : rx_ft (rt_P sc fm) 270 15 = some (10, 1) := (by decide +kernel : rt_ft 270 15 = some (10, 1))
theorem wf_270_254 : rx_ft (rt_P sc fm) 270 254 = some (10, 8) := (by decide +kernel : rt_ft 270 254 = some (10, 8))
theorem wf_270_263 : rx_ft (rt_P sc fm) 270 263 = some (9, 11) := (by decide +kernel : rt_ft 270 263 = some (9, 11))
theorem wf_270_276 : rx_ft (rt_P sc fm) 270 276 = some (9, 12) := (by decide +kernel : rt_ft 270 276 = some (9, 12))
theorem wf_270_279 : rx_ft (rt_P sc fm) 270 279 = some (9, 13) := (by decide +kernel : rt_ft 270 279 = some (9, 13))
theorem wf_270_49 : rx_ft (rt_P sc fm) 270 49 = some (10, 7) := (by decide +kernel : rt_ft 270 49 = some (10, 7))
theorem wf_270_85 : rx_ft (rt_P sc fm) 270 85 = some (3, 4) := (by decide +kernel : rt_ft 270 85 = some (3, 4))
theorem wf_270_9 : rx_ft (rt_P sc fm) 270 9 = some (10, 0) := (by decide +kernel : rt_ft 270 9 = some (10, 0))
theorem wh0_270_101 : rx_ht (rt_P sc fm) 270 101 "java/lang/IllegalArgumentException" = none := (by decide +kernel : rt_ht 270 101 "java/lang/IllegalArgumentException" = none)
theorem wh0_270_131 : rx_ht (rt_P sc fm) 270 131 "java/lang/IllegalArgumentException" = none := (by decide +kernel : rt_ht 270 131 "java/lang/IllegalArgumentException" = none)
theorem wh0_270_143 : rx_ht (rt_P sc fm) 270 143 "java/lang/IllegalArgumentException" = none := (by decide +kernel : rt_ht 270 143 "java/lang/IllegalArgumentException" = none)
theorem wh0_270_66 : rx_ht (rt_P sc fm) 270 66 "java/lang/IllegalArgumentException" = none := (by decide +kernel : rt_ht 270 66 "java/lang/IllegalArgumentException" = none)
theorem whh_270 : rx_hh (rt_P sc fm) 270 = [] := (by decide +kernel : rt_hh 270 = [])
theorem wi_270_0 : ri (rt_P sc fm) 270 0 (.aload_n 0) (1) := ri_of (by decide +kernel) rfl
theorem wi_270_1 : ri (rt_P sc fm) 270 1 (.dup) (2) := ri_of (by decide +kernel) rfl
theorem wi_270_10 : ri (rt_P sc fm) 270 10 (.aload_n 0) (11) := ri_of (by decide +kernel) rfl
theorem wi_270_100 : ri (rt_P sc fm) 270 100 (.iconst 1) (101) := ri_of (by decide +kernel) rfl
theorem wi_270_101 : ri (rt_P sc fm) 270 101 (.invokevirtual 269) (104) := ri_of (by decide +kernel) rfl
theorem wi_270_104 : ri (rt_P sc fm) 270 104 (.aload_n 0) (105) := ri_of (by decide +kernel) rfl
theorem wi_270_105 : ri (rt_P sc fm) 270 105 (.getfield 15) (108) := ri_of (by decide +kernel) rfl
theorem wi_270_108 : ri (rt_P sc fm) 270 108 (.getfield 279) (111) := ri_of (by decide +kernel) rfl
theorem wi_270_11 : ri (rt_P sc fm) 270 11 (.getfield 15) (14) := ri_of (by decide +kernel) rfl
theorem wi_270_111 : ri (rt_P sc fm) 270 111 (.aload_n 0) (112) := ri_of (by decide +kernel) rfl
theorem wi_270_112 : ri (rt_P sc fm) 270 112 (.getfield 254) (115) := ri_of (by decide +kernel) rfl
theorem wi_270_115 : ri (rt_P sc fm) 270 115 (.bipush 8) (117) := ri_of (by decide +kernel) rfl
theorem wi_270_117 : ri (rt_P sc fm) 270 117 (.imul) (118) := ri_of (by decide +kernel) rfl
theorem wi_270_118 : ri (rt_P sc fm) 270 118 (.iload_n 1) (119) := ri_of (by decide +kernel) rfl
theorem wi_270_119 : ri (rt_P sc fm) 270 119 (.iadd) (120) := ri_of (by decide +kernel) rfl
theorem wi_270_120 : ri (rt_P sc fm) 270 120 (.aload_n 0) (121) := ri_of (by decide +kernel) rfl
theorem wi_270_121 : ri (rt_P sc fm) 270 121 (.bipush 61) (123) := ri_of (by decide +kernel) rfl
theorem wi_270_123 : ri (rt_P sc fm) 270 123 (.invokevirtual 149) (126) := ri_of (by decide +kernel) rfl
theorem wi_270_126 : ri (rt_P sc fm) 270 126 (.ifCond .eq 12) (129) := ri_of (by decide +kernel) rfl
theorem wi_270_129 : ri (rt_P sc fm) 270 129 (.aload_n 0) (130) := ri_of (by decide +kernel) rfl
theorem wi_270_130 : ri (rt_P sc fm) 270 130 (.iconst 1) (131) := ri_of (by decide +kernel) rfl
theorem wi_270_131 : ri (rt_P sc fm) 270 131 (.invokevirtual 207) (134) := ri_of (by decide +kernel) rfl
theorem wi_270_134 : ri (rt_P sc fm) 270 134 (.l2i) (135) := ri_of (by decide +kernel) rfl
theorem wi_270_135 : ri (rt_P sc fm) 270 135 (.goto 4) (138) := ri_of (by decide +kernel) rfl
theorem wi_270_138 : ri (rt_P sc fm) 270 138 (.iconst 0) (139) := ri_of (by decide +kernel) rfl
theorem wi_270_139 : ri (rt_P sc fm) 270 139 (.iastore) (140) := ri_of (by decide +kernel) rfl
theorem wi_270_14 : ri (rt_P sc fm) 270 14 (.getfield 263) (17) := ri_of (by decide +kernel) rfl
theorem wi_270_140 : ri (rt_P sc fm) 270 140 (.aload_n 0) (141) := ri_of (by decide +kernel) rfl
theorem wi_270_141 : ri (rt_P sc fm) 270 141 (.bipush 59) (143) := ri_of (by decide +kernel) rfl
theorem wi_270_143 : ri (rt_P sc fm) 270 143 (.invokevirtual 114) (146) := ri_of (by decide +kernel) rfl
theorem wi_270_146 : ri (rt_P sc fm) 270 146 (.aload_n 0) (147) := ri_of (by decide +kernel) rfl
theorem wi_270_147 : ri (rt_P sc fm) 270 147 (.getfield 15) (150) := ri_of (by decide +kernel) rfl
theorem wi_270_150 : ri (rt_P sc fm) 270 150 (.getfield 263) (153) := ri_of (by decide +kernel) rfl
theorem wi_270_153 : ri (rt_P sc fm) 270 153 (.aload_n 0) (154) := ri_of (by decide +kernel) rfl
theorem wi_270_154 : ri (rt_P sc fm) 270 154 (.getfield 254) (157) := ri_of (by decide +kernel) rfl
theorem wi_270_157 : ri (rt_P sc fm) 270 157 (.dup2) (158) := ri_of (by decide +kernel) rfl
theorem wi_270_158 : ri (rt_P sc fm) 270 158 (.iaload) (159) := ri_of (by decide +kernel) rfl
theorem wi_270_159 : ri (rt_P sc fm) 270 159 (.iconst 1) (160) := ri_of (by decide +kernel) rfl
theorem wi_270_160 : ri (rt_P sc fm) 270 160 (.iadd) (161) := ri_of (by decide +kernel) rfl
theorem wi_270_161 : ri (rt_P sc fm) 270 161 (.iastore) (162) := ri_of (by decide +kernel) rfl
theorem wi_270_162 : ri (rt_P sc fm) 270 162 (.return_) (163) := ri_of (by decide +kernel) rfl
theorem wi_270_17 : ri (rt_P sc fm) 270 17 (.aload_n 0) (18) := ri_of (by decide +kernel) rfl
theorem wi_270_18 : ri (rt_P sc fm) 270 18 (.getfield 254) (21) := ri_of (by decide +kernel) rfl
theorem wi_270_2 : ri (rt_P sc fm) 270 2 (.getfield 49) (5) := ri_of (by decide +kernel) rfl
theorem wi_270_21 : ri (rt_P sc fm) 270 21 (.iaload) (22) := ri_of (by decide +kernel) rfl
theorem wi_270_22 : ri (rt_P sc fm) 270 22 (.istore_n 1) (23) := ri_of (by decide +kernel) rfl
theorem wi_270_23 : ri (rt_P sc fm) 270 23 (.aload_n 0) (24) := ri_of (by decide +kernel) rfl
theorem wi_270_24 : ri (rt_P sc fm) 270 24 (.aload_n 0) (25) := ri_of (by decide +kernel) rfl
theorem wi_270_25 : ri (rt_P sc fm) 270 25 (.getfield 15) (28) := ri_of (by decide +kernel) rfl
theorem wi_270_28 : ri (rt_P sc fm) 270 28 (.aload_n 0) (29) := ri_of (by decide +kernel) rfl
theorem wi_270_29 : ri (rt_P sc fm) 270 29 (.getfield 254) (32) := ri_of (by decide +kernel) rfl
theorem wi_270_32 : ri (rt_P sc fm) 270 32 (.aload_n 0) (33) := ri_of (by decide +kernel) rfl
theorem wi_270_33 : ri (rt_P sc fm) 270 33 (.getfield 9) (36) := ri_of (by decide +kernel) rfl
theorem wi_270_36 : ri (rt_P sc fm) 270 36 (.getfield 85) (39) := ri_of (by decide +kernel) rfl
theorem wi_270_39 : ri (rt_P sc fm) 270 39 (.aload_n 0) (40) := ri_of (by decide +kernel) rfl
theorem wi_270_40 : ri (rt_P sc fm) 270 40 (.getfield 49) (43) := ri_of (by decide +kernel) rfl
theorem wi_270_43 : ri (rt_P sc fm) 270 43 (.laload) (44) := ri_of (by decide +kernel) rfl
theorem wi_270_44 : ri (rt_P sc fm) 270 44 (.invokevirtual 272) (47) := ri_of (by decide +kernel) rfl
theorem wi_270_47 : ri (rt_P sc fm) 270 47 (.ifCond .lt 7) (50) := ri_of (by decide +kernel) rfl
theorem wi_270_5 : ri (rt_P sc fm) 270 5 (.iconst 1) (6) := ri_of (by decide +kernel) rfl
theorem wi_270_50 : ri (rt_P sc fm) 270 50 (.iconst 1) (51) := ri_of (by decide +kernel) rfl
theorem wi_270_51 : ri (rt_P sc fm) 270 51 (.goto 4) (54) := ri_of (by decide +kernel) rfl
theorem wi_270_54 : ri (rt_P sc fm) 270 54 (.iconst 0) (55) := ri_of (by decide +kernel) rfl
theorem wi_270_55 : ri (rt_P sc fm) 270 55 (.iload_n 1) (56) := ri_of (by decide +kernel) rfl
theorem wi_270_56 : ri (rt_P sc fm) 270 56 (.bipush 8) (58) := ri_of (by decide +kernel) rfl
theorem wi_270_58 : ri (rt_P sc fm) 270 58 (.if_icmp .lt 7) (61) := ri_of (by decide +kernel) rfl
theorem wi_270_6 : ri (rt_P sc fm) 270 6 (.iadd) (7) := ri_of (by decide +kernel) rfl
theorem wi_270_61 : ri (rt_P sc fm) 270 61 (.iconst 1) (62) := ri_of (by decide +kernel) rfl
theorem wi_270_62 : ri (rt_P sc fm) 270 62 (.goto 4) (65) := ri_of (by decide +kernel) rfl
theorem wi_270_65 : ri (rt_P sc fm) 270 65 (.iconst 0) (66) := ri_of (by decide +kernel) rfl
theorem wi_270_66 : ri (rt_P sc fm) 270 66 (.invokevirtual 132) (69) := ri_of (by decide +kernel) rfl
theorem wi_270_69 : ri (rt_P sc fm) 270 69 (.lstore_n 2) (70) := ri_of (by decide +kernel) rfl
theorem wi_270_7 : ri (rt_P sc fm) 270 7 (.putfield 49) (10) := ri_of (by decide +kernel) rfl
theorem wi_270_70 : ri (rt_P sc fm) 270 70 (.aload_n 0) (71) := ri_of (by decide +kernel) rfl
theorem wi_270_71 : ri (rt_P sc fm) 270 71 (.getfield 15) (74) := ri_of (by decide +kernel) rfl
theorem wi_270_74 : ri (rt_P sc fm) 270 74 (.getfield 276) (77) := ri_of (by decide +kernel) rfl
theorem wi_270_77 : ri (rt_P sc fm) 270 77 (.aload_n 0) (78) := ri_of (by decide +kernel) rfl
theorem wi_270_78 : ri (rt_P sc fm) 270 78 (.getfield 254) (81) := ri_of (by decide +kernel) rfl
theorem wi_270_81 : ri (rt_P sc fm) 270 81 (.bipush 8) (83) := ri_of (by decide +kernel) rfl
theorem wi_270_83 : ri (rt_P sc fm) 270 83 (.imul) (84) := ri_of (by decide +kernel) rfl
theorem wi_270_84 : ri (rt_P sc fm) 270 84 (.iload_n 1) (85) := ri_of (by decide +kernel) rfl
theorem wi_270_85 : ri (rt_P sc fm) 270 85 (.iadd) (86) := ri_of (by decide +kernel) rfl
theorem wi_270_86 : ri (rt_P sc fm) 270 86 (.lload_n 2) (87) := ri_of (by decide +kernel) rfl
theorem wi_270_87 : ri (rt_P sc fm) 270 87 (.lastore) (88) := ri_of (by decide +kernel) rfl
theorem wi_270_88 : ri (rt_P sc fm) 270 88 (.aload_n 0) (89) := ri_of (by decide +kernel) rfl
theorem wi_270_89 : ri (rt_P sc fm) 270 89 (.bipush 100) (91) := ri_of (by decide +kernel) rfl
theorem wi_270_91 : ri (rt_P sc fm) 270 91 (.aload_n 0) (92) := ri_of (by decide +kernel) rfl
theorem wi_270_92 : ri (rt_P sc fm) 270 92 (.getfield 254) (95) := ri_of (by decide +kernel) rfl
theorem wi_270_95 : ri (rt_P sc fm) 270 95 (.imul) (96) := ri_of (by decide +kernel) rfl
theorem wi_270_96 : ri (rt_P sc fm) 270 96 (.iconst 1) (97) := ri_of (by decide +kernel) rfl
theorem wi_270_97 : ri (rt_P sc fm) 270 97 (.iadd) (98) := ri_of (by decide +kernel) rfl
theorem wi_270_98 : ri (rt_P sc fm) 270 98 (.iload_n 1) (99) := ri_of (by decide +kernel) rfl
theorem wi_270_99 : ri (rt_P sc fm) 270 99 (.iadd) (100) := ri_of (by decide +kernel) rfl
theorem wm_253 : rx_ml (rt_P sc fm) 253 = 5 := (by decide +kernel : rt_ml 253 = 5)
theorem wp_270_49 : rx_pt (rt_P sc fm) 270 49 = some (10, 7, .int) := (by decide +kernel : rt_pt 270 49 = some (10, 7, .int))
theorem wr_270 : rx_rt (rt_P sc fm) 270 = none := (by decide +kernel : rt_rt 270 = none)
/-- MarkHouse$Reader.readField()V -/
def d_270 (n : Nat)  (c : cS) : Option ((cS) ⊕ cS) :=
  lt (pI c 145 7 ((c.1 145 7) + 1)) (fun c1 =>
  if ib (c1.1 145 8) 12 then
  lt ((c1.1 14 (ix (c1.1 145 8))) : Int32) (fun v5 =>
  if ib (c1.1 145 7) 4001 then
  Option.bind (d_253 n (c1.1 145 8) (c1.2 5 (ix (c1.1 145 7))) c1) (fun v8 =>
  jn (fun p9 : Int32 =>
    jn (fun p10 : Int32 =>
      Option.bind (d_260 n p9 p10 c1) (Sum.elim (fun r11 =>
      if ib (((r11.2.1 145 8) * 8) + v5) 96 then
      lt (pL r11.2 15 (ix (((r11.2.1 145 8) * 8) + v5)) r11.1) (fun c15 =>
      Option.bind (d_273 n (((100 * (c15.1 145 8)) + 1) + v5) 1 c15) (Sum.elim (fun r17 =>
      Option.bind (d_258 n 61 r17) (fun r19 =>
      jn (fun p20 : Int32 × cS =>
        if ib (((r17.1 145 8) * 8) + v5) 96 then
        lt (pI p20.2 16 (ix (((r17.1 145 8) * 8) + v5)) p20.1) (fun c22 =>
        Option.bind (d_257 n 59 c22) (Sum.elim (fun r24 =>
        if ib (r24.1 145 8) 12 then
        if ib (r24.1 145 8) 12 then
        lt (pI r24 14 (ix (r24.1 145 8)) ((r24.1 14 (ix (r24.1 145 8))) + 1)) (fun c28 =>
        some (.inl c28))
        else none
        else none)
        (fun z25 => some (.inr z25))))
        else none)
      (fun j139 =>
      if r19.1 = 0 then
        j139 (0, r19.2)
      else
        Option.bind (d_278 n 1 r19.2) (Sum.elim (fun r30 =>
        j139 ((r30.1 : Int64).toInt32, r30.2))
        (fun z31 => some (.inr z31))))))
      (fun z18 => some (.inr z18))))
      else none)
      (fun z12 => some (.inr z12))))
    (fun j66 =>
    if v5 < 8 then
      j66 0
    else
      j66 1))
  (fun j55 =>
  if v8 < 0 then
    j55 0
  else
    j55 1))
  else none)
  else none)
theorem sp_270 {F Lo n : Nat}  {c y : cS} {w : cW} {K : (cS) ⊕ cS → Prop} {Q : ((Option Value) ⊕ String) → List va_E → Prop} (hw : rOK fm w) (hF : 10 ≤ F) (hLo : 181 ≤ Lo)  (h : wp (d_270 n  c) K) (hQ : ∀ r, K (.inl r) → Q (.inl none) (hq true r y w)) (hT : ∀ r, K (.inr r) → Q (.inr "java/lang/IllegalArgumentException") (hq true r y w)) : rs (rt_P sc fm) 270 F Lo 0 [(0, .ref 145)] [] (hq true c y w) Q := by
  unfold d_270 at h
  obtain ⟨lv, elv⟩ : ∃ lv : rx_L, lv = [(0, .ref 145)] := ⟨_, rfl⟩
  rw [← elv]
  have l0 : rx_ld lv 0 = some (.ref 145) := by rw [elv]; rfl
  refine rs_aldn wi_270_0 l0 ?_
  refine rs_pure wi_270_1 rfl ?_
  refine dq_gi wi_270_2 wf_270_49 tf_145_7 ?_
  refine rs_pure wi_270_5 rfl ?_
  refine rs_topi (v := 1) (by decide) ?_
  refine rs_pure wi_270_6 rfl ?_
  obtain ⟨c1, e2, h⟩ := wp_lt h
  refine dq_pi wi_270_7 wp_270_49 tf_145_7 rfl rfl e2 ?_
  refine rs_aldn wi_270_10 l0 ?_
  refine dq_gr wi_270_11 wf_270_15 tf_145_1 ?_
  refine dq_gr wi_270_14 wf_270_263 tf_7_11 ?_
  refine rs_aldn wi_270_17 l0 ?_
  refine dq_gi wi_270_18 wf_270_254 tf_145_8 ?_
  obtain ⟨g3, h⟩ := wp_gd h
  refine dq_iald wi_270_21 t_14 g3 ?_
  obtain ⟨v5, e6, h⟩ := wp_lt h
  refine rs_topi e6 ?_
  refine dl_istn wi_270_22 rfl (fun lv l1 t4 => ?_)
  have l0 := t4 _ _ (by decide) (Or.inl rfl) l0
  refine rs_aldn wi_270_23 l0 ?_
  refine rs_aldn wi_270_24 l0 ?_
  refine dq_gr wi_270_25 wf_270_15 tf_145_1 ?_
  refine rs_aldn wi_270_28 l0 ?_
  refine dq_gi wi_270_29 wf_270_254 tf_145_8 ?_
  refine rs_aldn wi_270_32 l0 ?_
  refine dq_gr wi_270_33 wf_270_9 tf_145_0 ?_
  refine dq_gr wi_270_36 wf_270_85 tf_1_4 ?_
  refine rs_aldn wi_270_39 l0 ?_
  refine dq_gi wi_270_40 wf_270_49 tf_145_7 ?_
  obtain ⟨g7, h⟩ := wp_gd h
  refine dq_lald wi_270_43 t_5 g7 ?_
  refine rs_V wi_270_44 wc_270_272 rfl (dq_isa tf_7_0 wa_9_253) (Nat.le_trans (by decide) hF) (ml_le wm_253 (Nat.le_trans (by decide) hLo)) rfl (sp_253 hw (Nat.le_trans (by decide : 0 ≤ 10 - 1) (Nat.sub_le_sub_right hF 1)) (ml_sub wm_253 (Nat.le_trans (by decide : 0 ≤ 181 - 24) (Nat.sub_le_sub_right hLo 24))) (wp_bind h) (fun v8 h => rs_back1 ?_))
  refine wp_jn (B := fun p9 : Int32 => ∀ lv, rx_ld lv 0 = some (.ref 145) → rx_ld lv 1 = some (.int v5) → rs (rt_P sc fm) 270 F Lo 55 lv [.int p9, .ref 145] (hq true c1 y w) Q) h (fun p9 h lv l0 l1 => ?_) (fun j55 hj55 h => ?_)
  ·
    refine rs_ildn wi_270_55 l1 ?_
    refine rs_pure wi_270_56 rfl ?_
    refine rs_topi (v := 8) (by decide) ?_
    refine wp_jn (B := fun p10 : Int32 => ∀ lv, rx_ld lv 0 = some (.ref 145) → rx_ld lv 1 = some (.int v5) → rs (rt_P sc fm) 270 F Lo 66 lv [.int p10, .int p9, .ref 145] (hq true c1 y w) Q) h (fun p10 h lv l0 l1 => ?_) (fun j66 hj66 h => ?_)
    ·
      refine rs_V wi_270_66 wc_270_132 rfl (dq_isa tf_145_0 wa_10_260) (Nat.le_trans (by decide) hF) (ml_le wm_260 (Nat.le_trans (by decide) hLo)) rfl (sp_260 hw (Nat.le_trans (by decide : 8 ≤ 10 - 1) (Nat.sub_le_sub_right hF 1)) (ml_sub wm_260 (Nat.le_trans (by decide : 124 ≤ 181 - 24) (Nat.sub_le_sub_right hLo 24))) (wp_bind h) (fun r11 h => rs_back1 ?_) (fun z12 h => rs_up wh0_270_66 whh_270 (hT z12 (wp_inr h))))
      have h := wp_inl h
      refine dl_lstn wi_270_69 rfl (fun lv l2 t13 => ?_)
      have l0 := t13 _ _ (by decide) (by decide) (Or.inl rfl) l0
      have l1 := t13 _ _ (by decide) (by decide) (Or.inl rfl) l1
      refine rs_aldn wi_270_70 l0 ?_
      refine dq_gr wi_270_71 wf_270_15 tf_145_1 ?_
      refine dq_gr wi_270_74 wf_270_276 tf_7_12 ?_
      refine rs_aldn wi_270_77 l0 ?_
      refine dq_gi wi_270_78 wf_270_254 tf_145_8 ?_
      refine rs_pure wi_270_81 rfl ?_
      refine rs_topi (v := 8) (by decide) ?_
      refine rs_pure wi_270_83 rfl ?_
      refine rs_ildn wi_270_84 l1 ?_
      refine rs_pure wi_270_85 rfl ?_
      refine rs_lldn wi_270_86 l2 ?_
      obtain ⟨g14, h⟩ := wp_gd h
      obtain ⟨c15, e16, h⟩ := wp_lt h
      refine dq_last wi_270_87 t_15 g14 e16 ?_
      refine rs_aldn wi_270_88 l0 ?_
      refine rs_pure wi_270_89 rfl ?_
      refine rs_topi (v := 100) (by decide) ?_
      refine rs_aldn wi_270_91 l0 ?_
      refine dq_gi wi_270_92 wf_270_254 tf_145_8 ?_
      refine rs_pure wi_270_95 rfl ?_
      refine rs_pure wi_270_96 rfl ?_
      refine rs_topi (v := 1) (by decide) ?_
      refine rs_pure wi_270_97 rfl ?_
      refine rs_ildn wi_270_98 l1 ?_
      refine rs_pure wi_270_99 rfl ?_
      refine rs_pure wi_270_100 rfl ?_
      refine rs_topi (v := 1) (by decide) ?_
      refine rs_V wi_270_101 wc_270_269 rfl (dq_isa tf_145_0 wa_10_273) (Nat.le_trans (by decide) hF) (ml_le wm_273 (Nat.le_trans (by decide) hLo)) rfl (sp_273 hw (Nat.le_trans (by decide : 9 ≤ 10 - 1) (Nat.sub_le_sub_right hF 1)) (ml_sub wm_273 (Nat.le_trans (by decide : 157 ≤ 181 - 24) (Nat.sub_le_sub_right hLo 24))) (wp_bind h) (fun r17 h => rs_back0 ?_) (fun z18 h => rs_up wh0_270_101 whh_270 (hT z18 (wp_inr h))))
      have h := wp_inl h
      refine rs_aldn wi_270_104 l0 ?_
      refine dq_gr wi_270_105 wf_270_15 tf_145_1 ?_
      refine dq_gr wi_270_108 wf_270_279 tf_7_13 ?_
      refine rs_aldn wi_270_111 l0 ?_
      refine dq_gi wi_270_112 wf_270_254 tf_145_8 ?_
      refine rs_pure wi_270_115 rfl ?_
      refine rs_topi (v := 8) (by decide) ?_
      refine rs_pure wi_270_117 rfl ?_
      refine rs_ildn wi_270_118 l1 ?_
      refine rs_pure wi_270_119 rfl ?_
      refine rs_aldn wi_270_120 l0 ?_
      refine rs_pure wi_270_121 rfl ?_
      refine rs_topi (v := 61) (by decide) ?_
      refine rs_V wi_270_123 wc_270_149 rfl (dq_isa tf_145_0 wa_10_258) (Nat.le_trans (by decide) hF) (ml_le wm_258 (Nat.le_trans (by decide) hLo)) rfl (sp_258 hw (Nat.le_trans (by decide : 0 ≤ 10 - 1) (Nat.sub_le_sub_right hF 1)) (ml_sub wm_258 (Nat.le_trans (by decide : 0 ≤ 181 - 22) (Nat.sub_le_sub_right hLo 22))) (wp_bind h) (fun r19 h => rs_back1 ?_))
      refine wp_jn (B := fun p20 : Int32 × cS => ∀ lv, rx_ld lv 0 = some (.ref 145) → rs (rt_P sc fm) 270 F Lo 139 lv [.int p20.1, .int (((r17.1 145 8) * 8) + v5), .ref 16] (hq true p20.2 y w) Q) h (fun p20 h lv l0 => ?_) (fun j139 hj139 h => ?_)
      ·
        obtain ⟨g21, h⟩ := wp_gd h
        obtain ⟨c22, e23, h⟩ := wp_lt h
        refine dq_iast wi_270_139 t_16 g21 e23 ?_
        refine rs_aldn wi_270_140 l0 ?_
        refine rs_pure wi_270_141 rfl ?_
        refine rs_topi (v := 59) (by decide) ?_
        refine rs_V wi_270_143 wc_270_114 rfl (dq_isa tf_145_0 wa_10_257) (Nat.le_trans (by decide) hF) (ml_le wm_257 (Nat.le_trans (by decide) hLo)) rfl (sp_257 hw (Nat.le_trans (by decide : 7 ≤ 10 - 1) (Nat.sub_le_sub_right hF 1)) (ml_sub wm_257 (Nat.le_trans (by decide : 104 ≤ 181 - 21) (Nat.sub_le_sub_right hLo 21))) (wp_bind h) (fun r24 h => rs_back0 ?_) (fun z25 h => rs_up wh0_270_143 whh_270 (hT z25 (wp_inr h))))
        have h := wp_inl h
        refine rs_aldn wi_270_146 l0 ?_
        refine dq_gr wi_270_147 wf_270_15 tf_145_1 ?_
        refine dq_gr wi_270_150 wf_270_263 tf_7_11 ?_
        refine rs_aldn wi_270_153 l0 ?_
        refine dq_gi wi_270_154 wf_270_254 tf_145_8 ?_
        refine rs_pure wi_270_157 rfl ?_
        obtain ⟨g26, h⟩ := wp_gd h
        refine dq_iald wi_270_158 t_14 g26 ?_
        refine rs_pure wi_270_159 rfl ?_
        refine rs_topi (v := 1) (by decide) ?_
        refine rs_pure wi_270_160 rfl ?_
        obtain ⟨g27, h⟩ := wp_gd h
        obtain ⟨c28, e29, h⟩ := wp_lt h
        refine dq_iast wi_270_161 t_14 g27 e29 ?_
        exact rs_vret wi_270_162 wr_270 (hQ c28 h)
      refine rs_ifeq (tg := 138) wi_270_126 ⟨by decide, by decide⟩ (fun q => ?_) (fun q => ?_)
      ·
        have h := wp_pos h q
        refine rs_pure wi_270_138 rfl ?_
        refine rs_topi (v := 0) (by decide) ?_
        exact hj139 _ h _ l0
      ·
        have h := wp_neg h q
        refine rs_aldn wi_270_129 l0 ?_
        refine rs_pure wi_270_130 rfl ?_
        refine rs_topi (v := 1) (by decide) ?_
        refine rs_V wi_270_131 wc_270_207 rfl (dq_isa tf_145_0 wa_10_278) (Nat.le_trans (by decide) hF) (ml_le wm_278 (Nat.le_trans (by decide) hLo)) rfl (sp_278 hw (Nat.le_trans (by decide : 7 ≤ 10 - 1) (Nat.sub_le_sub_right hF 1)) (ml_sub wm_278 (Nat.le_trans (by decide : 104 ≤ 181 - 25) (Nat.sub_le_sub_right hLo 25))) (wp_bind h) (fun r30 h => rs_back1 ?_) (fun z31 h => rs_up wh0_270_131 whh_270 (hT z31 (wp_inr h))))
        have h := wp_inl h
        refine rs_pure wi_270_134 rfl ?_
        refine rs_goto (tg := 139) wi_270_135 ⟨by decide, by decide⟩ ?_
        exact hj139 _ h _ l0
    refine rs_iclt (tg := 65) wi_270_58 ⟨by decide, by decide⟩ (fun q => ?_) (fun q => ?_)
    ·
      have h := wp_pos h q
      refine rs_pure wi_270_65 rfl ?_
      refine rs_topi (v := 0) (by decide) ?_
      exact hj66 _ h _ l0 l1
    ·
      have h := wp_neg h q
      refine rs_pure wi_270_61 rfl ?_
      refine rs_topi (v := 1) (by decide) ?_
      refine rs_goto (tg := 66) wi_270_62 ⟨by decide, by decide⟩ ?_
      exact hj66 _ h _ l0 l1
  refine rs_iflt (tg := 54) wi_270_47 ⟨by decide, by decide⟩ (fun q => ?_) (fun q => ?_)
  ·
    have h := wp_pos h q
    refine rs_pure wi_270_54 rfl ?_
    refine rs_topi (v := 0) (by decide) ?_
    exact hj55 _ h _ l0 l1
  ·
    have h := wp_neg h q
    refine rs_pure wi_270_50 rfl ?_
    refine rs_topi (v := 1) (by decide) ?_
    refine rs_goto (tg := 55) wi_270_51 ⟨by decide, by decide⟩ ?_
    exact hj55 _ h _ l0 l1
theorem t_115 : ta true 115 1 96 := ⟨rfl, by decide, by decide⟩
theorem tf_114_1 : fo true 114 2 1 (.ref 115) := ⟨_, rfl, rfl, by decide, by decide⟩
theorem wf_159_67 : rx_ft (rt_P sc fm) 159 67 = some (2, 0) := (by decide +kernel : rt_ft 159 67 = some (2, 0))
theorem wf_159_9 : rx_ft (rt_P sc fm) 159 9 = some (2, 1) := (by decide +kernel : rt_ft 159 9 = some (2, 1))
theorem wf_159_93 : rx_ft (rt_P sc fm) 159 93 = some (9, 14) := (by decide +kernel : rt_ft 159 93 = some (9, 14))
theorem wi_159_0 : ri (rt_P sc fm) 159 0 (.iconst 0) (1) := ri_of (by decide +kernel) rfl
theorem wi_159_1 : ri (rt_P sc fm) 159 1 (.istore 4) (3) := ri_of (by decide +kernel) rfl
theorem wi_159_12 : ri (rt_P sc fm) 159 12 (.iload_n 1) (13) := ri_of (by decide +kernel) rfl
theorem wi_159_13 : ri (rt_P sc fm) 159 13 (.iaload) (14) := ri_of (by decide +kernel) rfl
theorem wi_159_14 : ri (rt_P sc fm) 159 14 (.if_icmp .ge 34) (17) := ri_of (by decide +kernel) rfl
theorem wi_159_17 : ri (rt_P sc fm) 159 17 (.aload_n 0) (18) := ri_of (by decide +kernel) rfl
theorem wi_159_18 : ri (rt_P sc fm) 159 18 (.getfield 9) (21) := ri_of (by decide +kernel) rfl
theorem wi_159_21 : ri (rt_P sc fm) 159 21 (.iload_n 1) (22) := ri_of (by decide +kernel) rfl
theorem wi_159_22 : ri (rt_P sc fm) 159 22 (.bipush 8) (24) := ri_of (by decide +kernel) rfl
theorem wi_159_24 : ri (rt_P sc fm) 159 24 (.imul) (25) := ri_of (by decide +kernel) rfl
theorem wi_159_25 : ri (rt_P sc fm) 159 25 (.iload 4) (27) := ri_of (by decide +kernel) rfl
theorem wi_159_27 : ri (rt_P sc fm) 159 27 (.iadd) (28) := ri_of (by decide +kernel) rfl
theorem wi_159_28 : ri (rt_P sc fm) 159 28 (.laload) (29) := ri_of (by decide +kernel) rfl
theorem wi_159_29 : ri (rt_P sc fm) 159 29 (.lload_n 2) (30) := ri_of (by decide +kernel) rfl
theorem wi_159_3 : ri (rt_P sc fm) 159 3 (.iload 4) (5) := ri_of (by decide +kernel) rfl
theorem wi_159_30 : ri (rt_P sc fm) 159 30 (.lcmp) (31) := ri_of (by decide +kernel) rfl
theorem wi_159_31 : ri (rt_P sc fm) 159 31 (.ifCond .ne 11) (34) := ri_of (by decide +kernel) rfl
theorem wi_159_34 : ri (rt_P sc fm) 159 34 (.iload_n 1) (35) := ri_of (by decide +kernel) rfl
theorem wi_159_35 : ri (rt_P sc fm) 159 35 (.bipush 8) (37) := ri_of (by decide +kernel) rfl
theorem wi_159_37 : ri (rt_P sc fm) 159 37 (.imul) (38) := ri_of (by decide +kernel) rfl
theorem wi_159_38 : ri (rt_P sc fm) 159 38 (.iload 4) (40) := ri_of (by decide +kernel) rfl
theorem wi_159_40 : ri (rt_P sc fm) 159 40 (.iadd) (41) := ri_of (by decide +kernel) rfl
theorem wi_159_41 : ri (rt_P sc fm) 159 41 (.ireturn) (42) := ri_of (by decide +kernel) rfl
theorem wi_159_42 : ri (rt_P sc fm) 159 42 (.iinc 4 1) (45) := ri_of (by decide +kernel) rfl
theorem wi_159_45 : ri (rt_P sc fm) 159 45 (.goto (-42)) (48) := ri_of (by decide +kernel) rfl
theorem wi_159_48 : ri (rt_P sc fm) 159 48 (.iconst (-1)) (49) := ri_of (by decide +kernel) rfl
theorem wi_159_49 : ri (rt_P sc fm) 159 49 (.ireturn) (50) := ri_of (by decide +kernel) rfl
theorem wi_159_5 : ri (rt_P sc fm) 159 5 (.aload_n 0) (6) := ri_of (by decide +kernel) rfl
theorem wi_159_6 : ri (rt_P sc fm) 159 6 (.getfield 67) (9) := ri_of (by decide +kernel) rfl
theorem wi_159_9 : ri (rt_P sc fm) 159 9 (.getfield 93) (12) := ri_of (by decide +kernel) rfl
theorem wr_159 : rx_rt (rt_P sc fm) 159 = (some FieldType.int) := (by decide +kernel : rt_rt 159 = (some FieldType.int))
/-- MarkHouse$Code.methodOf(IJ)I -/
def d_159 (n : Nat) (a1 : Int32) (a2 : Int64) (c : cS) : Option (Int32) :=
  Option.bind (whl (R := (Unit) ⊕ (Int32)) (fun s2 : Int32 =>
    if ib a1 12 then
    if (c.1 17 (ix a1)) ≤ s2 then
      some (.inr (.inl ()))
    else
      if ib ((a1 * 8) + s2) 96 then
      if (lg_cmp (c.2 115 (ix ((a1 * 8) + s2))) a2) = 0 then
        some (.inr (.inr s2))
      else
        lt (s2 + 1 : Int32) (fun v6 =>
        some (.inl v6))
      else none
    else none) n 0)
  (Sum.elim (fun x8 : Unit =>
    some (-1))
  (fun x9 : Int32 =>
    some ((a1 * 8) + x9)))
theorem sp_159 {F Lo n : Nat} {a1 : Int32} {a2 : Int64} {c y : cS} {w : cW} {K : Int32 → Prop} {Q : ((Option Value) ⊕ String) → List va_E → Prop} (hw : rOK fm w) (hF : 0 ≤ F) (hLo : 0 ≤ Lo)  (h : wp (d_159 n a1 a2 c) K) (hQ : ∀ r, K r → Q (.inl (some (.int r))) (hq true c y w)) : rs (rt_P sc fm) 159 F Lo 0 [(0, .ref 114), (1, .int a1), (2, .long a2)] [] (hq true c y w) Q := by
  unfold d_159 at h
  obtain ⟨lv, elv⟩ : ∃ lv : rx_L, lv = [(0, .ref 114), (1, .int a1), (2, .long a2)] := ⟨_, rfl⟩
  rw [← elv]
  have l0 : rx_ld lv 0 = some (.ref 114) := by rw [elv]; rfl
  have l1 : rx_ld lv 1 = some (.int a1) := by rw [elv]; rfl
  have l2 : rx_ld lv 2 = some (.long a2) := by rw [elv]; rfl
  refine rs_pure wi_159_0 rfl ?_
  refine rs_topi (v := 0) (by decide) ?_
  refine dl_ist wi_159_1 rfl (fun lv l4 t1 => ?_)
  have l0 := t1 _ _ (by decide) (Or.inl rfl) l0
  have l1 := t1 _ _ (by decide) (Or.inl rfl) l1
  have l2 := t1 _ _ (by decide) (Or.inr (by decide)) l2
  refine whl_ex (A := fun s2 : Int32 => ∀ lv, rx_ld lv 0 = some (.ref 114) → rx_ld lv 1 = some (.int a1) → rx_ld lv 2 = some (.long a2) → rx_ld lv 4 = some (.int s2) → rs (rt_P sc fm) 159 F Lo 3 lv [] (hq true c y w) Q) (B := (Sum.elim (fun x8 : Unit => ∀ lv, rs (rt_P sc fm) 159 F Lo 48 lv [] (hq true c y w) Q) (fun x9 : Int32 => ∀ lv, rx_ld lv 1 = some (.int a1) → rx_ld lv 4 = some (.int x9) → rs (rt_P sc fm) 159 F Lo 34 lv [] (hq true c y w) Q))) ?_ ?_ _ _ (wp_bind h) _ l0 l1 l2 l4
  · intro s2 h lv l0 l1 l2 l4
    refine rs_ild wi_159_3 l4 ?_
    refine rs_aldn wi_159_5 l0 ?_
    refine dq_gr wi_159_6 wf_159_67 tf_114_0 ?_
    refine dq_gr wi_159_9 wf_159_93 tf_7_14 ?_
    refine rs_ildn wi_159_12 l1 ?_
    obtain ⟨g3, h⟩ := wp_gd h
    refine dq_iald wi_159_13 t_17 g3 ?_
    refine rs_icge (tg := 48) wi_159_14 ⟨by decide, by decide⟩ (fun q => ?_) (fun q => ?_)
    ·
      have h := wp_pos h q
      exact h _
    ·
      have h := wp_neg h q
      refine rs_aldn wi_159_17 l0 ?_
      refine dq_gr wi_159_18 wf_159_9 tf_114_1 ?_
      refine rs_ildn wi_159_21 l1 ?_
      refine rs_pure wi_159_22 rfl ?_
      refine rs_topi (v := 8) (by decide) ?_
      refine rs_pure wi_159_24 rfl ?_
      refine rs_ild wi_159_25 l4 ?_
      refine rs_pure wi_159_27 rfl ?_
      obtain ⟨g4, h⟩ := wp_gd h
      refine dq_lald wi_159_28 t_115 g4 ?_
      refine rs_lldn wi_159_29 l2 ?_
      refine rs_pure wi_159_30 rfl ?_
      refine rs_ifne (tg := 42) wi_159_31 ⟨by decide, by decide⟩ (fun q => ?_) (fun q => ?_)
      ·
        have h := wp_neg h q
        obtain ⟨v6, e7, h⟩ := wp_lt h
        refine dl_inc wi_159_42 l4 rfl e7 (fun lv l4 t5 => ?_)
        have l0 := t5 _ _ (by decide) (Or.inl rfl) l0
        have l1 := t5 _ _ (by decide) (Or.inl rfl) l1
        have l2 := t5 _ _ (by decide) (Or.inr (by decide)) l2
        refine rs_goto (tg := 3) wi_159_45 ⟨by decide, by decide⟩ ?_
        exact h _ l0 l1 l2 l4
      ·
        have h := wp_pos h q
        exact h _ l1 l4
  ·
    refine sum_all ?_ ?_
    ·
      intro x8 h lv
      have h := wp_inl h
      refine rs_pure wi_159_48 rfl ?_
      refine rs_topi (v := (-1)) (by decide) ?_
      exact rs_iret wi_159_49 wr_159 rfl (hQ (-1) h)
    ·
      intro x9 h lv l1 l4
      have h := wp_inr h
      refine rs_ildn wi_159_34 l1 ?_
      refine rs_pure wi_159_35 rfl ?_
      refine rs_topi (v := 8) (by decide) ?_
      refine rs_pure wi_159_37 rfl ?_
      refine rs_ild wi_159_38 l4 ?_
      refine rs_pure wi_159_40 rfl ?_
      exact rs_iret wi_159_41 wr_159 rfl (hQ ((a1 * 8) + x9) h)
theorem t_117 : ta true 117 0 96 := ⟨rfl, by decide, by decide⟩
theorem t_118 : ta true 118 1 768 := ⟨rfl, by decide, by decide⟩
theorem tf_114_3 : fo true 114 2 3 (.ref 117) := ⟨_, rfl, rfl, by decide, by decide⟩
theorem tf_114_4 : fo true 114 2 4 (.ref 118) := ⟨_, rfl, rfl, by decide, by decide⟩
theorem wf_161_19 : rx_ft (rt_P sc fm) 161 19 = some (2, 3) := (by decide +kernel : rt_ft 161 19 = some (2, 3))
theorem wf_161_22 : rx_ft (rt_P sc fm) 161 22 = some (2, 4) := (by decide +kernel : rt_ft 161 22 = some (2, 4))
theorem wi_161_0 : ri (rt_P sc fm) 161 0 (.iconst 0) (1) := ri_of (by decide +kernel) rfl
theorem wi_161_1 : ri (rt_P sc fm) 161 1 (.istore 4) (3) := ri_of (by decide +kernel) rfl
theorem wi_161_10 : ri (rt_P sc fm) 161 10 (.iaload) (11) := ri_of (by decide +kernel) rfl
theorem wi_161_11 : ri (rt_P sc fm) 161 11 (.if_icmp .ge 29) (14) := ri_of (by decide +kernel) rfl
theorem wi_161_14 : ri (rt_P sc fm) 161 14 (.aload_n 0) (15) := ri_of (by decide +kernel) rfl
theorem wi_161_15 : ri (rt_P sc fm) 161 15 (.getfield 22) (18) := ri_of (by decide +kernel) rfl
theorem wi_161_18 : ri (rt_P sc fm) 161 18 (.iload_n 1) (19) := ri_of (by decide +kernel) rfl
theorem wi_161_19 : ri (rt_P sc fm) 161 19 (.bipush 8) (21) := ri_of (by decide +kernel) rfl
theorem wi_161_21 : ri (rt_P sc fm) 161 21 (.imul) (22) := ri_of (by decide +kernel) rfl
theorem wi_161_22 : ri (rt_P sc fm) 161 22 (.iload 4) (24) := ri_of (by decide +kernel) rfl
theorem wi_161_24 : ri (rt_P sc fm) 161 24 (.iadd) (25) := ri_of (by decide +kernel) rfl
theorem wi_161_25 : ri (rt_P sc fm) 161 25 (.laload) (26) := ri_of (by decide +kernel) rfl
theorem wi_161_26 : ri (rt_P sc fm) 161 26 (.lload_n 2) (27) := ri_of (by decide +kernel) rfl
theorem wi_161_27 : ri (rt_P sc fm) 161 27 (.lcmp) (28) := ri_of (by decide +kernel) rfl
theorem wi_161_28 : ri (rt_P sc fm) 161 28 (.ifCond .ne 6) (31) := ri_of (by decide +kernel) rfl
theorem wi_161_3 : ri (rt_P sc fm) 161 3 (.iload 4) (5) := ri_of (by decide +kernel) rfl
theorem wi_161_31 : ri (rt_P sc fm) 161 31 (.iload 4) (33) := ri_of (by decide +kernel) rfl
theorem wi_161_33 : ri (rt_P sc fm) 161 33 (.ireturn) (34) := ri_of (by decide +kernel) rfl
theorem wi_161_34 : ri (rt_P sc fm) 161 34 (.iinc 4 1) (37) := ri_of (by decide +kernel) rfl
theorem wi_161_37 : ri (rt_P sc fm) 161 37 (.goto (-34)) (40) := ri_of (by decide +kernel) rfl
theorem wi_161_40 : ri (rt_P sc fm) 161 40 (.iconst (-1)) (41) := ri_of (by decide +kernel) rfl
theorem wi_161_41 : ri (rt_P sc fm) 161 41 (.ireturn) (42) := ri_of (by decide +kernel) rfl
theorem wi_161_5 : ri (rt_P sc fm) 161 5 (.aload_n 0) (6) := ri_of (by decide +kernel) rfl
theorem wi_161_6 : ri (rt_P sc fm) 161 6 (.getfield 19) (9) := ri_of (by decide +kernel) rfl
theorem wi_161_9 : ri (rt_P sc fm) 161 9 (.iload_n 1) (10) := ri_of (by decide +kernel) rfl
theorem wr_161 : rx_rt (rt_P sc fm) 161 = (some FieldType.int) := (by decide +kernel : rt_rt 161 = (some FieldType.int))
/-- MarkHouse$Code.localOf(IJ)I -/
def d_161 (n : Nat) (a1 : Int32) (a2 : Int64) (c : cS) : Option (Int32) :=
  Option.bind (whl (R := (Unit) ⊕ (Int32)) (fun s2 : Int32 =>
    if ib a1 96 then
    if (c.1 117 (ix a1)) ≤ s2 then
      some (.inr (.inl ()))
    else
      if ib ((a1 * 8) + s2) 768 then
      if (lg_cmp (c.2 118 (ix ((a1 * 8) + s2))) a2) = 0 then
        some (.inr (.inr s2))
      else
        lt (s2 + 1 : Int32) (fun v6 =>
        some (.inl v6))
      else none
    else none) n 0)
  (Sum.elim (fun x8 : Unit =>
    some (-1))
  (fun x9 : Int32 =>
    some x9))
theorem sp_161 {F Lo n : Nat} {a1 : Int32} {a2 : Int64} {c y : cS} {w : cW} {K : Int32 → Prop} {Q : ((Option Value) ⊕ String) → List va_E → Prop} (hw : rOK fm w) (hF : 0 ≤ F) (hLo : 0 ≤ Lo)  (h : wp (d_161 n a1 a2 c) K) (hQ : ∀ r, K r → Q (.inl (some (.int r))) (hq true c y w)) : rs (rt_P sc fm) 161 F Lo 0 [(0, .ref 114), (1, .int a1), (2, .long a2)] [] (hq true c y w) Q := by
  unfold d_161 at h
  obtain ⟨lv, elv⟩ : ∃ lv : rx_L, lv = [(0, .ref 114), (1, .int a1), (2, .long a2)] := ⟨_, rfl⟩
  rw [← elv]
  have l0 : rx_ld lv 0 = some (.ref 114) := by rw [elv]; rfl
  have l1 : rx_ld lv 1 = some (.int a1) := by rw [elv]; rfl
  have l2 : rx_ld lv 2 = some (.long a2) := by rw [elv]; rfl
  refine rs_pure wi_161_0 rfl ?_
  refine rs_topi (v := 0) (by decide) ?_
  refine dl_ist wi_161_1 rfl (fun lv l4 t1 => ?_)
  have l0 := t1 _ _ (by decide) (Or.inl rfl) l0
  have l1 := t1 _ _ (by decide) (Or.inl rfl) l1
  have l2 := t1 _ _ (by decide) (Or.inr (by decide)) l2
  refine whl_ex (A := fun s2 : Int32 => ∀ lv, rx_ld lv 0 = some (.ref 114) → rx_ld lv 1 = some (.int a1) → rx_ld lv 2 = some (.long a2) → rx_ld lv 4 = some (.int s2) → rs (rt_P sc fm) 161 F Lo 3 lv [] (hq true c y w) Q) (B := (Sum.elim (fun x8 : Unit => ∀ lv, rs (rt_P sc fm) 161 F Lo 40 lv [] (hq true c y w) Q) (fun x9 : Int32 => ∀ lv, rx_ld lv 4 = some (.int x9) → rs (rt_P sc fm) 161 F Lo 31 lv [] (hq true c y w) Q))) ?_ ?_ _ _ (wp_bind h) _ l0 l1 l2 l4
  · intro s2 h lv l0 l1 l2 l4
    refine rs_ild wi_161_3 l4 ?_
    refine rs_aldn wi_161_5 l0 ?_
    refine dq_gr wi_161_6 wf_161_19 tf_114_3 ?_
    refine rs_ildn wi_161_9 l1 ?_
    obtain ⟨g3, h⟩ := wp_gd h
    refine dq_iald wi_161_10 t_117 g3 ?_
    refine rs_icge (tg := 40) wi_161_11 ⟨by decide, by decide⟩ (fun q => ?_) (fun q => ?_)
    ·
      have h := wp_pos h q
      exact h _
    ·
      have h := wp_neg h q
      refine rs_aldn wi_161_14 l0 ?_
      refine dq_gr wi_161_15 wf_161_22 tf_114_4 ?_
      refine rs_ildn wi_161_18 l1 ?_
      refine rs_pure wi_161_19 rfl ?_
      refine rs_topi (v := 8) (by decide) ?_
      refine rs_pure wi_161_21 rfl ?_
      refine rs_ild wi_161_22 l4 ?_
      refine rs_pure wi_161_24 rfl ?_
      obtain ⟨g4, h⟩ := wp_gd h
      refine dq_lald wi_161_25 t_118 g4 ?_
      refine rs_lldn wi_161_26 l2 ?_
      refine rs_pure wi_161_27 rfl ?_
      refine rs_ifne (tg := 34) wi_161_28 ⟨by decide, by decide⟩ (fun q => ?_) (fun q => ?_)
      ·
        have h := wp_neg h q
        obtain ⟨v6, e7, h⟩ := wp_lt h
        refine dl_inc wi_161_34 l4 rfl e7 (fun lv l4 t5 => ?_)
        have l0 := t5 _ _ (by decide) (Or.inl rfl) l0
        have l1 := t5 _ _ (by decide) (Or.inl rfl) l1
        have l2 := t5 _ _ (by decide) (Or.inr (by decide)) l2
        refine rs_goto (tg := 3) wi_161_37 ⟨by decide, by decide⟩ ?_
        exact h _ l0 l1 l2 l4
      ·
        have h := wp_pos h q
        exact h _ l4
  ·
    refine sum_all ?_ ?_
    ·
      intro x8 h lv
      have h := wp_inl h
      refine rs_pure wi_161_40 rfl ?_
      refine rs_topi (v := (-1)) (by decide) ?_
      exact rs_iret wi_161_41 wr_161 rfl (hQ (-1) h)
    ·
      intro x9 h lv l4
      have h := wp_inr h
      refine rs_ild wi_161_31 l4 ?_
      exact rs_iret wi_161_33 wr_161 rfl (hQ x9 h)
theorem wf_162_19 : rx_ft (rt_P sc fm) 162 19 = some (2, 3) := (by decide +kernel : rt_ft 162 19 = some (2, 3))
theorem wf_162_22 : rx_ft (rt_P sc fm) 162 22 = some (2, 4) := (by decide +kernel : rt_ft 162 22 = some (2, 4))
theorem wi_162_0 : ri (rt_P sc fm) 162 0 (.aload_n 0) (1) := ri_of (by decide +kernel) rfl
theorem wi_162_1 : ri (rt_P sc fm) 162 1 (.getfield 22) (4) := ri_of (by decide +kernel) rfl
theorem wi_162_12 : ri (rt_P sc fm) 162 12 (.iload_n 1) (13) := ri_of (by decide +kernel) rfl
theorem wi_162_13 : ri (rt_P sc fm) 162 13 (.iaload) (14) := ri_of (by decide +kernel) rfl
theorem wi_162_14 : ri (rt_P sc fm) 162 14 (.iadd) (15) := ri_of (by decide +kernel) rfl
theorem wi_162_15 : ri (rt_P sc fm) 162 15 (.lload_n 2) (16) := ri_of (by decide +kernel) rfl
theorem wi_162_16 : ri (rt_P sc fm) 162 16 (.lastore) (17) := ri_of (by decide +kernel) rfl
theorem wi_162_17 : ri (rt_P sc fm) 162 17 (.aload_n 0) (18) := ri_of (by decide +kernel) rfl
theorem wi_162_18 : ri (rt_P sc fm) 162 18 (.getfield 19) (21) := ri_of (by decide +kernel) rfl
theorem wi_162_21 : ri (rt_P sc fm) 162 21 (.iload_n 1) (22) := ri_of (by decide +kernel) rfl
theorem wi_162_22 : ri (rt_P sc fm) 162 22 (.dup2) (23) := ri_of (by decide +kernel) rfl
theorem wi_162_23 : ri (rt_P sc fm) 162 23 (.iaload) (24) := ri_of (by decide +kernel) rfl
theorem wi_162_24 : ri (rt_P sc fm) 162 24 (.dup_x2) (25) := ri_of (by decide +kernel) rfl
theorem wi_162_25 : ri (rt_P sc fm) 162 25 (.iconst 1) (26) := ri_of (by decide +kernel) rfl
theorem wi_162_26 : ri (rt_P sc fm) 162 26 (.iadd) (27) := ri_of (by decide +kernel) rfl
theorem wi_162_27 : ri (rt_P sc fm) 162 27 (.iastore) (28) := ri_of (by decide +kernel) rfl
theorem wi_162_28 : ri (rt_P sc fm) 162 28 (.ireturn) (29) := ri_of (by decide +kernel) rfl
theorem wi_162_4 : ri (rt_P sc fm) 162 4 (.iload_n 1) (5) := ri_of (by decide +kernel) rfl
theorem wi_162_5 : ri (rt_P sc fm) 162 5 (.bipush 8) (7) := ri_of (by decide +kernel) rfl
theorem wi_162_7 : ri (rt_P sc fm) 162 7 (.imul) (8) := ri_of (by decide +kernel) rfl
theorem wi_162_8 : ri (rt_P sc fm) 162 8 (.aload_n 0) (9) := ri_of (by decide +kernel) rfl
theorem wi_162_9 : ri (rt_P sc fm) 162 9 (.getfield 19) (12) := ri_of (by decide +kernel) rfl
theorem wr_162 : rx_rt (rt_P sc fm) 162 = (some FieldType.int) := (by decide +kernel : rt_rt 162 = (some FieldType.int))
/-- MarkHouse$Code.addLocal(IJ)I -/
def d_162 (n : Nat) (a1 : Int32) (a2 : Int64) (c : cS) : Option (Int32 × cS) :=
  if ib a1 96 then
  if ib ((a1 * 8) + (c.1 117 (ix a1))) 768 then
  lt (pL c 118 (ix ((a1 * 8) + (c.1 117 (ix a1)))) a2) (fun c3 =>
  if ib a1 96 then
  if ib a1 96 then
  lt (pI c3 117 (ix a1) ((c3.1 117 (ix a1)) + 1)) (fun c7 =>
  some ((c3.1 117 (ix a1)), c7))
  else none
  else none)
  else none
  else none
theorem sp_162 {F Lo n : Nat} {a1 : Int32} {a2 : Int64} {c y : cS} {w : cW} {K : Int32 × cS → Prop} {Q : ((Option Value) ⊕ String) → List va_E → Prop} (hw : rOK fm w) (hF : 0 ≤ F) (hLo : 0 ≤ Lo)  (h : wp (d_162 n a1 a2 c) K) (hQ : ∀ r, K r → Q (.inl (some (.int r.1))) (hq true r.2 y w)) : rs (rt_P sc fm) 162 F Lo 0 [(0, .ref 114), (1, .int a1), (2, .long a2)] [] (hq true c y w) Q := by
  unfold d_162 at h
  obtain ⟨lv, elv⟩ : ∃ lv : rx_L, lv = [(0, .ref 114), (1, .int a1), (2, .long a2)] := ⟨_, rfl⟩
  rw [← elv]
  have l0 : rx_ld lv 0 = some (.ref 114) := by rw [elv]; rfl
  have l1 : rx_ld lv 1 = some (.int a1) := by rw [elv]; rfl
  have l2 : rx_ld lv 2 = some (.long a2) := by rw [elv]; rfl
  refine rs_aldn wi_162_0 l0 ?_
  refine dq_gr wi_162_1 wf_162_22 tf_114_4 ?_
  refine rs_ildn wi_162_4 l1 ?_
  refine rs_pure wi_162_5 rfl ?_
  refine rs_topi (v := 8) (by decide) ?_
  refine rs_pure wi_162_7 rfl ?_
  refine rs_aldn wi_162_8 l0 ?_
  refine dq_gr wi_162_9 wf_162_19 tf_114_3 ?_
  refine rs_ildn wi_162_12 l1 ?_
  obtain ⟨g1, h⟩ := wp_gd h
  refine dq_iald wi_162_13 t_117 g1 ?_
  refine rs_pure wi_162_14 rfl ?_
  refine rs_lldn wi_162_15 l2 ?_
  obtain ⟨g2, h⟩ := wp_gd h
  obtain ⟨c3, e4, h⟩ := wp_lt h
  refine dq_last wi_162_16 t_118 g2 e4 ?_
  refine rs_aldn wi_162_17 l0 ?_
  refine dq_gr wi_162_18 wf_162_19 tf_114_3 ?_
  refine rs_ildn wi_162_21 l1 ?_
  refine rs_pure wi_162_22 rfl ?_
  obtain ⟨g5, h⟩ := wp_gd h
  refine dq_iald wi_162_23 t_117 g5 ?_
  refine rs_pure wi_162_24 rfl ?_
  refine rs_pure wi_162_25 rfl ?_
  refine rs_topi (v := 1) (by decide) ?_
  refine rs_pure wi_162_26 rfl ?_
  obtain ⟨g6, h⟩ := wp_gd h
  obtain ⟨c7, e8, h⟩ := wp_lt h
  refine dq_iast wi_162_27 t_117 g6 e8 ?_
  exact rs_iret wi_162_28 wr_162 rfl (hQ ((c3.1 117 (ix a1)), c7) h)
theorem wi_156_0 : ri (rt_P sc fm) 156 0 (.iload_n 1) (1) := ri_of (by decide +kernel) rfl
theorem wi_156_1 : ri (rt_P sc fm) 156 1 (.bipush 8) (3) := ri_of (by decide +kernel) rfl
theorem wi_156_10 : ri (rt_P sc fm) 156 10 (.iload_n 1) (11) := ri_of (by decide +kernel) rfl
theorem wi_156_11 : ri (rt_P sc fm) 156 11 (.bipush 8) (13) := ri_of (by decide +kernel) rfl
theorem wi_156_13 : ri (rt_P sc fm) 156 13 (.irem) (14) := ri_of (by decide +kernel) rfl
theorem wi_156_14 : ri (rt_P sc fm) 156 14 (.bipush 10) (16) := ri_of (by decide +kernel) rfl
theorem wi_156_16 : ri (rt_P sc fm) 156 16 (.imul) (17) := ri_of (by decide +kernel) rfl
theorem wi_156_17 : ri (rt_P sc fm) 156 17 (.iadd) (18) := ri_of (by decide +kernel) rfl
theorem wi_156_18 : ri (rt_P sc fm) 156 18 (.ireturn) (19) := ri_of (by decide +kernel) rfl
theorem wi_156_3 : ri (rt_P sc fm) 156 3 (.idiv) (4) := ri_of (by decide +kernel) rfl
theorem wi_156_4 : ri (rt_P sc fm) 156 4 (.bipush 100) (6) := ri_of (by decide +kernel) rfl
theorem wi_156_6 : ri (rt_P sc fm) 156 6 (.imul) (7) := ri_of (by decide +kernel) rfl
theorem wi_156_7 : ri (rt_P sc fm) 156 7 (.bipush 20) (9) := ri_of (by decide +kernel) rfl
theorem wi_156_9 : ri (rt_P sc fm) 156 9 (.iadd) (10) := ri_of (by decide +kernel) rfl
theorem wr_156 : rx_rt (rt_P sc fm) 156 = (some FieldType.int) := (by decide +kernel : rt_rt 156 = (some FieldType.int))
/-- MarkHouse$Code.placeOf(I)I -/
def d_156 (n : Nat) (a1 : Int32) : Option (Int32) :=
  some ((((a1 / 8) * 100) + 20) + ((a1 - a1 / 8 * 8) * 10))
theorem sp_156 {F Lo n : Nat} {a1 : Int32} {L : List va_E} {K : Int32 → Prop} {Q : ((Option Value) ⊕ String) → List va_E → Prop} (hF : 0 ≤ F) (hLo : 0 ≤ Lo)  (h : wp (d_156 n a1) K) (hQ : ∀ r, K r → Q (.inl (some (.int r))) L) : rs (rt_P sc fm) 156 F Lo 0 [(0, .ref 114), (1, .int a1)] [] L Q := by
  unfold d_156 at h
  obtain ⟨lv, elv⟩ : ∃ lv : rx_L, lv = [(0, .ref 114), (1, .int a1)] := ⟨_, rfl⟩
  rw [← elv]
  have l1 : rx_ld lv 1 = some (.int a1) := by rw [elv]; rfl
  refine rs_ildn wi_156_0 l1 ?_
  refine rs_pure wi_156_1 rfl ?_
  refine rs_topi (v := 8) (by decide) ?_
  refine dl_idiv wi_156_3 (by decide) ?_
  refine rs_pure wi_156_4 rfl ?_
  refine rs_topi (v := 100) (by decide) ?_
  refine rs_pure wi_156_6 rfl ?_
  refine rs_pure wi_156_7 rfl ?_
  refine rs_topi (v := 20) (by decide) ?_
  refine rs_pure wi_156_9 rfl ?_
  refine rs_ildn wi_156_10 l1 ?_
  refine rs_pure wi_156_11 rfl ?_
  refine rs_topi (v := 8) (by decide) ?_
  refine dl_irem wi_156_13 (by decide) ?_
  refine rs_pure wi_156_14 rfl ?_
  refine rs_topi (v := 10) (by decide) ?_
  refine rs_pure wi_156_16 rfl ?_
  refine rs_pure wi_156_17 rfl ?_
  exact rs_iret wi_156_18 wr_156 rfl (hQ ((((a1 / 8) * 100) + 20) + ((a1 - a1 / 8 * 8) * 10)) h)
theorem t_119 : ta true 119 0 96 := ⟨rfl, by decide, by decide⟩
theorem t_120 : ta true 120 0 96 := ⟨rfl, by decide, by decide⟩
theorem tf_114_5 : fo true 114 2 5 (.ref 119) := ⟨_, rfl, rfl, by decide, by decide⟩
theorem tf_114_6 : fo true 114 2 6 (.ref 120) := ⟨_, rfl, rfl, by decide, by decide⟩
theorem tf_145_9 : fo true 145 10 9 (.int 0) := ⟨_, rfl, rfl, by decide, by decide⟩
theorem wa_2_156 : rz_cn 2 (rx_yn (rt_P sc fm) 156).cls = true := (by decide +kernel : rz_cn 2 (rt_yn 156).cls = true)
theorem wa_2_159 : rz_cn 2 (rx_yn (rt_P sc fm) 159).cls = true := (by decide +kernel : rz_cn 2 (rt_yn 159).cls = true)
theorem wa_2_161 : rz_cn 2 (rx_yn (rt_P sc fm) 161).cls = true := (by decide +kernel : rz_cn 2 (rt_yn 161).cls = true)
theorem wa_2_162 : rz_cn 2 (rx_yn (rt_P sc fm) 162).cls = true := (by decide +kernel : rz_cn 2 (rt_yn 162).cls = true)
theorem wc_271_114 : rx_ct (rt_P sc fm) 271 114 = some (0, 257, 1) := (by decide +kernel : rt_ct 271 114 = some (0, 257, 1))
theorem wc_271_132 : rx_ct (rt_P sc fm) 271 132 = some (0, 260, 2) := (by decide +kernel : rt_ct 271 132 = some (0, 260, 2))
theorem wc_271_149 : rx_ct (rt_P sc fm) 271 149 = some (0, 258, 1) := (by decide +kernel : rt_ct 271 149 = some (0, 258, 1))
theorem wc_271_269 : rx_ct (rt_P sc fm) 271 269 = some (0, 273, 2) := (by decide +kernel : rt_ct 271 269 = some (0, 273, 2))
theorem wc_271_282 : rx_ct (rt_P sc fm) 271 282 = some (0, 159, 2) := (by decide +kernel : rt_ct 271 282 = some (0, 159, 2))
theorem wc_271_303 : rx_ct (rt_P sc fm) 271 303 = some (0, 161, 2) := (by decide +kernel : rt_ct 271 303 = some (0, 161, 2))
theorem wc_271_306 : rx_ct (rt_P sc fm) 271 306 = some (0, 162, 2) := (by decide +kernel : rt_ct 271 306 = some (0, 162, 2))
theorem wc_271_309 : rx_ct (rt_P sc fm) 271 309 = some (0, 156, 1) := (by decide +kernel : rt_ct 271 309 = some (0, 156, 1))
theorem wc_271_82 : rx_ct (rt_P sc fm) 271 82 = some (0, 43, 0) := (by decide +kernel : rt_ct 271 82 = some (0, 43, 0))
theorem wf_271_15 : rx_ft (rt_P sc fm) 271 15 = some (10, 1) := (by decide +kernel : rt_ft 271 15 = some (10, 1))
theorem wf_271_19 : rx_ft (rt_P sc fm) 271 19 = some (10, 2) := (by decide +kernel : rt_ft 271 19 = some (10, 2))
theorem wf_271_254 : rx_ft (rt_P sc fm) 271 254 = some (10, 8) := (by decide +kernel : rt_ft 271 254 = some (10, 8))
theorem wf_271_266 : rx_ft (rt_P sc fm) 271 266 = some (9, 14) := (by decide +kernel : rt_ft 271 266 = some (9, 14))
theorem wf_271_285 : rx_ft (rt_P sc fm) 271 285 = some (10, 9) := (by decide +kernel : rt_ft 271 285 = some (10, 9))
theorem wf_271_288 : rx_ft (rt_P sc fm) 271 288 = some (2, 1) := (by decide +kernel : rt_ft 271 288 = some (2, 1))
theorem wf_271_291 : rx_ft (rt_P sc fm) 271 291 = some (2, 2) := (by decide +kernel : rt_ft 271 291 = some (2, 2))
theorem wf_271_294 : rx_ft (rt_P sc fm) 271 294 = some (2, 3) := (by decide +kernel : rt_ft 271 294 = some (2, 3))
theorem wf_271_297 : rx_ft (rt_P sc fm) 271 297 = some (2, 5) := (by decide +kernel : rt_ft 271 297 = some (2, 5))
theorem wf_271_300 : rx_ft (rt_P sc fm) 271 300 = some (2, 6) := (by decide +kernel : rt_ft 271 300 = some (2, 6))
theorem wf_271_32 : rx_ft (rt_P sc fm) 271 32 = some (2, 7) := (by decide +kernel : rt_ft 271 32 = some (2, 7))
theorem wf_271_49 : rx_ft (rt_P sc fm) 271 49 = some (10, 7) := (by decide +kernel : rt_ft 271 49 = some (10, 7))
theorem wf_271_85 : rx_ft (rt_P sc fm) 271 85 = some (3, 4) := (by decide +kernel : rt_ft 271 85 = some (3, 4))
theorem wf_271_9 : rx_ft (rt_P sc fm) 271 9 = some (10, 0) := (by decide +kernel : rt_ft 271 9 = some (10, 0))
theorem wh0_271_173 : rx_ht (rt_P sc fm) 271 173 "java/lang/IllegalArgumentException" = none := (by decide +kernel : rt_ht 271 173 "java/lang/IllegalArgumentException" = none)
theorem wh0_271_257 : rx_ht (rt_P sc fm) 271 257 "java/lang/IllegalArgumentException" = none := (by decide +kernel : rt_ht 271 257 "java/lang/IllegalArgumentException" = none)
theorem wh0_271_298 : rx_ht (rt_P sc fm) 271 298 "java/lang/IllegalArgumentException" = none := (by decide +kernel : rt_ht 271 298 "java/lang/IllegalArgumentException" = none)
theorem wh0_271_318 : rx_ht (rt_P sc fm) 271 318 "java/lang/IllegalArgumentException" = none := (by decide +kernel : rt_ht 271 318 "java/lang/IllegalArgumentException" = none)
theorem wh0_271_334 : rx_ht (rt_P sc fm) 271 334 "java/lang/IllegalArgumentException" = none := (by decide +kernel : rt_ht 271 334 "java/lang/IllegalArgumentException" = none)
theorem wh0_271_340 : rx_ht (rt_P sc fm) 271 340 "java/lang/IllegalArgumentException" = none := (by decide +kernel : rt_ht 271 340 "java/lang/IllegalArgumentException" = none)
theorem wh0_271_66 : rx_ht (rt_P sc fm) 271 66 "java/lang/IllegalArgumentException" = none := (by decide +kernel : rt_ht 271 66 "java/lang/IllegalArgumentException" = none)
theorem whh_271 : rx_hh (rt_P sc fm) 271 = [] := (by decide +kernel : rt_hh 271 = [])
theorem wi_271_0 : ri (rt_P sc fm) 271 0 (.aload_n 0) (1) := ri_of (by decide +kernel) rfl
theorem wi_271_1 : ri (rt_P sc fm) 271 1 (.dup) (2) := ri_of (by decide +kernel) rfl
theorem wi_271_10 : ri (rt_P sc fm) 271 10 (.aload_n 0) (11) := ri_of (by decide +kernel) rfl
theorem wi_271_100 : ri (rt_P sc fm) 271 100 (.getfield 291) (103) := ri_of (by decide +kernel) rfl
theorem wi_271_103 : ri (rt_P sc fm) 271 103 (.aload_n 0) (104) := ri_of (by decide +kernel) rfl
theorem wi_271_104 : ri (rt_P sc fm) 271 104 (.getfield 285) (107) := ri_of (by decide +kernel) rfl
theorem wi_271_107 : ri (rt_P sc fm) 271 107 (.iconst 0) (108) := ri_of (by decide +kernel) rfl
theorem wi_271_108 : ri (rt_P sc fm) 271 108 (.iastore) (109) := ri_of (by decide +kernel) rfl
theorem wi_271_109 : ri (rt_P sc fm) 271 109 (.aload_n 0) (110) := ri_of (by decide +kernel) rfl
theorem wi_271_11 : ri (rt_P sc fm) 271 11 (.getfield 15) (14) := ri_of (by decide +kernel) rfl
theorem wi_271_110 : ri (rt_P sc fm) 271 110 (.getfield 19) (113) := ri_of (by decide +kernel) rfl
theorem wi_271_113 : ri (rt_P sc fm) 271 113 (.getfield 294) (116) := ri_of (by decide +kernel) rfl
theorem wi_271_116 : ri (rt_P sc fm) 271 116 (.aload_n 0) (117) := ri_of (by decide +kernel) rfl
theorem wi_271_117 : ri (rt_P sc fm) 271 117 (.getfield 285) (120) := ri_of (by decide +kernel) rfl
theorem wi_271_120 : ri (rt_P sc fm) 271 120 (.iconst 0) (121) := ri_of (by decide +kernel) rfl
theorem wi_271_121 : ri (rt_P sc fm) 271 121 (.iastore) (122) := ri_of (by decide +kernel) rfl
theorem wi_271_122 : ri (rt_P sc fm) 271 122 (.aload_n 0) (123) := ri_of (by decide +kernel) rfl
theorem wi_271_123 : ri (rt_P sc fm) 271 123 (.getfield 19) (126) := ri_of (by decide +kernel) rfl
theorem wi_271_126 : ri (rt_P sc fm) 271 126 (.getfield 297) (129) := ri_of (by decide +kernel) rfl
theorem wi_271_129 : ri (rt_P sc fm) 271 129 (.aload_n 0) (130) := ri_of (by decide +kernel) rfl
theorem wi_271_130 : ri (rt_P sc fm) 271 130 (.getfield 285) (133) := ri_of (by decide +kernel) rfl
theorem wi_271_133 : ri (rt_P sc fm) 271 133 (.aload_n 0) (134) := ri_of (by decide +kernel) rfl
theorem wi_271_134 : ri (rt_P sc fm) 271 134 (.getfield 19) (137) := ri_of (by decide +kernel) rfl
theorem wi_271_137 : ri (rt_P sc fm) 271 137 (.getfield 32) (140) := ri_of (by decide +kernel) rfl
theorem wi_271_14 : ri (rt_P sc fm) 271 14 (.getfield 266) (17) := ri_of (by decide +kernel) rfl
theorem wi_271_140 : ri (rt_P sc fm) 271 140 (.iastore) (141) := ri_of (by decide +kernel) rfl
theorem wi_271_141 : ri (rt_P sc fm) 271 141 (.aload_n 0) (142) := ri_of (by decide +kernel) rfl
theorem wi_271_142 : ri (rt_P sc fm) 271 142 (.getfield 19) (145) := ri_of (by decide +kernel) rfl
theorem wi_271_145 : ri (rt_P sc fm) 271 145 (.getfield 300) (148) := ri_of (by decide +kernel) rfl
theorem wi_271_148 : ri (rt_P sc fm) 271 148 (.aload_n 0) (149) := ri_of (by decide +kernel) rfl
theorem wi_271_149 : ri (rt_P sc fm) 271 149 (.getfield 285) (152) := ri_of (by decide +kernel) rfl
theorem wi_271_152 : ri (rt_P sc fm) 271 152 (.iconst 0) (153) := ri_of (by decide +kernel) rfl
theorem wi_271_153 : ri (rt_P sc fm) 271 153 (.iastore) (154) := ri_of (by decide +kernel) rfl
theorem wi_271_154 : ri (rt_P sc fm) 271 154 (.aload_n 0) (155) := ri_of (by decide +kernel) rfl
theorem wi_271_155 : ri (rt_P sc fm) 271 155 (.getfield 15) (158) := ri_of (by decide +kernel) rfl
theorem wi_271_158 : ri (rt_P sc fm) 271 158 (.getfield 266) (161) := ri_of (by decide +kernel) rfl
theorem wi_271_161 : ri (rt_P sc fm) 271 161 (.aload_n 0) (162) := ri_of (by decide +kernel) rfl
theorem wi_271_162 : ri (rt_P sc fm) 271 162 (.getfield 254) (165) := ri_of (by decide +kernel) rfl
theorem wi_271_165 : ri (rt_P sc fm) 271 165 (.dup2) (166) := ri_of (by decide +kernel) rfl
theorem wi_271_166 : ri (rt_P sc fm) 271 166 (.iaload) (167) := ri_of (by decide +kernel) rfl
theorem wi_271_167 : ri (rt_P sc fm) 271 167 (.iconst 1) (168) := ri_of (by decide +kernel) rfl
theorem wi_271_168 : ri (rt_P sc fm) 271 168 (.iadd) (169) := ri_of (by decide +kernel) rfl
theorem wi_271_169 : ri (rt_P sc fm) 271 169 (.iastore) (170) := ri_of (by decide +kernel) rfl
theorem wi_271_17 : ri (rt_P sc fm) 271 17 (.aload_n 0) (18) := ri_of (by decide +kernel) rfl
theorem wi_271_170 : ri (rt_P sc fm) 271 170 (.aload_n 0) (171) := ri_of (by decide +kernel) rfl
theorem wi_271_171 : ri (rt_P sc fm) 271 171 (.bipush 40) (173) := ri_of (by decide +kernel) rfl
theorem wi_271_173 : ri (rt_P sc fm) 271 173 (.invokevirtual 114) (176) := ri_of (by decide +kernel) rfl
theorem wi_271_176 : ri (rt_P sc fm) 271 176 (.aload_n 0) (177) := ri_of (by decide +kernel) rfl
theorem wi_271_177 : ri (rt_P sc fm) 271 177 (.invokevirtual 82) (180) := ri_of (by decide +kernel) rfl
theorem wi_271_18 : ri (rt_P sc fm) 271 18 (.getfield 254) (21) := ri_of (by decide +kernel) rfl
theorem wi_271_180 : ri (rt_P sc fm) 271 180 (.bipush 41) (182) := ri_of (by decide +kernel) rfl
theorem wi_271_182 : ri (rt_P sc fm) 271 182 (.if_icmp .eq 7) (185) := ri_of (by decide +kernel) rfl
theorem wi_271_185 : ri (rt_P sc fm) 271 185 (.iconst 1) (186) := ri_of (by decide +kernel) rfl
theorem wi_271_186 : ri (rt_P sc fm) 271 186 (.goto 4) (189) := ri_of (by decide +kernel) rfl
theorem wi_271_189 : ri (rt_P sc fm) 271 189 (.iconst 0) (190) := ri_of (by decide +kernel) rfl
theorem wi_271_190 : ri (rt_P sc fm) 271 190 (.istore 4) (192) := ri_of (by decide +kernel) rfl
theorem wi_271_192 : ri (rt_P sc fm) 271 192 (.iconst 0) (193) := ri_of (by decide +kernel) rfl
theorem wi_271_193 : ri (rt_P sc fm) 271 193 (.istore 5) (195) := ri_of (by decide +kernel) rfl
theorem wi_271_195 : ri (rt_P sc fm) 271 195 (.iload 5) (197) := ri_of (by decide +kernel) rfl
theorem wi_271_197 : ri (rt_P sc fm) 271 197 (.iconst 4) (198) := ri_of (by decide +kernel) rfl
theorem wi_271_198 : ri (rt_P sc fm) 271 198 (.if_icmp .gt 117) (201) := ri_of (by decide +kernel) rfl
theorem wi_271_2 : ri (rt_P sc fm) 271 2 (.getfield 49) (5) := ri_of (by decide +kernel) rfl
theorem wi_271_201 : ri (rt_P sc fm) 271 201 (.iload 4) (203) := ri_of (by decide +kernel) rfl
theorem wi_271_203 : ri (rt_P sc fm) 271 203 (.ifCond .eq 112) (206) := ri_of (by decide +kernel) rfl
theorem wi_271_206 : ri (rt_P sc fm) 271 206 (.aload_n 0) (207) := ri_of (by decide +kernel) rfl
theorem wi_271_207 : ri (rt_P sc fm) 271 207 (.getfield 19) (210) := ri_of (by decide +kernel) rfl
theorem wi_271_21 : ri (rt_P sc fm) 271 21 (.iaload) (22) := ri_of (by decide +kernel) rfl
theorem wi_271_210 : ri (rt_P sc fm) 271 210 (.aload_n 0) (211) := ri_of (by decide +kernel) rfl
theorem wi_271_211 : ri (rt_P sc fm) 271 211 (.getfield 285) (214) := ri_of (by decide +kernel) rfl
theorem wi_271_214 : ri (rt_P sc fm) 271 214 (.aload_n 0) (215) := ri_of (by decide +kernel) rfl
theorem wi_271_215 : ri (rt_P sc fm) 271 215 (.aload_n 0) (216) := ri_of (by decide +kernel) rfl
theorem wi_271_216 : ri (rt_P sc fm) 271 216 (.getfield 19) (219) := ri_of (by decide +kernel) rfl
theorem wi_271_219 : ri (rt_P sc fm) 271 219 (.aload_n 0) (220) := ri_of (by decide +kernel) rfl
theorem wi_271_22 : ri (rt_P sc fm) 271 22 (.istore_n 1) (23) := ri_of (by decide +kernel) rfl
theorem wi_271_220 : ri (rt_P sc fm) 271 220 (.getfield 285) (223) := ri_of (by decide +kernel) rfl
theorem wi_271_223 : ri (rt_P sc fm) 271 223 (.aload_n 0) (224) := ri_of (by decide +kernel) rfl
theorem wi_271_224 : ri (rt_P sc fm) 271 224 (.getfield 9) (227) := ri_of (by decide +kernel) rfl
theorem wi_271_227 : ri (rt_P sc fm) 271 227 (.getfield 85) (230) := ri_of (by decide +kernel) rfl
theorem wi_271_23 : ri (rt_P sc fm) 271 23 (.aload_n 0) (24) := ri_of (by decide +kernel) rfl
theorem wi_271_230 : ri (rt_P sc fm) 271 230 (.aload_n 0) (231) := ri_of (by decide +kernel) rfl
theorem wi_271_231 : ri (rt_P sc fm) 271 231 (.getfield 49) (234) := ri_of (by decide +kernel) rfl
theorem wi_271_234 : ri (rt_P sc fm) 271 234 (.laload) (235) := ri_of (by decide +kernel) rfl
theorem wi_271_235 : ri (rt_P sc fm) 271 235 (.invokevirtual 303) (238) := ri_of (by decide +kernel) rfl
theorem wi_271_238 : ri (rt_P sc fm) 271 238 (.ifCond .lt 7) (241) := ri_of (by decide +kernel) rfl
theorem wi_271_24 : ri (rt_P sc fm) 271 24 (.aload_n 0) (25) := ri_of (by decide +kernel) rfl
theorem wi_271_241 : ri (rt_P sc fm) 271 241 (.iconst 1) (242) := ri_of (by decide +kernel) rfl
theorem wi_271_242 : ri (rt_P sc fm) 271 242 (.goto 4) (245) := ri_of (by decide +kernel) rfl
theorem wi_271_245 : ri (rt_P sc fm) 271 245 (.iconst 0) (246) := ri_of (by decide +kernel) rfl
theorem wi_271_246 : ri (rt_P sc fm) 271 246 (.iload 5) (248) := ri_of (by decide +kernel) rfl
theorem wi_271_248 : ri (rt_P sc fm) 271 248 (.iconst 4) (249) := ri_of (by decide +kernel) rfl
theorem wi_271_249 : ri (rt_P sc fm) 271 249 (.if_icmp .lt 7) (252) := ri_of (by decide +kernel) rfl
theorem wi_271_25 : ri (rt_P sc fm) 271 25 (.getfield 19) (28) := ri_of (by decide +kernel) rfl
theorem wi_271_252 : ri (rt_P sc fm) 271 252 (.iconst 1) (253) := ri_of (by decide +kernel) rfl
theorem wi_271_253 : ri (rt_P sc fm) 271 253 (.goto 4) (256) := ri_of (by decide +kernel) rfl
theorem wi_271_256 : ri (rt_P sc fm) 271 256 (.iconst 0) (257) := ri_of (by decide +kernel) rfl
theorem wi_271_257 : ri (rt_P sc fm) 271 257 (.invokevirtual 132) (260) := ri_of (by decide +kernel) rfl
theorem wi_271_260 : ri (rt_P sc fm) 271 260 (.invokevirtual 306) (263) := ri_of (by decide +kernel) rfl
theorem wi_271_263 : ri (rt_P sc fm) 271 263 (.pop) (264) := ri_of (by decide +kernel) rfl
theorem wi_271_264 : ri (rt_P sc fm) 271 264 (.aload_n 0) (265) := ri_of (by decide +kernel) rfl
theorem wi_271_265 : ri (rt_P sc fm) 271 265 (.getfield 19) (268) := ri_of (by decide +kernel) rfl
theorem wi_271_268 : ri (rt_P sc fm) 271 268 (.getfield 291) (271) := ri_of (by decide +kernel) rfl
theorem wi_271_271 : ri (rt_P sc fm) 271 271 (.aload_n 0) (272) := ri_of (by decide +kernel) rfl
theorem wi_271_272 : ri (rt_P sc fm) 271 272 (.getfield 285) (275) := ri_of (by decide +kernel) rfl
theorem wi_271_275 : ri (rt_P sc fm) 271 275 (.dup2) (276) := ri_of (by decide +kernel) rfl
theorem wi_271_276 : ri (rt_P sc fm) 271 276 (.iaload) (277) := ri_of (by decide +kernel) rfl
theorem wi_271_277 : ri (rt_P sc fm) 271 277 (.iconst 1) (278) := ri_of (by decide +kernel) rfl
theorem wi_271_278 : ri (rt_P sc fm) 271 278 (.iadd) (279) := ri_of (by decide +kernel) rfl
theorem wi_271_279 : ri (rt_P sc fm) 271 279 (.iastore) (280) := ri_of (by decide +kernel) rfl
theorem wi_271_28 : ri (rt_P sc fm) 271 28 (.aload_n 0) (29) := ri_of (by decide +kernel) rfl
theorem wi_271_280 : ri (rt_P sc fm) 271 280 (.aload_n 0) (281) := ri_of (by decide +kernel) rfl
theorem wi_271_281 : ri (rt_P sc fm) 271 281 (.aload_n 0) (282) := ri_of (by decide +kernel) rfl
theorem wi_271_282 : ri (rt_P sc fm) 271 282 (.getfield 19) (285) := ri_of (by decide +kernel) rfl
theorem wi_271_285 : ri (rt_P sc fm) 271 285 (.aload_n 0) (286) := ri_of (by decide +kernel) rfl
theorem wi_271_286 : ri (rt_P sc fm) 271 286 (.getfield 285) (289) := ri_of (by decide +kernel) rfl
theorem wi_271_289 : ri (rt_P sc fm) 271 289 (.invokevirtual 309) (292) := ri_of (by decide +kernel) rfl
theorem wi_271_29 : ri (rt_P sc fm) 271 29 (.getfield 254) (32) := ri_of (by decide +kernel) rfl
theorem wi_271_292 : ri (rt_P sc fm) 271 292 (.iconst 1) (293) := ri_of (by decide +kernel) rfl
theorem wi_271_293 : ri (rt_P sc fm) 271 293 (.iadd) (294) := ri_of (by decide +kernel) rfl
theorem wi_271_294 : ri (rt_P sc fm) 271 294 (.iload 5) (296) := ri_of (by decide +kernel) rfl
theorem wi_271_296 : ri (rt_P sc fm) 271 296 (.iadd) (297) := ri_of (by decide +kernel) rfl
theorem wi_271_297 : ri (rt_P sc fm) 271 297 (.iconst 3) (298) := ri_of (by decide +kernel) rfl
theorem wi_271_298 : ri (rt_P sc fm) 271 298 (.invokevirtual 269) (301) := ri_of (by decide +kernel) rfl
theorem wi_271_301 : ri (rt_P sc fm) 271 301 (.aload_n 0) (302) := ri_of (by decide +kernel) rfl
theorem wi_271_302 : ri (rt_P sc fm) 271 302 (.bipush 44) (304) := ri_of (by decide +kernel) rfl
theorem wi_271_304 : ri (rt_P sc fm) 271 304 (.invokevirtual 149) (307) := ri_of (by decide +kernel) rfl
theorem wi_271_307 : ri (rt_P sc fm) 271 307 (.istore 4) (309) := ri_of (by decide +kernel) rfl
theorem wi_271_309 : ri (rt_P sc fm) 271 309 (.iinc 5 1) (312) := ri_of (by decide +kernel) rfl
theorem wi_271_312 : ri (rt_P sc fm) 271 312 (.goto (-117)) (315) := ri_of (by decide +kernel) rfl
theorem wi_271_315 : ri (rt_P sc fm) 271 315 (.aload_n 0) (316) := ri_of (by decide +kernel) rfl
theorem wi_271_316 : ri (rt_P sc fm) 271 316 (.bipush 41) (318) := ri_of (by decide +kernel) rfl
theorem wi_271_318 : ri (rt_P sc fm) 271 318 (.invokevirtual 114) (321) := ri_of (by decide +kernel) rfl
theorem wi_271_32 : ri (rt_P sc fm) 271 32 (.aload_n 0) (33) := ri_of (by decide +kernel) rfl
theorem wi_271_321 : ri (rt_P sc fm) 271 321 (.aload_n 0) (322) := ri_of (by decide +kernel) rfl
theorem wi_271_322 : ri (rt_P sc fm) 271 322 (.aload_n 0) (323) := ri_of (by decide +kernel) rfl
theorem wi_271_323 : ri (rt_P sc fm) 271 323 (.getfield 19) (326) := ri_of (by decide +kernel) rfl
theorem wi_271_326 : ri (rt_P sc fm) 271 326 (.aload_n 0) (327) := ri_of (by decide +kernel) rfl
theorem wi_271_327 : ri (rt_P sc fm) 271 327 (.getfield 285) (330) := ri_of (by decide +kernel) rfl
theorem wi_271_33 : ri (rt_P sc fm) 271 33 (.getfield 9) (36) := ri_of (by decide +kernel) rfl
theorem wi_271_330 : ri (rt_P sc fm) 271 330 (.invokevirtual 309) (333) := ri_of (by decide +kernel) rfl
theorem wi_271_333 : ri (rt_P sc fm) 271 333 (.iconst 2) (334) := ri_of (by decide +kernel) rfl
theorem wi_271_334 : ri (rt_P sc fm) 271 334 (.invokevirtual 269) (337) := ri_of (by decide +kernel) rfl
theorem wi_271_337 : ri (rt_P sc fm) 271 337 (.aload_n 0) (338) := ri_of (by decide +kernel) rfl
theorem wi_271_338 : ri (rt_P sc fm) 271 338 (.bipush 123) (340) := ri_of (by decide +kernel) rfl
theorem wi_271_340 : ri (rt_P sc fm) 271 340 (.invokevirtual 114) (343) := ri_of (by decide +kernel) rfl
theorem wi_271_343 : ri (rt_P sc fm) 271 343 (.return_) (344) := ri_of (by decide +kernel) rfl
theorem wi_271_36 : ri (rt_P sc fm) 271 36 (.getfield 85) (39) := ri_of (by decide +kernel) rfl
theorem wi_271_39 : ri (rt_P sc fm) 271 39 (.aload_n 0) (40) := ri_of (by decide +kernel) rfl
theorem wi_271_40 : ri (rt_P sc fm) 271 40 (.getfield 49) (43) := ri_of (by decide +kernel) rfl
theorem wi_271_43 : ri (rt_P sc fm) 271 43 (.laload) (44) := ri_of (by decide +kernel) rfl
theorem wi_271_44 : ri (rt_P sc fm) 271 44 (.invokevirtual 282) (47) := ri_of (by decide +kernel) rfl
theorem wi_271_47 : ri (rt_P sc fm) 271 47 (.ifCond .lt 7) (50) := ri_of (by decide +kernel) rfl
theorem wi_271_5 : ri (rt_P sc fm) 271 5 (.iconst 1) (6) := ri_of (by decide +kernel) rfl
theorem wi_271_50 : ri (rt_P sc fm) 271 50 (.iconst 1) (51) := ri_of (by decide +kernel) rfl
theorem wi_271_51 : ri (rt_P sc fm) 271 51 (.goto 4) (54) := ri_of (by decide +kernel) rfl
theorem wi_271_54 : ri (rt_P sc fm) 271 54 (.iconst 0) (55) := ri_of (by decide +kernel) rfl
theorem wi_271_55 : ri (rt_P sc fm) 271 55 (.iload_n 1) (56) := ri_of (by decide +kernel) rfl
theorem wi_271_56 : ri (rt_P sc fm) 271 56 (.bipush 8) (58) := ri_of (by decide +kernel) rfl
theorem wi_271_58 : ri (rt_P sc fm) 271 58 (.if_icmp .lt 7) (61) := ri_of (by decide +kernel) rfl
theorem wi_271_6 : ri (rt_P sc fm) 271 6 (.iadd) (7) := ri_of (by decide +kernel) rfl
theorem wi_271_61 : ri (rt_P sc fm) 271 61 (.iconst 1) (62) := ri_of (by decide +kernel) rfl
theorem wi_271_62 : ri (rt_P sc fm) 271 62 (.goto 4) (65) := ri_of (by decide +kernel) rfl
theorem wi_271_65 : ri (rt_P sc fm) 271 65 (.iconst 0) (66) := ri_of (by decide +kernel) rfl
theorem wi_271_66 : ri (rt_P sc fm) 271 66 (.invokevirtual 132) (69) := ri_of (by decide +kernel) rfl
theorem wi_271_69 : ri (rt_P sc fm) 271 69 (.lstore_n 2) (70) := ri_of (by decide +kernel) rfl
theorem wi_271_7 : ri (rt_P sc fm) 271 7 (.putfield 49) (10) := ri_of (by decide +kernel) rfl
theorem wi_271_70 : ri (rt_P sc fm) 271 70 (.aload_n 0) (71) := ri_of (by decide +kernel) rfl
theorem wi_271_71 : ri (rt_P sc fm) 271 71 (.aload_n 0) (72) := ri_of (by decide +kernel) rfl
theorem wi_271_72 : ri (rt_P sc fm) 271 72 (.getfield 254) (75) := ri_of (by decide +kernel) rfl
theorem wi_271_75 : ri (rt_P sc fm) 271 75 (.bipush 8) (77) := ri_of (by decide +kernel) rfl
theorem wi_271_77 : ri (rt_P sc fm) 271 77 (.imul) (78) := ri_of (by decide +kernel) rfl
theorem wi_271_78 : ri (rt_P sc fm) 271 78 (.iload_n 1) (79) := ri_of (by decide +kernel) rfl
theorem wi_271_79 : ri (rt_P sc fm) 271 79 (.iadd) (80) := ri_of (by decide +kernel) rfl
theorem wi_271_80 : ri (rt_P sc fm) 271 80 (.putfield 285) (83) := ri_of (by decide +kernel) rfl
theorem wi_271_83 : ri (rt_P sc fm) 271 83 (.aload_n 0) (84) := ri_of (by decide +kernel) rfl
theorem wi_271_84 : ri (rt_P sc fm) 271 84 (.getfield 19) (87) := ri_of (by decide +kernel) rfl
theorem wi_271_87 : ri (rt_P sc fm) 271 87 (.getfield 288) (90) := ri_of (by decide +kernel) rfl
theorem wi_271_90 : ri (rt_P sc fm) 271 90 (.aload_n 0) (91) := ri_of (by decide +kernel) rfl
theorem wi_271_91 : ri (rt_P sc fm) 271 91 (.getfield 285) (94) := ri_of (by decide +kernel) rfl
theorem wi_271_94 : ri (rt_P sc fm) 271 94 (.lload_n 2) (95) := ri_of (by decide +kernel) rfl
theorem wi_271_95 : ri (rt_P sc fm) 271 95 (.lastore) (96) := ri_of (by decide +kernel) rfl
theorem wi_271_96 : ri (rt_P sc fm) 271 96 (.aload_n 0) (97) := ri_of (by decide +kernel) rfl
theorem wi_271_97 : ri (rt_P sc fm) 271 97 (.getfield 19) (100) := ri_of (by decide +kernel) rfl
theorem wm_156 : rx_ml (rt_P sc fm) 156 = 2 := (by decide +kernel : rt_ml 156 = 2)
theorem wm_159 : rx_ml (rt_P sc fm) 159 = 5 := (by decide +kernel : rt_ml 159 = 5)
theorem wm_161 : rx_ml (rt_P sc fm) 161 = 5 := (by decide +kernel : rt_ml 161 = 5)
theorem wm_162 : rx_ml (rt_P sc fm) 162 = 4 := (by decide +kernel : rt_ml 162 = 4)
theorem wp_271_285 : rx_pt (rt_P sc fm) 271 285 = some (10, 9, .int) := (by decide +kernel : rt_pt 271 285 = some (10, 9, .int))
theorem wp_271_49 : rx_pt (rt_P sc fm) 271 49 = some (10, 7, .int) := (by decide +kernel : rt_pt 271 49 = some (10, 7, .int))
theorem wr_271 : rx_rt (rt_P sc fm) 271 = none := (by decide +kernel : rt_rt 271 = none)
/-- MarkHouse$Reader.readMethodHead()V -/
def d_271 (n : Nat)  (c : cS) : Option ((cS) ⊕ cS) :=
  lt (pI c 145 7 ((c.1 145 7) + 1)) (fun c1 =>
  if ib (c1.1 145 8) 12 then
  lt ((c1.1 17 (ix (c1.1 145 8))) : Int32) (fun v5 =>
  if ib (c1.1 145 7) 4001 then
  Option.bind (d_159 n (c1.1 145 8) (c1.2 5 (ix (c1.1 145 7))) c1) (fun v8 =>
  jn (fun p9 : Int32 =>
    jn (fun p10 : Int32 =>
      Option.bind (d_260 n p9 p10 c1) (Sum.elim (fun r11 =>
      lt (pI r11.2 145 9 (((r11.2.1 145 8) * 8) + v5)) (fun c14 =>
      if ib (c14.1 145 9) 96 then
      lt (pL c14 115 (ix (c14.1 145 9)) r11.1) (fun c17 =>
      if ib (c17.1 145 9) 96 then
      lt (pI c17 116 (ix (c17.1 145 9)) 0) (fun c20 =>
      if ib (c20.1 145 9) 96 then
      lt (pI c20 117 (ix (c20.1 145 9)) 0) (fun c23 =>
      if ib (c23.1 145 9) 96 then
      lt (pI c23 119 (ix (c23.1 145 9)) (c23.1 114 7)) (fun c26 =>
      if ib (c26.1 145 9) 96 then
      lt (pI c26 120 (ix (c26.1 145 9)) 0) (fun c29 =>
      if ib (c29.1 145 8) 12 then
      if ib (c29.1 145 8) 12 then
      lt (pI c29 17 (ix (c29.1 145 8)) ((c29.1 17 (ix (c29.1 145 8))) + 1)) (fun c33 =>
      Option.bind (d_257 n 40 c33) (Sum.elim (fun r35 =>
      Option.bind (d_43 n r35) (fun v37 =>
      jn (fun p38 : Int32 =>
        Option.bind (whl (R := (cS) ⊕ ((cS) ⊕ cS)) (fun s41 : Int32 × Int32 × cS =>
          if 4 < s41.2.1 then
            some (.inr (.inl s41.2.2))
          else
            if s41.1 = 0 then
              some (.inr (.inl s41.2.2))
            else
              if ib (s41.2.2.1 145 7) 4001 then
              Option.bind (d_161 n (s41.2.2.1 145 9) (s41.2.2.2 5 (ix (s41.2.2.1 145 7))) s41.2.2) (fun v43 =>
              jn (fun p44 : Int32 =>
                jn (fun p45 : Int32 =>
                  Option.bind (d_260 n p44 p45 s41.2.2) (Sum.elim (fun r46 =>
                  Option.bind (d_162 n (s41.2.2.1 145 9) r46.1 r46.2) (fun r48 =>
                  if ib (r48.2.1 145 9) 96 then
                  if ib (r48.2.1 145 9) 96 then
                  lt (pI r48.2 116 (ix (r48.2.1 145 9)) ((r48.2.1 116 (ix (r48.2.1 145 9))) + 1)) (fun c51 =>
                  Option.bind (d_156 n (c51.1 145 9)) (fun v53 =>
                  Option.bind (d_273 n ((v53 + 1) + s41.2.1) 3 c51) (Sum.elim (fun r54 =>
                  Option.bind (d_258 n 44 r54) (fun r56 =>
                  lt (s41.2.1 + 1 : Int32) (fun v59 =>
                  some (.inl (r56.1, v59, r56.2)))))
                  (fun z55 => some (.inr (.inr (.inr z55)))))))
                  else none
                  else none))
                  (fun z47 => some (.inr (.inr (.inr z47))))))
                (fun j257 =>
                if s41.2.1 < 4 then
                  j257 0
                else
                  j257 1))
              (fun j246 =>
              if v43 < 0 then
                j246 0
              else
                j246 1))
              else none) n (p38, 0, r35))
        (Sum.elim (fun x61 : cS =>
          Option.bind (d_257 n 41 x61) (Sum.elim (fun r62 =>
          Option.bind (d_156 n (r62.1 145 9)) (fun v64 =>
          Option.bind (d_273 n v64 2 r62) (Sum.elim (fun r65 =>
          Option.bind (d_257 n 123 r65) (Sum.elim (fun r67 =>
          some (.inl r67))
          (fun z68 => some (.inr z68))))
          (fun z66 => some (.inr z66)))))
          (fun z63 => some (.inr z63))))
        (fun x69 : (cS) ⊕ cS =>
          some x69)))
      (fun j190 =>
      if v37 = 41 then
        j190 0
      else
        j190 1)))
      (fun z36 => some (.inr z36))))
      else none
      else none)
      else none)
      else none)
      else none)
      else none)
      else none))
      (fun z12 => some (.inr z12))))
    (fun j66 =>
    if v5 < 8 then
      j66 0
    else
      j66 1))
  (fun j55 =>
  if v8 < 0 then
    j55 0
  else
    j55 1))
  else none)
  else none)
theorem sp_271 {F Lo n : Nat}  {c y : cS} {w : cW} {K : (cS) ⊕ cS → Prop} {Q : ((Option Value) ⊕ String) → List va_E → Prop} (hw : rOK fm w) (hF : 10 ≤ F) (hLo : 181 ≤ Lo)  (h : wp (d_271 n  c) K) (hQ : ∀ r, K (.inl r) → Q (.inl none) (hq true r y w)) (hT : ∀ r, K (.inr r) → Q (.inr "java/lang/IllegalArgumentException") (hq true r y w)) : rs (rt_P sc fm) 271 F Lo 0 [(0, .ref 145)] [] (hq true c y w) Q := by
  unfold d_271 at h
  obtain ⟨lv, elv⟩ : ∃ lv : rx_L, lv = [(0, .ref 145)] := ⟨_, rfl⟩
  rw [← elv]
  have l0 : rx_ld lv 0 = some (.ref 145) := by rw [elv]; rfl
  refine rs_aldn wi_271_0 l0 ?_
  refine rs_pure wi_271_1 rfl ?_
  refine dq_gi wi_271_2 wf_271_49 tf_145_7 ?_
  refine rs_pure wi_271_5 rfl ?_
  refine rs_topi (v := 1) (by decide) ?_
  refine rs_pure wi_271_6 rfl ?_
  obtain ⟨c1, e2, h⟩ := wp_lt h
  refine dq_pi wi_271_7 wp_271_49 tf_145_7 rfl rfl e2 ?_
  refine rs_aldn wi_271_10 l0 ?_
  refine dq_gr wi_271_11 wf_271_15 tf_145_1 ?_
  refine dq_gr wi_271_14 wf_271_266 tf_7_14 ?_
  refine rs_aldn wi_271_17 l0 ?_
  refine dq_gi wi_271_18 wf_271_254 tf_145_8 ?_
  obtain ⟨g3, h⟩ := wp_gd h
  refine dq_iald wi_271_21 t_17 g3 ?_
  obtain ⟨v5, e6, h⟩ := wp_lt h
  refine rs_topi e6 ?_
  refine dl_istn wi_271_22 rfl (fun lv l1 t4 => ?_)
  have l0 := t4 _ _ (by decide) (Or.inl rfl) l0
  refine rs_aldn wi_271_23 l0 ?_
  refine rs_aldn wi_271_24 l0 ?_
  refine dq_gr wi_271_25 wf_271_19 tf_145_2 ?_
  refine rs_aldn wi_271_28 l0 ?_
  refine dq_gi wi_271_29 wf_271_254 tf_145_8 ?_
  refine rs_aldn wi_271_32 l0 ?_
  refine dq_gr wi_271_33 wf_271_9 tf_145_0 ?_
  refine dq_gr wi_271_36 wf_271_85 tf_1_4 ?_
  refine rs_aldn wi_271_39 l0 ?_
  refine dq_gi wi_271_40 wf_271_49 tf_145_7 ?_
  obtain ⟨g7, h⟩ := wp_gd h
  refine dq_lald wi_271_43 t_5 g7 ?_
  refine rs_V wi_271_44 wc_271_282 rfl (dq_isa tf_114_0 wa_2_159) (Nat.le_trans (by decide) hF) (ml_le wm_159 (Nat.le_trans (by decide) hLo)) rfl (sp_159 hw (Nat.le_trans (by decide : 0 ≤ 10 - 1) (Nat.sub_le_sub_right hF 1)) (ml_sub wm_159 (Nat.le_trans (by decide : 0 ≤ 181 - 24) (Nat.sub_le_sub_right hLo 24))) (wp_bind h) (fun v8 h => rs_back1 ?_))
  refine wp_jn (B := fun p9 : Int32 => ∀ lv, rx_ld lv 0 = some (.ref 145) → rx_ld lv 1 = some (.int v5) → rs (rt_P sc fm) 271 F Lo 55 lv [.int p9, .ref 145] (hq true c1 y w) Q) h (fun p9 h lv l0 l1 => ?_) (fun j55 hj55 h => ?_)
  ·
    refine rs_ildn wi_271_55 l1 ?_
    refine rs_pure wi_271_56 rfl ?_
    refine rs_topi (v := 8) (by decide) ?_
    refine wp_jn (B := fun p10 : Int32 => ∀ lv, rx_ld lv 0 = some (.ref 145) → rx_ld lv 1 = some (.int v5) → rs (rt_P sc fm) 271 F Lo 66 lv [.int p10, .int p9, .ref 145] (hq true c1 y w) Q) h (fun p10 h lv l0 l1 => ?_) (fun j66 hj66 h => ?_)
    ·
      refine rs_V wi_271_66 wc_271_132 rfl (dq_isa tf_145_0 wa_10_260) (Nat.le_trans (by decide) hF) (ml_le wm_260 (Nat.le_trans (by decide) hLo)) rfl (sp_260 hw (Nat.le_trans (by decide : 8 ≤ 10 - 1) (Nat.sub_le_sub_right hF 1)) (ml_sub wm_260 (Nat.le_trans (by decide : 124 ≤ 181 - 24) (Nat.sub_le_sub_right hLo 24))) (wp_bind h) (fun r11 h => rs_back1 ?_) (fun z12 h => rs_up wh0_271_66 whh_271 (hT z12 (wp_inr h))))
      have h := wp_inl h
      refine dl_lstn wi_271_69 rfl (fun lv l2 t13 => ?_)
      have l0 := t13 _ _ (by decide) (by decide) (Or.inl rfl) l0
      have l1 := t13 _ _ (by decide) (by decide) (Or.inl rfl) l1
      refine rs_aldn wi_271_70 l0 ?_
      refine rs_aldn wi_271_71 l0 ?_
      refine dq_gi wi_271_72 wf_271_254 tf_145_8 ?_
      refine rs_pure wi_271_75 rfl ?_
      refine rs_topi (v := 8) (by decide) ?_
      refine rs_pure wi_271_77 rfl ?_
      refine rs_ildn wi_271_78 l1 ?_
      refine rs_pure wi_271_79 rfl ?_
      obtain ⟨c14, e15, h⟩ := wp_lt h
      refine dq_pi wi_271_80 wp_271_285 tf_145_9 rfl rfl e15 ?_
      refine rs_aldn wi_271_83 l0 ?_
      refine dq_gr wi_271_84 wf_271_19 tf_145_2 ?_
      refine dq_gr wi_271_87 wf_271_288 tf_114_1 ?_
      refine rs_aldn wi_271_90 l0 ?_
      refine dq_gi wi_271_91 wf_271_285 tf_145_9 ?_
      refine rs_lldn wi_271_94 l2 ?_
      obtain ⟨g16, h⟩ := wp_gd h
      obtain ⟨c17, e18, h⟩ := wp_lt h
      refine dq_last wi_271_95 t_115 g16 e18 ?_
      refine rs_aldn wi_271_96 l0 ?_
      refine dq_gr wi_271_97 wf_271_19 tf_145_2 ?_
      refine dq_gr wi_271_100 wf_271_291 tf_114_2 ?_
      refine rs_aldn wi_271_103 l0 ?_
      refine dq_gi wi_271_104 wf_271_285 tf_145_9 ?_
      refine rs_pure wi_271_107 rfl ?_
      refine rs_topi (v := 0) (by decide) ?_
      obtain ⟨g19, h⟩ := wp_gd h
      obtain ⟨c20, e21, h⟩ := wp_lt h
      refine dq_iast wi_271_108 t_116 g19 e21 ?_
      refine rs_aldn wi_271_109 l0 ?_
      refine dq_gr wi_271_110 wf_271_19 tf_145_2 ?_
      refine dq_gr wi_271_113 wf_271_294 tf_114_3 ?_
      refine rs_aldn wi_271_116 l0 ?_
      refine dq_gi wi_271_117 wf_271_285 tf_145_9 ?_
      refine rs_pure wi_271_120 rfl ?_
      refine rs_topi (v := 0) (by decide) ?_
      obtain ⟨g22, h⟩ := wp_gd h
      obtain ⟨c23, e24, h⟩ := wp_lt h
      refine dq_iast wi_271_121 t_117 g22 e24 ?_
      refine rs_aldn wi_271_122 l0 ?_
      refine dq_gr wi_271_123 wf_271_19 tf_145_2 ?_
      refine dq_gr wi_271_126 wf_271_297 tf_114_5 ?_
      refine rs_aldn wi_271_129 l0 ?_
      refine dq_gi wi_271_130 wf_271_285 tf_145_9 ?_
      refine rs_aldn wi_271_133 l0 ?_
      refine dq_gr wi_271_134 wf_271_19 tf_145_2 ?_
      refine dq_gi wi_271_137 wf_271_32 tf_114_7 ?_
      obtain ⟨g25, h⟩ := wp_gd h
      obtain ⟨c26, e27, h⟩ := wp_lt h
      refine dq_iast wi_271_140 t_119 g25 e27 ?_
      refine rs_aldn wi_271_141 l0 ?_
      refine dq_gr wi_271_142 wf_271_19 tf_145_2 ?_
      refine dq_gr wi_271_145 wf_271_300 tf_114_6 ?_
      refine rs_aldn wi_271_148 l0 ?_
      refine dq_gi wi_271_149 wf_271_285 tf_145_9 ?_
      refine rs_pure wi_271_152 rfl ?_
      refine rs_topi (v := 0) (by decide) ?_
      obtain ⟨g28, h⟩ := wp_gd h
      obtain ⟨c29, e30, h⟩ := wp_lt h
      refine dq_iast wi_271_153 t_120 g28 e30 ?_
      refine rs_aldn wi_271_154 l0 ?_
      refine dq_gr wi_271_155 wf_271_15 tf_145_1 ?_
      refine dq_gr wi_271_158 wf_271_266 tf_7_14 ?_
      refine rs_aldn wi_271_161 l0 ?_
      refine dq_gi wi_271_162 wf_271_254 tf_145_8 ?_
      refine rs_pure wi_271_165 rfl ?_
      obtain ⟨g31, h⟩ := wp_gd h
      refine dq_iald wi_271_166 t_17 g31 ?_
      refine rs_pure wi_271_167 rfl ?_
      refine rs_topi (v := 1) (by decide) ?_
      refine rs_pure wi_271_168 rfl ?_
      obtain ⟨g32, h⟩ := wp_gd h
      obtain ⟨c33, e34, h⟩ := wp_lt h
      refine dq_iast wi_271_169 t_17 g32 e34 ?_
      refine rs_aldn wi_271_170 l0 ?_
      refine rs_pure wi_271_171 rfl ?_
      refine rs_topi (v := 40) (by decide) ?_
      refine rs_V wi_271_173 wc_271_114 rfl (dq_isa tf_145_0 wa_10_257) (Nat.le_trans (by decide) hF) (ml_le wm_257 (Nat.le_trans (by decide) hLo)) rfl (sp_257 hw (Nat.le_trans (by decide : 7 ≤ 10 - 1) (Nat.sub_le_sub_right hF 1)) (ml_sub wm_257 (Nat.le_trans (by decide : 104 ≤ 181 - 21) (Nat.sub_le_sub_right hLo 21))) (wp_bind h) (fun r35 h => rs_back0 ?_) (fun z36 h => rs_up wh0_271_173 whh_271 (hT z36 (wp_inr h))))
      have h := wp_inl h
      refine rs_aldn wi_271_176 l0 ?_
      refine rs_V wi_271_177 wc_271_82 rfl (dq_isa tf_145_0 wa_10_43) (Nat.le_trans (by decide) hF) (ml_le wm_43 (Nat.le_trans (by decide) hLo)) rfl (sp_43 hw (Nat.le_trans (by decide : 0 ≤ 10 - 1) (Nat.sub_le_sub_right hF 1)) (ml_sub wm_43 (Nat.le_trans (by decide : 0 ≤ 181 - 20) (Nat.sub_le_sub_right hLo 20))) (wp_bind h) (fun v37 h => rs_back1 ?_))
      refine rs_pure wi_271_180 rfl ?_
      refine rs_topi (v := 41) (by decide) ?_
      refine wp_jn (B := fun p38 : Int32 => ∀ lv, rx_ld lv 0 = some (.ref 145) → rs (rt_P sc fm) 271 F Lo 190 lv [.int p38] (hq true r35 y w) Q) h (fun p38 h lv l0 => ?_) (fun j190 hj190 h => ?_)
      ·
        refine dl_ist wi_271_190 rfl (fun lv l4 t39 => ?_)
        have l0 := t39 _ _ (by decide) (Or.inl rfl) l0
        refine rs_pure wi_271_192 rfl ?_
        refine rs_topi (v := 0) (by decide) ?_
        refine dl_ist wi_271_193 rfl (fun lv l5 t40 => ?_)
        have l0 := t40 _ _ (by decide) (Or.inl rfl) l0
        have l4 := t40 _ _ (by decide) (Or.inl rfl) l4
        refine whl_ex (A := fun s41 : Int32 × Int32 × cS => ∀ lv, rx_ld lv 0 = some (.ref 145) → rx_ld lv 4 = some (.int s41.1) → rx_ld lv 5 = some (.int s41.2.1) → rs (rt_P sc fm) 271 F Lo 195 lv [] (hq true s41.2.2 y w) Q) (B := (Sum.elim (fun x61 : cS => ∀ lv, rx_ld lv 0 = some (.ref 145) → rs (rt_P sc fm) 271 F Lo 315 lv [] (hq true x61 y w) Q) K)) ?_ ?_ _ _ (wp_bind h) _ l0 l4 l5
        · intro s41 h lv l0 l4 l5
          refine rs_ild wi_271_195 l5 ?_
          refine rs_pure wi_271_197 rfl ?_
          refine rs_topi (v := 4) (by decide) ?_
          refine rs_icgt (tg := 315) wi_271_198 ⟨by decide, by decide⟩ (fun q => ?_) (fun q => ?_)
          ·
            have h := wp_pos h q
            exact h _ l0
          ·
            have h := wp_neg h q
            refine rs_ild wi_271_201 l4 ?_
            refine rs_ifeq (tg := 315) wi_271_203 ⟨by decide, by decide⟩ (fun q => ?_) (fun q => ?_)
            ·
              have h := wp_pos h q
              exact h _ l0
            ·
              have h := wp_neg h q
              refine rs_aldn wi_271_206 l0 ?_
              refine dq_gr wi_271_207 wf_271_19 tf_145_2 ?_
              refine rs_aldn wi_271_210 l0 ?_
              refine dq_gi wi_271_211 wf_271_285 tf_145_9 ?_
              refine rs_aldn wi_271_214 l0 ?_
              refine rs_aldn wi_271_215 l0 ?_
              refine dq_gr wi_271_216 wf_271_19 tf_145_2 ?_
              refine rs_aldn wi_271_219 l0 ?_
              refine dq_gi wi_271_220 wf_271_285 tf_145_9 ?_
              refine rs_aldn wi_271_223 l0 ?_
              refine dq_gr wi_271_224 wf_271_9 tf_145_0 ?_
              refine dq_gr wi_271_227 wf_271_85 tf_1_4 ?_
              refine rs_aldn wi_271_230 l0 ?_
              refine dq_gi wi_271_231 wf_271_49 tf_145_7 ?_
              obtain ⟨g42, h⟩ := wp_gd h
              refine dq_lald wi_271_234 t_5 g42 ?_
              refine rs_V wi_271_235 wc_271_303 rfl (dq_isa tf_114_0 wa_2_161) (Nat.le_trans (by decide) hF) (ml_le wm_161 (Nat.le_trans (by decide) hLo)) rfl (sp_161 hw (Nat.le_trans (by decide : 0 ≤ 10 - 1) (Nat.sub_le_sub_right hF 1)) (ml_sub wm_161 (Nat.le_trans (by decide : 0 ≤ 181 - 24) (Nat.sub_le_sub_right hLo 24))) (wp_bind h) (fun v43 h => rs_back1 ?_))
              refine wp_jn (B := fun p44 : Int32 => ∀ lv, rx_ld lv 0 = some (.ref 145) → rx_ld lv 5 = some (.int s41.2.1) → rs (rt_P sc fm) 271 F Lo 246 lv [.int p44, .ref 145, .int (s41.2.2.1 145 9), .ref 114] (hq true s41.2.2 y w) Q) h (fun p44 h lv l0 l5 => ?_) (fun j246 hj246 h => ?_)
              ·
                refine rs_ild wi_271_246 l5 ?_
                refine rs_pure wi_271_248 rfl ?_
                refine rs_topi (v := 4) (by decide) ?_
                refine wp_jn (B := fun p45 : Int32 => ∀ lv, rx_ld lv 0 = some (.ref 145) → rx_ld lv 5 = some (.int s41.2.1) → rs (rt_P sc fm) 271 F Lo 257 lv [.int p45, .int p44, .ref 145, .int (s41.2.2.1 145 9), .ref 114] (hq true s41.2.2 y w) Q) h (fun p45 h lv l0 l5 => ?_) (fun j257 hj257 h => ?_)
                ·
                  refine rs_V wi_271_257 wc_271_132 rfl (dq_isa tf_145_0 wa_10_260) (Nat.le_trans (by decide) hF) (ml_le wm_260 (Nat.le_trans (by decide) hLo)) rfl (sp_260 hw (Nat.le_trans (by decide : 8 ≤ 10 - 1) (Nat.sub_le_sub_right hF 1)) (ml_sub wm_260 (Nat.le_trans (by decide : 124 ≤ 181 - 24) (Nat.sub_le_sub_right hLo 24))) (wp_bind h) (fun r46 h => rs_back1 ?_) (fun z47 h => rs_up wh0_271_257 whh_271 (hT z47 (wp_inr h))))
                  have h := wp_inl h
                  refine rs_V wi_271_260 wc_271_306 rfl (dq_isa tf_114_0 wa_2_162) (Nat.le_trans (by decide) hF) (ml_le wm_162 (Nat.le_trans (by decide) hLo)) rfl (sp_162 hw (Nat.le_trans (by decide : 0 ≤ 10 - 1) (Nat.sub_le_sub_right hF 1)) (ml_sub wm_162 (Nat.le_trans (by decide : 0 ≤ 181 - 23) (Nat.sub_le_sub_right hLo 23))) (wp_bind h) (fun r48 h => rs_back1 ?_))
                  refine rs_pure wi_271_263 rfl ?_
                  refine rs_aldn wi_271_264 l0 ?_
                  refine dq_gr wi_271_265 wf_271_19 tf_145_2 ?_
                  refine dq_gr wi_271_268 wf_271_291 tf_114_2 ?_
                  refine rs_aldn wi_271_271 l0 ?_
                  refine dq_gi wi_271_272 wf_271_285 tf_145_9 ?_
                  refine rs_pure wi_271_275 rfl ?_
                  obtain ⟨g49, h⟩ := wp_gd h
                  refine dq_iald wi_271_276 t_116 g49 ?_
                  refine rs_pure wi_271_277 rfl ?_
                  refine rs_topi (v := 1) (by decide) ?_
                  refine rs_pure wi_271_278 rfl ?_
                  obtain ⟨g50, h⟩ := wp_gd h
                  obtain ⟨c51, e52, h⟩ := wp_lt h
                  refine dq_iast wi_271_279 t_116 g50 e52 ?_
                  refine rs_aldn wi_271_280 l0 ?_
                  refine rs_aldn wi_271_281 l0 ?_
                  refine dq_gr wi_271_282 wf_271_19 tf_145_2 ?_
                  refine rs_aldn wi_271_285 l0 ?_
                  refine dq_gi wi_271_286 wf_271_285 tf_145_9 ?_
                  refine rs_V wi_271_289 wc_271_309 rfl (dq_isa tf_114_0 wa_2_156) (Nat.le_trans (by decide) hF) (ml_le wm_156 (Nat.le_trans (by decide) hLo)) rfl (sp_156 (Nat.le_trans (by decide : 0 ≤ 10 - 1) (Nat.sub_le_sub_right hF 1)) (ml_sub wm_156 (Nat.le_trans (by decide : 0 ≤ 181 - 21) (Nat.sub_le_sub_right hLo 21))) (wp_bind h) (fun v53 h => rs_back1 ?_))
                  refine rs_pure wi_271_292 rfl ?_
                  refine rs_topi (v := 1) (by decide) ?_
                  refine rs_pure wi_271_293 rfl ?_
                  refine rs_ild wi_271_294 l5 ?_
                  refine rs_pure wi_271_296 rfl ?_
                  refine rs_pure wi_271_297 rfl ?_
                  refine rs_topi (v := 3) (by decide) ?_
                  refine rs_V wi_271_298 wc_271_269 rfl (dq_isa tf_145_0 wa_10_273) (Nat.le_trans (by decide) hF) (ml_le wm_273 (Nat.le_trans (by decide) hLo)) rfl (sp_273 hw (Nat.le_trans (by decide : 9 ≤ 10 - 1) (Nat.sub_le_sub_right hF 1)) (ml_sub wm_273 (Nat.le_trans (by decide : 157 ≤ 181 - 24) (Nat.sub_le_sub_right hLo 24))) (wp_bind h) (fun r54 h => rs_back0 ?_) (fun z55 h => rs_up wh0_271_298 whh_271 (hT z55 (wp_inr h))))
                  have h := wp_inl h
                  refine rs_aldn wi_271_301 l0 ?_
                  refine rs_pure wi_271_302 rfl ?_
                  refine rs_topi (v := 44) (by decide) ?_
                  refine rs_V wi_271_304 wc_271_149 rfl (dq_isa tf_145_0 wa_10_258) (Nat.le_trans (by decide) hF) (ml_le wm_258 (Nat.le_trans (by decide) hLo)) rfl (sp_258 hw (Nat.le_trans (by decide : 0 ≤ 10 - 1) (Nat.sub_le_sub_right hF 1)) (ml_sub wm_258 (Nat.le_trans (by decide : 0 ≤ 181 - 22) (Nat.sub_le_sub_right hLo 22))) (wp_bind h) (fun r56 h => rs_back1 ?_))
                  refine dl_ist wi_271_307 rfl (fun lv l4 t57 => ?_)
                  have l0 := t57 _ _ (by decide) (Or.inl rfl) l0
                  have l5 := t57 _ _ (by decide) (Or.inl rfl) l5
                  obtain ⟨v59, e60, h⟩ := wp_lt h
                  refine dl_inc wi_271_309 l5 rfl e60 (fun lv l5 t58 => ?_)
                  have l0 := t58 _ _ (by decide) (Or.inl rfl) l0
                  have l4 := t58 _ _ (by decide) (Or.inl rfl) l4
                  refine rs_goto (tg := 195) wi_271_312 ⟨by decide, by decide⟩ ?_
                  exact h _ l0 l4 l5
                refine rs_iclt (tg := 256) wi_271_249 ⟨by decide, by decide⟩ (fun q => ?_) (fun q => ?_)
                ·
                  have h := wp_pos h q
                  refine rs_pure wi_271_256 rfl ?_
                  refine rs_topi (v := 0) (by decide) ?_
                  exact hj257 _ h _ l0 l5
                ·
                  have h := wp_neg h q
                  refine rs_pure wi_271_252 rfl ?_
                  refine rs_topi (v := 1) (by decide) ?_
                  refine rs_goto (tg := 257) wi_271_253 ⟨by decide, by decide⟩ ?_
                  exact hj257 _ h _ l0 l5
              refine rs_iflt (tg := 245) wi_271_238 ⟨by decide, by decide⟩ (fun q => ?_) (fun q => ?_)
              ·
                have h := wp_pos h q
                refine rs_pure wi_271_245 rfl ?_
                refine rs_topi (v := 0) (by decide) ?_
                exact hj246 _ h _ l0 l5
              ·
                have h := wp_neg h q
                refine rs_pure wi_271_241 rfl ?_
                refine rs_topi (v := 1) (by decide) ?_
                refine rs_goto (tg := 246) wi_271_242 ⟨by decide, by decide⟩ ?_
                exact hj246 _ h _ l0 l5
        ·
          refine sum_all ?_ ?_
          ·
            intro x61 h lv l0
            have h := wp_inl h
            refine rs_aldn wi_271_315 l0 ?_
            refine rs_pure wi_271_316 rfl ?_
            refine rs_topi (v := 41) (by decide) ?_
            refine rs_V wi_271_318 wc_271_114 rfl (dq_isa tf_145_0 wa_10_257) (Nat.le_trans (by decide) hF) (ml_le wm_257 (Nat.le_trans (by decide) hLo)) rfl (sp_257 hw (Nat.le_trans (by decide : 7 ≤ 10 - 1) (Nat.sub_le_sub_right hF 1)) (ml_sub wm_257 (Nat.le_trans (by decide : 104 ≤ 181 - 21) (Nat.sub_le_sub_right hLo 21))) (wp_bind h) (fun r62 h => rs_back0 ?_) (fun z63 h => rs_up wh0_271_318 whh_271 (hT z63 (wp_inr h))))
            have h := wp_inl h
            refine rs_aldn wi_271_321 l0 ?_
            refine rs_aldn wi_271_322 l0 ?_
            refine dq_gr wi_271_323 wf_271_19 tf_145_2 ?_
            refine rs_aldn wi_271_326 l0 ?_
            refine dq_gi wi_271_327 wf_271_285 tf_145_9 ?_
            refine rs_V wi_271_330 wc_271_309 rfl (dq_isa tf_114_0 wa_2_156) (Nat.le_trans (by decide) hF) (ml_le wm_156 (Nat.le_trans (by decide) hLo)) rfl (sp_156 (Nat.le_trans (by decide : 0 ≤ 10 - 1) (Nat.sub_le_sub_right hF 1)) (ml_sub wm_156 (Nat.le_trans (by decide : 0 ≤ 181 - 21) (Nat.sub_le_sub_right hLo 21))) (wp_bind h) (fun v64 h => rs_back1 ?_))
            refine rs_pure wi_271_333 rfl ?_
            refine rs_topi (v := 2) (by decide) ?_
            refine rs_V wi_271_334 wc_271_269 rfl (dq_isa tf_145_0 wa_10_273) (Nat.le_trans (by decide) hF) (ml_le wm_273 (Nat.le_trans (by decide) hLo)) rfl (sp_273 hw (Nat.le_trans (by decide : 9 ≤ 10 - 1) (Nat.sub_le_sub_right hF 1)) (ml_sub wm_273 (Nat.le_trans (by decide : 157 ≤ 181 - 24) (Nat.sub_le_sub_right hLo 24))) (wp_bind h) (fun r65 h => rs_back0 ?_) (fun z66 h => rs_up wh0_271_334 whh_271 (hT z66 (wp_inr h))))
            have h := wp_inl h
            refine rs_aldn wi_271_337 l0 ?_
            refine rs_pure wi_271_338 rfl ?_
            refine rs_topi (v := 123) (by decide) ?_
            refine rs_V wi_271_340 wc_271_114 rfl (dq_isa tf_145_0 wa_10_257) (Nat.le_trans (by decide) hF) (ml_le wm_257 (Nat.le_trans (by decide) hLo)) rfl (sp_257 hw (Nat.le_trans (by decide : 7 ≤ 10 - 1) (Nat.sub_le_sub_right hF 1)) (ml_sub wm_257 (Nat.le_trans (by decide : 104 ≤ 181 - 21) (Nat.sub_le_sub_right hLo 21))) (wp_bind h) (fun r67 h => rs_back0 ?_) (fun z68 h => rs_up wh0_271_340 whh_271 (hT z68 (wp_inr h))))
            have h := wp_inl h
            exact rs_vret wi_271_343 wr_271 (hQ r67 h)
          ·
            intro x69 h
            exact h
      refine rs_iceq (tg := 189) wi_271_182 ⟨by decide, by decide⟩ (fun q => ?_) (fun q => ?_)
      ·
        have h := wp_pos h q
        refine rs_pure wi_271_189 rfl ?_
        refine rs_topi (v := 0) (by decide) ?_
        exact hj190 _ h _ l0
      ·
        have h := wp_neg h q
        refine rs_pure wi_271_185 rfl ?_
        refine rs_topi (v := 1) (by decide) ?_
        refine rs_goto (tg := 190) wi_271_186 ⟨by decide, by decide⟩ ?_
        exact hj190 _ h _ l0
    refine rs_iclt (tg := 65) wi_271_58 ⟨by decide, by decide⟩ (fun q => ?_) (fun q => ?_)
    ·
      have h := wp_pos h q
      refine rs_pure wi_271_65 rfl ?_
      refine rs_topi (v := 0) (by decide) ?_
      exact hj66 _ h _ l0 l1
    ·
      have h := wp_neg h q
      refine rs_pure wi_271_61 rfl ?_
      refine rs_topi (v := 1) (by decide) ?_
      refine rs_goto (tg := 66) wi_271_62 ⟨by decide, by decide⟩ ?_
      exact hj66 _ h _ l0 l1
  refine rs_iflt (tg := 54) wi_271_47 ⟨by decide, by decide⟩ (fun q => ?_) (fun q => ?_)
  ·
    have h := wp_pos h q
    refine rs_pure wi_271_54 rfl ?_
    refine rs_topi (v := 0) (by decide) ?_
    exact hj55 _ h _ l0 l1
  ·
    have h := wp_neg h q
    refine rs_pure wi_271_50 rfl ?_
    refine rs_topi (v := 1) (by decide) ?_
    refine rs_goto (tg := 55) wi_271_51 ⟨by decide, by decide⟩ ?_
    exact hj55 _ h _ l0 l1
theorem wi_280_0 : ri (rt_P sc fm) 280 0 (.iload_n 0) (1) := ri_of (by decide +kernel) rfl
theorem wi_280_1 : ri (rt_P sc fm) 280 1 (.sipush 214) (4) := ri_of (by decide +kernel) rfl
theorem wi_280_11 : ri (rt_P sc fm) 280 11 (.if_icmp .gt 7) (14) := ri_of (by decide +kernel) rfl
theorem wi_280_14 : ri (rt_P sc fm) 280 14 (.iconst 1) (15) := ri_of (by decide +kernel) rfl
theorem wi_280_15 : ri (rt_P sc fm) 280 15 (.goto 4) (18) := ri_of (by decide +kernel) rfl
theorem wi_280_18 : ri (rt_P sc fm) 280 18 (.iconst 0) (19) := ri_of (by decide +kernel) rfl
theorem wi_280_19 : ri (rt_P sc fm) 280 19 (.ireturn) (20) := ri_of (by decide +kernel) rfl
theorem wi_280_4 : ri (rt_P sc fm) 280 4 (.if_icmp .lt 14) (7) := ri_of (by decide +kernel) rfl
theorem wi_280_7 : ri (rt_P sc fm) 280 7 (.iload_n 0) (8) := ri_of (by decide +kernel) rfl
theorem wi_280_8 : ri (rt_P sc fm) 280 8 (.sipush 230) (11) := ri_of (by decide +kernel) rfl
theorem wr_280 : rx_rt (rt_P sc fm) 280 = (some FieldType.boolean) := (by decide +kernel : rt_rt 280 = (some FieldType.boolean))
/-- MarkHouse$Reader.isActWord(I)Z -/
def d_280 (n : Nat) (a0 : Int32) : Option (Int32) :=
  jn (fun p1 : Int32 =>
    if nb p1 then
    some p1
    else none)
  (fun j19 =>
  jn (fun p3 : Unit =>
    j19 0)
  (fun j18 =>
  if a0 < 214 then
    j18 ()
  else
    if 230 < a0 then
      j18 ()
    else
      j19 1))
theorem sp_280 {F Lo n : Nat} {a0 : Int32} {L : List va_E} {K : Int32 → Prop} {Q : ((Option Value) ⊕ String) → List va_E → Prop} (hF : 0 ≤ F) (hLo : 0 ≤ Lo)  (h : wp (d_280 n a0) K) (hQ : ∀ r, K r → Q (.inl (some (.int r))) L) : rs (rt_P sc fm) 280 F Lo 0 [(0, .int a0)] [] L Q := by
  unfold d_280 at h
  obtain ⟨lv, elv⟩ : ∃ lv : rx_L, lv = [(0, .int a0)] := ⟨_, rfl⟩
  rw [← elv]
  have l0 : rx_ld lv 0 = some (.int a0) := by rw [elv]; rfl
  refine rs_ildn wi_280_0 l0 ?_
  refine rs_pure wi_280_1 rfl ?_
  refine rs_topi (v := 214) (by decide) ?_
  refine wp_jn (B := fun p1 : Int32 => ∀ lv, rs (rt_P sc fm) 280 F Lo 19 lv [.int p1] L Q) h (fun p1 h lv => ?_) (fun j19 hj19 h => ?_)
  ·
    obtain ⟨g2, h⟩ := wp_gd h
    exact rs_iret wi_280_19 wr_280 (nb_n g2) (hQ p1 h)
  refine wp_jn (B := fun p3 : Unit => ∀ lv, rs (rt_P sc fm) 280 F Lo 18 lv [] L Q) h (fun p3 h lv => ?_) (fun j18 hj18 h => ?_)
  ·
    refine rs_pure wi_280_18 rfl ?_
    refine rs_topi (v := 0) (by decide) ?_
    exact hj19 _ h _
  refine rs_iclt (tg := 18) wi_280_4 ⟨by decide, by decide⟩ (fun q => ?_) (fun q => ?_)
  ·
    have h := wp_pos h q
    exact hj18 _ h _
  ·
    have h := wp_neg h q
    refine rs_ildn wi_280_7 l0 ?_
    refine rs_pure wi_280_8 rfl ?_
    refine rs_topi (v := 230) (by decide) ?_
    refine rs_icgt (tg := 18) wi_280_11 ⟨by decide, by decide⟩ (fun q => ?_) (fun q => ?_)
    ·
      have h := wp_pos h q
      exact hj18 _ h _
    ·
      have h := wp_neg h q
      refine rs_pure wi_280_14 rfl ?_
      refine rs_topi (v := 1) (by decide) ?_
      refine rs_goto (tg := 19) wi_280_15 ⟨by decide, by decide⟩ ?_
      exact hj19 _ h _
end D44
