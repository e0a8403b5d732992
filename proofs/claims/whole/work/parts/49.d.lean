/-! THE CODE AS PURE PROGRAMS, 8: by wip/whole/dc.py -/
section D49
variable {sc : Nat × (Nat → Int32)} {fm : Value}
theorem wa_4_194 : rz_cn 4 (rx_yn (rt_P sc fm) 194).cls = true := (by decide +kernel : rz_cn 4 (rt_yn 194).cls = true)
theorem wc_193_190 : rx_ct (rt_P sc fm) 193 190 = some (0, 194, 0) := (by decide +kernel : rt_ct 193 190 = some (0, 194, 0))
theorem wi_193_0 : ri (rt_P sc fm) 193 0 (.iconst 0) (1) := ri_of (by decide +kernel) rfl
theorem wi_193_1 : ri (rt_P sc fm) 193 1 (.istore_n 1) (2) := ri_of (by decide +kernel) rfl
theorem wi_193_11 : ri (rt_P sc fm) 193 11 (.aload_n 0) (12) := ri_of (by decide +kernel) rfl
theorem wi_193_12 : ri (rt_P sc fm) 193 12 (.invokevirtual 190) (15) := ri_of (by decide +kernel) rfl
theorem wi_193_15 : ri (rt_P sc fm) 193 15 (.ifCond .eq 12) (18) := ri_of (by decide +kernel) rfl
theorem wi_193_18 : ri (rt_P sc fm) 193 18 (.iinc 1 1) (21) := ri_of (by decide +kernel) rfl
theorem wi_193_2 : ri (rt_P sc fm) 193 2 (.iconst 0) (3) := ri_of (by decide +kernel) rfl
theorem wi_193_21 : ri (rt_P sc fm) 193 21 (.iinc 2 1) (24) := ri_of (by decide +kernel) rfl
theorem wi_193_24 : ri (rt_P sc fm) 193 24 (.goto (-20)) (27) := ri_of (by decide +kernel) rfl
theorem wi_193_27 : ri (rt_P sc fm) 193 27 (.iload_n 1) (28) := ri_of (by decide +kernel) rfl
theorem wi_193_28 : ri (rt_P sc fm) 193 28 (.ireturn) (29) := ri_of (by decide +kernel) rfl
theorem wi_193_3 : ri (rt_P sc fm) 193 3 (.istore_n 2) (4) := ri_of (by decide +kernel) rfl
theorem wi_193_4 : ri (rt_P sc fm) 193 4 (.iload_n 2) (5) := ri_of (by decide +kernel) rfl
theorem wi_193_5 : ri (rt_P sc fm) 193 5 (.sipush 240) (8) := ri_of (by decide +kernel) rfl
theorem wi_193_8 : ri (rt_P sc fm) 193 8 (.if_icmp .ge 19) (11) := ri_of (by decide +kernel) rfl
theorem wm_194 : rx_ml (rt_P sc fm) 194 = 4 := (by decide +kernel : rt_ml 194 = 4)
theorem wr_193 : rx_rt (rt_P sc fm) 193 = (some FieldType.int) := (by decide +kernel : rt_rt 193 = (some FieldType.int))
/-- MarkHouse$Effects.makeRounds()I -/
def d_193 (n : Nat)  (c : cS) : Option (Int32 × cS) :=
  Option.bind (whl (R := (Int32 × cS)) (fun s3 : Int32 × Int32 × cS =>
    if 240 ≤ s3.2.1 then
      some (.inr (s3.1, s3.2.2))
    else
      Option.bind (d_194 n s3.2.2) (fun r4 =>
      if r4.1 = 0 then
        some (.inr (s3.1, r4.2))
      else
        lt (s3.1 + 1 : Int32) (fun v6 =>
        lt (s3.2.1 + 1 : Int32) (fun v9 =>
        some (.inl (v6, v9, r4.2)))))) n (0, 0, c))
  (fun x11 : Int32 × cS =>
    some (x11.1, x11.2))
theorem sp_193 {F Lo n : Nat}  {c y : cS} {w : cW} {K : Int32 × cS → Prop} {Q : ((Option Value) ⊕ String) → List va_E → Prop} (hw : rOK fm w) (hF : 5 ≤ F) (hLo : 123 ≤ Lo)  (h : wp (d_193 n  c) K) (hQ : ∀ r, K r → Q (.inl (some (.int r.1))) (hq true r.2 y w)) : rs (rt_P sc fm) 193 F Lo 0 [(0, .ref 146)] [] (hq true c y w) Q := by
  unfold d_193 at h
  obtain ⟨lv, elv⟩ : ∃ lv : rx_L, lv = [(0, .ref 146)] := ⟨_, rfl⟩
  rw [← elv]
  have l0 : rx_ld lv 0 = some (.ref 146) := by rw [elv]; rfl
  refine rs_pure wi_193_0 rfl ?_
  refine rs_topi (v := 0) (by decide) ?_
  refine dl_istn wi_193_1 rfl (fun lv l1 t1 => ?_)
  have l0 := t1 _ _ (by decide) (Or.inl rfl) l0
  refine rs_pure wi_193_2 rfl ?_
  refine rs_topi (v := 0) (by decide) ?_
  refine dl_istn wi_193_3 rfl (fun lv l2 t2 => ?_)
  have l0 := t2 _ _ (by decide) (Or.inl rfl) l0
  have l1 := t2 _ _ (by decide) (Or.inl rfl) l1
  refine whl_ex (A := fun s3 : Int32 × Int32 × cS => ∀ lv, rx_ld lv 0 = some (.ref 146) → rx_ld lv 1 = some (.int s3.1) → rx_ld lv 2 = some (.int s3.2.1) → rs (rt_P sc fm) 193 F Lo 4 lv [] (hq true s3.2.2 y w) Q) (B := (fun x11 : Int32 × cS => ∀ lv, rx_ld lv 1 = some (.int x11.1) → rs (rt_P sc fm) 193 F Lo 27 lv [] (hq true x11.2 y w) Q)) ?_ ?_ _ _ (wp_bind h) _ l0 l1 l2
  · intro s3 h lv l0 l1 l2
    refine rs_ildn wi_193_4 l2 ?_
    refine rs_pure wi_193_5 rfl ?_
    refine rs_topi (v := 240) (by decide) ?_
    refine rs_icge (tg := 27) wi_193_8 ⟨by decide, by decide⟩ (fun q => ?_) (fun q => ?_)
    ·
      have h := wp_pos h q
      exact h _ l1
    ·
      have h := wp_neg h q
      refine rs_aldn wi_193_11 l0 ?_
      refine rs_V wi_193_12 wc_193_190 rfl (dq_isa tf_146_0 wa_4_194) (Nat.le_trans (by decide) hF) (ml_le wm_194 (Nat.le_trans (by decide) hLo)) rfl (sp_194 hw (Nat.le_trans (by decide : 4 ≤ 5 - 1) (Nat.sub_le_sub_right hF 1)) (ml_sub wm_194 (Nat.le_trans (by decide : 100 ≤ 123 - 23) (Nat.sub_le_sub_right hLo 23))) (wp_bind h) (fun r4 h => rs_back1 ?_))
      refine rs_ifeq (tg := 27) wi_193_15 ⟨by decide, by decide⟩ (fun q => ?_) (fun q => ?_)
      ·
        have h := wp_pos h q
        exact h _ l1
      ·
        have h := wp_neg h q
        obtain ⟨v6, e7, h⟩ := wp_lt h
        refine dl_inc wi_193_18 l1 rfl e7 (fun lv l1 t5 => ?_)
        have l0 := t5 _ _ (by decide) (Or.inl rfl) l0
        have l2 := t5 _ _ (by decide) (Or.inl rfl) l2
        obtain ⟨v9, e10, h⟩ := wp_lt h
        refine dl_inc wi_193_21 l2 rfl e10 (fun lv l2 t8 => ?_)
        have l0 := t8 _ _ (by decide) (Or.inl rfl) l0
        have l1 := t8 _ _ (by decide) (Or.inl rfl) l1
        refine rs_goto (tg := 4) wi_193_24 ⟨by decide, by decide⟩ ?_
        exact h _ l0 l1 l2
  ·
    intro x11 h lv l1
    refine rs_ildn wi_193_27 l1 ?_
    exact rs_iret wi_193_28 wr_193 rfl (hQ (x11.1, x11.2) h)
theorem wa_4_193 : rz_cn 4 (rx_yn (rt_P sc fm) 193).cls = true := (by decide +kernel : rz_cn 4 (rt_yn 193).cls = true)
theorem wc_72_108 : rx_ct (rt_P sc fm) 72 108 = some (0, 90, 0) := (by decide +kernel : rt_ct 72 108 = some (0, 90, 0))
theorem wc_72_275 : rx_ct (rt_P sc fm) 72 275 = some (0, 193, 0) := (by decide +kernel : rt_ct 72 275 = some (0, 193, 0))
theorem wf_72_126 : rx_ft (rt_P sc fm) 72 126 = some (9, 0) := (by decide +kernel : rt_ft 72 126 = some (9, 0))
theorem wf_72_19 : rx_ft (rt_P sc fm) 72 19 = some (14, 1) := (by decide +kernel : rt_ft 72 19 = some (14, 1))
theorem wf_72_53 : rx_ft (rt_P sc fm) 72 53 = some (14, 5) := (by decide +kernel : rt_ft 72 53 = some (14, 5))
theorem wi_72_0 : ri (rt_P sc fm) 72 0 (.aload_n 0) (1) := ri_of (by decide +kernel) rfl
theorem wi_72_1 : ri (rt_P sc fm) 72 1 (.getfield 19) (4) := ri_of (by decide +kernel) rfl
theorem wi_72_10 : ri (rt_P sc fm) 72 10 (.iconst (-1)) (11) := ri_of (by decide +kernel) rfl
theorem wi_72_11 : ri (rt_P sc fm) 72 11 (.ireturn) (12) := ri_of (by decide +kernel) rfl
theorem wi_72_12 : ri (rt_P sc fm) 72 12 (.aload_n 0) (13) := ri_of (by decide +kernel) rfl
theorem wi_72_13 : ri (rt_P sc fm) 72 13 (.getfield 53) (16) := ri_of (by decide +kernel) rfl
theorem wi_72_16 : ri (rt_P sc fm) 72 16 (.invokevirtual 275) (19) := ri_of (by decide +kernel) rfl
theorem wi_72_19 : ri (rt_P sc fm) 72 19 (.istore_n 1) (20) := ri_of (by decide +kernel) rfl
theorem wi_72_20 : ri (rt_P sc fm) 72 20 (.aload_n 0) (21) := ri_of (by decide +kernel) rfl
theorem wi_72_21 : ri (rt_P sc fm) 72 21 (.invokevirtual 108) (24) := ri_of (by decide +kernel) rfl
theorem wi_72_24 : ri (rt_P sc fm) 72 24 (.iload_n 1) (25) := ri_of (by decide +kernel) rfl
theorem wi_72_25 : ri (rt_P sc fm) 72 25 (.ireturn) (26) := ri_of (by decide +kernel) rfl
theorem wi_72_4 : ri (rt_P sc fm) 72 4 (.getfield 126) (7) := ri_of (by decide +kernel) rfl
theorem wi_72_7 : ri (rt_P sc fm) 72 7 (.ifCond .ne 5) (10) := ri_of (by decide +kernel) rfl
theorem wm_193 : rx_ml (rt_P sc fm) 193 = 3 := (by decide +kernel : rt_ml 193 = 3)
theorem wr_72 : rx_rt (rt_P sc fm) 72 = (some FieldType.int) := (by decide +kernel : rt_rt 72 = (some FieldType.int))
/-- MarkHouse.rounds()I -/
def d_72 (n : Nat)  (c : cS) : Option (Int32 × cS) :=
  if (c.1 7 0) = 0 then
    some ((-1), c)
  else
    Option.bind (d_193 n c) (fun r1 =>
    Option.bind (d_90 n r1.2) (fun r3 =>
    some (r1.1, r3)))
theorem sp_72 {F Lo n : Nat}  {c y : cS} {w : cW} {K : Int32 × cS → Prop} {Q : ((Option Value) ⊕ String) → List va_E → Prop} (hw : rOK fm w) (hF : 6 ≤ F) (hLo : 145 ≤ Lo)  (h : wp (d_72 n  c) K) (hQ : ∀ r, K r → Q (.inl (some (.int r.1))) (hq true r.2 y w)) : rs (rt_P sc fm) 72 F Lo 0 [(0, .ref 0)] [] (hq true c y w) Q := by
  unfold d_72 at h
  obtain ⟨lv, elv⟩ : ∃ lv : rx_L, lv = [(0, .ref 0)] := ⟨_, rfl⟩
  rw [← elv]
  have l0 : rx_ld lv 0 = some (.ref 0) := by rw [elv]; rfl
  refine rs_aldn wi_72_0 l0 ?_
  refine dq_gr wi_72_1 wf_72_19 tf_0_1 ?_
  refine dq_gi wi_72_4 wf_72_126 tf_7_0 ?_
  refine rs_ifne (tg := 12) wi_72_7 ⟨by decide, by decide⟩ (fun q => ?_) (fun q => ?_)
  ·
    have h := wp_neg h q
    refine rs_aldn wi_72_12 l0 ?_
    refine dq_gr wi_72_13 wf_72_53 tf_0_5 ?_
    refine rs_V wi_72_16 wc_72_275 rfl (dq_isa tf_146_0 wa_4_193) (Nat.le_trans (by decide) hF) (ml_le wm_193 (Nat.le_trans (by decide) hLo)) rfl (sp_193 hw (Nat.le_trans (by decide : 5 ≤ 6 - 1) (Nat.sub_le_sub_right hF 1)) (ml_sub wm_193 (Nat.le_trans (by decide : 123 ≤ 145 - 22) (Nat.sub_le_sub_right hLo 22))) (wp_bind h) (fun r1 h => rs_back1 ?_))
    refine dl_istn wi_72_19 rfl (fun lv l1 t2 => ?_)
    have l0 := t2 _ _ (by decide) (Or.inl rfl) l0
    refine rs_aldn wi_72_20 l0 ?_
    refine rs_V wi_72_21 wc_72_108 rfl (dq_isa tf_0_0 wa_14_90) (Nat.le_trans (by decide) hF) (ml_le wm_90 (Nat.le_trans (by decide) hLo)) rfl (sp_90 hw (Nat.le_trans (by decide : 3 ≤ 6 - 1) (Nat.sub_le_sub_right hF 1)) (ml_sub wm_90 (Nat.le_trans (by decide : 66 ≤ 145 - 20) (Nat.sub_le_sub_right hLo 20))) (wp_bind h) (fun r3 h => rs_back0 ?_))
    refine rs_ildn wi_72_24 l1 ?_
    exact rs_iret wi_72_25 wr_72 rfl (hQ (r1.1, r3) h)
  ·
    have h := wp_pos h q
    refine rs_pure wi_72_10 rfl ?_
    refine rs_topi (v := (-1)) (by decide) ?_
    exact rs_iret wi_72_11 wr_72 rfl (hQ ((-1), c) h)
theorem wc_152_13 : rx_ct (rt_P sc fm) 152 13 = some (1, 151, 3) := (by decide +kernel : rt_ct 152 13 = some (1, 151, 3))
theorem wi_152_0 : ri (rt_P sc fm) 152 0 (.aload_n 0) (1) := ri_of (by decide +kernel) rfl
theorem wi_152_1 : ri (rt_P sc fm) 152 1 (.arraylength) (2) := ri_of (by decide +kernel) rfl
theorem wi_152_10 : ri (rt_P sc fm) 152 10 (.iload 5) (12) := ri_of (by decide +kernel) rfl
theorem wi_152_12 : ri (rt_P sc fm) 152 12 (.iload_n 2) (13) := ri_of (by decide +kernel) rfl
theorem wi_152_13 : ri (rt_P sc fm) 152 13 (.if_icmp .ge 14) (16) := ri_of (by decide +kernel) rfl
theorem wi_152_16 : ri (rt_P sc fm) 152 16 (.aload_n 0) (17) := ri_of (by decide +kernel) rfl
theorem wi_152_17 : ri (rt_P sc fm) 152 17 (.iload 5) (19) := ri_of (by decide +kernel) rfl
theorem wi_152_19 : ri (rt_P sc fm) 152 19 (.lload_n 3) (20) := ri_of (by decide +kernel) rfl
theorem wi_152_2 : ri (rt_P sc fm) 152 2 (.iload_n 1) (3) := ri_of (by decide +kernel) rfl
theorem wi_152_20 : ri (rt_P sc fm) 152 20 (.lastore) (21) := ri_of (by decide +kernel) rfl
theorem wi_152_21 : ri (rt_P sc fm) 152 21 (.iinc 5 1) (24) := ri_of (by decide +kernel) rfl
theorem wi_152_24 : ri (rt_P sc fm) 152 24 (.goto (-14)) (27) := ri_of (by decide +kernel) rfl
theorem wi_152_27 : ri (rt_P sc fm) 152 27 (.return_) (28) := ri_of (by decide +kernel) rfl
theorem wi_152_3 : ri (rt_P sc fm) 152 3 (.iload_n 2) (4) := ri_of (by decide +kernel) rfl
theorem wi_152_4 : ri (rt_P sc fm) 152 4 (.invokestatic 13) (7) := ri_of (by decide +kernel) rfl
theorem wi_152_7 : ri (rt_P sc fm) 152 7 (.iload_n 1) (8) := ri_of (by decide +kernel) rfl
theorem wi_152_8 : ri (rt_P sc fm) 152 8 (.istore 5) (10) := ri_of (by decide +kernel) rfl
theorem wr_152 : rx_rt (rt_P sc fm) 152 = none := (by decide +kernel : rt_rt 152 = none)
/-- java/util/Arrays.fill([JIIJ)V -/
def d_152 (n : Nat) (r0 : Nat) (nr0 : Nat) (a1 : Int32) (a2 : Int32) (a3 : Int64) (c : cS) : Option (cS) :=
  Option.bind (d_151 n (Int32.ofNat nr0) a1 a2) (fun v1 =>
  Option.bind (whl (R := (cS)) (fun s3 : Int32 × cS =>
    if a2 ≤ s3.1 then
      some (.inr s3.2)
    else
      if ib s3.1 nr0 then
      lt (pL s3.2 r0 (ix s3.1) a3) (fun c5 =>
      lt (s3.1 + 1 : Int32) (fun v8 =>
      some (.inl (v8, c5))))
      else none) n (a1, c))
  (fun x10 : cS =>
    some x10))
theorem sp_152 {F Lo n : Nat} {r0 : Nat} {nr0 : Nat} {a1 : Int32} {a2 : Int32} {a3 : Int64} {b : Bool} {c y : cS} {w : cW} {K : cS → Prop} {Q : ((Option Value) ⊕ String) → List va_E → Prop} (hw : rOK fm w) (hF : 1 ≤ F) (hLo : 22 ≤ Lo) (hr0 : ta b r0 1 nr0) (h : wp (d_152 n r0 nr0 a1 a2 a3 c) K) (hQ : ∀ r, K r → Q (.inl none) (hq b r y w)) : rs (rt_P sc fm) 152 F Lo 0 [(0, .ref r0), (1, .int a1), (2, .int a2), (3, .long a3)] [] (hq b c y w) Q := by
  unfold d_152 at h
  obtain ⟨lv, elv⟩ : ∃ lv : rx_L, lv = [(0, .ref r0), (1, .int a1), (2, .int a2), (3, .long a3)] := ⟨_, rfl⟩
  rw [← elv]
  have l0 : rx_ld lv 0 = some (.ref r0) := by rw [elv]; rfl
  have l1 : rx_ld lv 1 = some (.int a1) := by rw [elv]; rfl
  have l2 : rx_ld lv 2 = some (.int a2) := by rw [elv]; rfl
  have l3 : rx_ld lv 3 = some (.long a3) := by rw [elv]; rfl
  refine rs_aldn wi_152_0 l0 ?_
  refine dq_alen wi_152_1 (by decide) hr0 ?_
  refine rs_ildn wi_152_2 l1 ?_
  refine rs_ildn wi_152_3 l2 ?_
  refine rs_S wi_152_4 wc_152_13 (Or.inl rfl) rfl (Nat.le_trans (by decide) hF) (ml_le wm_151 (Nat.le_trans (by decide) hLo)) rfl (sp_151 (Nat.le_trans (by decide : 0 ≤ 1 - 1) (Nat.sub_le_sub_right hF 1)) (ml_sub wm_151 (Nat.le_trans (by decide : 0 ≤ 22 - 22) (Nat.sub_le_sub_right hLo 22))) (wp_bind h) (fun v1 h => rs_back0 ?_))
  refine rs_ildn wi_152_7 l1 ?_
  refine dl_ist wi_152_8 rfl (fun lv l5 t2 => ?_)
  have l0 := t2 _ _ (by decide) (Or.inl rfl) l0
  have l2 := t2 _ _ (by decide) (Or.inl rfl) l2
  have l3 := t2 _ _ (by decide) (Or.inr (by decide)) l3
  refine whl_ex (A := fun s3 : Int32 × cS => ∀ lv, rx_ld lv 0 = some (.ref r0) → rx_ld lv 2 = some (.int a2) → rx_ld lv 3 = some (.long a3) → rx_ld lv 5 = some (.int s3.1) → rs (rt_P sc fm) 152 F Lo 10 lv [] (hq b s3.2 y w) Q) (B := (fun x10 : cS => ∀ lv, rs (rt_P sc fm) 152 F Lo 27 lv [] (hq b x10 y w) Q)) ?_ ?_ _ _ (wp_bind h) _ l0 l2 l3 l5
  · intro s3 h lv l0 l2 l3 l5
    refine rs_ild wi_152_10 l5 ?_
    refine rs_ildn wi_152_12 l2 ?_
    refine rs_icge (tg := 27) wi_152_13 ⟨by decide, by decide⟩ (fun q => ?_) (fun q => ?_)
    ·
      have h := wp_pos h q
      exact h _
    ·
      have h := wp_neg h q
      refine rs_aldn wi_152_16 l0 ?_
      refine rs_ild wi_152_17 l5 ?_
      refine rs_lldn wi_152_19 l3 ?_
      obtain ⟨g4, h⟩ := wp_gd h
      obtain ⟨c5, e6, h⟩ := wp_lt h
      refine dq_last wi_152_20 hr0 g4 e6 ?_
      obtain ⟨v8, e9, h⟩ := wp_lt h
      refine dl_inc wi_152_21 l5 rfl e9 (fun lv l5 t7 => ?_)
      have l0 := t7 _ _ (by decide) (Or.inl rfl) l0
      have l2 := t7 _ _ (by decide) (Or.inl rfl) l2
      have l3 := t7 _ _ (by decide) (Or.inr (by decide)) l3
      refine rs_goto (tg := 10) wi_152_24 ⟨by decide, by decide⟩ ?_
      exact h _ l0 l2 l3 l5
  ·
    intro x10 h lv
    exact rs_vret wi_152_27 wr_152 (hQ x10 h)
theorem tf_150_1 : fo true 150 5 1 (.ref 114) := ⟨_, rfl, rfl, by decide, by decide⟩
theorem tf_150_2 : fo true 150 5 2 (.ref 146) := ⟨_, rfl, rfl, by decide, by decide⟩
theorem wc_198_122 : rx_ct (rt_P sc fm) 198 122 = some (0, 156, 1) := (by decide +kernel : rt_ct 198 122 = some (0, 156, 1))
theorem wc_198_126 : rx_ct (rt_P sc fm) 198 126 = some (0, 190, 2) := (by decide +kernel : rt_ct 198 126 = some (0, 190, 2))
theorem wc_198_132 : rx_ct (rt_P sc fm) 198 132 = some (11, 356, 3) := (by decide +kernel : rt_ct 198 132 = some (11, 356, 3))
theorem wf_198_105 : rx_ft (rt_P sc fm) 198 105 = some (2, 3) := (by decide +kernel : rt_ft 198 105 = some (2, 3))
theorem wf_198_108 : rx_ft (rt_P sc fm) 198 108 = some (9, 1) := (by decide +kernel : rt_ft 198 108 = some (9, 1))
theorem wf_198_114 : rx_ft (rt_P sc fm) 198 114 = some (8, 3) := (by decide +kernel : rt_ft 198 114 = some (8, 3))
theorem wf_198_119 : rx_ft (rt_P sc fm) 198 119 = some (2, 2) := (by decide +kernel : rt_ft 198 119 = some (2, 2))
theorem wf_198_41 : rx_ft (rt_P sc fm) 198 41 = some (5, 0) := (by decide +kernel : rt_ft 198 41 = some (5, 0))
theorem wf_198_45 : rx_ft (rt_P sc fm) 198 45 = some (5, 1) := (by decide +kernel : rt_ft 198 45 = some (5, 1))
theorem wf_198_49 : rx_ft (rt_P sc fm) 198 49 = some (5, 2) := (by decide +kernel : rt_ft 198 49 = some (5, 2))
theorem wf_198_9 : rx_ft (rt_P sc fm) 198 9 = some (5, 3) := (by decide +kernel : rt_ft 198 9 = some (5, 3))
theorem wi_198_0 : ri (rt_P sc fm) 198 0 (.lconst 0) (1) := ri_of (by decide +kernel) rfl
theorem wi_198_1 : ri (rt_P sc fm) 198 1 (.lstore_n 2) (2) := ri_of (by decide +kernel) rfl
theorem wi_198_11 : ri (rt_P sc fm) 198 11 (.getfield 105) (14) := ri_of (by decide +kernel) rfl
theorem wi_198_14 : ri (rt_P sc fm) 198 14 (.iload_n 1) (15) := ri_of (by decide +kernel) rfl
theorem wi_198_15 : ri (rt_P sc fm) 198 15 (.iaload) (16) := ri_of (by decide +kernel) rfl
theorem wi_198_16 : ri (rt_P sc fm) 198 16 (.if_icmp .ge 75) (19) := ri_of (by decide +kernel) rfl
theorem wi_198_19 : ri (rt_P sc fm) 198 19 (.aload_n 0) (20) := ri_of (by decide +kernel) rfl
theorem wi_198_2 : ri (rt_P sc fm) 198 2 (.iconst 0) (3) := ri_of (by decide +kernel) rfl
theorem wi_198_20 : ri (rt_P sc fm) 198 20 (.getfield 41) (23) := ri_of (by decide +kernel) rfl
theorem wi_198_23 : ri (rt_P sc fm) 198 23 (.getfield 108) (26) := ri_of (by decide +kernel) rfl
theorem wi_198_26 : ri (rt_P sc fm) 198 26 (.aload_n 0) (27) := ri_of (by decide +kernel) rfl
theorem wi_198_27 : ri (rt_P sc fm) 198 27 (.getfield 9) (30) := ri_of (by decide +kernel) rfl
theorem wi_198_3 : ri (rt_P sc fm) 198 3 (.istore 4) (5) := ri_of (by decide +kernel) rfl
theorem wi_198_30 : ri (rt_P sc fm) 198 30 (.aaload) (31) := ri_of (by decide +kernel) rfl
theorem wi_198_31 : ri (rt_P sc fm) 198 31 (.getfield 114) (34) := ri_of (by decide +kernel) rfl
theorem wi_198_34 : ri (rt_P sc fm) 198 34 (.istore 5) (36) := ri_of (by decide +kernel) rfl
theorem wi_198_36 : ri (rt_P sc fm) 198 36 (.iload 4) (38) := ri_of (by decide +kernel) rfl
theorem wi_198_38 : ri (rt_P sc fm) 198 38 (.aload_n 0) (39) := ri_of (by decide +kernel) rfl
theorem wi_198_39 : ri (rt_P sc fm) 198 39 (.getfield 45) (42) := ri_of (by decide +kernel) rfl
theorem wi_198_42 : ri (rt_P sc fm) 198 42 (.getfield 119) (45) := ri_of (by decide +kernel) rfl
theorem wi_198_45 : ri (rt_P sc fm) 198 45 (.iload_n 1) (46) := ri_of (by decide +kernel) rfl
theorem wi_198_46 : ri (rt_P sc fm) 198 46 (.iaload) (47) := ri_of (by decide +kernel) rfl
theorem wi_198_47 : ri (rt_P sc fm) 198 47 (.if_icmp .ge 29) (50) := ri_of (by decide +kernel) rfl
theorem wi_198_5 : ri (rt_P sc fm) 198 5 (.iload 4) (7) := ri_of (by decide +kernel) rfl
theorem wi_198_50 : ri (rt_P sc fm) 198 50 (.aload_n 0) (51) := ri_of (by decide +kernel) rfl
theorem wi_198_51 : ri (rt_P sc fm) 198 51 (.getfield 49) (54) := ri_of (by decide +kernel) rfl
theorem wi_198_54 : ri (rt_P sc fm) 198 54 (.aload_n 0) (55) := ri_of (by decide +kernel) rfl
theorem wi_198_55 : ri (rt_P sc fm) 198 55 (.getfield 45) (58) := ri_of (by decide +kernel) rfl
theorem wi_198_58 : ri (rt_P sc fm) 198 58 (.iload_n 1) (59) := ri_of (by decide +kernel) rfl
theorem wi_198_59 : ri (rt_P sc fm) 198 59 (.invokevirtual 122) (62) := ri_of (by decide +kernel) rfl
theorem wi_198_62 : ri (rt_P sc fm) 198 62 (.iconst 1) (63) := ri_of (by decide +kernel) rfl
theorem wi_198_63 : ri (rt_P sc fm) 198 63 (.iadd) (64) := ri_of (by decide +kernel) rfl
theorem wi_198_64 : ri (rt_P sc fm) 198 64 (.iload 4) (66) := ri_of (by decide +kernel) rfl
theorem wi_198_66 : ri (rt_P sc fm) 198 66 (.iadd) (67) := ri_of (by decide +kernel) rfl
theorem wi_198_67 : ri (rt_P sc fm) 198 67 (.aload_n 0) (68) := ri_of (by decide +kernel) rfl
theorem wi_198_68 : ri (rt_P sc fm) 198 68 (.getfield 9) (71) := ri_of (by decide +kernel) rfl
theorem wi_198_7 : ri (rt_P sc fm) 198 7 (.aload_n 0) (8) := ri_of (by decide +kernel) rfl
theorem wi_198_71 : ri (rt_P sc fm) 198 71 (.invokevirtual 126) (74) := ri_of (by decide +kernel) rfl
theorem wi_198_74 : ri (rt_P sc fm) 198 74 (.istore 5) (76) := ri_of (by decide +kernel) rfl
theorem wi_198_76 : ri (rt_P sc fm) 198 76 (.lload_n 2) (77) := ri_of (by decide +kernel) rfl
theorem wi_198_77 : ri (rt_P sc fm) 198 77 (.iload 4) (79) := ri_of (by decide +kernel) rfl
theorem wi_198_79 : ri (rt_P sc fm) 198 79 (.iload 5) (81) := ri_of (by decide +kernel) rfl
theorem wi_198_8 : ri (rt_P sc fm) 198 8 (.getfield 45) (11) := ri_of (by decide +kernel) rfl
theorem wi_198_81 : ri (rt_P sc fm) 198 81 (.invokestatic 132) (84) := ri_of (by decide +kernel) rfl
theorem wi_198_84 : ri (rt_P sc fm) 198 84 (.lstore_n 2) (85) := ri_of (by decide +kernel) rfl
theorem wi_198_85 : ri (rt_P sc fm) 198 85 (.iinc 4 1) (88) := ri_of (by decide +kernel) rfl
theorem wi_198_88 : ri (rt_P sc fm) 198 88 (.goto (-83)) (91) := ri_of (by decide +kernel) rfl
theorem wi_198_91 : ri (rt_P sc fm) 198 91 (.lload_n 2) (92) := ri_of (by decide +kernel) rfl
theorem wi_198_92 : ri (rt_P sc fm) 198 92 (.lreturn) (93) := ri_of (by decide +kernel) rfl
theorem wr_198 : rx_rt (rt_P sc fm) 198 = (some FieldType.long) := (by decide +kernel : rt_rt 198 = (some FieldType.long))
/-- MarkHouse$Flow.entry(I)J -/
def d_198 (n : Nat) (a1 : Int32) (c : cS) : Option (Int64) :=
  Option.bind (whl (R := (Int64)) (fun s3 : Int64 × Int32 =>
    if ib a1 96 then
    if (c.1 117 (ix a1)) ≤ s3.2 then
      some (.inr s3.1)
    else
      if ib (c.1 150 3) 4 then
      lt ((c.1 (oA (ix (c.1 150 3))) 3) : Int32) (fun v7 =>
      if ib a1 96 then
      jn (fun p10 : Int32 =>
        Option.bind (d_356 n s3.1 s3.2 p10) (fun v11 =>
        lt (s3.2 + 1 : Int32) (fun v14 =>
        some (.inl (v11, v14)))))
      (fun j76 =>
      if (c.1 116 (ix a1)) ≤ s3.2 then
        j76 v7
      else
        Option.bind (d_156 n a1) (fun v16 =>
        Option.bind (d_190 n ((v16 + 1) + s3.2) (c.1 150 3) c) (fun v17 =>
        j76 v17)))
      else none)
      else none
    else none) n (0, 0))
  (fun x19 : Int64 =>
    some x19)
theorem sp_198 {F Lo n : Nat} {a1 : Int32} {c y : cS} {w : cW} {K : Int64 → Prop} {Q : ((Option Value) ⊕ String) → List va_E → Prop} (hw : rOK fm w) (hF : 1 ≤ F) (hLo : 23 ≤ Lo)  (h : wp (d_198 n a1 c) K) (hQ : ∀ r, K r → Q (.inl (some (.long r))) (hq true c y w)) : rs (rt_P sc fm) 198 F Lo 0 [(0, .ref 150), (1, .int a1)] [] (hq true c y w) Q := by
  unfold d_198 at h
  obtain ⟨lv, elv⟩ : ∃ lv : rx_L, lv = [(0, .ref 150), (1, .int a1)] := ⟨_, rfl⟩
  rw [← elv]
  have l0 : rx_ld lv 0 = some (.ref 150) := by rw [elv]; rfl
  have l1 : rx_ld lv 1 = some (.int a1) := by rw [elv]; rfl
  refine rs_pure wi_198_0 rfl ?_
  refine rs_topl (v := 0) (by decide) ?_
  refine dl_lstn wi_198_1 rfl (fun lv l2 t1 => ?_)
  have l0 := t1 _ _ (by decide) (by decide) (Or.inl rfl) l0
  have l1 := t1 _ _ (by decide) (by decide) (Or.inl rfl) l1
  refine rs_pure wi_198_2 rfl ?_
  refine rs_topi (v := 0) (by decide) ?_
  refine dl_ist wi_198_3 rfl (fun lv l4 t2 => ?_)
  have l0 := t2 _ _ (by decide) (Or.inl rfl) l0
  have l1 := t2 _ _ (by decide) (Or.inl rfl) l1
  have l2 := t2 _ _ (by decide) (Or.inr (by decide)) l2
  refine whl_ex (A := fun s3 : Int64 × Int32 => ∀ lv, rx_ld lv 0 = some (.ref 150) → rx_ld lv 1 = some (.int a1) → rx_ld lv 2 = some (.long s3.1) → rx_ld lv 4 = some (.int s3.2) → rs (rt_P sc fm) 198 F Lo 5 lv [] (hq true c y w) Q) (B := (fun x19 : Int64 => ∀ lv, rx_ld lv 2 = some (.long x19) → rs (rt_P sc fm) 198 F Lo 91 lv [] (hq true c y w) Q)) ?_ ?_ _ _ (wp_bind h) _ l0 l1 l2 l4
  · intro s3 h lv l0 l1 l2 l4
    refine rs_ild wi_198_5 l4 ?_
    refine rs_aldn wi_198_7 l0 ?_
    refine dq_gr wi_198_8 wf_198_45 tf_150_1 ?_
    refine dq_gr wi_198_11 wf_198_105 tf_114_3 ?_
    refine rs_ildn wi_198_14 l1 ?_
    obtain ⟨g4, h⟩ := wp_gd h
    refine dq_iald wi_198_15 t_117 g4 ?_
    refine rs_icge (tg := 91) wi_198_16 ⟨by decide, by decide⟩ (fun q => ?_) (fun q => ?_)
    ·
      have h := wp_pos h q
      exact h _ l2
    ·
      have h := wp_neg h q
      refine rs_aldn wi_198_19 l0 ?_
      refine dq_gr wi_198_20 wf_198_41 tf_150_0 ?_
      refine dq_gr wi_198_23 wf_198_108 tf_7_1 ?_
      refine rs_aldn wi_198_26 l0 ?_
      refine dq_gi wi_198_27 wf_198_9 tf_150_3 ?_
      obtain ⟨g5, h⟩ := wp_gd h
      refine dq_aald wi_198_30 (by decide) t_8 g5 (hw.1 _ (ib_lt g5)) ?_
      refine dq_gi wi_198_31 wf_198_114 (fO_3 (ib_lt g5)) ?_
      obtain ⟨v7, e8, h⟩ := wp_lt h
      refine rs_topi e8 ?_
      refine dl_ist wi_198_34 rfl (fun lv l5 t6 => ?_)
      have l0 := t6 _ _ (by decide) (Or.inl rfl) l0
      have l1 := t6 _ _ (by decide) (Or.inl rfl) l1
      have l2 := t6 _ _ (by decide) (Or.inr (by decide)) l2
      have l4 := t6 _ _ (by decide) (Or.inl rfl) l4
      refine rs_ild wi_198_36 l4 ?_
      refine rs_aldn wi_198_38 l0 ?_
      refine dq_gr wi_198_39 wf_198_45 tf_150_1 ?_
      refine dq_gr wi_198_42 wf_198_119 tf_114_2 ?_
      refine rs_ildn wi_198_45 l1 ?_
      obtain ⟨g9, h⟩ := wp_gd h
      refine dq_iald wi_198_46 t_116 g9 ?_
      refine wp_jn (B := fun p10 : Int32 => ∀ lv, rx_ld lv 0 = some (.ref 150) → rx_ld lv 1 = some (.int a1) → rx_ld lv 2 = some (.long s3.1) → rx_ld lv 4 = some (.int s3.2) → rx_ld lv 5 = some (.int p10) → rs (rt_P sc fm) 198 F Lo 76 lv [] (hq true c y w) Q) h (fun p10 h lv l0 l1 l2 l4 l5 => ?_) (fun j76 hj76 h => ?_)
      ·
        refine rs_lldn wi_198_76 l2 ?_
        refine rs_ild wi_198_77 l4 ?_
        refine rs_ild wi_198_79 l5 ?_
        refine rs_SN wi_198_81 wc_198_132 rfl (Nat.le_trans (by decide) hF) (ml_le wm_356 (Nat.le_trans (by decide) hLo)) rfl (sp_356 (Nat.le_trans (by decide : 0 ≤ 1 - 1) (Nat.sub_le_sub_right hF 1)) (ml_sub wm_356 (Nat.le_trans (by decide : 0 ≤ 23 - 23) (Nat.sub_le_sub_right hLo 23))) (wp_bind h) (fun v11 h => rs_back1 ?_))
        refine dl_lstn wi_198_84 rfl (fun lv l2 t12 => ?_)
        have l0 := t12 _ _ (by decide) (by decide) (Or.inl rfl) l0
        have l1 := t12 _ _ (by decide) (by decide) (Or.inl rfl) l1
        have l4 := t12 _ _ (by decide) (by decide) (Or.inl rfl) l4
        obtain ⟨v14, e15, h⟩ := wp_lt h
        refine dl_inc wi_198_85 l4 rfl e15 (fun lv l4 t13 => ?_)
        have l0 := t13 _ _ (by decide) (Or.inl rfl) l0
        have l1 := t13 _ _ (by decide) (Or.inl rfl) l1
        have l2 := t13 _ _ (by decide) (Or.inr (by decide)) l2
        refine rs_goto (tg := 5) wi_198_88 ⟨by decide, by decide⟩ ?_
        exact h _ l0 l1 l2 l4
      refine rs_icge (tg := 76) wi_198_47 ⟨by decide, by decide⟩ (fun q => ?_) (fun q => ?_)
      ·
        have h := wp_pos h q
        exact hj76 _ h _ l0 l1 l2 l4 l5
      ·
        have h := wp_neg h q
        refine rs_aldn wi_198_50 l0 ?_
        refine dq_gr wi_198_51 wf_198_49 tf_150_2 ?_
        refine rs_aldn wi_198_54 l0 ?_
        refine dq_gr wi_198_55 wf_198_45 tf_150_1 ?_
        refine rs_ildn wi_198_58 l1 ?_
        refine rs_V wi_198_59 wc_198_122 rfl (dq_isa tf_114_0 wa_2_156) (Nat.le_trans (by decide) hF) (ml_le wm_156 (Nat.le_trans (by decide) hLo)) rfl (sp_156 (Nat.le_trans (by decide : 0 ≤ 1 - 1) (Nat.sub_le_sub_right hF 1)) (ml_sub wm_156 (Nat.le_trans (by decide : 0 ≤ 23 - 21) (Nat.sub_le_sub_right hLo 21))) (wp_bind h) (fun v16 h => rs_back1 ?_))
        refine rs_pure wi_198_62 rfl ?_
        refine rs_topi (v := 1) (by decide) ?_
        refine rs_pure wi_198_63 rfl ?_
        refine rs_ild wi_198_64 l4 ?_
        refine rs_pure wi_198_66 rfl ?_
        refine rs_aldn wi_198_67 l0 ?_
        refine dq_gi wi_198_68 wf_198_9 tf_150_3 ?_
        refine rs_V wi_198_71 wc_198_126 rfl (dq_isa tf_146_0 wa_4_190) (Nat.le_trans (by decide) hF) (ml_le wm_190 (Nat.le_trans (by decide) hLo)) rfl (sp_190 hw (Nat.le_trans (by decide : 0 ≤ 1 - 1) (Nat.sub_le_sub_right hF 1)) (ml_sub wm_190 (Nat.le_trans (by decide : 0 ≤ 23 - 23) (Nat.sub_le_sub_right hLo 23))) (wp_bind h) (fun v17 h => rs_back1 ?_))
        refine dl_ist wi_198_74 rfl (fun lv l5 t18 => ?_)
        have l0 := t18 _ _ (by decide) (Or.inl rfl) l0
        have l1 := t18 _ _ (by decide) (Or.inl rfl) l1
        have l2 := t18 _ _ (by decide) (Or.inr (by decide)) l2
        have l4 := t18 _ _ (by decide) (Or.inl rfl) l4
        exact hj76 _ h _ l0 l1 l2 l4 l5
  ·
    intro x19 h lv l2
    refine rs_lldn wi_198_91 l2 ?_
    exact rs_lret wi_198_92 wr_198 (hQ x19 h)
theorem wi_355_0 : ri (rt_P sc fm) 355 0 (.lload_n 0) (1) := ri_of (by decide +kernel) rfl
theorem wi_355_1 : ri (rt_P sc fm) 355 1 (.iconst 4) (2) := ri_of (by decide +kernel) rfl
theorem wi_355_2 : ri (rt_P sc fm) 355 2 (.iload_n 2) (3) := ri_of (by decide +kernel) rfl
theorem wi_355_3 : ri (rt_P sc fm) 355 3 (.imul) (4) := ri_of (by decide +kernel) rfl
theorem wi_355_4 : ri (rt_P sc fm) 355 4 (.lushr) (5) := ri_of (by decide +kernel) rfl
theorem wi_355_5 : ri (rt_P sc fm) 355 5 (.l2i) (6) := ri_of (by decide +kernel) rfl
theorem wi_355_6 : ri (rt_P sc fm) 355 6 (.bipush 15) (8) := ri_of (by decide +kernel) rfl
theorem wi_355_8 : ri (rt_P sc fm) 355 8 (.iand) (9) := ri_of (by decide +kernel) rfl
theorem wi_355_9 : ri (rt_P sc fm) 355 9 (.ireturn) (10) := ri_of (by decide +kernel) rfl
theorem wr_355 : rx_rt (rt_P sc fm) 355 = (some FieldType.int) := (by decide +kernel : rt_rt 355 = (some FieldType.int))
/-- MarkHouse.nibble(JI)I -/
def d_355 (n : Nat) (a0 : Int64) (a2 : Int32) : Option (Int32) :=
  some ((((a0 : Int64).toUInt64 >>> (((4 * a2) : Int32).toInt64.toUInt64 &&& Int64.toUInt64 63)).toInt64 : Int64).toInt32 &&& 15)
theorem sp_355 {F Lo n : Nat} {a0 : Int64} {a2 : Int32} {L : List va_E} {K : Int32 → Prop} {Q : ((Option Value) ⊕ String) → List va_E → Prop} (hF : 0 ≤ F) (hLo : 0 ≤ Lo)  (h : wp (d_355 n a0 a2) K) (hQ : ∀ r, K r → Q (.inl (some (.int r))) L) : rs (rt_P sc fm) 355 F Lo 0 [(0, .long a0), (2, .int a2)] [] L Q := by
  unfold d_355 at h
  obtain ⟨lv, elv⟩ : ∃ lv : rx_L, lv = [(0, .long a0), (2, .int a2)] := ⟨_, rfl⟩
  rw [← elv]
  have l0 : rx_ld lv 0 = some (.long a0) := by rw [elv]; rfl
  have l2 : rx_ld lv 2 = some (.int a2) := by rw [elv]; rfl
  refine rs_lldn wi_355_0 l0 ?_
  refine rs_pure wi_355_1 rfl ?_
  refine rs_topi (v := 4) (by decide) ?_
  refine rs_ildn wi_355_2 l2 ?_
  refine rs_pure wi_355_3 rfl ?_
  refine rs_pure wi_355_4 rfl ?_
  refine rs_pure wi_355_5 rfl ?_
  refine rs_pure wi_355_6 rfl ?_
  refine rs_topi (v := 15) (by decide) ?_
  refine rs_pure wi_355_8 rfl ?_
  exact rs_iret wi_355_9 wr_355 rfl (hQ ((((a0 : Int64).toUInt64 >>> (((4 * a2) : Int32).toInt64.toUInt64 &&& Int64.toUInt64 63)).toInt64 : Int64).toInt32 &&& 15) h)
theorem wc_203_126 : rx_ct (rt_P sc fm) 203 126 = some (0, 190, 2) := (by decide +kernel : rt_ct 203 126 = some (0, 190, 2))
theorem wc_203_132 : rx_ct (rt_P sc fm) 203 132 = some (11, 356, 3) := (by decide +kernel : rt_ct 203 132 = some (11, 356, 3))
theorem wf_203_170 : rx_ft (rt_P sc fm) 203 170 = some (2, 10) := (by decide +kernel : rt_ft 203 170 = some (2, 10))
theorem wf_203_173 : rx_ft (rt_P sc fm) 203 173 = some (2, 9) := (by decide +kernel : rt_ft 203 173 = some (2, 9))
theorem wf_203_45 : rx_ft (rt_P sc fm) 203 45 = some (5, 1) := (by decide +kernel : rt_ft 203 45 = some (5, 1))
theorem wf_203_49 : rx_ft (rt_P sc fm) 203 49 = some (5, 2) := (by decide +kernel : rt_ft 203 49 = some (5, 2))
theorem wf_203_9 : rx_ft (rt_P sc fm) 203 9 = some (5, 3) := (by decide +kernel : rt_ft 203 9 = some (5, 3))
theorem wi_203_0 : ri (rt_P sc fm) 203 0 (.iload 4) (2) := ri_of (by decide +kernel) rfl
theorem wi_203_11 : ri (rt_P sc fm) 203 11 (.iload_n 1) (12) := ri_of (by decide +kernel) rfl
theorem wi_203_12 : ri (rt_P sc fm) 203 12 (.iaload) (13) := ri_of (by decide +kernel) rfl
theorem wi_203_13 : ri (rt_P sc fm) 203 13 (.isub) (14) := ri_of (by decide +kernel) rfl
theorem wi_203_14 : ri (rt_P sc fm) 203 14 (.istore 5) (16) := ri_of (by decide +kernel) rfl
theorem wi_203_16 : ri (rt_P sc fm) 203 16 (.lload_n 2) (17) := ri_of (by decide +kernel) rfl
theorem wi_203_17 : ri (rt_P sc fm) 203 17 (.lstore 6) (19) := ri_of (by decide +kernel) rfl
theorem wi_203_19 : ri (rt_P sc fm) 203 19 (.iload 5) (21) := ri_of (by decide +kernel) rfl
theorem wi_203_2 : ri (rt_P sc fm) 203 2 (.iconst 1) (3) := ri_of (by decide +kernel) rfl
theorem wi_203_21 : ri (rt_P sc fm) 203 21 (.istore 8) (23) := ri_of (by decide +kernel) rfl
theorem wi_203_23 : ri (rt_P sc fm) 203 23 (.iload 8) (25) := ri_of (by decide +kernel) rfl
theorem wi_203_25 : ri (rt_P sc fm) 203 25 (.iload 4) (27) := ri_of (by decide +kernel) rfl
theorem wi_203_27 : ri (rt_P sc fm) 203 27 (.if_icmp .gt 19) (30) := ri_of (by decide +kernel) rfl
theorem wi_203_3 : ri (rt_P sc fm) 203 3 (.iadd) (4) := ri_of (by decide +kernel) rfl
theorem wi_203_30 : ri (rt_P sc fm) 203 30 (.lload 6) (32) := ri_of (by decide +kernel) rfl
theorem wi_203_32 : ri (rt_P sc fm) 203 32 (.iload 8) (34) := ri_of (by decide +kernel) rfl
theorem wi_203_34 : ri (rt_P sc fm) 203 34 (.iconst 0) (35) := ri_of (by decide +kernel) rfl
theorem wi_203_35 : ri (rt_P sc fm) 203 35 (.invokestatic 132) (38) := ri_of (by decide +kernel) rfl
theorem wi_203_38 : ri (rt_P sc fm) 203 38 (.lstore 6) (40) := ri_of (by decide +kernel) rfl
theorem wi_203_4 : ri (rt_P sc fm) 203 4 (.aload_n 0) (5) := ri_of (by decide +kernel) rfl
theorem wi_203_40 : ri (rt_P sc fm) 203 40 (.iinc 8 1) (43) := ri_of (by decide +kernel) rfl
theorem wi_203_43 : ri (rt_P sc fm) 203 43 (.goto (-20)) (46) := ri_of (by decide +kernel) rfl
theorem wi_203_46 : ri (rt_P sc fm) 203 46 (.lload 6) (48) := ri_of (by decide +kernel) rfl
theorem wi_203_48 : ri (rt_P sc fm) 203 48 (.iload 5) (50) := ri_of (by decide +kernel) rfl
theorem wi_203_5 : ri (rt_P sc fm) 203 5 (.getfield 45) (8) := ri_of (by decide +kernel) rfl
theorem wi_203_50 : ri (rt_P sc fm) 203 50 (.aload_n 0) (51) := ri_of (by decide +kernel) rfl
theorem wi_203_51 : ri (rt_P sc fm) 203 51 (.getfield 49) (54) := ri_of (by decide +kernel) rfl
theorem wi_203_54 : ri (rt_P sc fm) 203 54 (.aload_n 0) (55) := ri_of (by decide +kernel) rfl
theorem wi_203_55 : ri (rt_P sc fm) 203 55 (.getfield 45) (58) := ri_of (by decide +kernel) rfl
theorem wi_203_58 : ri (rt_P sc fm) 203 58 (.getfield 170) (61) := ri_of (by decide +kernel) rfl
theorem wi_203_61 : ri (rt_P sc fm) 203 61 (.iload_n 1) (62) := ri_of (by decide +kernel) rfl
theorem wi_203_62 : ri (rt_P sc fm) 203 62 (.iaload) (63) := ri_of (by decide +kernel) rfl
theorem wi_203_63 : ri (rt_P sc fm) 203 63 (.aload_n 0) (64) := ri_of (by decide +kernel) rfl
theorem wi_203_64 : ri (rt_P sc fm) 203 64 (.getfield 9) (67) := ri_of (by decide +kernel) rfl
theorem wi_203_67 : ri (rt_P sc fm) 203 67 (.invokevirtual 126) (70) := ri_of (by decide +kernel) rfl
theorem wi_203_70 : ri (rt_P sc fm) 203 70 (.invokestatic 132) (73) := ri_of (by decide +kernel) rfl
theorem wi_203_73 : ri (rt_P sc fm) 203 73 (.lreturn) (74) := ri_of (by decide +kernel) rfl
theorem wi_203_8 : ri (rt_P sc fm) 203 8 (.getfield 173) (11) := ri_of (by decide +kernel) rfl
theorem wr_203 : rx_rt (rt_P sc fm) 203 = (some FieldType.long) := (by decide +kernel : rt_rt 203 = (some FieldType.long))
/-- MarkHouse$Flow.behindCall(IJI)J -/
def d_203 (n : Nat) (a1 : Int32) (a2 : Int64) (a4 : Int32) (c : cS) : Option (Int64) :=
  if ib a1 1024 then
  lt (((a4 + 1) - (c.1 122 (ix a1))) : Int32) (fun v3 =>
  Option.bind (whl (R := (Int64)) (fun s7 : Int64 × Int32 =>
    if a4 < s7.2 then
      some (.inr s7.1)
    else
      Option.bind (d_356 n s7.1 s7.2 0) (fun v8 =>
      lt (s7.2 + 1 : Int32) (fun v11 =>
      some (.inl (v8, v11))))) n (a2, v3))
  (fun x13 : Int64 =>
    if ib a1 1024 then
    Option.bind (d_190 n (c.1 123 (ix a1)) (c.1 150 3) c) (fun v15 =>
    Option.bind (d_356 n x13 v3 v15) (fun v16 =>
    some v16))
    else none))
  else none
theorem sp_203 {F Lo n : Nat} {a1 : Int32} {a2 : Int64} {a4 : Int32} {c y : cS} {w : cW} {K : Int64 → Prop} {Q : ((Option Value) ⊕ String) → List va_E → Prop} (hw : rOK fm w) (hF : 1 ≤ F) (hLo : 23 ≤ Lo)  (h : wp (d_203 n a1 a2 a4 c) K) (hQ : ∀ r, K r → Q (.inl (some (.long r))) (hq true c y w)) : rs (rt_P sc fm) 203 F Lo 0 [(0, .ref 150), (1, .int a1), (2, .long a2), (4, .int a4)] [] (hq true c y w) Q := by
  unfold d_203 at h
  obtain ⟨lv, elv⟩ : ∃ lv : rx_L, lv = [(0, .ref 150), (1, .int a1), (2, .long a2), (4, .int a4)] := ⟨_, rfl⟩
  rw [← elv]
  have l0 : rx_ld lv 0 = some (.ref 150) := by rw [elv]; rfl
  have l1 : rx_ld lv 1 = some (.int a1) := by rw [elv]; rfl
  have l2 : rx_ld lv 2 = some (.long a2) := by rw [elv]; rfl
  have l4 : rx_ld lv 4 = some (.int a4) := by rw [elv]; rfl
  refine rs_ild wi_203_0 l4 ?_
  refine rs_pure wi_203_2 rfl ?_
  refine rs_topi (v := 1) (by decide) ?_
  refine rs_pure wi_203_3 rfl ?_
  refine rs_aldn wi_203_4 l0 ?_
  refine dq_gr wi_203_5 wf_203_45 tf_150_1 ?_
  refine dq_gr wi_203_8 wf_203_173 tf_114_9 ?_
  refine rs_ildn wi_203_11 l1 ?_
  obtain ⟨g1, h⟩ := wp_gd h
  refine dq_iald wi_203_12 t_122 g1 ?_
  refine rs_pure wi_203_13 rfl ?_
  obtain ⟨v3, e4, h⟩ := wp_lt h
  refine rs_topi e4 ?_
  refine dl_ist wi_203_14 rfl (fun lv l5 t2 => ?_)
  have l0 := t2 _ _ (by decide) (Or.inl rfl) l0
  have l1 := t2 _ _ (by decide) (Or.inl rfl) l1
  have l2 := t2 _ _ (by decide) (Or.inr (by decide)) l2
  have l4 := t2 _ _ (by decide) (Or.inl rfl) l4
  refine rs_lldn wi_203_16 l2 ?_
  refine dl_lst wi_203_17 rfl (fun lv l6 t5 => ?_)
  have l0 := t5 _ _ (by decide) (by decide) (Or.inl rfl) l0
  have l1 := t5 _ _ (by decide) (by decide) (Or.inl rfl) l1
  have l4 := t5 _ _ (by decide) (by decide) (Or.inl rfl) l4
  have l5 := t5 _ _ (by decide) (by decide) (Or.inl rfl) l5
  refine rs_ild wi_203_19 l5 ?_
  refine dl_ist wi_203_21 rfl (fun lv l8 t6 => ?_)
  have l0 := t6 _ _ (by decide) (Or.inl rfl) l0
  have l1 := t6 _ _ (by decide) (Or.inl rfl) l1
  have l4 := t6 _ _ (by decide) (Or.inl rfl) l4
  have l5 := t6 _ _ (by decide) (Or.inl rfl) l5
  have l6 := t6 _ _ (by decide) (Or.inr (by decide)) l6
  refine whl_ex (A := fun s7 : Int64 × Int32 => ∀ lv, rx_ld lv 0 = some (.ref 150) → rx_ld lv 1 = some (.int a1) → rx_ld lv 4 = some (.int a4) → rx_ld lv 5 = some (.int v3) → rx_ld lv 6 = some (.long s7.1) → rx_ld lv 8 = some (.int s7.2) → rs (rt_P sc fm) 203 F Lo 23 lv [] (hq true c y w) Q) (B := (fun x13 : Int64 => ∀ lv, rx_ld lv 0 = some (.ref 150) → rx_ld lv 1 = some (.int a1) → rx_ld lv 5 = some (.int v3) → rx_ld lv 6 = some (.long x13) → rs (rt_P sc fm) 203 F Lo 46 lv [] (hq true c y w) Q)) ?_ ?_ _ _ (wp_bind h) _ l0 l1 l4 l5 l6 l8
  · intro s7 h lv l0 l1 l4 l5 l6 l8
    refine rs_ild wi_203_23 l8 ?_
    refine rs_ild wi_203_25 l4 ?_
    refine rs_icgt (tg := 46) wi_203_27 ⟨by decide, by decide⟩ (fun q => ?_) (fun q => ?_)
    ·
      have h := wp_pos h q
      exact h _ l0 l1 l5 l6
    ·
      have h := wp_neg h q
      refine rs_lld wi_203_30 l6 ?_
      refine rs_ild wi_203_32 l8 ?_
      refine rs_pure wi_203_34 rfl ?_
      refine rs_topi (v := 0) (by decide) ?_
      refine rs_SN wi_203_35 wc_203_132 rfl (Nat.le_trans (by decide) hF) (ml_le wm_356 (Nat.le_trans (by decide) hLo)) rfl (sp_356 (Nat.le_trans (by decide : 0 ≤ 1 - 1) (Nat.sub_le_sub_right hF 1)) (ml_sub wm_356 (Nat.le_trans (by decide : 0 ≤ 23 - 23) (Nat.sub_le_sub_right hLo 23))) (wp_bind h) (fun v8 h => rs_back1 ?_))
      refine dl_lst wi_203_38 rfl (fun lv l6 t9 => ?_)
      have l0 := t9 _ _ (by decide) (by decide) (Or.inl rfl) l0
      have l1 := t9 _ _ (by decide) (by decide) (Or.inl rfl) l1
      have l4 := t9 _ _ (by decide) (by decide) (Or.inl rfl) l4
      have l5 := t9 _ _ (by decide) (by decide) (Or.inl rfl) l5
      have l8 := t9 _ _ (by decide) (by decide) (Or.inl rfl) l8
      obtain ⟨v11, e12, h⟩ := wp_lt h
      refine dl_inc wi_203_40 l8 rfl e12 (fun lv l8 t10 => ?_)
      have l0 := t10 _ _ (by decide) (Or.inl rfl) l0
      have l1 := t10 _ _ (by decide) (Or.inl rfl) l1
      have l4 := t10 _ _ (by decide) (Or.inl rfl) l4
      have l5 := t10 _ _ (by decide) (Or.inl rfl) l5
      have l6 := t10 _ _ (by decide) (Or.inr (by decide)) l6
      refine rs_goto (tg := 23) wi_203_43 ⟨by decide, by decide⟩ ?_
      exact h _ l0 l1 l4 l5 l6 l8
  ·
    intro x13 h lv l0 l1 l5 l6
    refine rs_lld wi_203_46 l6 ?_
    refine rs_ild wi_203_48 l5 ?_
    refine rs_aldn wi_203_50 l0 ?_
    refine dq_gr wi_203_51 wf_203_49 tf_150_2 ?_
    refine rs_aldn wi_203_54 l0 ?_
    refine dq_gr wi_203_55 wf_203_45 tf_150_1 ?_
    refine dq_gr wi_203_58 wf_203_170 tf_114_10 ?_
    refine rs_ildn wi_203_61 l1 ?_
    obtain ⟨g14, h⟩ := wp_gd h
    refine dq_iald wi_203_62 t_123 g14 ?_
    refine rs_aldn wi_203_63 l0 ?_
    refine dq_gi wi_203_64 wf_203_9 tf_150_3 ?_
    refine rs_V wi_203_67 wc_203_126 rfl (dq_isa tf_146_0 wa_4_190) (Nat.le_trans (by decide) hF) (ml_le wm_190 (Nat.le_trans (by decide) hLo)) rfl (sp_190 hw (Nat.le_trans (by decide : 0 ≤ 1 - 1) (Nat.sub_le_sub_right hF 1)) (ml_sub wm_190 (Nat.le_trans (by decide : 0 ≤ 23 - 23) (Nat.sub_le_sub_right hLo 23))) (wp_bind h) (fun v15 h => rs_back1 ?_))
    refine rs_SN wi_203_70 wc_203_132 rfl (Nat.le_trans (by decide) hF) (ml_le wm_356 (Nat.le_trans (by decide) hLo)) rfl (sp_356 (Nat.le_trans (by decide : 0 ≤ 1 - 1) (Nat.sub_le_sub_right hF 1)) (ml_sub wm_356 (Nat.le_trans (by decide : 0 ≤ 23 - 23) (Nat.sub_le_sub_right hLo 23))) (wp_bind h) (fun v16 h => rs_back1 ?_))
    exact rs_lret wi_203_73 wr_203 (hQ v16 h)
theorem wa_5_203 : rz_cn 5 (rx_yn (rt_P sc fm) 203).cls = true := (by decide +kernel : rz_cn 5 (rt_yn 203).cls = true)
theorem wc_202_126 : rx_ct (rt_P sc fm) 202 126 = some (0, 190, 2) := (by decide +kernel : rt_ct 202 126 = some (0, 190, 2))
theorem wc_202_132 : rx_ct (rt_P sc fm) 202 132 = some (11, 356, 3) := (by decide +kernel : rt_ct 202 132 = some (11, 356, 3))
theorem wc_202_157 : rx_ct (rt_P sc fm) 202 157 = some (11, 355, 2) := (by decide +kernel : rt_ct 202 157 = some (11, 355, 2))
theorem wc_202_161 : rx_ct (rt_P sc fm) 202 161 = some (0, 238, 2) := (by decide +kernel : rt_ct 202 161 = some (0, 238, 2))
theorem wc_202_176 : rx_ct (rt_P sc fm) 202 176 = some (0, 203, 3) := (by decide +kernel : rt_ct 202 176 = some (0, 203, 3))
theorem wf_202_108 : rx_ft (rt_P sc fm) 202 108 = some (9, 1) := (by decide +kernel : rt_ft 202 108 = some (9, 1))
theorem wf_202_164 : rx_ft (rt_P sc fm) 202 164 = some (2, 12) := (by decide +kernel : rt_ft 202 164 = some (2, 12))
theorem wf_202_167 : rx_ft (rt_P sc fm) 202 167 = some (2, 8) := (by decide +kernel : rt_ft 202 167 = some (2, 8))
theorem wf_202_170 : rx_ft (rt_P sc fm) 202 170 = some (2, 10) := (by decide +kernel : rt_ft 202 170 = some (2, 10))
theorem wf_202_173 : rx_ft (rt_P sc fm) 202 173 = some (2, 9) := (by decide +kernel : rt_ft 202 173 = some (2, 9))
theorem wf_202_41 : rx_ft (rt_P sc fm) 202 41 = some (5, 0) := (by decide +kernel : rt_ft 202 41 = some (5, 0))
theorem wf_202_45 : rx_ft (rt_P sc fm) 202 45 = some (5, 1) := (by decide +kernel : rt_ft 202 45 = some (5, 1))
theorem wf_202_49 : rx_ft (rt_P sc fm) 202 49 = some (5, 2) := (by decide +kernel : rt_ft 202 49 = some (5, 2))
theorem wf_202_9 : rx_ft (rt_P sc fm) 202 9 = some (5, 3) := (by decide +kernel : rt_ft 202 9 = some (5, 3))
theorem wi_202_0 : ri (rt_P sc fm) 202 0 (.bipush 8) (2) := ri_of (by decide +kernel) rfl
theorem wi_202_10 : ri (rt_P sc fm) 202 10 (.iaload) (11) := ri_of (by decide +kernel) rfl
theorem wi_202_108 : ri (rt_P sc fm) 202 108 (.lload_n 2) (109) := ri_of (by decide +kernel) rfl
theorem wi_202_109 : ri (rt_P sc fm) 202 109 (.iload 4) (111) := ri_of (by decide +kernel) rfl
theorem wi_202_11 : ri (rt_P sc fm) 202 11 (.iadd) (12) := ri_of (by decide +kernel) rfl
theorem wi_202_111 : ri (rt_P sc fm) 202 111 (.iconst 1) (112) := ri_of (by decide +kernel) rfl
theorem wi_202_112 : ri (rt_P sc fm) 202 112 (.iadd) (113) := ri_of (by decide +kernel) rfl
theorem wi_202_113 : ri (rt_P sc fm) 202 113 (.aload_n 0) (114) := ri_of (by decide +kernel) rfl
theorem wi_202_114 : ri (rt_P sc fm) 202 114 (.getfield 45) (117) := ri_of (by decide +kernel) rfl
theorem wi_202_117 : ri (rt_P sc fm) 202 117 (.getfield 170) (120) := ri_of (by decide +kernel) rfl
theorem wi_202_12 : ri (rt_P sc fm) 202 12 (.iconst 1) (13) := ri_of (by decide +kernel) rfl
theorem wi_202_120 : ri (rt_P sc fm) 202 120 (.iload_n 1) (121) := ri_of (by decide +kernel) rfl
theorem wi_202_121 : ri (rt_P sc fm) 202 121 (.iaload) (122) := ri_of (by decide +kernel) rfl
theorem wi_202_122 : ri (rt_P sc fm) 202 122 (.i2l) (123) := ri_of (by decide +kernel) rfl
theorem wi_202_123 : ri (rt_P sc fm) 202 123 (.aload_n 0) (124) := ri_of (by decide +kernel) rfl
theorem wi_202_124 : ri (rt_P sc fm) 202 124 (.getfield 9) (127) := ri_of (by decide +kernel) rfl
theorem wi_202_127 : ri (rt_P sc fm) 202 127 (.invokestatic 157) (130) := ri_of (by decide +kernel) rfl
theorem wi_202_13 : ri (rt_P sc fm) 202 13 (.isub) (14) := ri_of (by decide +kernel) rfl
theorem wi_202_130 : ri (rt_P sc fm) 202 130 (.invokestatic 132) (133) := ri_of (by decide +kernel) rfl
theorem wi_202_133 : ri (rt_P sc fm) 202 133 (.lreturn) (134) := ri_of (by decide +kernel) rfl
theorem wi_202_134 : ri (rt_P sc fm) 202 134 (.lload_n 2) (135) := ri_of (by decide +kernel) rfl
theorem wi_202_135 : ri (rt_P sc fm) 202 135 (.iload 4) (137) := ri_of (by decide +kernel) rfl
theorem wi_202_137 : ri (rt_P sc fm) 202 137 (.iconst 1) (138) := ri_of (by decide +kernel) rfl
theorem wi_202_138 : ri (rt_P sc fm) 202 138 (.iadd) (139) := ri_of (by decide +kernel) rfl
theorem wi_202_139 : ri (rt_P sc fm) 202 139 (.lload_n 2) (140) := ri_of (by decide +kernel) rfl
theorem wi_202_14 : ri (rt_P sc fm) 202 14 (.istore 4) (16) := ri_of (by decide +kernel) rfl
theorem wi_202_140 : ri (rt_P sc fm) 202 140 (.aload_n 0) (141) := ri_of (by decide +kernel) rfl
theorem wi_202_141 : ri (rt_P sc fm) 202 141 (.getfield 45) (144) := ri_of (by decide +kernel) rfl
theorem wi_202_144 : ri (rt_P sc fm) 202 144 (.getfield 173) (147) := ri_of (by decide +kernel) rfl
theorem wi_202_147 : ri (rt_P sc fm) 202 147 (.iload_n 1) (148) := ri_of (by decide +kernel) rfl
theorem wi_202_148 : ri (rt_P sc fm) 202 148 (.iaload) (149) := ri_of (by decide +kernel) rfl
theorem wi_202_149 : ri (rt_P sc fm) 202 149 (.invokestatic 157) (152) := ri_of (by decide +kernel) rfl
theorem wi_202_152 : ri (rt_P sc fm) 202 152 (.invokestatic 132) (155) := ri_of (by decide +kernel) rfl
theorem wi_202_155 : ri (rt_P sc fm) 202 155 (.lreturn) (156) := ri_of (by decide +kernel) rfl
theorem wi_202_156 : ri (rt_P sc fm) 202 156 (.lload_n 2) (157) := ri_of (by decide +kernel) rfl
theorem wi_202_157 : ri (rt_P sc fm) 202 157 (.aload_n 0) (158) := ri_of (by decide +kernel) rfl
theorem wi_202_158 : ri (rt_P sc fm) 202 158 (.getfield 45) (161) := ri_of (by decide +kernel) rfl
theorem wi_202_16 : ri (rt_P sc fm) 202 16 (.aload_n 0) (17) := ri_of (by decide +kernel) rfl
theorem wi_202_161 : ri (rt_P sc fm) 202 161 (.getfield 173) (164) := ri_of (by decide +kernel) rfl
theorem wi_202_164 : ri (rt_P sc fm) 202 164 (.iload_n 1) (165) := ri_of (by decide +kernel) rfl
theorem wi_202_165 : ri (rt_P sc fm) 202 165 (.iaload) (166) := ri_of (by decide +kernel) rfl
theorem wi_202_166 : ri (rt_P sc fm) 202 166 (.lload_n 2) (167) := ri_of (by decide +kernel) rfl
theorem wi_202_167 : ri (rt_P sc fm) 202 167 (.iload 4) (169) := ri_of (by decide +kernel) rfl
theorem wi_202_169 : ri (rt_P sc fm) 202 169 (.invokestatic 157) (172) := ri_of (by decide +kernel) rfl
theorem wi_202_17 : ri (rt_P sc fm) 202 17 (.getfield 45) (20) := ri_of (by decide +kernel) rfl
theorem wi_202_172 : ri (rt_P sc fm) 202 172 (.invokestatic 132) (175) := ri_of (by decide +kernel) rfl
theorem wi_202_175 : ri (rt_P sc fm) 202 175 (.iload 4) (177) := ri_of (by decide +kernel) rfl
theorem wi_202_177 : ri (rt_P sc fm) 202 177 (.iconst 0) (178) := ri_of (by decide +kernel) rfl
theorem wi_202_178 : ri (rt_P sc fm) 202 178 (.invokestatic 132) (181) := ri_of (by decide +kernel) rfl
theorem wi_202_181 : ri (rt_P sc fm) 202 181 (.lreturn) (182) := ri_of (by decide +kernel) rfl
theorem wi_202_182 : ri (rt_P sc fm) 202 182 (.lload_n 2) (183) := ri_of (by decide +kernel) rfl
theorem wi_202_183 : ri (rt_P sc fm) 202 183 (.iload 4) (185) := ri_of (by decide +kernel) rfl
theorem wi_202_185 : ri (rt_P sc fm) 202 185 (.iconst 1) (186) := ri_of (by decide +kernel) rfl
theorem wi_202_186 : ri (rt_P sc fm) 202 186 (.iadd) (187) := ri_of (by decide +kernel) rfl
theorem wi_202_187 : ri (rt_P sc fm) 202 187 (.aload_n 0) (188) := ri_of (by decide +kernel) rfl
theorem wi_202_188 : ri (rt_P sc fm) 202 188 (.getfield 49) (191) := ri_of (by decide +kernel) rfl
theorem wi_202_191 : ri (rt_P sc fm) 202 191 (.aload_n 0) (192) := ri_of (by decide +kernel) rfl
theorem wi_202_192 : ri (rt_P sc fm) 202 192 (.getfield 45) (195) := ri_of (by decide +kernel) rfl
theorem wi_202_195 : ri (rt_P sc fm) 202 195 (.getfield 170) (198) := ri_of (by decide +kernel) rfl
theorem wi_202_198 : ri (rt_P sc fm) 202 198 (.iload_n 1) (199) := ri_of (by decide +kernel) rfl
theorem wi_202_199 : ri (rt_P sc fm) 202 199 (.iaload) (200) := ri_of (by decide +kernel) rfl
theorem wi_202_2 : ri (rt_P sc fm) 202 2 (.aload_n 0) (3) := ri_of (by decide +kernel) rfl
theorem wi_202_20 : ri (rt_P sc fm) 202 20 (.getfield 167) (23) := ri_of (by decide +kernel) rfl
theorem wi_202_200 : ri (rt_P sc fm) 202 200 (.aload_n 0) (201) := ri_of (by decide +kernel) rfl
theorem wi_202_201 : ri (rt_P sc fm) 202 201 (.getfield 9) (204) := ri_of (by decide +kernel) rfl
theorem wi_202_204 : ri (rt_P sc fm) 202 204 (.invokevirtual 126) (207) := ri_of (by decide +kernel) rfl
theorem wi_202_207 : ri (rt_P sc fm) 202 207 (.invokestatic 132) (210) := ri_of (by decide +kernel) rfl
theorem wi_202_210 : ri (rt_P sc fm) 202 210 (.lreturn) (211) := ri_of (by decide +kernel) rfl
theorem wi_202_211 : ri (rt_P sc fm) 202 211 (.lload_n 2) (212) := ri_of (by decide +kernel) rfl
theorem wi_202_212 : ri (rt_P sc fm) 202 212 (.iload 4) (214) := ri_of (by decide +kernel) rfl
theorem wi_202_214 : ri (rt_P sc fm) 202 214 (.iconst 0) (215) := ri_of (by decide +kernel) rfl
theorem wi_202_215 : ri (rt_P sc fm) 202 215 (.invokestatic 132) (218) := ri_of (by decide +kernel) rfl
theorem wi_202_218 : ri (rt_P sc fm) 202 218 (.lreturn) (219) := ri_of (by decide +kernel) rfl
theorem wi_202_219 : ri (rt_P sc fm) 202 219 (.aload_n 0) (220) := ri_of (by decide +kernel) rfl
theorem wi_202_220 : ri (rt_P sc fm) 202 220 (.iload_n 1) (221) := ri_of (by decide +kernel) rfl
theorem wi_202_221 : ri (rt_P sc fm) 202 221 (.lload_n 2) (222) := ri_of (by decide +kernel) rfl
theorem wi_202_222 : ri (rt_P sc fm) 202 222 (.iload 4) (224) := ri_of (by decide +kernel) rfl
theorem wi_202_224 : ri (rt_P sc fm) 202 224 (.invokevirtual 176) (227) := ri_of (by decide +kernel) rfl
theorem wi_202_227 : ri (rt_P sc fm) 202 227 (.lreturn) (228) := ri_of (by decide +kernel) rfl
theorem wi_202_228 : ri (rt_P sc fm) 202 228 (.aload_n 0) (229) := ri_of (by decide +kernel) rfl
theorem wi_202_229 : ri (rt_P sc fm) 202 229 (.getfield 41) (232) := ri_of (by decide +kernel) rfl
theorem wi_202_23 : ri (rt_P sc fm) 202 23 (.iload_n 1) (24) := ri_of (by decide +kernel) rfl
theorem wi_202_232 : ri (rt_P sc fm) 202 232 (.getfield 108) (235) := ri_of (by decide +kernel) rfl
theorem wi_202_235 : ri (rt_P sc fm) 202 235 (.aload_n 0) (236) := ri_of (by decide +kernel) rfl
theorem wi_202_236 : ri (rt_P sc fm) 202 236 (.getfield 9) (239) := ri_of (by decide +kernel) rfl
theorem wi_202_239 : ri (rt_P sc fm) 202 239 (.aaload) (240) := ri_of (by decide +kernel) rfl
theorem wi_202_24 : ri (rt_P sc fm) 202 24 (.iaload) (25) := ri_of (by decide +kernel) rfl
theorem wi_202_240 : ri (rt_P sc fm) 202 240 (.lload_n 2) (241) := ri_of (by decide +kernel) rfl
theorem wi_202_241 : ri (rt_P sc fm) 202 241 (.iload 4) (243) := ri_of (by decide +kernel) rfl
theorem wi_202_243 : ri (rt_P sc fm) 202 243 (.iconst 1) (244) := ri_of (by decide +kernel) rfl
theorem wi_202_244 : ri (rt_P sc fm) 202 244 (.isub) (245) := ri_of (by decide +kernel) rfl
theorem wi_202_245 : ri (rt_P sc fm) 202 245 (.invokestatic 157) (248) := ri_of (by decide +kernel) rfl
theorem wi_202_248 : ri (rt_P sc fm) 202 248 (.lload_n 2) (249) := ri_of (by decide +kernel) rfl
theorem wi_202_249 : ri (rt_P sc fm) 202 249 (.iload 4) (251) := ri_of (by decide +kernel) rfl
theorem wi_202_25 : ri (rt_P sc fm) 202 25 (.tableswitch 302 214 230 #[83, 83, 109, 131, 157, 186, 194, 302, 203, 203, 203, 251, 186, 302, 186, 302, 266]) (25 + rx_len (.tableswitch 302 214 230 #[83, 83, 109, 131, 157, 186, 194, 302, 203, 203, 203, 251, 186, 302, 186, 302, 266])) := ri_of (by decide +kernel) rfl
theorem wi_202_251 : ri (rt_P sc fm) 202 251 (.invokestatic 157) (254) := ri_of (by decide +kernel) rfl
theorem wi_202_254 : ri (rt_P sc fm) 202 254 (.invokevirtual 161) (257) := ri_of (by decide +kernel) rfl
theorem wi_202_257 : ri (rt_P sc fm) 202 257 (.istore 5) (259) := ri_of (by decide +kernel) rfl
theorem wi_202_259 : ri (rt_P sc fm) 202 259 (.lload_n 2) (260) := ri_of (by decide +kernel) rfl
theorem wi_202_260 : ri (rt_P sc fm) 202 260 (.iload 4) (262) := ri_of (by decide +kernel) rfl
theorem wi_202_262 : ri (rt_P sc fm) 202 262 (.iconst 1) (263) := ri_of (by decide +kernel) rfl
theorem wi_202_263 : ri (rt_P sc fm) 202 263 (.isub) (264) := ri_of (by decide +kernel) rfl
theorem wi_202_264 : ri (rt_P sc fm) 202 264 (.iload 5) (266) := ri_of (by decide +kernel) rfl
theorem wi_202_266 : ri (rt_P sc fm) 202 266 (.invokestatic 132) (269) := ri_of (by decide +kernel) rfl
theorem wi_202_269 : ri (rt_P sc fm) 202 269 (.iload 4) (271) := ri_of (by decide +kernel) rfl
theorem wi_202_271 : ri (rt_P sc fm) 202 271 (.iconst 0) (272) := ri_of (by decide +kernel) rfl
theorem wi_202_272 : ri (rt_P sc fm) 202 272 (.invokestatic 132) (275) := ri_of (by decide +kernel) rfl
theorem wi_202_275 : ri (rt_P sc fm) 202 275 (.lreturn) (276) := ri_of (by decide +kernel) rfl
theorem wi_202_276 : ri (rt_P sc fm) 202 276 (.lload_n 2) (277) := ri_of (by decide +kernel) rfl
theorem wi_202_277 : ri (rt_P sc fm) 202 277 (.iload 4) (279) := ri_of (by decide +kernel) rfl
theorem wi_202_279 : ri (rt_P sc fm) 202 279 (.iconst 1) (280) := ri_of (by decide +kernel) rfl
theorem wi_202_280 : ri (rt_P sc fm) 202 280 (.iadd) (281) := ri_of (by decide +kernel) rfl
theorem wi_202_281 : ri (rt_P sc fm) 202 281 (.lload_n 2) (282) := ri_of (by decide +kernel) rfl
theorem wi_202_282 : ri (rt_P sc fm) 202 282 (.iload 4) (284) := ri_of (by decide +kernel) rfl
theorem wi_202_284 : ri (rt_P sc fm) 202 284 (.invokestatic 157) (287) := ri_of (by decide +kernel) rfl
theorem wi_202_287 : ri (rt_P sc fm) 202 287 (.invokestatic 132) (290) := ri_of (by decide +kernel) rfl
theorem wi_202_290 : ri (rt_P sc fm) 202 290 (.lreturn) (291) := ri_of (by decide +kernel) rfl
theorem wi_202_291 : ri (rt_P sc fm) 202 291 (.aload_n 0) (292) := ri_of (by decide +kernel) rfl
theorem wi_202_292 : ri (rt_P sc fm) 202 292 (.getfield 45) (295) := ri_of (by decide +kernel) rfl
theorem wi_202_295 : ri (rt_P sc fm) 202 295 (.getfield 170) (298) := ri_of (by decide +kernel) rfl
theorem wi_202_298 : ri (rt_P sc fm) 202 298 (.iload_n 1) (299) := ri_of (by decide +kernel) rfl
theorem wi_202_299 : ri (rt_P sc fm) 202 299 (.iaload) (300) := ri_of (by decide +kernel) rfl
theorem wi_202_3 : ri (rt_P sc fm) 202 3 (.getfield 45) (6) := ri_of (by decide +kernel) rfl
theorem wi_202_300 : ri (rt_P sc fm) 202 300 (.aload_n 0) (301) := ri_of (by decide +kernel) rfl
theorem wi_202_301 : ri (rt_P sc fm) 202 301 (.getfield 9) (304) := ri_of (by decide +kernel) rfl
theorem wi_202_304 : ri (rt_P sc fm) 202 304 (.if_icmp .ne 21) (307) := ri_of (by decide +kernel) rfl
theorem wi_202_307 : ri (rt_P sc fm) 202 307 (.lload_n 2) (308) := ri_of (by decide +kernel) rfl
theorem wi_202_308 : ri (rt_P sc fm) 202 308 (.iload 4) (310) := ri_of (by decide +kernel) rfl
theorem wi_202_310 : ri (rt_P sc fm) 202 310 (.aload_n 0) (311) := ri_of (by decide +kernel) rfl
theorem wi_202_311 : ri (rt_P sc fm) 202 311 (.getfield 45) (314) := ri_of (by decide +kernel) rfl
theorem wi_202_314 : ri (rt_P sc fm) 202 314 (.getfield 173) (317) := ri_of (by decide +kernel) rfl
theorem wi_202_317 : ri (rt_P sc fm) 202 317 (.iload_n 1) (318) := ri_of (by decide +kernel) rfl
theorem wi_202_318 : ri (rt_P sc fm) 202 318 (.iaload) (319) := ri_of (by decide +kernel) rfl
theorem wi_202_319 : ri (rt_P sc fm) 202 319 (.invokestatic 132) (322) := ri_of (by decide +kernel) rfl
theorem wi_202_322 : ri (rt_P sc fm) 202 322 (.goto 4) (325) := ri_of (by decide +kernel) rfl
theorem wi_202_325 : ri (rt_P sc fm) 202 325 (.lload_n 2) (326) := ri_of (by decide +kernel) rfl
theorem wi_202_326 : ri (rt_P sc fm) 202 326 (.lreturn) (327) := ri_of (by decide +kernel) rfl
theorem wi_202_327 : ri (rt_P sc fm) 202 327 (.lload_n 2) (328) := ri_of (by decide +kernel) rfl
theorem wi_202_328 : ri (rt_P sc fm) 202 328 (.lreturn) (329) := ri_of (by decide +kernel) rfl
theorem wi_202_6 : ri (rt_P sc fm) 202 6 (.getfield 164) (9) := ri_of (by decide +kernel) rfl
theorem wi_202_9 : ri (rt_P sc fm) 202 9 (.iload_n 1) (10) := ri_of (by decide +kernel) rfl
theorem wm_203 : rx_ml (rt_P sc fm) 203 = 9 := (by decide +kernel : rt_ml 203 = 9)
theorem wm_355 : rx_ml (rt_P sc fm) 355 = 3 := (by decide +kernel : rt_ml 355 = 3)
theorem wr_202 : rx_rt (rt_P sc fm) 202 = (some FieldType.long) := (by decide +kernel : rt_rt 202 = (some FieldType.long))
/-- MarkHouse$Flow.behind(IJ)J -/
def d_202 (n : Nat) (a1 : Int32) (a2 : Int64) (c : cS) : Option (Int64) :=
  if ib a1 1024 then
  lt (((8 + (c.1 125 (ix a1))) - 1) : Int32) (fun v3 =>
  if ib a1 1024 then
  jn (fun p6 : Unit =>
    if ib a1 1024 then
    Option.bind (d_355 n (((c.1 123 (ix a1)) : Int32).toInt64) (c.1 150 3)) (fun v8 =>
    Option.bind (d_356 n a2 (v3 + 1) v8) (fun v9 =>
    some v9))
    else none)
  (fun j108 =>
  jn (fun p10 : Unit =>
    Option.bind (d_356 n a2 v3 0) (fun v11 =>
    some v11))
  (fun j211 =>
  jn (fun p12 : Unit =>
    some a2)
  (fun j327 =>
  jn (fun p13 : Unit =>
    if ib (c.1 150 3) 4 then
    Option.bind (d_355 n a2 (v3 - 1)) (fun v15 =>
    Option.bind (d_355 n a2 v3) (fun v16 =>
    Option.bind (d_238 n (ix (c.1 150 3)) v15 v16 c) (fun v17 =>
    Option.bind (d_356 n a2 (v3 - 1) v17) (fun v19 =>
    Option.bind (d_356 n v19 v3 0) (fun v20 =>
    some v20)))))
    else none)
  (fun j228 =>
  if (c.1 121 (ix a1)) = 214 then
    j108 ()
  else
  if (c.1 121 (ix a1)) = 215 then
    j108 ()
  else
  if (c.1 121 (ix a1)) = 216 then
    if ib a1 1024 then
    Option.bind (d_355 n a2 (c.1 122 (ix a1))) (fun v25 =>
    Option.bind (d_356 n a2 (v3 + 1) v25) (fun v26 =>
    some v26))
    else none
  else
  if (c.1 121 (ix a1)) = 217 then
    if ib a1 1024 then
    Option.bind (d_355 n a2 v3) (fun v29 =>
    Option.bind (d_356 n a2 (c.1 122 (ix a1)) v29) (fun v30 =>
    Option.bind (d_356 n v30 v3 0) (fun v31 =>
    some v31)))
    else none
  else
  if (c.1 121 (ix a1)) = 218 then
    if ib a1 1024 then
    Option.bind (d_190 n (c.1 123 (ix a1)) (c.1 150 3) c) (fun v34 =>
    Option.bind (d_356 n a2 (v3 + 1) v34) (fun v35 =>
    some v35))
    else none
  else
  if (c.1 121 (ix a1)) = 219 then
    j211 ()
  else
  if (c.1 121 (ix a1)) = 220 then
    Option.bind (d_203 n a1 a2 v3 c) (fun v38 =>
    some v38)
  else
  if (c.1 121 (ix a1)) = 221 then
    j327 ()
  else
  if (c.1 121 (ix a1)) = 222 then
    j228 ()
  else
  if (c.1 121 (ix a1)) = 223 then
    j228 ()
  else
  if (c.1 121 (ix a1)) = 224 then
    j228 ()
  else
  if (c.1 121 (ix a1)) = 225 then
    Option.bind (d_355 n a2 v3) (fun v44 =>
    Option.bind (d_356 n a2 (v3 + 1) v44) (fun v45 =>
    some v45))
  else
  if (c.1 121 (ix a1)) = 226 then
    j211 ()
  else
  if (c.1 121 (ix a1)) = 227 then
    j327 ()
  else
  if (c.1 121 (ix a1)) = 228 then
    j211 ()
  else
  if (c.1 121 (ix a1)) = 229 then
    j327 ()
  else
  if (c.1 121 (ix a1)) = 230 then
    if ib a1 1024 then
    jn (fun p52 : Int64 =>
      some p52)
    (fun j326 =>
    if (c.1 123 (ix a1)) = (c.1 150 3) then
      if ib a1 1024 then
      Option.bind (d_356 n a2 v3 (c.1 122 (ix a1))) (fun v54 =>
      j326 v54)
      else none
    else
      j326 a2)
    else none
  else
  j327 ()))))
  else none)
  else none
theorem sp_202 {F Lo n : Nat} {a1 : Int32} {a2 : Int64} {c y : cS} {w : cW} {K : Int64 → Prop} {Q : ((Option Value) ⊕ String) → List va_E → Prop} (hw : rOK fm w) (hF : 2 ≤ F) (hLo : 51 ≤ Lo)  (h : wp (d_202 n a1 a2 c) K) (hQ : ∀ r, K r → Q (.inl (some (.long r))) (hq true c y w)) : rs (rt_P sc fm) 202 F Lo 0 [(0, .ref 150), (1, .int a1), (2, .long a2)] [] (hq true c y w) Q := by
  unfold d_202 at h
  obtain ⟨lv, elv⟩ : ∃ lv : rx_L, lv = [(0, .ref 150), (1, .int a1), (2, .long a2)] := ⟨_, rfl⟩
  rw [← elv]
  have l0 : rx_ld lv 0 = some (.ref 150) := by rw [elv]; rfl
  have l1 : rx_ld lv 1 = some (.int a1) := by rw [elv]; rfl
  have l2 : rx_ld lv 2 = some (.long a2) := by rw [elv]; rfl
  refine rs_pure wi_202_0 rfl ?_
  refine rs_topi (v := 8) (by decide) ?_
  refine rs_aldn wi_202_2 l0 ?_
  refine dq_gr wi_202_3 wf_202_45 tf_150_1 ?_
  refine dq_gr wi_202_6 wf_202_164 tf_114_12 ?_
  refine rs_ildn wi_202_9 l1 ?_
  obtain ⟨g1, h⟩ := wp_gd h
  refine dq_iald wi_202_10 t_125 g1 ?_
  refine rs_pure wi_202_11 rfl ?_
  refine rs_pure wi_202_12 rfl ?_
  refine rs_topi (v := 1) (by decide) ?_
  refine rs_pure wi_202_13 rfl ?_
  obtain ⟨v3, e4, h⟩ := wp_lt h
  refine rs_topi e4 ?_
  refine dl_ist wi_202_14 rfl (fun lv l4 t2 => ?_)
  have l0 := t2 _ _ (by decide) (Or.inl rfl) l0
  have l1 := t2 _ _ (by decide) (Or.inl rfl) l1
  have l2 := t2 _ _ (by decide) (Or.inr (by decide)) l2
  refine rs_aldn wi_202_16 l0 ?_
  refine dq_gr wi_202_17 wf_202_45 tf_150_1 ?_
  refine dq_gr wi_202_20 wf_202_167 tf_114_8 ?_
  refine rs_ildn wi_202_23 l1 ?_
  obtain ⟨g5, h⟩ := wp_gd h
  refine dq_iald wi_202_24 t_121 g5 ?_
  refine wp_jn (B := fun p6 : Unit => ∀ lv, rx_ld lv 0 = some (.ref 150) → rx_ld lv 1 = some (.int a1) → rx_ld lv 2 = some (.long a2) → rx_ld lv 4 = some (.int v3) → rs (rt_P sc fm) 202 F Lo 108 lv [] (hq true c y w) Q) h (fun p6 h lv l0 l1 l2 l4 => ?_) (fun j108 hj108 h => ?_)
  ·
    refine rs_lldn wi_202_108 l2 ?_
    refine rs_ild wi_202_109 l4 ?_
    refine rs_pure wi_202_111 rfl ?_
    refine rs_topi (v := 1) (by decide) ?_
    refine rs_pure wi_202_112 rfl ?_
    refine rs_aldn wi_202_113 l0 ?_
    refine dq_gr wi_202_114 wf_202_45 tf_150_1 ?_
    refine dq_gr wi_202_117 wf_202_170 tf_114_10 ?_
    refine rs_ildn wi_202_120 l1 ?_
    obtain ⟨g7, h⟩ := wp_gd h
    refine dq_iald wi_202_121 t_123 g7 ?_
    refine rs_pure wi_202_122 rfl ?_
    refine rs_aldn wi_202_123 l0 ?_
    refine dq_gi wi_202_124 wf_202_9 tf_150_3 ?_
    refine rs_SN wi_202_127 wc_202_157 rfl (Nat.le_trans (by decide) hF) (ml_le wm_355 (Nat.le_trans (by decide) hLo)) rfl (sp_355 (Nat.le_trans (by decide : 0 ≤ 2 - 1) (Nat.sub_le_sub_right hF 1)) (ml_sub wm_355 (Nat.le_trans (by decide : 0 ≤ 51 - 22) (Nat.sub_le_sub_right hLo 22))) (wp_bind h) (fun v8 h => rs_back1 ?_))
    refine rs_SN wi_202_130 wc_202_132 rfl (Nat.le_trans (by decide) hF) (ml_le wm_356 (Nat.le_trans (by decide) hLo)) rfl (sp_356 (Nat.le_trans (by decide : 0 ≤ 2 - 1) (Nat.sub_le_sub_right hF 1)) (ml_sub wm_356 (Nat.le_trans (by decide : 0 ≤ 51 - 23) (Nat.sub_le_sub_right hLo 23))) (wp_bind h) (fun v9 h => rs_back1 ?_))
    exact rs_lret wi_202_133 wr_202 (hQ v9 h)
  refine wp_jn (B := fun p10 : Unit => ∀ lv, rx_ld lv 2 = some (.long a2) → rx_ld lv 4 = some (.int v3) → rs (rt_P sc fm) 202 F Lo 211 lv [] (hq true c y w) Q) h (fun p10 h lv l2 l4 => ?_) (fun j211 hj211 h => ?_)
  ·
    refine rs_lldn wi_202_211 l2 ?_
    refine rs_ild wi_202_212 l4 ?_
    refine rs_pure wi_202_214 rfl ?_
    refine rs_topi (v := 0) (by decide) ?_
    refine rs_SN wi_202_215 wc_202_132 rfl (Nat.le_trans (by decide) hF) (ml_le wm_356 (Nat.le_trans (by decide) hLo)) rfl (sp_356 (Nat.le_trans (by decide : 0 ≤ 2 - 1) (Nat.sub_le_sub_right hF 1)) (ml_sub wm_356 (Nat.le_trans (by decide : 0 ≤ 51 - 23) (Nat.sub_le_sub_right hLo 23))) (wp_bind h) (fun v11 h => rs_back1 ?_))
    exact rs_lret wi_202_218 wr_202 (hQ v11 h)
  refine wp_jn (B := fun p12 : Unit => ∀ lv, rx_ld lv 2 = some (.long a2) → rs (rt_P sc fm) 202 F Lo 327 lv [] (hq true c y w) Q) h (fun p12 h lv l2 => ?_) (fun j327 hj327 h => ?_)
  ·
    refine rs_lldn wi_202_327 l2 ?_
    exact rs_lret wi_202_328 wr_202 (hQ a2 h)
  refine wp_jn (B := fun p13 : Unit => ∀ lv, rx_ld lv 0 = some (.ref 150) → rx_ld lv 2 = some (.long a2) → rx_ld lv 4 = some (.int v3) → rs (rt_P sc fm) 202 F Lo 228 lv [] (hq true c y w) Q) h (fun p13 h lv l0 l2 l4 => ?_) (fun j228 hj228 h => ?_)
  ·
    refine rs_aldn wi_202_228 l0 ?_
    refine dq_gr wi_202_229 wf_202_41 tf_150_0 ?_
    refine dq_gr wi_202_232 wf_202_108 tf_7_1 ?_
    refine rs_aldn wi_202_235 l0 ?_
    refine dq_gi wi_202_236 wf_202_9 tf_150_3 ?_
    obtain ⟨g14, h⟩ := wp_gd h
    refine dq_aald wi_202_239 (by decide) t_8 g14 (hw.1 _ (ib_lt g14)) ?_
    refine rs_lldn wi_202_240 l2 ?_
    refine rs_ild wi_202_241 l4 ?_
    refine rs_pure wi_202_243 rfl ?_
    refine rs_topi (v := 1) (by decide) ?_
    refine rs_pure wi_202_244 rfl ?_
    refine rs_SN wi_202_245 wc_202_157 rfl (Nat.le_trans (by decide) hF) (ml_le wm_355 (Nat.le_trans (by decide) hLo)) rfl (sp_355 (Nat.le_trans (by decide : 0 ≤ 2 - 1) (Nat.sub_le_sub_right hF 1)) (ml_sub wm_355 (Nat.le_trans (by decide : 0 ≤ 51 - 22) (Nat.sub_le_sub_right hLo 22))) (wp_bind h) (fun v15 h => rs_back1 ?_))
    refine rs_lldn wi_202_248 l2 ?_
    refine rs_ild wi_202_249 l4 ?_
    refine rs_SN wi_202_251 wc_202_157 rfl (Nat.le_trans (by decide) hF) (ml_le wm_355 (Nat.le_trans (by decide) hLo)) rfl (sp_355 (Nat.le_trans (by decide : 0 ≤ 2 - 1) (Nat.sub_le_sub_right hF 1)) (ml_sub wm_355 (Nat.le_trans (by decide : 0 ≤ 51 - 22) (Nat.sub_le_sub_right hLo 22))) (wp_bind h) (fun v16 h => rs_back1 ?_))
    refine rs_V wi_202_254 wc_202_161 rfl (dq_isa (fO_0 (ib_lt g14)) wa_8_238) (Nat.le_trans (by decide) hF) (ml_le wm_238 (Nat.le_trans (by decide) hLo)) rfl (sp_238 hw (Nat.le_trans (by decide : 0 ≤ 2 - 1) (Nat.sub_le_sub_right hF 1)) (ml_sub wm_238 (Nat.le_trans (by decide : 0 ≤ 51 - 22) (Nat.sub_le_sub_right hLo 22))) (ib_lt g14) (wp_bind h) (fun v17 h => rs_back1 ?_))
    refine dl_ist wi_202_257 rfl (fun lv l5 t18 => ?_)
    have l2 := t18 _ _ (by decide) (Or.inr (by decide)) l2
    have l4 := t18 _ _ (by decide) (Or.inl rfl) l4
    refine rs_lldn wi_202_259 l2 ?_
    refine rs_ild wi_202_260 l4 ?_
    refine rs_pure wi_202_262 rfl ?_
    refine rs_topi (v := 1) (by decide) ?_
    refine rs_pure wi_202_263 rfl ?_
    refine rs_ild wi_202_264 l5 ?_
    refine rs_SN wi_202_266 wc_202_132 rfl (Nat.le_trans (by decide) hF) (ml_le wm_356 (Nat.le_trans (by decide) hLo)) rfl (sp_356 (Nat.le_trans (by decide : 0 ≤ 2 - 1) (Nat.sub_le_sub_right hF 1)) (ml_sub wm_356 (Nat.le_trans (by decide : 0 ≤ 51 - 23) (Nat.sub_le_sub_right hLo 23))) (wp_bind h) (fun v19 h => rs_back1 ?_))
    refine rs_ild wi_202_269 l4 ?_
    refine rs_pure wi_202_271 rfl ?_
    refine rs_topi (v := 0) (by decide) ?_
    refine rs_SN wi_202_272 wc_202_132 rfl (Nat.le_trans (by decide) hF) (ml_le wm_356 (Nat.le_trans (by decide) hLo)) rfl (sp_356 (Nat.le_trans (by decide : 0 ≤ 2 - 1) (Nat.sub_le_sub_right hF 1)) (ml_sub wm_356 (Nat.le_trans (by decide : 0 ≤ 51 - 23) (Nat.sub_le_sub_right hLo 23))) (wp_bind h) (fun v20 h => rs_back1 ?_))
    exact rs_lret wi_202_275 wr_202 (hQ v20 h)
  by_cases q21 : (c.1 121 (ix a1)) = 214
  ·
    have h := wp_pos h q21
    refine rs_tsk (tg := 108) (off := 83) (v := 214) wi_202_25 q21 (by decide) (by decide) ⟨by decide, by decide⟩ ?_
    exact hj108 _ h _ l0 l1 l2 l4
  have h := wp_neg h q21
  by_cases q22 : (c.1 121 (ix a1)) = 215
  ·
    have h := wp_pos h q22
    refine rs_tsk (tg := 108) (off := 83) (v := 215) wi_202_25 q22 (by decide) (by decide) ⟨by decide, by decide⟩ ?_
    exact hj108 _ h _ l0 l1 l2 l4
  have h := wp_neg h q22
  by_cases q23 : (c.1 121 (ix a1)) = 216
  ·
    have h := wp_pos h q23
    refine rs_tsk (tg := 134) (off := 109) (v := 216) wi_202_25 q23 (by decide) (by decide) ⟨by decide, by decide⟩ ?_
    refine rs_lldn wi_202_134 l2 ?_
    refine rs_ild wi_202_135 l4 ?_
    refine rs_pure wi_202_137 rfl ?_
    refine rs_topi (v := 1) (by decide) ?_
    refine rs_pure wi_202_138 rfl ?_
    refine rs_lldn wi_202_139 l2 ?_
    refine rs_aldn wi_202_140 l0 ?_
    refine dq_gr wi_202_141 wf_202_45 tf_150_1 ?_
    refine dq_gr wi_202_144 wf_202_173 tf_114_9 ?_
    refine rs_ildn wi_202_147 l1 ?_
    obtain ⟨g24, h⟩ := wp_gd h
    refine dq_iald wi_202_148 t_122 g24 ?_
    refine rs_SN wi_202_149 wc_202_157 rfl (Nat.le_trans (by decide) hF) (ml_le wm_355 (Nat.le_trans (by decide) hLo)) rfl (sp_355 (Nat.le_trans (by decide : 0 ≤ 2 - 1) (Nat.sub_le_sub_right hF 1)) (ml_sub wm_355 (Nat.le_trans (by decide : 0 ≤ 51 - 22) (Nat.sub_le_sub_right hLo 22))) (wp_bind h) (fun v25 h => rs_back1 ?_))
    refine rs_SN wi_202_152 wc_202_132 rfl (Nat.le_trans (by decide) hF) (ml_le wm_356 (Nat.le_trans (by decide) hLo)) rfl (sp_356 (Nat.le_trans (by decide : 0 ≤ 2 - 1) (Nat.sub_le_sub_right hF 1)) (ml_sub wm_356 (Nat.le_trans (by decide : 0 ≤ 51 - 23) (Nat.sub_le_sub_right hLo 23))) (wp_bind h) (fun v26 h => rs_back1 ?_))
    exact rs_lret wi_202_155 wr_202 (hQ v26 h)
  have h := wp_neg h q23
  by_cases q27 : (c.1 121 (ix a1)) = 217
  ·
    have h := wp_pos h q27
    refine rs_tsk (tg := 156) (off := 131) (v := 217) wi_202_25 q27 (by decide) (by decide) ⟨by decide, by decide⟩ ?_
    refine rs_lldn wi_202_156 l2 ?_
    refine rs_aldn wi_202_157 l0 ?_
    refine dq_gr wi_202_158 wf_202_45 tf_150_1 ?_
    refine dq_gr wi_202_161 wf_202_173 tf_114_9 ?_
    refine rs_ildn wi_202_164 l1 ?_
    obtain ⟨g28, h⟩ := wp_gd h
    refine dq_iald wi_202_165 t_122 g28 ?_
    refine rs_lldn wi_202_166 l2 ?_
    refine rs_ild wi_202_167 l4 ?_
    refine rs_SN wi_202_169 wc_202_157 rfl (Nat.le_trans (by decide) hF) (ml_le wm_355 (Nat.le_trans (by decide) hLo)) rfl (sp_355 (Nat.le_trans (by decide : 0 ≤ 2 - 1) (Nat.sub_le_sub_right hF 1)) (ml_sub wm_355 (Nat.le_trans (by decide : 0 ≤ 51 - 22) (Nat.sub_le_sub_right hLo 22))) (wp_bind h) (fun v29 h => rs_back1 ?_))
    refine rs_SN wi_202_172 wc_202_132 rfl (Nat.le_trans (by decide) hF) (ml_le wm_356 (Nat.le_trans (by decide) hLo)) rfl (sp_356 (Nat.le_trans (by decide : 0 ≤ 2 - 1) (Nat.sub_le_sub_right hF 1)) (ml_sub wm_356 (Nat.le_trans (by decide : 0 ≤ 51 - 23) (Nat.sub_le_sub_right hLo 23))) (wp_bind h) (fun v30 h => rs_back1 ?_))
    refine rs_ild wi_202_175 l4 ?_
    refine rs_pure wi_202_177 rfl ?_
    refine rs_topi (v := 0) (by decide) ?_
    refine rs_SN wi_202_178 wc_202_132 rfl (Nat.le_trans (by decide) hF) (ml_le wm_356 (Nat.le_trans (by decide) hLo)) rfl (sp_356 (Nat.le_trans (by decide : 0 ≤ 2 - 1) (Nat.sub_le_sub_right hF 1)) (ml_sub wm_356 (Nat.le_trans (by decide : 0 ≤ 51 - 23) (Nat.sub_le_sub_right hLo 23))) (wp_bind h) (fun v31 h => rs_back1 ?_))
    exact rs_lret wi_202_181 wr_202 (hQ v31 h)
  have h := wp_neg h q27
  by_cases q32 : (c.1 121 (ix a1)) = 218
  ·
    have h := wp_pos h q32
    refine rs_tsk (tg := 182) (off := 157) (v := 218) wi_202_25 q32 (by decide) (by decide) ⟨by decide, by decide⟩ ?_
    refine rs_lldn wi_202_182 l2 ?_
    refine rs_ild wi_202_183 l4 ?_
    refine rs_pure wi_202_185 rfl ?_
    refine rs_topi (v := 1) (by decide) ?_
    refine rs_pure wi_202_186 rfl ?_
    refine rs_aldn wi_202_187 l0 ?_
    refine dq_gr wi_202_188 wf_202_49 tf_150_2 ?_
    refine rs_aldn wi_202_191 l0 ?_
    refine dq_gr wi_202_192 wf_202_45 tf_150_1 ?_
    refine dq_gr wi_202_195 wf_202_170 tf_114_10 ?_
    refine rs_ildn wi_202_198 l1 ?_
    obtain ⟨g33, h⟩ := wp_gd h
    refine dq_iald wi_202_199 t_123 g33 ?_
    refine rs_aldn wi_202_200 l0 ?_
    refine dq_gi wi_202_201 wf_202_9 tf_150_3 ?_
    refine rs_V wi_202_204 wc_202_126 rfl (dq_isa tf_146_0 wa_4_190) (Nat.le_trans (by decide) hF) (ml_le wm_190 (Nat.le_trans (by decide) hLo)) rfl (sp_190 hw (Nat.le_trans (by decide : 0 ≤ 2 - 1) (Nat.sub_le_sub_right hF 1)) (ml_sub wm_190 (Nat.le_trans (by decide : 0 ≤ 51 - 23) (Nat.sub_le_sub_right hLo 23))) (wp_bind h) (fun v34 h => rs_back1 ?_))
    refine rs_SN wi_202_207 wc_202_132 rfl (Nat.le_trans (by decide) hF) (ml_le wm_356 (Nat.le_trans (by decide) hLo)) rfl (sp_356 (Nat.le_trans (by decide : 0 ≤ 2 - 1) (Nat.sub_le_sub_right hF 1)) (ml_sub wm_356 (Nat.le_trans (by decide : 0 ≤ 51 - 23) (Nat.sub_le_sub_right hLo 23))) (wp_bind h) (fun v35 h => rs_back1 ?_))
    exact rs_lret wi_202_210 wr_202 (hQ v35 h)
  have h := wp_neg h q32
  by_cases q36 : (c.1 121 (ix a1)) = 219
  ·
    have h := wp_pos h q36
    refine rs_tsk (tg := 211) (off := 186) (v := 219) wi_202_25 q36 (by decide) (by decide) ⟨by decide, by decide⟩ ?_
    exact hj211 _ h _ l2 l4
  have h := wp_neg h q36
  by_cases q37 : (c.1 121 (ix a1)) = 220
  ·
    have h := wp_pos h q37
    refine rs_tsk (tg := 219) (off := 194) (v := 220) wi_202_25 q37 (by decide) (by decide) ⟨by decide, by decide⟩ ?_
    refine rs_aldn wi_202_219 l0 ?_
    refine rs_ildn wi_202_220 l1 ?_
    refine rs_lldn wi_202_221 l2 ?_
    refine rs_ild wi_202_222 l4 ?_
    refine rs_V wi_202_224 wc_202_176 rfl (dq_isa tf_150_0 wa_5_203) (Nat.le_trans (by decide) hF) (ml_le wm_203 (Nat.le_trans (by decide) hLo)) rfl (sp_203 hw (Nat.le_trans (by decide : 1 ≤ 2 - 1) (Nat.sub_le_sub_right hF 1)) (ml_sub wm_203 (Nat.le_trans (by decide : 23 ≤ 51 - 28) (Nat.sub_le_sub_right hLo 28))) (wp_bind h) (fun v38 h => rs_back1 ?_))
    exact rs_lret wi_202_227 wr_202 (hQ v38 h)
  have h := wp_neg h q37
  by_cases q39 : (c.1 121 (ix a1)) = 221
  ·
    have h := wp_pos h q39
    refine rs_tsk (tg := 327) (off := 302) (v := 221) wi_202_25 q39 (by decide) (by decide) ⟨by decide, by decide⟩ ?_
    exact hj327 _ h _ l2
  have h := wp_neg h q39
  by_cases q40 : (c.1 121 (ix a1)) = 222
  ·
    have h := wp_pos h q40
    refine rs_tsk (tg := 228) (off := 203) (v := 222) wi_202_25 q40 (by decide) (by decide) ⟨by decide, by decide⟩ ?_
    exact hj228 _ h _ l0 l2 l4
  have h := wp_neg h q40
  by_cases q41 : (c.1 121 (ix a1)) = 223
  ·
    have h := wp_pos h q41
    refine rs_tsk (tg := 228) (off := 203) (v := 223) wi_202_25 q41 (by decide) (by decide) ⟨by decide, by decide⟩ ?_
    exact hj228 _ h _ l0 l2 l4
  have h := wp_neg h q41
  by_cases q42 : (c.1 121 (ix a1)) = 224
  ·
    have h := wp_pos h q42
    refine rs_tsk (tg := 228) (off := 203) (v := 224) wi_202_25 q42 (by decide) (by decide) ⟨by decide, by decide⟩ ?_
    exact hj228 _ h _ l0 l2 l4
  have h := wp_neg h q42
  by_cases q43 : (c.1 121 (ix a1)) = 225
  ·
    have h := wp_pos h q43
    refine rs_tsk (tg := 276) (off := 251) (v := 225) wi_202_25 q43 (by decide) (by decide) ⟨by decide, by decide⟩ ?_
    refine rs_lldn wi_202_276 l2 ?_
    refine rs_ild wi_202_277 l4 ?_
    refine rs_pure wi_202_279 rfl ?_
    refine rs_topi (v := 1) (by decide) ?_
    refine rs_pure wi_202_280 rfl ?_
    refine rs_lldn wi_202_281 l2 ?_
    refine rs_ild wi_202_282 l4 ?_
    refine rs_SN wi_202_284 wc_202_157 rfl (Nat.le_trans (by decide) hF) (ml_le wm_355 (Nat.le_trans (by decide) hLo)) rfl (sp_355 (Nat.le_trans (by decide : 0 ≤ 2 - 1) (Nat.sub_le_sub_right hF 1)) (ml_sub wm_355 (Nat.le_trans (by decide : 0 ≤ 51 - 22) (Nat.sub_le_sub_right hLo 22))) (wp_bind h) (fun v44 h => rs_back1 ?_))
    refine rs_SN wi_202_287 wc_202_132 rfl (Nat.le_trans (by decide) hF) (ml_le wm_356 (Nat.le_trans (by decide) hLo)) rfl (sp_356 (Nat.le_trans (by decide : 0 ≤ 2 - 1) (Nat.sub_le_sub_right hF 1)) (ml_sub wm_356 (Nat.le_trans (by decide : 0 ≤ 51 - 23) (Nat.sub_le_sub_right hLo 23))) (wp_bind h) (fun v45 h => rs_back1 ?_))
    exact rs_lret wi_202_290 wr_202 (hQ v45 h)
  have h := wp_neg h q43
  by_cases q46 : (c.1 121 (ix a1)) = 226
  ·
    have h := wp_pos h q46
    refine rs_tsk (tg := 211) (off := 186) (v := 226) wi_202_25 q46 (by decide) (by decide) ⟨by decide, by decide⟩ ?_
    exact hj211 _ h _ l2 l4
  have h := wp_neg h q46
  by_cases q47 : (c.1 121 (ix a1)) = 227
  ·
    have h := wp_pos h q47
    refine rs_tsk (tg := 327) (off := 302) (v := 227) wi_202_25 q47 (by decide) (by decide) ⟨by decide, by decide⟩ ?_
    exact hj327 _ h _ l2
  have h := wp_neg h q47
  by_cases q48 : (c.1 121 (ix a1)) = 228
  ·
    have h := wp_pos h q48
    refine rs_tsk (tg := 211) (off := 186) (v := 228) wi_202_25 q48 (by decide) (by decide) ⟨by decide, by decide⟩ ?_
    exact hj211 _ h _ l2 l4
  have h := wp_neg h q48
  by_cases q49 : (c.1 121 (ix a1)) = 229
  ·
    have h := wp_pos h q49
    refine rs_tsk (tg := 327) (off := 302) (v := 229) wi_202_25 q49 (by decide) (by decide) ⟨by decide, by decide⟩ ?_
    exact hj327 _ h _ l2
  have h := wp_neg h q49
  by_cases q50 : (c.1 121 (ix a1)) = 230
  ·
    have h := wp_pos h q50
    refine rs_tsk (tg := 291) (off := 266) (v := 230) wi_202_25 q50 (by decide) (by decide) ⟨by decide, by decide⟩ ?_
    refine rs_aldn wi_202_291 l0 ?_
    refine dq_gr wi_202_292 wf_202_45 tf_150_1 ?_
    refine dq_gr wi_202_295 wf_202_170 tf_114_10 ?_
    refine rs_ildn wi_202_298 l1 ?_
    obtain ⟨g51, h⟩ := wp_gd h
    refine dq_iald wi_202_299 t_123 g51 ?_
    refine rs_aldn wi_202_300 l0 ?_
    refine dq_gi wi_202_301 wf_202_9 tf_150_3 ?_
    refine wp_jn (B := fun p52 : Int64 => ∀ lv, rs (rt_P sc fm) 202 F Lo 326 lv [.long p52] (hq true c y w) Q) h (fun p52 h lv => ?_) (fun j326 hj326 h => ?_)
    ·
      exact rs_lret wi_202_326 wr_202 (hQ p52 h)
    refine rs_icne (tg := 325) wi_202_304 ⟨by decide, by decide⟩ (fun q => ?_) (fun q => ?_)
    ·
      have h := wp_neg h q
      refine rs_lldn wi_202_325 l2 ?_
      exact hj326 _ h _
    ·
      have h := wp_pos h q
      refine rs_lldn wi_202_307 l2 ?_
      refine rs_ild wi_202_308 l4 ?_
      refine rs_aldn wi_202_310 l0 ?_
      refine dq_gr wi_202_311 wf_202_45 tf_150_1 ?_
      refine dq_gr wi_202_314 wf_202_173 tf_114_9 ?_
      refine rs_ildn wi_202_317 l1 ?_
      obtain ⟨g53, h⟩ := wp_gd h
      refine dq_iald wi_202_318 t_122 g53 ?_
      refine rs_SN wi_202_319 wc_202_132 rfl (Nat.le_trans (by decide) hF) (ml_le wm_356 (Nat.le_trans (by decide) hLo)) rfl (sp_356 (Nat.le_trans (by decide : 0 ≤ 2 - 1) (Nat.sub_le_sub_right hF 1)) (ml_sub wm_356 (Nat.le_trans (by decide : 0 ≤ 51 - 23) (Nat.sub_le_sub_right hLo 23))) (wp_bind h) (fun v54 h => rs_back1 ?_))
      refine rs_goto (tg := 326) wi_202_322 ⟨by decide, by decide⟩ ?_
      exact hj326 _ h _
  have h := wp_neg h q50
  refine rs_tsd (tg := 327) wi_202_25 (rz_sw fun k k1 k2 => by
    have kk : k = 214 ∨ k = 215 ∨ k = 216 ∨ k = 217 ∨ k = 218 ∨ k = 219 ∨ k = 220 ∨ k = 221 ∨ k = 222 ∨ k = 223 ∨ k = 224 ∨ k = 225 ∨ k = 226 ∨ k = 227 ∨ k = 228 ∨ k = 229 ∨ k = 230 := by omega
    rcases kk with rfl | rfl | rfl | rfl | rfl | rfl | rfl | rfl | rfl | rfl | rfl | rfl | rfl | rfl | rfl | rfl | rfl
    · exact q21
    · exact q22
    · exact q23
    · exact q27
    · exact q32
    · exact q36
    · exact q37
    · exact q39
    · exact q40
    · exact q41
    · exact q42
    · exact q43
    · exact q46
    · exact q47
    · exact q48
    · exact q49
    · exact q50
    ) ⟨by decide, by decide⟩ ?_
  exact hj327 _ h _ l2
theorem wc_201_132 : rx_ct (rt_P sc fm) 201 132 = some (11, 356, 3) := (by decide +kernel : rt_ct 201 132 = some (11, 356, 3))
theorem wc_201_157 : rx_ct (rt_P sc fm) 201 157 = some (11, 355, 2) := (by decide +kernel : rt_ct 201 157 = some (11, 355, 2))
theorem wc_201_161 : rx_ct (rt_P sc fm) 201 161 = some (0, 238, 2) := (by decide +kernel : rt_ct 201 161 = some (0, 238, 2))
theorem wf_201_108 : rx_ft (rt_P sc fm) 201 108 = some (9, 1) := (by decide +kernel : rt_ft 201 108 = some (9, 1))
theorem wf_201_41 : rx_ft (rt_P sc fm) 201 41 = some (5, 0) := (by decide +kernel : rt_ft 201 41 = some (5, 0))
theorem wf_201_9 : rx_ft (rt_P sc fm) 201 9 = some (5, 3) := (by decide +kernel : rt_ft 201 9 = some (5, 3))
theorem wi_201_0 : ri (rt_P sc fm) 201 0 (.lload_n 1) (1) := ri_of (by decide +kernel) rfl
theorem wi_201_1 : ri (rt_P sc fm) 201 1 (.lstore 5) (3) := ri_of (by decide +kernel) rfl
theorem wi_201_10 : ri (rt_P sc fm) 201 10 (.if_icmp .ge 55) (13) := ri_of (by decide +kernel) rfl
theorem wi_201_13 : ri (rt_P sc fm) 201 13 (.lload_n 1) (14) := ri_of (by decide +kernel) rfl
theorem wi_201_14 : ri (rt_P sc fm) 201 14 (.lload_n 3) (15) := ri_of (by decide +kernel) rfl
theorem wi_201_15 : ri (rt_P sc fm) 201 15 (.lcmp) (16) := ri_of (by decide +kernel) rfl
theorem wi_201_16 : ri (rt_P sc fm) 201 16 (.ifCond .eq 49) (19) := ri_of (by decide +kernel) rfl
theorem wi_201_19 : ri (rt_P sc fm) 201 19 (.aload_n 0) (20) := ri_of (by decide +kernel) rfl
theorem wi_201_20 : ri (rt_P sc fm) 201 20 (.getfield 41) (23) := ri_of (by decide +kernel) rfl
theorem wi_201_23 : ri (rt_P sc fm) 201 23 (.getfield 108) (26) := ri_of (by decide +kernel) rfl
theorem wi_201_26 : ri (rt_P sc fm) 201 26 (.aload_n 0) (27) := ri_of (by decide +kernel) rfl
theorem wi_201_27 : ri (rt_P sc fm) 201 27 (.getfield 9) (30) := ri_of (by decide +kernel) rfl
theorem wi_201_3 : ri (rt_P sc fm) 201 3 (.iconst 0) (4) := ri_of (by decide +kernel) rfl
theorem wi_201_30 : ri (rt_P sc fm) 201 30 (.aaload) (31) := ri_of (by decide +kernel) rfl
theorem wi_201_31 : ri (rt_P sc fm) 201 31 (.lload_n 1) (32) := ri_of (by decide +kernel) rfl
theorem wi_201_32 : ri (rt_P sc fm) 201 32 (.iload 7) (34) := ri_of (by decide +kernel) rfl
theorem wi_201_34 : ri (rt_P sc fm) 201 34 (.invokestatic 157) (37) := ri_of (by decide +kernel) rfl
theorem wi_201_37 : ri (rt_P sc fm) 201 37 (.lload_n 3) (38) := ri_of (by decide +kernel) rfl
theorem wi_201_38 : ri (rt_P sc fm) 201 38 (.iload 7) (40) := ri_of (by decide +kernel) rfl
theorem wi_201_4 : ri (rt_P sc fm) 201 4 (.istore 7) (6) := ri_of (by decide +kernel) rfl
theorem wi_201_40 : ri (rt_P sc fm) 201 40 (.invokestatic 157) (43) := ri_of (by decide +kernel) rfl
theorem wi_201_43 : ri (rt_P sc fm) 201 43 (.invokevirtual 161) (46) := ri_of (by decide +kernel) rfl
theorem wi_201_46 : ri (rt_P sc fm) 201 46 (.istore 8) (48) := ri_of (by decide +kernel) rfl
theorem wi_201_48 : ri (rt_P sc fm) 201 48 (.lload 5) (50) := ri_of (by decide +kernel) rfl
theorem wi_201_50 : ri (rt_P sc fm) 201 50 (.iload 7) (52) := ri_of (by decide +kernel) rfl
theorem wi_201_52 : ri (rt_P sc fm) 201 52 (.iload 8) (54) := ri_of (by decide +kernel) rfl
theorem wi_201_54 : ri (rt_P sc fm) 201 54 (.invokestatic 132) (57) := ri_of (by decide +kernel) rfl
theorem wi_201_57 : ri (rt_P sc fm) 201 57 (.lstore 5) (59) := ri_of (by decide +kernel) rfl
theorem wi_201_59 : ri (rt_P sc fm) 201 59 (.iinc 7 1) (62) := ri_of (by decide +kernel) rfl
theorem wi_201_6 : ri (rt_P sc fm) 201 6 (.iload 7) (8) := ri_of (by decide +kernel) rfl
theorem wi_201_62 : ri (rt_P sc fm) 201 62 (.goto (-56)) (65) := ri_of (by decide +kernel) rfl
theorem wi_201_65 : ri (rt_P sc fm) 201 65 (.lload 5) (67) := ri_of (by decide +kernel) rfl
theorem wi_201_67 : ri (rt_P sc fm) 201 67 (.lreturn) (68) := ri_of (by decide +kernel) rfl
theorem wi_201_8 : ri (rt_P sc fm) 201 8 (.bipush 16) (10) := ri_of (by decide +kernel) rfl
theorem wr_201 : rx_rt (rt_P sc fm) 201 = (some FieldType.long) := (by decide +kernel : rt_rt 201 = (some FieldType.long))
/-- MarkHouse$Flow.joinStates(JJ)J -/
def d_201 (n : Nat) (a1 : Int64) (a3 : Int64) (c : cS) : Option (Int64) :=
  Option.bind (whl (R := (Int64)) (fun s3 : Int64 × Int32 =>
    if 16 ≤ s3.2 then
      some (.inr s3.1)
    else
      if (lg_cmp a1 a3) = 0 then
        some (.inr s3.1)
      else
        if ib (c.1 150 3) 4 then
        Option.bind (d_355 n a1 s3.2) (fun v5 =>
        Option.bind (d_355 n a3 s3.2) (fun v6 =>
        Option.bind (d_238 n (ix (c.1 150 3)) v5 v6 c) (fun v7 =>
        Option.bind (d_356 n s3.1 s3.2 v7) (fun v9 =>
        lt (s3.2 + 1 : Int32) (fun v12 =>
        some (.inl (v9, v12)))))))
        else none) n (a1, 0))
  (fun x14 : Int64 =>
    some x14)
theorem sp_201 {F Lo n : Nat} {a1 : Int64} {a3 : Int64} {c y : cS} {w : cW} {K : Int64 → Prop} {Q : ((Option Value) ⊕ String) → List va_E → Prop} (hw : rOK fm w) (hF : 1 ≤ F) (hLo : 23 ≤ Lo)  (h : wp (d_201 n a1 a3 c) K) (hQ : ∀ r, K r → Q (.inl (some (.long r))) (hq true c y w)) : rs (rt_P sc fm) 201 F Lo 0 [(0, .ref 150), (1, .long a1), (3, .long a3)] [] (hq true c y w) Q := by
  unfold d_201 at h
  obtain ⟨lv, elv⟩ : ∃ lv : rx_L, lv = [(0, .ref 150), (1, .long a1), (3, .long a3)] := ⟨_, rfl⟩
  rw [← elv]
  have l0 : rx_ld lv 0 = some (.ref 150) := by rw [elv]; rfl
  have l1 : rx_ld lv 1 = some (.long a1) := by rw [elv]; rfl
  have l3 : rx_ld lv 3 = some (.long a3) := by rw [elv]; rfl
  refine rs_lldn wi_201_0 l1 ?_
  refine dl_lst wi_201_1 rfl (fun lv l5 t1 => ?_)
  have l0 := t1 _ _ (by decide) (by decide) (Or.inl rfl) l0
  have l1 := t1 _ _ (by decide) (by decide) (Or.inr (by decide)) l1
  have l3 := t1 _ _ (by decide) (by decide) (Or.inr (by decide)) l3
  refine rs_pure wi_201_3 rfl ?_
  refine rs_topi (v := 0) (by decide) ?_
  refine dl_ist wi_201_4 rfl (fun lv l7 t2 => ?_)
  have l0 := t2 _ _ (by decide) (Or.inl rfl) l0
  have l1 := t2 _ _ (by decide) (Or.inr (by decide)) l1
  have l3 := t2 _ _ (by decide) (Or.inr (by decide)) l3
  have l5 := t2 _ _ (by decide) (Or.inr (by decide)) l5
  refine whl_ex (A := fun s3 : Int64 × Int32 => ∀ lv, rx_ld lv 0 = some (.ref 150) → rx_ld lv 1 = some (.long a1) → rx_ld lv 3 = some (.long a3) → rx_ld lv 5 = some (.long s3.1) → rx_ld lv 7 = some (.int s3.2) → rs (rt_P sc fm) 201 F Lo 6 lv [] (hq true c y w) Q) (B := (fun x14 : Int64 => ∀ lv, rx_ld lv 5 = some (.long x14) → rs (rt_P sc fm) 201 F Lo 65 lv [] (hq true c y w) Q)) ?_ ?_ _ _ (wp_bind h) _ l0 l1 l3 l5 l7
  · intro s3 h lv l0 l1 l3 l5 l7
    refine rs_ild wi_201_6 l7 ?_
    refine rs_pure wi_201_8 rfl ?_
    refine rs_topi (v := 16) (by decide) ?_
    refine rs_icge (tg := 65) wi_201_10 ⟨by decide, by decide⟩ (fun q => ?_) (fun q => ?_)
    ·
      have h := wp_pos h q
      exact h _ l5
    ·
      have h := wp_neg h q
      refine rs_lldn wi_201_13 l1 ?_
      refine rs_lldn wi_201_14 l3 ?_
      refine rs_pure wi_201_15 rfl ?_
      refine rs_ifeq (tg := 65) wi_201_16 ⟨by decide, by decide⟩ (fun q => ?_) (fun q => ?_)
      ·
        have h := wp_pos h q
        exact h _ l5
      ·
        have h := wp_neg h q
        refine rs_aldn wi_201_19 l0 ?_
        refine dq_gr wi_201_20 wf_201_41 tf_150_0 ?_
        refine dq_gr wi_201_23 wf_201_108 tf_7_1 ?_
        refine rs_aldn wi_201_26 l0 ?_
        refine dq_gi wi_201_27 wf_201_9 tf_150_3 ?_
        obtain ⟨g4, h⟩ := wp_gd h
        refine dq_aald wi_201_30 (by decide) t_8 g4 (hw.1 _ (ib_lt g4)) ?_
        refine rs_lldn wi_201_31 l1 ?_
        refine rs_ild wi_201_32 l7 ?_
        refine rs_SN wi_201_34 wc_201_157 rfl (Nat.le_trans (by decide) hF) (ml_le wm_355 (Nat.le_trans (by decide) hLo)) rfl (sp_355 (Nat.le_trans (by decide : 0 ≤ 1 - 1) (Nat.sub_le_sub_right hF 1)) (ml_sub wm_355 (Nat.le_trans (by decide : 0 ≤ 23 - 22) (Nat.sub_le_sub_right hLo 22))) (wp_bind h) (fun v5 h => rs_back1 ?_))
        refine rs_lldn wi_201_37 l3 ?_
        refine rs_ild wi_201_38 l7 ?_
        refine rs_SN wi_201_40 wc_201_157 rfl (Nat.le_trans (by decide) hF) (ml_le wm_355 (Nat.le_trans (by decide) hLo)) rfl (sp_355 (Nat.le_trans (by decide : 0 ≤ 1 - 1) (Nat.sub_le_sub_right hF 1)) (ml_sub wm_355 (Nat.le_trans (by decide : 0 ≤ 23 - 22) (Nat.sub_le_sub_right hLo 22))) (wp_bind h) (fun v6 h => rs_back1 ?_))
        refine rs_V wi_201_43 wc_201_161 rfl (dq_isa (fO_0 (ib_lt g4)) wa_8_238) (Nat.le_trans (by decide) hF) (ml_le wm_238 (Nat.le_trans (by decide) hLo)) rfl (sp_238 hw (Nat.le_trans (by decide : 0 ≤ 1 - 1) (Nat.sub_le_sub_right hF 1)) (ml_sub wm_238 (Nat.le_trans (by decide : 0 ≤ 23 - 22) (Nat.sub_le_sub_right hLo 22))) (ib_lt g4) (wp_bind h) (fun v7 h => rs_back1 ?_))
        refine dl_ist wi_201_46 rfl (fun lv l8 t8 => ?_)
        have l0 := t8 _ _ (by decide) (Or.inl rfl) l0
        have l1 := t8 _ _ (by decide) (Or.inr (by decide)) l1
        have l3 := t8 _ _ (by decide) (Or.inr (by decide)) l3
        have l5 := t8 _ _ (by decide) (Or.inr (by decide)) l5
        have l7 := t8 _ _ (by decide) (Or.inl rfl) l7
        refine rs_lld wi_201_48 l5 ?_
        refine rs_ild wi_201_50 l7 ?_
        refine rs_ild wi_201_52 l8 ?_
        refine rs_SN wi_201_54 wc_201_132 rfl (Nat.le_trans (by decide) hF) (ml_le wm_356 (Nat.le_trans (by decide) hLo)) rfl (sp_356 (Nat.le_trans (by decide : 0 ≤ 1 - 1) (Nat.sub_le_sub_right hF 1)) (ml_sub wm_356 (Nat.le_trans (by decide : 0 ≤ 23 - 23) (Nat.sub_le_sub_right hLo 23))) (wp_bind h) (fun v9 h => rs_back1 ?_))
        refine dl_lst wi_201_57 rfl (fun lv l5 t10 => ?_)
        have l0 := t10 _ _ (by decide) (by decide) (Or.inl rfl) l0
        have l1 := t10 _ _ (by decide) (by decide) (Or.inr (by decide)) l1
        have l3 := t10 _ _ (by decide) (by decide) (Or.inr (by decide)) l3
        have l7 := t10 _ _ (by decide) (by decide) (Or.inl rfl) l7
        obtain ⟨v12, e13, h⟩ := wp_lt h
        refine dl_inc wi_201_59 l7 rfl e13 (fun lv l7 t11 => ?_)
        have l0 := t11 _ _ (by decide) (Or.inl rfl) l0
        have l1 := t11 _ _ (by decide) (Or.inr (by decide)) l1
        have l3 := t11 _ _ (by decide) (Or.inr (by decide)) l3
        have l5 := t11 _ _ (by decide) (Or.inr (by decide)) l5
        refine rs_goto (tg := 6) wi_201_62 ⟨by decide, by decide⟩ ?_
        exact h _ l0 l1 l3 l5 l7
  ·
    intro x14 h lv l5
    refine rs_lld wi_201_65 l5 ?_
    exact rs_lret wi_201_67 wr_201 (hQ x14 h)
theorem t_151 : ta true 151 1 1024 := ⟨rfl, by decide, by decide⟩
theorem tf_150_4 : fo true 150 5 4 (.ref 151) := ⟨_, rfl, rfl, by decide, by decide⟩
theorem wa_5_201 : rz_cn 5 (rx_yn (rt_P sc fm) 201).cls = true := (by decide +kernel : rz_cn 5 (rt_yn 201).cls = true)
theorem wc_200_153 : rx_ct (rt_P sc fm) 200 153 = some (0, 201, 2) := (by decide +kernel : rt_ct 200 153 = some (0, 201, 2))
theorem wf_200_15 : rx_ft (rt_P sc fm) 200 15 = some (5, 4) := (by decide +kernel : rt_ft 200 15 = some (5, 4))
theorem wi_200_0 : ri (rt_P sc fm) 200 0 (.aload_n 0) (1) := ri_of (by decide +kernel) rfl
theorem wi_200_1 : ri (rt_P sc fm) 200 1 (.getfield 15) (4) := ri_of (by decide +kernel) rfl
theorem wi_200_10 : ri (rt_P sc fm) 200 10 (.lload 5) (12) := ri_of (by decide +kernel) rfl
theorem wi_200_12 : ri (rt_P sc fm) 200 12 (.ldc2_w 82) (15) := ri_of (by decide +kernel) rfl
theorem wi_200_15 : ri (rt_P sc fm) 200 15 (.lcmp) (16) := ri_of (by decide +kernel) rfl
theorem wi_200_16 : ri (rt_P sc fm) 200 16 (.ifCond .ne 7) (19) := ri_of (by decide +kernel) rfl
theorem wi_200_19 : ri (rt_P sc fm) 200 19 (.lload_n 3) (20) := ri_of (by decide +kernel) rfl
theorem wi_200_20 : ri (rt_P sc fm) 200 20 (.goto 10) (23) := ri_of (by decide +kernel) rfl
theorem wi_200_23 : ri (rt_P sc fm) 200 23 (.aload_n 0) (24) := ri_of (by decide +kernel) rfl
theorem wi_200_24 : ri (rt_P sc fm) 200 24 (.lload 5) (26) := ri_of (by decide +kernel) rfl
theorem wi_200_26 : ri (rt_P sc fm) 200 26 (.lload_n 3) (27) := ri_of (by decide +kernel) rfl
theorem wi_200_27 : ri (rt_P sc fm) 200 27 (.invokevirtual 153) (30) := ri_of (by decide +kernel) rfl
theorem wi_200_30 : ri (rt_P sc fm) 200 30 (.lstore 7) (32) := ri_of (by decide +kernel) rfl
theorem wi_200_32 : ri (rt_P sc fm) 200 32 (.aload_n 0) (33) := ri_of (by decide +kernel) rfl
theorem wi_200_33 : ri (rt_P sc fm) 200 33 (.getfield 15) (36) := ri_of (by decide +kernel) rfl
theorem wi_200_36 : ri (rt_P sc fm) 200 36 (.iload_n 1) (37) := ri_of (by decide +kernel) rfl
theorem wi_200_37 : ri (rt_P sc fm) 200 37 (.iload_n 2) (38) := ri_of (by decide +kernel) rfl
theorem wi_200_38 : ri (rt_P sc fm) 200 38 (.iadd) (39) := ri_of (by decide +kernel) rfl
theorem wi_200_39 : ri (rt_P sc fm) 200 39 (.lload 7) (41) := ri_of (by decide +kernel) rfl
theorem wi_200_4 : ri (rt_P sc fm) 200 4 (.iload_n 1) (5) := ri_of (by decide +kernel) rfl
theorem wi_200_41 : ri (rt_P sc fm) 200 41 (.lastore) (42) := ri_of (by decide +kernel) rfl
theorem wi_200_42 : ri (rt_P sc fm) 200 42 (.lload 7) (44) := ri_of (by decide +kernel) rfl
theorem wi_200_44 : ri (rt_P sc fm) 200 44 (.lload 5) (46) := ri_of (by decide +kernel) rfl
theorem wi_200_46 : ri (rt_P sc fm) 200 46 (.lcmp) (47) := ri_of (by decide +kernel) rfl
theorem wi_200_47 : ri (rt_P sc fm) 200 47 (.ifCond .ne 7) (50) := ri_of (by decide +kernel) rfl
theorem wi_200_5 : ri (rt_P sc fm) 200 5 (.iload_n 2) (6) := ri_of (by decide +kernel) rfl
theorem wi_200_50 : ri (rt_P sc fm) 200 50 (.lconst 0) (51) := ri_of (by decide +kernel) rfl
theorem wi_200_51 : ri (rt_P sc fm) 200 51 (.goto 6) (54) := ri_of (by decide +kernel) rfl
theorem wi_200_54 : ri (rt_P sc fm) 200 54 (.lconst 1) (55) := ri_of (by decide +kernel) rfl
theorem wi_200_55 : ri (rt_P sc fm) 200 55 (.iload_n 2) (56) := ri_of (by decide +kernel) rfl
theorem wi_200_56 : ri (rt_P sc fm) 200 56 (.lshl) (57) := ri_of (by decide +kernel) rfl
theorem wi_200_57 : ri (rt_P sc fm) 200 57 (.lreturn) (58) := ri_of (by decide +kernel) rfl
theorem wi_200_6 : ri (rt_P sc fm) 200 6 (.iadd) (7) := ri_of (by decide +kernel) rfl
theorem wi_200_7 : ri (rt_P sc fm) 200 7 (.laload) (8) := ri_of (by decide +kernel) rfl
theorem wi_200_8 : ri (rt_P sc fm) 200 8 (.lstore 5) (10) := ri_of (by decide +kernel) rfl
theorem wk_200_82 : rx_kt (rt_P sc fm) 200 82 = some (.long (-1)) := (by decide +kernel : rt_kt 200 82 = some (.long (-1)))
theorem wm_201 : rx_ml (rt_P sc fm) 201 = 9 := (by decide +kernel : rt_ml 201 = 9)
theorem wr_200 : rx_rt (rt_P sc fm) 200 = (some FieldType.long) := (by decide +kernel : rt_rt 200 = (some FieldType.long))
/-- MarkHouse$Flow.bring(IIJ)J -/
def d_200 (n : Nat) (a1 : Int32) (a2 : Int32) (a3 : Int64) (c : cS) : Option (Int64 × cS) :=
  if ib (a1 + a2) 1024 then
  lt ((c.2 151 (ix (a1 + a2))) : Int64) (fun v3 =>
  jn (fun p5 : Int64 =>
    if ib (a1 + a2) 1024 then
    lt (pL c 151 (ix (a1 + a2)) p5) (fun c8 =>
    jn (fun p10 : Int64 =>
      some (p10, c8))
    (fun j57 =>
    if (lg_cmp p5 v3) = 0 then
      j57 0
    else
      j57 (1 <<< ((a2 : Int32).toInt64 &&& 63))))
    else none)
  (fun j30 =>
  if (lg_cmp v3 (-1)) = 0 then
    j30 a3
  else
    Option.bind (d_201 n v3 a3 c) (fun v11 =>
    j30 v11)))
  else none
theorem sp_200 {F Lo n : Nat} {a1 : Int32} {a2 : Int32} {a3 : Int64} {c y : cS} {w : cW} {K : Int64 × cS → Prop} {Q : ((Option Value) ⊕ String) → List va_E → Prop} (hw : rOK fm w) (hF : 2 ≤ F) (hLo : 51 ≤ Lo)  (h : wp (d_200 n a1 a2 a3 c) K) (hQ : ∀ r, K r → Q (.inl (some (.long r.1))) (hq true r.2 y w)) : rs (rt_P sc fm) 200 F Lo 0 [(0, .ref 150), (1, .int a1), (2, .int a2), (3, .long a3)] [] (hq true c y w) Q := by
  unfold d_200 at h
  obtain ⟨lv, elv⟩ : ∃ lv : rx_L, lv = [(0, .ref 150), (1, .int a1), (2, .int a2), (3, .long a3)] := ⟨_, rfl⟩
  rw [← elv]
  have l0 : rx_ld lv 0 = some (.ref 150) := by rw [elv]; rfl
  have l1 : rx_ld lv 1 = some (.int a1) := by rw [elv]; rfl
  have l2 : rx_ld lv 2 = some (.int a2) := by rw [elv]; rfl
  have l3 : rx_ld lv 3 = some (.long a3) := by rw [elv]; rfl
  refine rs_aldn wi_200_0 l0 ?_
  refine dq_gr wi_200_1 wf_200_15 tf_150_4 ?_
  refine rs_ildn wi_200_4 l1 ?_
  refine rs_ildn wi_200_5 l2 ?_
  refine rs_pure wi_200_6 rfl ?_
  obtain ⟨g1, h⟩ := wp_gd h
  refine dq_lald wi_200_7 t_151 g1 ?_
  obtain ⟨v3, e4, h⟩ := wp_lt h
  refine rs_topl e4 ?_
  refine dl_lst wi_200_8 rfl (fun lv l5 t2 => ?_)
  have l0 := t2 _ _ (by decide) (by decide) (Or.inl rfl) l0
  have l1 := t2 _ _ (by decide) (by decide) (Or.inl rfl) l1
  have l2 := t2 _ _ (by decide) (by decide) (Or.inl rfl) l2
  have l3 := t2 _ _ (by decide) (by decide) (Or.inr (by decide)) l3
  refine rs_lld wi_200_10 l5 ?_
  refine rs_ldcl wi_200_12 wk_200_82 ?_
  refine rs_pure wi_200_15 rfl ?_
  refine wp_jn (B := fun p5 : Int64 => ∀ lv, rx_ld lv 0 = some (.ref 150) → rx_ld lv 1 = some (.int a1) → rx_ld lv 2 = some (.int a2) → rx_ld lv 5 = some (.long v3) → rs (rt_P sc fm) 200 F Lo 30 lv [.long p5] (hq true c y w) Q) h (fun p5 h lv l0 l1 l2 l5 => ?_) (fun j30 hj30 h => ?_)
  ·
    refine dl_lst wi_200_30 rfl (fun lv l7 t6 => ?_)
    have l0 := t6 _ _ (by decide) (by decide) (Or.inl rfl) l0
    have l1 := t6 _ _ (by decide) (by decide) (Or.inl rfl) l1
    have l2 := t6 _ _ (by decide) (by decide) (Or.inl rfl) l2
    have l5 := t6 _ _ (by decide) (by decide) (Or.inr (by decide)) l5
    refine rs_aldn wi_200_32 l0 ?_
    refine dq_gr wi_200_33 wf_200_15 tf_150_4 ?_
    refine rs_ildn wi_200_36 l1 ?_
    refine rs_ildn wi_200_37 l2 ?_
    refine rs_pure wi_200_38 rfl ?_
    refine rs_lld wi_200_39 l7 ?_
    obtain ⟨g7, h⟩ := wp_gd h
    obtain ⟨c8, e9, h⟩ := wp_lt h
    refine dq_last wi_200_41 t_151 g7 e9 ?_
    refine rs_lld wi_200_42 l7 ?_
    refine rs_lld wi_200_44 l5 ?_
    refine rs_pure wi_200_46 rfl ?_
    refine wp_jn (B := fun p10 : Int64 => ∀ lv, rs (rt_P sc fm) 200 F Lo 57 lv [.long p10] (hq true c8 y w) Q) h (fun p10 h lv => ?_) (fun j57 hj57 h => ?_)
    ·
      exact rs_lret wi_200_57 wr_200 (hQ (p10, c8) h)
    refine rs_ifne (tg := 54) wi_200_47 ⟨by decide, by decide⟩ (fun q => ?_) (fun q => ?_)
    ·
      have h := wp_neg h q
      refine rs_pure wi_200_54 rfl ?_
      refine rs_topl (v := 1) (by decide) ?_
      refine rs_ildn wi_200_55 l2 ?_
      refine rs_pure wi_200_56 rfl ?_
      exact hj57 _ h _
    ·
      have h := wp_pos h q
      refine rs_pure wi_200_50 rfl ?_
      refine rs_topl (v := 0) (by decide) ?_
      refine rs_goto (tg := 57) wi_200_51 ⟨by decide, by decide⟩ ?_
      exact hj57 _ h _
  refine rs_ifne (tg := 23) wi_200_16 ⟨by decide, by decide⟩ (fun q => ?_) (fun q => ?_)
  ·
    have h := wp_neg h q
    refine rs_aldn wi_200_23 l0 ?_
    refine rs_lld wi_200_24 l5 ?_
    refine rs_lldn wi_200_26 l3 ?_
    refine rs_V wi_200_27 wc_200_153 rfl (dq_isa tf_150_0 wa_5_201) (Nat.le_trans (by decide) hF) (ml_le wm_201 (Nat.le_trans (by decide) hLo)) rfl (sp_201 hw (Nat.le_trans (by decide : 1 ≤ 2 - 1) (Nat.sub_le_sub_right hF 1)) (ml_sub wm_201 (Nat.le_trans (by decide : 23 ≤ 51 - 28) (Nat.sub_le_sub_right hLo 28))) (wp_bind h) (fun v11 h => rs_back1 ?_))
    exact hj30 _ h _ l0 l1 l2 l5
  ·
    have h := wp_pos h q
    refine rs_lldn wi_200_19 l3 ?_
    refine rs_goto (tg := 30) wi_200_20 ⟨by decide, by decide⟩ ?_
    exact hj30 _ h _ l0 l1 l2 l5
theorem wc_204_132 : rx_ct (rt_P sc fm) 204 132 = some (11, 356, 3) := (by decide +kernel : rt_ct 204 132 = some (11, 356, 3))
theorem wc_204_157 : rx_ct (rt_P sc fm) 204 157 = some (11, 355, 2) := (by decide +kernel : rt_ct 204 157 = some (11, 355, 2))
theorem wc_204_180 : rx_ct (rt_P sc fm) 204 180 = some (0, 239, 2) := (by decide +kernel : rt_ct 204 180 = some (0, 239, 2))
theorem wf_204_108 : rx_ft (rt_P sc fm) 204 108 = some (9, 1) := (by decide +kernel : rt_ft 204 108 = some (9, 1))
theorem wf_204_164 : rx_ft (rt_P sc fm) 204 164 = some (2, 12) := (by decide +kernel : rt_ft 204 164 = some (2, 12))
theorem wf_204_167 : rx_ft (rt_P sc fm) 204 167 = some (2, 8) := (by decide +kernel : rt_ft 204 167 = some (2, 8))
theorem wf_204_170 : rx_ft (rt_P sc fm) 204 170 = some (2, 10) := (by decide +kernel : rt_ft 204 170 = some (2, 10))
theorem wf_204_173 : rx_ft (rt_P sc fm) 204 173 = some (2, 9) := (by decide +kernel : rt_ft 204 173 = some (2, 9))
theorem wf_204_41 : rx_ft (rt_P sc fm) 204 41 = some (5, 0) := (by decide +kernel : rt_ft 204 41 = some (5, 0))
theorem wf_204_45 : rx_ft (rt_P sc fm) 204 45 = some (5, 1) := (by decide +kernel : rt_ft 204 45 = some (5, 1))
theorem wf_204_9 : rx_ft (rt_P sc fm) 204 9 = some (5, 3) := (by decide +kernel : rt_ft 204 9 = some (5, 3))
theorem wi_204_0 : ri (rt_P sc fm) 204 0 (.aload_n 0) (1) := ri_of (by decide +kernel) rfl
theorem wi_204_1 : ri (rt_P sc fm) 204 1 (.getfield 45) (4) := ri_of (by decide +kernel) rfl
theorem wi_204_12 : ri (rt_P sc fm) 204 12 (.if_icmp .ne 19) (15) := ri_of (by decide +kernel) rfl
theorem wi_204_15 : ri (rt_P sc fm) 204 15 (.aload_n 0) (16) := ri_of (by decide +kernel) rfl
theorem wi_204_16 : ri (rt_P sc fm) 204 16 (.getfield 45) (19) := ri_of (by decide +kernel) rfl
theorem wi_204_19 : ri (rt_P sc fm) 204 19 (.getfield 170) (22) := ri_of (by decide +kernel) rfl
theorem wi_204_22 : ri (rt_P sc fm) 204 22 (.iload_n 1) (23) := ri_of (by decide +kernel) rfl
theorem wi_204_23 : ri (rt_P sc fm) 204 23 (.iaload) (24) := ri_of (by decide +kernel) rfl
theorem wi_204_24 : ri (rt_P sc fm) 204 24 (.aload_n 0) (25) := ri_of (by decide +kernel) rfl
theorem wi_204_25 : ri (rt_P sc fm) 204 25 (.getfield 9) (28) := ri_of (by decide +kernel) rfl
theorem wi_204_28 : ri (rt_P sc fm) 204 28 (.if_icmp .eq 5) (31) := ri_of (by decide +kernel) rfl
theorem wi_204_31 : ri (rt_P sc fm) 204 31 (.lload_n 2) (32) := ri_of (by decide +kernel) rfl
theorem wi_204_32 : ri (rt_P sc fm) 204 32 (.lreturn) (33) := ri_of (by decide +kernel) rfl
theorem wi_204_33 : ri (rt_P sc fm) 204 33 (.bipush 8) (35) := ri_of (by decide +kernel) rfl
theorem wi_204_35 : ri (rt_P sc fm) 204 35 (.aload_n 0) (36) := ri_of (by decide +kernel) rfl
theorem wi_204_36 : ri (rt_P sc fm) 204 36 (.getfield 45) (39) := ri_of (by decide +kernel) rfl
theorem wi_204_39 : ri (rt_P sc fm) 204 39 (.getfield 164) (42) := ri_of (by decide +kernel) rfl
theorem wi_204_4 : ri (rt_P sc fm) 204 4 (.getfield 167) (7) := ri_of (by decide +kernel) rfl
theorem wi_204_42 : ri (rt_P sc fm) 204 42 (.iload_n 1) (43) := ri_of (by decide +kernel) rfl
theorem wi_204_43 : ri (rt_P sc fm) 204 43 (.iaload) (44) := ri_of (by decide +kernel) rfl
theorem wi_204_44 : ri (rt_P sc fm) 204 44 (.iadd) (45) := ri_of (by decide +kernel) rfl
theorem wi_204_45 : ri (rt_P sc fm) 204 45 (.iconst 1) (46) := ri_of (by decide +kernel) rfl
theorem wi_204_46 : ri (rt_P sc fm) 204 46 (.isub) (47) := ri_of (by decide +kernel) rfl
theorem wi_204_47 : ri (rt_P sc fm) 204 47 (.istore 4) (49) := ri_of (by decide +kernel) rfl
theorem wi_204_49 : ri (rt_P sc fm) 204 49 (.lload_n 2) (50) := ri_of (by decide +kernel) rfl
theorem wi_204_50 : ri (rt_P sc fm) 204 50 (.iload 4) (52) := ri_of (by decide +kernel) rfl
theorem wi_204_52 : ri (rt_P sc fm) 204 52 (.aload_n 0) (53) := ri_of (by decide +kernel) rfl
theorem wi_204_53 : ri (rt_P sc fm) 204 53 (.getfield 41) (56) := ri_of (by decide +kernel) rfl
theorem wi_204_56 : ri (rt_P sc fm) 204 56 (.getfield 108) (59) := ri_of (by decide +kernel) rfl
theorem wi_204_59 : ri (rt_P sc fm) 204 59 (.aload_n 0) (60) := ri_of (by decide +kernel) rfl
theorem wi_204_60 : ri (rt_P sc fm) 204 60 (.getfield 9) (63) := ri_of (by decide +kernel) rfl
theorem wi_204_63 : ri (rt_P sc fm) 204 63 (.aaload) (64) := ri_of (by decide +kernel) rfl
theorem wi_204_64 : ri (rt_P sc fm) 204 64 (.lload_n 2) (65) := ri_of (by decide +kernel) rfl
theorem wi_204_65 : ri (rt_P sc fm) 204 65 (.iload 4) (67) := ri_of (by decide +kernel) rfl
theorem wi_204_67 : ri (rt_P sc fm) 204 67 (.invokestatic 157) (70) := ri_of (by decide +kernel) rfl
theorem wi_204_7 : ri (rt_P sc fm) 204 7 (.iload_n 1) (8) := ri_of (by decide +kernel) rfl
theorem wi_204_70 : ri (rt_P sc fm) 204 70 (.aload_n 0) (71) := ri_of (by decide +kernel) rfl
theorem wi_204_71 : ri (rt_P sc fm) 204 71 (.getfield 45) (74) := ri_of (by decide +kernel) rfl
theorem wi_204_74 : ri (rt_P sc fm) 204 74 (.getfield 173) (77) := ri_of (by decide +kernel) rfl
theorem wi_204_77 : ri (rt_P sc fm) 204 77 (.iload_n 1) (78) := ri_of (by decide +kernel) rfl
theorem wi_204_78 : ri (rt_P sc fm) 204 78 (.iaload) (79) := ri_of (by decide +kernel) rfl
theorem wi_204_79 : ri (rt_P sc fm) 204 79 (.invokevirtual 180) (82) := ri_of (by decide +kernel) rfl
theorem wi_204_8 : ri (rt_P sc fm) 204 8 (.iaload) (9) := ri_of (by decide +kernel) rfl
theorem wi_204_82 : ri (rt_P sc fm) 204 82 (.invokestatic 132) (85) := ri_of (by decide +kernel) rfl
theorem wi_204_85 : ri (rt_P sc fm) 204 85 (.lreturn) (86) := ri_of (by decide +kernel) rfl
theorem wi_204_9 : ri (rt_P sc fm) 204 9 (.sipush 229) (12) := ri_of (by decide +kernel) rfl
theorem wr_204 : rx_rt (rt_P sc fm) 204 = (some FieldType.long) := (by decide +kernel : rt_rt 204 = (some FieldType.long))
/-- MarkHouse$Flow.atLabel(IJ)J -/
def d_204 (n : Nat) (a1 : Int32) (a2 : Int64) (c : cS) : Option (Int64) :=
  if ib a1 1024 then
  jn (fun p2 : Unit =>
    some a2)
  (fun j31 =>
  if (c.1 121 (ix a1)) = 229 then
    if ib a1 1024 then
    if (c.1 123 (ix a1)) = (c.1 150 3) then
      if ib a1 1024 then
      lt (((8 + (c.1 125 (ix a1))) - 1) : Int32) (fun v6 =>
      if ib (c.1 150 3) 4 then
      Option.bind (d_355 n a2 v6) (fun v9 =>
      if ib a1 1024 then
      Option.bind (d_239 n (ix (c.1 150 3)) v9 (c.1 122 (ix a1)) c) (fun v11 =>
      Option.bind (d_356 n a2 v6 v11) (fun v12 =>
      some v12))
      else none)
      else none)
      else none
    else
      j31 ()
    else none
  else
    j31 ())
  else none
theorem sp_204 {F Lo n : Nat} {a1 : Int32} {a2 : Int64} {c y : cS} {w : cW} {K : Int64 → Prop} {Q : ((Option Value) ⊕ String) → List va_E → Prop} (hw : rOK fm w) (hF : 1 ≤ F) (hLo : 23 ≤ Lo)  (h : wp (d_204 n a1 a2 c) K) (hQ : ∀ r, K r → Q (.inl (some (.long r))) (hq true c y w)) : rs (rt_P sc fm) 204 F Lo 0 [(0, .ref 150), (1, .int a1), (2, .long a2)] [] (hq true c y w) Q := by
  unfold d_204 at h
  obtain ⟨lv, elv⟩ : ∃ lv : rx_L, lv = [(0, .ref 150), (1, .int a1), (2, .long a2)] := ⟨_, rfl⟩
  rw [← elv]
  have l0 : rx_ld lv 0 = some (.ref 150) := by rw [elv]; rfl
  have l1 : rx_ld lv 1 = some (.int a1) := by rw [elv]; rfl
  have l2 : rx_ld lv 2 = some (.long a2) := by rw [elv]; rfl
  refine rs_aldn wi_204_0 l0 ?_
  refine dq_gr wi_204_1 wf_204_45 tf_150_1 ?_
  refine dq_gr wi_204_4 wf_204_167 tf_114_8 ?_
  refine rs_ildn wi_204_7 l1 ?_
  obtain ⟨g1, h⟩ := wp_gd h
  refine dq_iald wi_204_8 t_121 g1 ?_
  refine rs_pure wi_204_9 rfl ?_
  refine rs_topi (v := 229) (by decide) ?_
  refine wp_jn (B := fun p2 : Unit => ∀ lv, rx_ld lv 2 = some (.long a2) → rs (rt_P sc fm) 204 F Lo 31 lv [] (hq true c y w) Q) h (fun p2 h lv l2 => ?_) (fun j31 hj31 h => ?_)
  ·
    refine rs_lldn wi_204_31 l2 ?_
    exact rs_lret wi_204_32 wr_204 (hQ a2 h)
  refine rs_icne (tg := 31) wi_204_12 ⟨by decide, by decide⟩ (fun q => ?_) (fun q => ?_)
  ·
    have h := wp_neg h q
    exact hj31 _ h _ l2
  ·
    have h := wp_pos h q
    refine rs_aldn wi_204_15 l0 ?_
    refine dq_gr wi_204_16 wf_204_45 tf_150_1 ?_
    refine dq_gr wi_204_19 wf_204_170 tf_114_10 ?_
    refine rs_ildn wi_204_22 l1 ?_
    obtain ⟨g3, h⟩ := wp_gd h
    refine dq_iald wi_204_23 t_123 g3 ?_
    refine rs_aldn wi_204_24 l0 ?_
    refine dq_gi wi_204_25 wf_204_9 tf_150_3 ?_
    refine rs_iceq (tg := 33) wi_204_28 ⟨by decide, by decide⟩ (fun q => ?_) (fun q => ?_)
    ·
      have h := wp_pos h q
      refine rs_pure wi_204_33 rfl ?_
      refine rs_topi (v := 8) (by decide) ?_
      refine rs_aldn wi_204_35 l0 ?_
      refine dq_gr wi_204_36 wf_204_45 tf_150_1 ?_
      refine dq_gr wi_204_39 wf_204_164 tf_114_12 ?_
      refine rs_ildn wi_204_42 l1 ?_
      obtain ⟨g4, h⟩ := wp_gd h
      refine dq_iald wi_204_43 t_125 g4 ?_
      refine rs_pure wi_204_44 rfl ?_
      refine rs_pure wi_204_45 rfl ?_
      refine rs_topi (v := 1) (by decide) ?_
      refine rs_pure wi_204_46 rfl ?_
      obtain ⟨v6, e7, h⟩ := wp_lt h
      refine rs_topi e7 ?_
      refine dl_ist wi_204_47 rfl (fun lv l4 t5 => ?_)
      have l0 := t5 _ _ (by decide) (Or.inl rfl) l0
      have l1 := t5 _ _ (by decide) (Or.inl rfl) l1
      have l2 := t5 _ _ (by decide) (Or.inr (by decide)) l2
      refine rs_lldn wi_204_49 l2 ?_
      refine rs_ild wi_204_50 l4 ?_
      refine rs_aldn wi_204_52 l0 ?_
      refine dq_gr wi_204_53 wf_204_41 tf_150_0 ?_
      refine dq_gr wi_204_56 wf_204_108 tf_7_1 ?_
      refine rs_aldn wi_204_59 l0 ?_
      refine dq_gi wi_204_60 wf_204_9 tf_150_3 ?_
      obtain ⟨g8, h⟩ := wp_gd h
      refine dq_aald wi_204_63 (by decide) t_8 g8 (hw.1 _ (ib_lt g8)) ?_
      refine rs_lldn wi_204_64 l2 ?_
      refine rs_ild wi_204_65 l4 ?_
      refine rs_SN wi_204_67 wc_204_157 rfl (Nat.le_trans (by decide) hF) (ml_le wm_355 (Nat.le_trans (by decide) hLo)) rfl (sp_355 (Nat.le_trans (by decide : 0 ≤ 1 - 1) (Nat.sub_le_sub_right hF 1)) (ml_sub wm_355 (Nat.le_trans (by decide : 0 ≤ 23 - 22) (Nat.sub_le_sub_right hLo 22))) (wp_bind h) (fun v9 h => rs_back1 ?_))
      refine rs_aldn wi_204_70 l0 ?_
      refine dq_gr wi_204_71 wf_204_45 tf_150_1 ?_
      refine dq_gr wi_204_74 wf_204_173 tf_114_9 ?_
      refine rs_ildn wi_204_77 l1 ?_
      obtain ⟨g10, h⟩ := wp_gd h
      refine dq_iald wi_204_78 t_122 g10 ?_
      refine rs_V wi_204_79 wc_204_180 rfl (dq_isa (fO_0 (ib_lt g8)) wa_8_239) (Nat.le_trans (by decide) hF) (ml_le wm_239 (Nat.le_trans (by decide) hLo)) rfl (sp_239 hw (Nat.le_trans (by decide : 0 ≤ 1 - 1) (Nat.sub_le_sub_right hF 1)) (ml_sub wm_239 (Nat.le_trans (by decide : 0 ≤ 23 - 22) (Nat.sub_le_sub_right hLo 22))) (ib_lt g8) (wp_bind h) (fun v11 h => rs_back1 ?_))
      refine rs_SN wi_204_82 wc_204_132 rfl (Nat.le_trans (by decide) hF) (ml_le wm_356 (Nat.le_trans (by decide) hLo)) rfl (sp_356 (Nat.le_trans (by decide : 0 ≤ 1 - 1) (Nat.sub_le_sub_right hF 1)) (ml_sub wm_356 (Nat.le_trans (by decide : 0 ≤ 23 - 23) (Nat.sub_le_sub_right hLo 23))) (wp_bind h) (fun v12 h => rs_back1 ?_))
      exact rs_lret wi_204_85 wr_204 (hQ v12 h)
    ·
      have h := wp_neg h q
      exact hj31 _ h _ l2
theorem wa_5_200 : rz_cn 5 (rx_yn (rt_P sc fm) 200).cls = true := (by decide +kernel : rz_cn 5 (rt_yn 200).cls = true)
theorem wa_5_202 : rz_cn 5 (rx_yn (rt_P sc fm) 202).cls = true := (by decide +kernel : rz_cn 5 (rt_yn 202).cls = true)
theorem wa_5_204 : rz_cn 5 (rx_yn (rt_P sc fm) 204).cls = true := (by decide +kernel : rz_cn 5 (rt_yn 204).cls = true)
theorem wc_199_136 : rx_ct (rt_P sc fm) 199 136 = some (0, 202, 2) := (by decide +kernel : rt_ct 199 136 = some (0, 202, 2))
theorem wc_199_140 : rx_ct (rt_P sc fm) 199 140 = some (0, 167, 1) := (by decide +kernel : rt_ct 199 140 = some (0, 167, 1))
theorem wc_199_143 : rx_ct (rt_P sc fm) 199 143 = some (0, 200, 3) := (by decide +kernel : rt_ct 199 143 = some (0, 200, 3))
theorem wc_199_150 : rx_ct (rt_P sc fm) 199 150 = some (0, 204, 2) := (by decide +kernel : rt_ct 199 150 = some (0, 204, 2))
theorem wf_199_147 : rx_ft (rt_P sc fm) 199 147 = some (2, 11) := (by decide +kernel : rt_ft 199 147 = some (2, 11))
theorem wf_199_15 : rx_ft (rt_P sc fm) 199 15 = some (5, 4) := (by decide +kernel : rt_ft 199 15 = some (5, 4))
theorem wf_199_45 : rx_ft (rt_P sc fm) 199 45 = some (5, 1) := (by decide +kernel : rt_ft 199 45 = some (5, 1))
theorem wi_199_0 : ri (rt_P sc fm) 199 0 (.iload_n 1) (1) := ri_of (by decide +kernel) rfl
theorem wi_199_1 : ri (rt_P sc fm) 199 1 (.iload_n 2) (2) := ri_of (by decide +kernel) rfl
theorem wi_199_10 : ri (rt_P sc fm) 199 10 (.iload_n 3) (11) := ri_of (by decide +kernel) rfl
theorem wi_199_11 : ri (rt_P sc fm) 199 11 (.laload) (12) := ri_of (by decide +kernel) rfl
theorem wi_199_12 : ri (rt_P sc fm) 199 12 (.invokevirtual 136) (15) := ri_of (by decide +kernel) rfl
theorem wi_199_15 : ri (rt_P sc fm) 199 15 (.lstore 4) (17) := ri_of (by decide +kernel) rfl
theorem wi_199_17 : ri (rt_P sc fm) 199 17 (.aload_n 0) (18) := ri_of (by decide +kernel) rfl
theorem wi_199_18 : ri (rt_P sc fm) 199 18 (.getfield 45) (21) := ri_of (by decide +kernel) rfl
theorem wi_199_2 : ri (rt_P sc fm) 199 2 (.iadd) (3) := ri_of (by decide +kernel) rfl
theorem wi_199_21 : ri (rt_P sc fm) 199 21 (.iload_n 3) (22) := ri_of (by decide +kernel) rfl
theorem wi_199_22 : ri (rt_P sc fm) 199 22 (.invokevirtual 140) (25) := ri_of (by decide +kernel) rfl
theorem wi_199_25 : ri (rt_P sc fm) 199 25 (.ifCond .eq 16) (28) := ri_of (by decide +kernel) rfl
theorem wi_199_28 : ri (rt_P sc fm) 199 28 (.aload_n 0) (29) := ri_of (by decide +kernel) rfl
theorem wi_199_29 : ri (rt_P sc fm) 199 29 (.iload_n 1) (30) := ri_of (by decide +kernel) rfl
theorem wi_199_3 : ri (rt_P sc fm) 199 3 (.istore_n 3) (4) := ri_of (by decide +kernel) rfl
theorem wi_199_30 : ri (rt_P sc fm) 199 30 (.iload_n 2) (31) := ri_of (by decide +kernel) rfl
theorem wi_199_31 : ri (rt_P sc fm) 199 31 (.iconst 1) (32) := ri_of (by decide +kernel) rfl
theorem wi_199_32 : ri (rt_P sc fm) 199 32 (.iadd) (33) := ri_of (by decide +kernel) rfl
theorem wi_199_33 : ri (rt_P sc fm) 199 33 (.lload 4) (35) := ri_of (by decide +kernel) rfl
theorem wi_199_35 : ri (rt_P sc fm) 199 35 (.invokevirtual 143) (38) := ri_of (by decide +kernel) rfl
theorem wi_199_38 : ri (rt_P sc fm) 199 38 (.goto 4) (41) := ri_of (by decide +kernel) rfl
theorem wi_199_4 : ri (rt_P sc fm) 199 4 (.aload_n 0) (5) := ri_of (by decide +kernel) rfl
theorem wi_199_41 : ri (rt_P sc fm) 199 41 (.lconst 0) (42) := ri_of (by decide +kernel) rfl
theorem wi_199_42 : ri (rt_P sc fm) 199 42 (.lstore 6) (44) := ri_of (by decide +kernel) rfl
theorem wi_199_44 : ri (rt_P sc fm) 199 44 (.aload_n 0) (45) := ri_of (by decide +kernel) rfl
theorem wi_199_45 : ri (rt_P sc fm) 199 45 (.getfield 45) (48) := ri_of (by decide +kernel) rfl
theorem wi_199_48 : ri (rt_P sc fm) 199 48 (.getfield 147) (51) := ri_of (by decide +kernel) rfl
theorem wi_199_5 : ri (rt_P sc fm) 199 5 (.iload_n 3) (6) := ri_of (by decide +kernel) rfl
theorem wi_199_51 : ri (rt_P sc fm) 199 51 (.iload_n 3) (52) := ri_of (by decide +kernel) rfl
theorem wi_199_52 : ri (rt_P sc fm) 199 52 (.iaload) (53) := ri_of (by decide +kernel) rfl
theorem wi_199_53 : ri (rt_P sc fm) 199 53 (.ifCond .ge 8) (56) := ri_of (by decide +kernel) rfl
theorem wi_199_56 : ri (rt_P sc fm) 199 56 (.lload 6) (58) := ri_of (by decide +kernel) rfl
theorem wi_199_58 : ri (rt_P sc fm) 199 58 (.goto 27) (61) := ri_of (by decide +kernel) rfl
theorem wi_199_6 : ri (rt_P sc fm) 199 6 (.aload_n 0) (7) := ri_of (by decide +kernel) rfl
theorem wi_199_61 : ri (rt_P sc fm) 199 61 (.lload 6) (63) := ri_of (by decide +kernel) rfl
theorem wi_199_63 : ri (rt_P sc fm) 199 63 (.aload_n 0) (64) := ri_of (by decide +kernel) rfl
theorem wi_199_64 : ri (rt_P sc fm) 199 64 (.iload_n 1) (65) := ri_of (by decide +kernel) rfl
theorem wi_199_65 : ri (rt_P sc fm) 199 65 (.aload_n 0) (66) := ri_of (by decide +kernel) rfl
theorem wi_199_66 : ri (rt_P sc fm) 199 66 (.getfield 45) (69) := ri_of (by decide +kernel) rfl
theorem wi_199_69 : ri (rt_P sc fm) 199 69 (.getfield 147) (72) := ri_of (by decide +kernel) rfl
theorem wi_199_7 : ri (rt_P sc fm) 199 7 (.getfield 15) (10) := ri_of (by decide +kernel) rfl
theorem wi_199_72 : ri (rt_P sc fm) 199 72 (.iload_n 3) (73) := ri_of (by decide +kernel) rfl
theorem wi_199_73 : ri (rt_P sc fm) 199 73 (.iaload) (74) := ri_of (by decide +kernel) rfl
theorem wi_199_74 : ri (rt_P sc fm) 199 74 (.aload_n 0) (75) := ri_of (by decide +kernel) rfl
theorem wi_199_75 : ri (rt_P sc fm) 199 75 (.iload_n 3) (76) := ri_of (by decide +kernel) rfl
theorem wi_199_76 : ri (rt_P sc fm) 199 76 (.lload 4) (78) := ri_of (by decide +kernel) rfl
theorem wi_199_78 : ri (rt_P sc fm) 199 78 (.invokevirtual 150) (81) := ri_of (by decide +kernel) rfl
theorem wi_199_81 : ri (rt_P sc fm) 199 81 (.invokevirtual 143) (84) := ri_of (by decide +kernel) rfl
theorem wi_199_84 : ri (rt_P sc fm) 199 84 (.lor) (85) := ri_of (by decide +kernel) rfl
theorem wi_199_85 : ri (rt_P sc fm) 199 85 (.lreturn) (86) := ri_of (by decide +kernel) rfl
theorem wm_200 : rx_ml (rt_P sc fm) 200 = 9 := (by decide +kernel : rt_ml 200 = 9)
theorem wm_202 : rx_ml (rt_P sc fm) 202 = 6 := (by decide +kernel : rt_ml 202 = 6)
theorem wm_204 : rx_ml (rt_P sc fm) 204 = 5 := (by decide +kernel : rt_ml 204 = 5)
theorem wr_199 : rx_rt (rt_P sc fm) 199 = (some FieldType.long) := (by decide +kernel : rt_rt 199 = (some FieldType.long))
/-- MarkHouse$Flow.lead(II)J -/
def d_199 (n : Nat) (a1 : Int32) (a2 : Int32) (c : cS) : Option (Int64 × cS) :=
  lt ((a1 + a2) : Int32) (fun v2 =>
  if ib v2 1024 then
  Option.bind (d_202 n v2 (c.2 151 (ix v2)) c) (fun v5 =>
  Option.bind (d_167 n v2 c) (fun v7 =>
  jn (fun p8 : Int64 × cS =>
    if ib v2 1024 then
    jn (fun p11 : Int64 × cS =>
      some (p11.1, p11.2))
    (fun j85 =>
    if 0 ≤ (p8.2.1 124 (ix v2)) then
      if ib v2 1024 then
      Option.bind (d_204 n v2 v5 p8.2) (fun v13 =>
      Option.bind (d_200 n a1 (p8.2.1 124 (ix v2)) v13 p8.2) (fun r14 =>
      j85 ((p8.1 ||| r14.1), r14.2)))
      else none
    else
      j85 (p8.1, p8.2))
    else none)
  (fun j42 =>
  if v7 = 0 then
    j42 (0, c)
  else
    Option.bind (d_200 n a1 (a2 + 1) v5 c) (fun r15 =>
    j42 (r15.1, r15.2)))))
  else none)
theorem sp_199 {F Lo n : Nat} {a1 : Int32} {a2 : Int32} {c y : cS} {w : cW} {K : Int64 × cS → Prop} {Q : ((Option Value) ⊕ String) → List va_E → Prop} (hw : rOK fm w) (hF : 3 ≤ F) (hLo : 79 ≤ Lo)  (h : wp (d_199 n a1 a2 c) K) (hQ : ∀ r, K r → Q (.inl (some (.long r.1))) (hq true r.2 y w)) : rs (rt_P sc fm) 199 F Lo 0 [(0, .ref 150), (1, .int a1), (2, .int a2)] [] (hq true c y w) Q := by
  unfold d_199 at h
  obtain ⟨lv, elv⟩ : ∃ lv : rx_L, lv = [(0, .ref 150), (1, .int a1), (2, .int a2)] := ⟨_, rfl⟩
  rw [← elv]
  have l0 : rx_ld lv 0 = some (.ref 150) := by rw [elv]; rfl
  have l1 : rx_ld lv 1 = some (.int a1) := by rw [elv]; rfl
  have l2 : rx_ld lv 2 = some (.int a2) := by rw [elv]; rfl
  refine rs_ildn wi_199_0 l1 ?_
  refine rs_ildn wi_199_1 l2 ?_
  refine rs_pure wi_199_2 rfl ?_
  obtain ⟨v2, e3, h⟩ := wp_lt h
  refine rs_topi e3 ?_
  refine dl_istn wi_199_3 rfl (fun lv l3 t1 => ?_)
  have l0 := t1 _ _ (by decide) (Or.inl rfl) l0
  have l1 := t1 _ _ (by decide) (Or.inl rfl) l1
  have l2 := t1 _ _ (by decide) (Or.inl rfl) l2
  refine rs_aldn wi_199_4 l0 ?_
  refine rs_ildn wi_199_5 l3 ?_
  refine rs_aldn wi_199_6 l0 ?_
  refine dq_gr wi_199_7 wf_199_15 tf_150_4 ?_
  refine rs_ildn wi_199_10 l3 ?_
  obtain ⟨g4, h⟩ := wp_gd h
  refine dq_lald wi_199_11 t_151 g4 ?_
  refine rs_V wi_199_12 wc_199_136 rfl (dq_isa tf_150_0 wa_5_202) (Nat.le_trans (by decide) hF) (ml_le wm_202 (Nat.le_trans (by decide) hLo)) rfl (sp_202 hw (Nat.le_trans (by decide : 2 ≤ 3 - 1) (Nat.sub_le_sub_right hF 1)) (ml_sub wm_202 (Nat.le_trans (by decide : 51 ≤ 79 - 25) (Nat.sub_le_sub_right hLo 25))) (wp_bind h) (fun v5 h => rs_back1 ?_))
  refine dl_lst wi_199_15 rfl (fun lv l4 t6 => ?_)
  have l0 := t6 _ _ (by decide) (by decide) (Or.inl rfl) l0
  have l1 := t6 _ _ (by decide) (by decide) (Or.inl rfl) l1
  have l2 := t6 _ _ (by decide) (by decide) (Or.inl rfl) l2
  have l3 := t6 _ _ (by decide) (by decide) (Or.inl rfl) l3
  refine rs_aldn wi_199_17 l0 ?_
  refine dq_gr wi_199_18 wf_199_45 tf_150_1 ?_
  refine rs_ildn wi_199_21 l3 ?_
  refine rs_V wi_199_22 wc_199_140 rfl (dq_isa tf_114_0 wa_2_167) (Nat.le_trans (by decide) hF) (ml_le wm_167 (Nat.le_trans (by decide) hLo)) rfl (sp_167 hw (Nat.le_trans (by decide : 0 ≤ 3 - 1) (Nat.sub_le_sub_right hF 1)) (ml_sub wm_167 (Nat.le_trans (by decide : 0 ≤ 79 - 21) (Nat.sub_le_sub_right hLo 21))) (wp_bind h) (fun v7 h => rs_back1 ?_))
  refine wp_jn (B := fun p8 : Int64 × cS => ∀ lv, rx_ld lv 0 = some (.ref 150) → rx_ld lv 1 = some (.int a1) → rx_ld lv 3 = some (.int v2) → rx_ld lv 4 = some (.long v5) → rs (rt_P sc fm) 199 F Lo 42 lv [.long p8.1] (hq true p8.2 y w) Q) h (fun p8 h lv l0 l1 l3 l4 => ?_) (fun j42 hj42 h => ?_)
  ·
    refine dl_lst wi_199_42 rfl (fun lv l6 t9 => ?_)
    have l0 := t9 _ _ (by decide) (by decide) (Or.inl rfl) l0
    have l1 := t9 _ _ (by decide) (by decide) (Or.inl rfl) l1
    have l3 := t9 _ _ (by decide) (by decide) (Or.inl rfl) l3
    have l4 := t9 _ _ (by decide) (by decide) (Or.inr (by decide)) l4
    refine rs_aldn wi_199_44 l0 ?_
    refine dq_gr wi_199_45 wf_199_45 tf_150_1 ?_
    refine dq_gr wi_199_48 wf_199_147 tf_114_11 ?_
    refine rs_ildn wi_199_51 l3 ?_
    obtain ⟨g10, h⟩ := wp_gd h
    refine dq_iald wi_199_52 t_124 g10 ?_
    refine wp_jn (B := fun p11 : Int64 × cS => ∀ lv, rs (rt_P sc fm) 199 F Lo 85 lv [.long p11.1] (hq true p11.2 y w) Q) h (fun p11 h lv => ?_) (fun j85 hj85 h => ?_)
    ·
      exact rs_lret wi_199_85 wr_199 (hQ (p11.1, p11.2) h)
    refine rs_ifge (tg := 61) wi_199_53 ⟨by decide, by decide⟩ (fun q => ?_) (fun q => ?_)
    ·
      have h := wp_pos h q
      refine rs_lld wi_199_61 l6 ?_
      refine rs_aldn wi_199_63 l0 ?_
      refine rs_ildn wi_199_64 l1 ?_
      refine rs_aldn wi_199_65 l0 ?_
      refine dq_gr wi_199_66 wf_199_45 tf_150_1 ?_
      refine dq_gr wi_199_69 wf_199_147 tf_114_11 ?_
      refine rs_ildn wi_199_72 l3 ?_
      obtain ⟨g12, h⟩ := wp_gd h
      refine dq_iald wi_199_73 t_124 g12 ?_
      refine rs_aldn wi_199_74 l0 ?_
      refine rs_ildn wi_199_75 l3 ?_
      refine rs_lld wi_199_76 l4 ?_
      refine rs_V wi_199_78 wc_199_150 rfl (dq_isa tf_150_0 wa_5_204) (Nat.le_trans (by decide) hF) (ml_le wm_204 (Nat.le_trans (by decide) hLo)) rfl (sp_204 hw (Nat.le_trans (by decide : 1 ≤ 3 - 1) (Nat.sub_le_sub_right hF 1)) (ml_sub wm_204 (Nat.le_trans (by decide : 23 ≤ 79 - 24) (Nat.sub_le_sub_right hLo 24))) (wp_bind h) (fun v13 h => rs_back1 ?_))
      refine rs_V wi_199_81 wc_199_143 rfl (dq_isa tf_150_0 wa_5_200) (Nat.le_trans (by decide) hF) (ml_le wm_200 (Nat.le_trans (by decide) hLo)) rfl (sp_200 hw (Nat.le_trans (by decide : 2 ≤ 3 - 1) (Nat.sub_le_sub_right hF 1)) (ml_sub wm_200 (Nat.le_trans (by decide : 51 ≤ 79 - 28) (Nat.sub_le_sub_right hLo 28))) (wp_bind h) (fun r14 h => rs_back1 ?_))
      refine rs_pure wi_199_84 rfl ?_
      exact hj85 _ h _
    ·
      have h := wp_neg h q
      refine rs_lld wi_199_56 l6 ?_
      refine rs_goto (tg := 85) wi_199_58 ⟨by decide, by decide⟩ ?_
      exact hj85 _ h _
  refine rs_ifeq (tg := 41) wi_199_25 ⟨by decide, by decide⟩ (fun q => ?_) (fun q => ?_)
  ·
    have h := wp_pos h q
    refine rs_pure wi_199_41 rfl ?_
    refine rs_topl (v := 0) (by decide) ?_
    exact hj42 _ h _ l0 l1 l3 l4
  ·
    have h := wp_neg h q
    refine rs_aldn wi_199_28 l0 ?_
    refine rs_ildn wi_199_29 l1 ?_
    refine rs_ildn wi_199_30 l2 ?_
    refine rs_pure wi_199_31 rfl ?_
    refine rs_topi (v := 1) (by decide) ?_
    refine rs_pure wi_199_32 rfl ?_
    refine rs_lld wi_199_33 l4 ?_
    refine rs_V wi_199_35 wc_199_143 rfl (dq_isa tf_150_0 wa_5_200) (Nat.le_trans (by decide) hF) (ml_le wm_200 (Nat.le_trans (by decide) hLo)) rfl (sp_200 hw (Nat.le_trans (by decide : 2 ≤ 3 - 1) (Nat.sub_le_sub_right hF 1)) (ml_sub wm_200 (Nat.le_trans (by decide : 51 ≤ 79 - 28) (Nat.sub_le_sub_right hLo 28))) (wp_bind h) (fun r15 h => rs_back1 ?_))
    refine rs_goto (tg := 42) wi_199_38 ⟨by decide, by decide⟩ ?_
    exact hj42 _ h _ l0 l1 l3 l4
theorem wa_5_198 : rz_cn 5 (rx_yn (rt_P sc fm) 198).cls = true := (by decide +kernel : rz_cn 5 (rt_yn 198).cls = true)
theorem wa_5_199 : rz_cn 5 (rx_yn (rt_P sc fm) 199).cls = true := (by decide +kernel : rz_cn 5 (rt_yn 199).cls = true)
theorem wc_197_101 : rx_ct (rt_P sc fm) 197 101 = some (0, 199, 2) := (by decide +kernel : rt_ct 197 101 = some (0, 199, 2))
theorem wc_197_84 : rx_ct (rt_P sc fm) 197 84 = some (1, 152, 4) := (by decide +kernel : rt_ct 197 84 = some (1, 152, 4))
theorem wc_197_90 : rx_ct (rt_P sc fm) 197 90 = some (0, 198, 1) := (by decide +kernel : rt_ct 197 90 = some (0, 198, 1))
theorem wc_197_95 : rx_ct (rt_P sc fm) 197 95 = some (1, 483, 1) := (by decide +kernel : rt_ct 197 95 = some (1, 483, 1))
theorem wf_197_15 : rx_ft (rt_P sc fm) 197 15 = some (5, 4) := (by decide +kernel : rt_ft 197 15 = some (5, 4))
theorem wf_197_45 : rx_ft (rt_P sc fm) 197 45 = some (5, 1) := (by decide +kernel : rt_ft 197 45 = some (5, 1))
theorem wf_197_76 : rx_ft (rt_P sc fm) 197 76 = some (2, 5) := (by decide +kernel : rt_ft 197 76 = some (2, 5))
theorem wf_197_79 : rx_ft (rt_P sc fm) 197 79 = some (2, 6) := (by decide +kernel : rt_ft 197 79 = some (2, 6))
theorem wi_197_0 : ri (rt_P sc fm) 197 0 (.aload_n 0) (1) := ri_of (by decide +kernel) rfl
theorem wi_197_1 : ri (rt_P sc fm) 197 1 (.getfield 45) (4) := ri_of (by decide +kernel) rfl
theorem wi_197_10 : ri (rt_P sc fm) 197 10 (.aload_n 0) (11) := ri_of (by decide +kernel) rfl
theorem wi_197_11 : ri (rt_P sc fm) 197 11 (.getfield 15) (14) := ri_of (by decide +kernel) rfl
theorem wi_197_14 : ri (rt_P sc fm) 197 14 (.iload_n 2) (15) := ri_of (by decide +kernel) rfl
theorem wi_197_15 : ri (rt_P sc fm) 197 15 (.iload_n 2) (16) := ri_of (by decide +kernel) rfl
theorem wi_197_16 : ri (rt_P sc fm) 197 16 (.aload_n 0) (17) := ri_of (by decide +kernel) rfl
theorem wi_197_17 : ri (rt_P sc fm) 197 17 (.getfield 45) (20) := ri_of (by decide +kernel) rfl
theorem wi_197_20 : ri (rt_P sc fm) 197 20 (.getfield 79) (23) := ri_of (by decide +kernel) rfl
theorem wi_197_23 : ri (rt_P sc fm) 197 23 (.iload_n 1) (24) := ri_of (by decide +kernel) rfl
theorem wi_197_24 : ri (rt_P sc fm) 197 24 (.iaload) (25) := ri_of (by decide +kernel) rfl
theorem wi_197_25 : ri (rt_P sc fm) 197 25 (.iadd) (26) := ri_of (by decide +kernel) rfl
theorem wi_197_26 : ri (rt_P sc fm) 197 26 (.ldc2_w 82) (29) := ri_of (by decide +kernel) rfl
theorem wi_197_29 : ri (rt_P sc fm) 197 29 (.invokestatic 84) (32) := ri_of (by decide +kernel) rfl
theorem wi_197_32 : ri (rt_P sc fm) 197 32 (.aload_n 0) (33) := ri_of (by decide +kernel) rfl
theorem wi_197_33 : ri (rt_P sc fm) 197 33 (.getfield 15) (36) := ri_of (by decide +kernel) rfl
theorem wi_197_36 : ri (rt_P sc fm) 197 36 (.iload_n 2) (37) := ri_of (by decide +kernel) rfl
theorem wi_197_37 : ri (rt_P sc fm) 197 37 (.aload_n 0) (38) := ri_of (by decide +kernel) rfl
theorem wi_197_38 : ri (rt_P sc fm) 197 38 (.iload_n 1) (39) := ri_of (by decide +kernel) rfl
theorem wi_197_39 : ri (rt_P sc fm) 197 39 (.invokevirtual 90) (42) := ri_of (by decide +kernel) rfl
theorem wi_197_4 : ri (rt_P sc fm) 197 4 (.getfield 76) (7) := ri_of (by decide +kernel) rfl
theorem wi_197_42 : ri (rt_P sc fm) 197 42 (.lastore) (43) := ri_of (by decide +kernel) rfl
theorem wi_197_43 : ri (rt_P sc fm) 197 43 (.lconst 1) (44) := ri_of (by decide +kernel) rfl
theorem wi_197_44 : ri (rt_P sc fm) 197 44 (.lstore_n 3) (45) := ri_of (by decide +kernel) rfl
theorem wi_197_45 : ri (rt_P sc fm) 197 45 (.iconst 0) (46) := ri_of (by decide +kernel) rfl
theorem wi_197_46 : ri (rt_P sc fm) 197 46 (.istore 5) (48) := ri_of (by decide +kernel) rfl
theorem wi_197_48 : ri (rt_P sc fm) 197 48 (.iload 5) (50) := ri_of (by decide +kernel) rfl
theorem wi_197_50 : ri (rt_P sc fm) 197 50 (.ldc 94) (52) := ri_of (by decide +kernel) rfl
theorem wi_197_52 : ri (rt_P sc fm) 197 52 (.if_icmp .ge 37) (55) := ri_of (by decide +kernel) rfl
theorem wi_197_55 : ri (rt_P sc fm) 197 55 (.lload_n 3) (56) := ri_of (by decide +kernel) rfl
theorem wi_197_56 : ri (rt_P sc fm) 197 56 (.lconst 0) (57) := ri_of (by decide +kernel) rfl
theorem wi_197_57 : ri (rt_P sc fm) 197 57 (.lcmp) (58) := ri_of (by decide +kernel) rfl
theorem wi_197_58 : ri (rt_P sc fm) 197 58 (.ifCond .eq 31) (61) := ri_of (by decide +kernel) rfl
theorem wi_197_61 : ri (rt_P sc fm) 197 61 (.lload_n 3) (62) := ri_of (by decide +kernel) rfl
theorem wi_197_62 : ri (rt_P sc fm) 197 62 (.invokestatic 95) (65) := ri_of (by decide +kernel) rfl
theorem wi_197_65 : ri (rt_P sc fm) 197 65 (.istore 6) (67) := ri_of (by decide +kernel) rfl
theorem wi_197_67 : ri (rt_P sc fm) 197 67 (.lload_n 3) (68) := ri_of (by decide +kernel) rfl
theorem wi_197_68 : ri (rt_P sc fm) 197 68 (.lload_n 3) (69) := ri_of (by decide +kernel) rfl
theorem wi_197_69 : ri (rt_P sc fm) 197 69 (.lconst 1) (70) := ri_of (by decide +kernel) rfl
theorem wi_197_7 : ri (rt_P sc fm) 197 7 (.iload_n 1) (8) := ri_of (by decide +kernel) rfl
theorem wi_197_70 : ri (rt_P sc fm) 197 70 (.lsub) (71) := ri_of (by decide +kernel) rfl
theorem wi_197_71 : ri (rt_P sc fm) 197 71 (.land) (72) := ri_of (by decide +kernel) rfl
theorem wi_197_72 : ri (rt_P sc fm) 197 72 (.lstore_n 3) (73) := ri_of (by decide +kernel) rfl
theorem wi_197_73 : ri (rt_P sc fm) 197 73 (.lload_n 3) (74) := ri_of (by decide +kernel) rfl
theorem wi_197_74 : ri (rt_P sc fm) 197 74 (.aload_n 0) (75) := ri_of (by decide +kernel) rfl
theorem wi_197_75 : ri (rt_P sc fm) 197 75 (.iload_n 2) (76) := ri_of (by decide +kernel) rfl
theorem wi_197_76 : ri (rt_P sc fm) 197 76 (.iload 6) (78) := ri_of (by decide +kernel) rfl
theorem wi_197_78 : ri (rt_P sc fm) 197 78 (.invokevirtual 101) (81) := ri_of (by decide +kernel) rfl
theorem wi_197_8 : ri (rt_P sc fm) 197 8 (.iaload) (9) := ri_of (by decide +kernel) rfl
theorem wi_197_81 : ri (rt_P sc fm) 197 81 (.lor) (82) := ri_of (by decide +kernel) rfl
theorem wi_197_82 : ri (rt_P sc fm) 197 82 (.lstore_n 3) (83) := ri_of (by decide +kernel) rfl
theorem wi_197_83 : ri (rt_P sc fm) 197 83 (.iinc 5 1) (86) := ri_of (by decide +kernel) rfl
theorem wi_197_86 : ri (rt_P sc fm) 197 86 (.goto (-38)) (89) := ri_of (by decide +kernel) rfl
theorem wi_197_89 : ri (rt_P sc fm) 197 89 (.return_) (90) := ri_of (by decide +kernel) rfl
theorem wi_197_9 : ri (rt_P sc fm) 197 9 (.istore_n 2) (10) := ri_of (by decide +kernel) rfl
theorem wk_197_82 : rx_kt (rt_P sc fm) 197 82 = some (.long (-1)) := (by decide +kernel : rt_kt 197 82 = some (.long (-1)))
theorem wk_197_94 : rx_kt (rt_P sc fm) 197 94 = some (.int (1000000)) := (by decide +kernel : rt_kt 197 94 = some (.int (1000000)))
theorem wm_152 : rx_ml (rt_P sc fm) 152 = 6 := (by decide +kernel : rt_ml 152 = 6)
theorem wm_198 : rx_ml (rt_P sc fm) 198 = 6 := (by decide +kernel : rt_ml 198 = 6)
theorem wm_199 : rx_ml (rt_P sc fm) 199 = 8 := (by decide +kernel : rt_ml 199 = 8)
theorem wr_197 : rx_rt (rt_P sc fm) 197 = none := (by decide +kernel : rt_rt 197 = none)
/-- MarkHouse$Flow.followMethod(I)V -/
def d_197 (n : Nat) (a1 : Int32) (c : cS) : Option (cS) :=
  if ib a1 96 then
  lt ((c.1 119 (ix a1)) : Int32) (fun v3 =>
  if ib a1 96 then
  Option.bind (d_152 n 151 1024 v3 (v3 + (c.1 120 (ix a1))) (-1) c) (fun r6 =>
  Option.bind (d_198 n a1 r6) (fun v7 =>
  if ib v3 1024 then
  lt (pL r6 151 (ix v3) v7) (fun c9 =>
  Option.bind (whl (R := (cS)) (fun s13 : Int64 × Int32 × cS =>
    if 1000000 ≤ s13.2.1 then
      some (.inr s13.2.2)
    else
      if (lg_cmp s13.1 0) = 0 then
        some (.inr s13.2.2)
      else
        Option.bind (d_483 n s13.1) (fun v14 =>
        lt ((s13.1 &&& (s13.1 - 1)) : Int64) (fun v17 =>
        Option.bind (d_199 n v3 v14 s13.2.2) (fun r19 =>
        lt ((v17 ||| r19.1) : Int64) (fun v21 =>
        lt (s13.2.1 + 1 : Int32) (fun v24 =>
        some (.inl (v21, v24, r19.2)))))))) n (1, 0, c9))
  (fun x26 : cS =>
    some x26))
  else none))
  else none)
  else none
theorem sp_197 {F Lo n : Nat} {a1 : Int32} {c y : cS} {w : cW} {K : cS → Prop} {Q : ((Option Value) ⊕ String) → List va_E → Prop} (hw : rOK fm w) (hF : 4 ≤ F) (hLo : 106 ≤ Lo)  (h : wp (d_197 n a1 c) K) (hQ : ∀ r, K r → Q (.inl none) (hq true r y w)) : rs (rt_P sc fm) 197 F Lo 0 [(0, .ref 150), (1, .int a1)] [] (hq true c y w) Q := by
  unfold d_197 at h
  obtain ⟨lv, elv⟩ : ∃ lv : rx_L, lv = [(0, .ref 150), (1, .int a1)] := ⟨_, rfl⟩
  rw [← elv]
  have l0 : rx_ld lv 0 = some (.ref 150) := by rw [elv]; rfl
  have l1 : rx_ld lv 1 = some (.int a1) := by rw [elv]; rfl
  refine rs_aldn wi_197_0 l0 ?_
  refine dq_gr wi_197_1 wf_197_45 tf_150_1 ?_
  refine dq_gr wi_197_4 wf_197_76 tf_114_5 ?_
  refine rs_ildn wi_197_7 l1 ?_
  obtain ⟨g1, h⟩ := wp_gd h
  refine dq_iald wi_197_8 t_119 g1 ?_
  obtain ⟨v3, e4, h⟩ := wp_lt h
  refine rs_topi e4 ?_
  refine dl_istn wi_197_9 rfl (fun lv l2 t2 => ?_)
  have l0 := t2 _ _ (by decide) (Or.inl rfl) l0
  have l1 := t2 _ _ (by decide) (Or.inl rfl) l1
  refine rs_aldn wi_197_10 l0 ?_
  refine dq_gr wi_197_11 wf_197_15 tf_150_4 ?_
  refine rs_ildn wi_197_14 l2 ?_
  refine rs_ildn wi_197_15 l2 ?_
  refine rs_aldn wi_197_16 l0 ?_
  refine dq_gr wi_197_17 wf_197_45 tf_150_1 ?_
  refine dq_gr wi_197_20 wf_197_79 tf_114_6 ?_
  refine rs_ildn wi_197_23 l1 ?_
  obtain ⟨g5, h⟩ := wp_gd h
  refine dq_iald wi_197_24 t_120 g5 ?_
  refine rs_pure wi_197_25 rfl ?_
  refine rs_ldcl wi_197_26 wk_197_82 ?_
  refine rs_S wi_197_29 wc_197_84 (Or.inl rfl) rfl (Nat.le_trans (by decide) hF) (ml_le wm_152 (Nat.le_trans (by decide) hLo)) rfl (sp_152 hw (Nat.le_trans (by decide : 1 ≤ 4 - 1) (Nat.sub_le_sub_right hF 1)) (ml_sub wm_152 (Nat.le_trans (by decide : 22 ≤ 106 - 25) (Nat.sub_le_sub_right hLo 25))) t_151 (wp_bind h) (fun r6 h => rs_back0 ?_))
  refine rs_aldn wi_197_32 l0 ?_
  refine dq_gr wi_197_33 wf_197_15 tf_150_4 ?_
  refine rs_ildn wi_197_36 l2 ?_
  refine rs_aldn wi_197_37 l0 ?_
  refine rs_ildn wi_197_38 l1 ?_
  refine rs_V wi_197_39 wc_197_90 rfl (dq_isa tf_150_0 wa_5_198) (Nat.le_trans (by decide) hF) (ml_le wm_198 (Nat.le_trans (by decide) hLo)) rfl (sp_198 hw (Nat.le_trans (by decide : 1 ≤ 4 - 1) (Nat.sub_le_sub_right hF 1)) (ml_sub wm_198 (Nat.le_trans (by decide : 23 ≤ 106 - 25) (Nat.sub_le_sub_right hLo 25))) (wp_bind h) (fun v7 h => rs_back1 ?_))
  obtain ⟨g8, h⟩ := wp_gd h
  obtain ⟨c9, e10, h⟩ := wp_lt h
  refine dq_last wi_197_42 t_151 g8 e10 ?_
  refine rs_pure wi_197_43 rfl ?_
  refine rs_topl (v := 1) (by decide) ?_
  refine dl_lstn wi_197_44 rfl (fun lv l3 t11 => ?_)
  have l0 := t11 _ _ (by decide) (by decide) (Or.inl rfl) l0
  have l2 := t11 _ _ (by decide) (by decide) (Or.inl rfl) l2
  refine rs_pure wi_197_45 rfl ?_
  refine rs_topi (v := 0) (by decide) ?_
  refine dl_ist wi_197_46 rfl (fun lv l5 t12 => ?_)
  have l0 := t12 _ _ (by decide) (Or.inl rfl) l0
  have l2 := t12 _ _ (by decide) (Or.inl rfl) l2
  have l3 := t12 _ _ (by decide) (Or.inr (by decide)) l3
  refine whl_ex (A := fun s13 : Int64 × Int32 × cS => ∀ lv, rx_ld lv 0 = some (.ref 150) → rx_ld lv 2 = some (.int v3) → rx_ld lv 3 = some (.long s13.1) → rx_ld lv 5 = some (.int s13.2.1) → rs (rt_P sc fm) 197 F Lo 48 lv [] (hq true s13.2.2 y w) Q) (B := (fun x26 : cS => ∀ lv, rs (rt_P sc fm) 197 F Lo 89 lv [] (hq true x26 y w) Q)) ?_ ?_ _ _ (wp_bind h) _ l0 l2 l3 l5
  · intro s13 h lv l0 l2 l3 l5
    refine rs_ild wi_197_48 l5 ?_
    refine rs_ldc wi_197_50 wk_197_94 ?_
    refine rs_icge (tg := 89) wi_197_52 ⟨by decide, by decide⟩ (fun q => ?_) (fun q => ?_)
    ·
      have h := wp_pos h q
      exact h _
    ·
      have h := wp_neg h q
      refine rs_lldn wi_197_55 l3 ?_
      refine rs_pure wi_197_56 rfl ?_
      refine rs_topl (v := 0) (by decide) ?_
      refine rs_pure wi_197_57 rfl ?_
      refine rs_ifeq (tg := 89) wi_197_58 ⟨by decide, by decide⟩ (fun q => ?_) (fun q => ?_)
      ·
        have h := wp_pos h q
        exact h _
      ·
        have h := wp_neg h q
        refine rs_lldn wi_197_61 l3 ?_
        refine rs_S wi_197_62 wc_197_95 (Or.inl rfl) rfl (Nat.le_trans (by decide) hF) (ml_le wm_483 (Nat.le_trans (by decide) hLo)) rfl (sp_483 (Nat.le_trans (by decide : 1 ≤ 4 - 1) (Nat.sub_le_sub_right hF 1)) (ml_sub wm_483 (Nat.le_trans (by decide : 21 ≤ 106 - 22) (Nat.sub_le_sub_right hLo 22))) (wp_bind h) (fun v14 h => rs_back1 ?_))
        refine dl_ist wi_197_65 rfl (fun lv l6 t15 => ?_)
        have l0 := t15 _ _ (by decide) (Or.inl rfl) l0
        have l2 := t15 _ _ (by decide) (Or.inl rfl) l2
        have l3 := t15 _ _ (by decide) (Or.inr (by decide)) l3
        have l5 := t15 _ _ (by decide) (Or.inl rfl) l5
        refine rs_lldn wi_197_67 l3 ?_
        refine rs_lldn wi_197_68 l3 ?_
        refine rs_pure wi_197_69 rfl ?_
        refine rs_topl (v := 1) (by decide) ?_
        refine rs_pure wi_197_70 rfl ?_
        refine rs_pure wi_197_71 rfl ?_
        obtain ⟨v17, e18, h⟩ := wp_lt h
        refine rs_topl e18 ?_
        refine dl_lstn wi_197_72 rfl (fun lv l3 t16 => ?_)
        have l0 := t16 _ _ (by decide) (by decide) (Or.inl rfl) l0
        have l2 := t16 _ _ (by decide) (by decide) (Or.inl rfl) l2
        have l5 := t16 _ _ (by decide) (by decide) (Or.inl rfl) l5
        have l6 := t16 _ _ (by decide) (by decide) (Or.inl rfl) l6
        refine rs_lldn wi_197_73 l3 ?_
        refine rs_aldn wi_197_74 l0 ?_
        refine rs_ildn wi_197_75 l2 ?_
        refine rs_ild wi_197_76 l6 ?_
        refine rs_V wi_197_78 wc_197_101 rfl (dq_isa tf_150_0 wa_5_199) (Nat.le_trans (by decide) hF) (ml_le wm_199 (Nat.le_trans (by decide) hLo)) rfl (sp_199 hw (Nat.le_trans (by decide : 3 ≤ 4 - 1) (Nat.sub_le_sub_right hF 1)) (ml_sub wm_199 (Nat.le_trans (by decide : 79 ≤ 106 - 27) (Nat.sub_le_sub_right hLo 27))) (wp_bind h) (fun r19 h => rs_back1 ?_))
        refine rs_pure wi_197_81 rfl ?_
        obtain ⟨v21, e22, h⟩ := wp_lt h
        refine rs_topl e22 ?_
        refine dl_lstn wi_197_82 rfl (fun lv l3 t20 => ?_)
        have l0 := t20 _ _ (by decide) (by decide) (Or.inl rfl) l0
        have l2 := t20 _ _ (by decide) (by decide) (Or.inl rfl) l2
        have l5 := t20 _ _ (by decide) (by decide) (Or.inl rfl) l5
        obtain ⟨v24, e25, h⟩ := wp_lt h
        refine dl_inc wi_197_83 l5 rfl e25 (fun lv l5 t23 => ?_)
        have l0 := t23 _ _ (by decide) (Or.inl rfl) l0
        have l2 := t23 _ _ (by decide) (Or.inl rfl) l2
        have l3 := t23 _ _ (by decide) (Or.inr (by decide)) l3
        refine rs_goto (tg := 48) wi_197_86 ⟨by decide, by decide⟩ ?_
        exact h _ l0 l2 l3 l5
  ·
    intro x26 h lv
    exact rs_vret wi_197_89 wr_197 (hQ x26 h)
theorem wf_168_31 : rx_ft (rt_P sc fm) 168 31 = some (2, 8) := (by decide +kernel : rt_ft 168 31 = some (2, 8))
theorem wf_168_34 : rx_ft (rt_P sc fm) 168 34 = some (2, 9) := (by decide +kernel : rt_ft 168 34 = some (2, 9))
theorem wi_168_0 : ri (rt_P sc fm) 168 0 (.aload_n 0) (1) := ri_of (by decide +kernel) rfl
theorem wi_168_1 : ri (rt_P sc fm) 168 1 (.getfield 31) (4) := ri_of (by decide +kernel) rfl
theorem wi_168_12 : ri (rt_P sc fm) 168 12 (.aload_n 0) (13) := ri_of (by decide +kernel) rfl
theorem wi_168_13 : ri (rt_P sc fm) 168 13 (.getfield 34) (16) := ri_of (by decide +kernel) rfl
theorem wi_168_16 : ri (rt_P sc fm) 168 16 (.iload_n 1) (17) := ri_of (by decide +kernel) rfl
theorem wi_168_17 : ri (rt_P sc fm) 168 17 (.iaload) (18) := ri_of (by decide +kernel) rfl
theorem wi_168_18 : ri (rt_P sc fm) 168 18 (.ireturn) (19) := ri_of (by decide +kernel) rfl
theorem wi_168_19 : ri (rt_P sc fm) 168 19 (.aload_n 0) (20) := ri_of (by decide +kernel) rfl
theorem wi_168_20 : ri (rt_P sc fm) 168 20 (.getfield 31) (23) := ri_of (by decide +kernel) rfl
theorem wi_168_23 : ri (rt_P sc fm) 168 23 (.iload_n 1) (24) := ri_of (by decide +kernel) rfl
theorem wi_168_24 : ri (rt_P sc fm) 168 24 (.iaload) (25) := ri_of (by decide +kernel) rfl
theorem wi_168_25 : ri (rt_P sc fm) 168 25 (.sipush 219) (28) := ri_of (by decide +kernel) rfl
theorem wi_168_28 : ri (rt_P sc fm) 168 28 (.if_icmp .eq 15) (31) := ri_of (by decide +kernel) rfl
theorem wi_168_31 : ri (rt_P sc fm) 168 31 (.aload_n 0) (32) := ri_of (by decide +kernel) rfl
theorem wi_168_32 : ri (rt_P sc fm) 168 32 (.getfield 31) (35) := ri_of (by decide +kernel) rfl
theorem wi_168_35 : ri (rt_P sc fm) 168 35 (.iload_n 1) (36) := ri_of (by decide +kernel) rfl
theorem wi_168_36 : ri (rt_P sc fm) 168 36 (.iaload) (37) := ri_of (by decide +kernel) rfl
theorem wi_168_37 : ri (rt_P sc fm) 168 37 (.sipush 221) (40) := ri_of (by decide +kernel) rfl
theorem wi_168_4 : ri (rt_P sc fm) 168 4 (.iload_n 1) (5) := ri_of (by decide +kernel) rfl
theorem wi_168_40 : ri (rt_P sc fm) 168 40 (.if_icmp .ne 7) (43) := ri_of (by decide +kernel) rfl
theorem wi_168_43 : ri (rt_P sc fm) 168 43 (.iconst 1) (44) := ri_of (by decide +kernel) rfl
theorem wi_168_44 : ri (rt_P sc fm) 168 44 (.goto 4) (47) := ri_of (by decide +kernel) rfl
theorem wi_168_47 : ri (rt_P sc fm) 168 47 (.iconst 0) (48) := ri_of (by decide +kernel) rfl
theorem wi_168_48 : ri (rt_P sc fm) 168 48 (.ireturn) (49) := ri_of (by decide +kernel) rfl
theorem wi_168_5 : ri (rt_P sc fm) 168 5 (.iaload) (6) := ri_of (by decide +kernel) rfl
theorem wi_168_6 : ri (rt_P sc fm) 168 6 (.sipush 220) (9) := ri_of (by decide +kernel) rfl
theorem wi_168_9 : ri (rt_P sc fm) 168 9 (.if_icmp .ne 10) (12) := ri_of (by decide +kernel) rfl
theorem wr_168 : rx_rt (rt_P sc fm) 168 = (some FieldType.int) := (by decide +kernel : rt_rt 168 = (some FieldType.int))
/-- MarkHouse$Code.wants(I)I -/
def d_168 (n : Nat) (a1 : Int32) (c : cS) : Option (Int32) :=
  if ib a1 1024 then
  if (c.1 121 (ix a1)) = 220 then
    if ib a1 1024 then
    some (c.1 122 (ix a1))
    else none
  else
    if ib a1 1024 then
    jn (fun p3 : Int32 =>
      some p3)
    (fun j48 =>
    jn (fun p4 : Unit =>
      j48 1)
    (fun j43 =>
    if (c.1 121 (ix a1)) = 219 then
      j43 ()
    else
      if ib a1 1024 then
      if (c.1 121 (ix a1)) = 221 then
        j43 ()
      else
        j48 0
      else none))
    else none
  else none
theorem sp_168 {F Lo n : Nat} {a1 : Int32} {c y : cS} {w : cW} {K : Int32 → Prop} {Q : ((Option Value) ⊕ String) → List va_E → Prop} (hw : rOK fm w) (hF : 0 ≤ F) (hLo : 0 ≤ Lo)  (h : wp (d_168 n a1 c) K) (hQ : ∀ r, K r → Q (.inl (some (.int r))) (hq true c y w)) : rs (rt_P sc fm) 168 F Lo 0 [(0, .ref 114), (1, .int a1)] [] (hq true c y w) Q := by
  unfold d_168 at h
  obtain ⟨lv, elv⟩ : ∃ lv : rx_L, lv = [(0, .ref 114), (1, .int a1)] := ⟨_, rfl⟩
  rw [← elv]
  have l0 : rx_ld lv 0 = some (.ref 114) := by rw [elv]; rfl
  have l1 : rx_ld lv 1 = some (.int a1) := by rw [elv]; rfl
  refine rs_aldn wi_168_0 l0 ?_
  refine dq_gr wi_168_1 wf_168_31 tf_114_8 ?_
  refine rs_ildn wi_168_4 l1 ?_
  obtain ⟨g1, h⟩ := wp_gd h
  refine dq_iald wi_168_5 t_121 g1 ?_
  refine rs_pure wi_168_6 rfl ?_
  refine rs_topi (v := 220) (by decide) ?_
  refine rs_icne (tg := 19) wi_168_9 ⟨by decide, by decide⟩ (fun q => ?_) (fun q => ?_)
  ·
    have h := wp_neg h q
    refine rs_aldn wi_168_19 l0 ?_
    refine dq_gr wi_168_20 wf_168_31 tf_114_8 ?_
    refine rs_ildn wi_168_23 l1 ?_
    obtain ⟨g2, h⟩ := wp_gd h
    refine dq_iald wi_168_24 t_121 g2 ?_
    refine rs_pure wi_168_25 rfl ?_
    refine rs_topi (v := 219) (by decide) ?_
    refine wp_jn (B := fun p3 : Int32 => ∀ lv, rs (rt_P sc fm) 168 F Lo 48 lv [.int p3] (hq true c y w) Q) h (fun p3 h lv => ?_) (fun j48 hj48 h => ?_)
    ·
      exact rs_iret wi_168_48 wr_168 rfl (hQ p3 h)
    refine wp_jn (B := fun p4 : Unit => ∀ lv, rs (rt_P sc fm) 168 F Lo 43 lv [] (hq true c y w) Q) h (fun p4 h lv => ?_) (fun j43 hj43 h => ?_)
    ·
      refine rs_pure wi_168_43 rfl ?_
      refine rs_topi (v := 1) (by decide) ?_
      refine rs_goto (tg := 48) wi_168_44 ⟨by decide, by decide⟩ ?_
      exact hj48 _ h _
    refine rs_iceq (tg := 43) wi_168_28 ⟨by decide, by decide⟩ (fun q => ?_) (fun q => ?_)
    ·
      have h := wp_pos h q
      exact hj43 _ h _
    ·
      have h := wp_neg h q
      refine rs_aldn wi_168_31 l0 ?_
      refine dq_gr wi_168_32 wf_168_31 tf_114_8 ?_
      refine rs_ildn wi_168_35 l1 ?_
      obtain ⟨g5, h⟩ := wp_gd h
      refine dq_iald wi_168_36 t_121 g5 ?_
      refine rs_pure wi_168_37 rfl ?_
      refine rs_topi (v := 221) (by decide) ?_
      refine rs_icne (tg := 47) wi_168_40 ⟨by decide, by decide⟩ (fun q => ?_) (fun q => ?_)
      ·
        have h := wp_neg h q
        refine rs_pure wi_168_47 rfl ?_
        refine rs_topi (v := 0) (by decide) ?_
        exact hj48 _ h _
      ·
        have h := wp_pos h q
        exact hj43 _ h _
  ·
    have h := wp_pos h q
    refine rs_aldn wi_168_12 l0 ?_
    refine dq_gr wi_168_13 wf_168_34 tf_114_9 ?_
    refine rs_ildn wi_168_16 l1 ?_
    obtain ⟨g6, h⟩ := wp_gd h
    refine dq_iald wi_168_17 t_122 g6 ?_
    exact rs_iret wi_168_18 wr_168 rfl (hQ (c.1 122 (ix a1)) h)
theorem wc_169_104 : rx_ct (rt_P sc fm) 169 104 = some (0, 156, 1) := (by decide +kernel : rt_ct 169 104 = some (0, 156, 1))
theorem wf_169_31 : rx_ft (rt_P sc fm) 169 31 = some (2, 8) := (by decide +kernel : rt_ft 169 31 = some (2, 8))
theorem wf_169_37 : rx_ft (rt_P sc fm) 169 37 = some (2, 10) := (by decide +kernel : rt_ft 169 37 = some (2, 10))
theorem wi_169_0 : ri (rt_P sc fm) 169 0 (.aload_n 0) (1) := ri_of (by decide +kernel) rfl
theorem wi_169_1 : ri (rt_P sc fm) 169 1 (.getfield 31) (4) := ri_of (by decide +kernel) rfl
theorem wi_169_12 : ri (rt_P sc fm) 169 12 (.aload_n 0) (13) := ri_of (by decide +kernel) rfl
theorem wi_169_13 : ri (rt_P sc fm) 169 13 (.iload_n 1) (14) := ri_of (by decide +kernel) rfl
theorem wi_169_14 : ri (rt_P sc fm) 169 14 (.invokevirtual 104) (17) := ri_of (by decide +kernel) rfl
theorem wi_169_17 : ri (rt_P sc fm) 169 17 (.ireturn) (18) := ri_of (by decide +kernel) rfl
theorem wi_169_18 : ri (rt_P sc fm) 169 18 (.aload_n 0) (19) := ri_of (by decide +kernel) rfl
theorem wi_169_19 : ri (rt_P sc fm) 169 19 (.getfield 31) (22) := ri_of (by decide +kernel) rfl
theorem wi_169_22 : ri (rt_P sc fm) 169 22 (.iload_n 2) (23) := ri_of (by decide +kernel) rfl
theorem wi_169_23 : ri (rt_P sc fm) 169 23 (.iaload) (24) := ri_of (by decide +kernel) rfl
theorem wi_169_24 : ri (rt_P sc fm) 169 24 (.sipush 220) (27) := ri_of (by decide +kernel) rfl
theorem wi_169_27 : ri (rt_P sc fm) 169 27 (.if_icmp .ne 16) (30) := ri_of (by decide +kernel) rfl
theorem wi_169_30 : ri (rt_P sc fm) 169 30 (.aload_n 0) (31) := ri_of (by decide +kernel) rfl
theorem wi_169_31 : ri (rt_P sc fm) 169 31 (.getfield 37) (34) := ri_of (by decide +kernel) rfl
theorem wi_169_34 : ri (rt_P sc fm) 169 34 (.iload_n 2) (35) := ri_of (by decide +kernel) rfl
theorem wi_169_35 : ri (rt_P sc fm) 169 35 (.iaload) (36) := ri_of (by decide +kernel) rfl
theorem wi_169_36 : ri (rt_P sc fm) 169 36 (.iconst 1) (37) := ri_of (by decide +kernel) rfl
theorem wi_169_37 : ri (rt_P sc fm) 169 37 (.iadd) (38) := ri_of (by decide +kernel) rfl
theorem wi_169_38 : ri (rt_P sc fm) 169 38 (.iload_n 3) (39) := ri_of (by decide +kernel) rfl
theorem wi_169_39 : ri (rt_P sc fm) 169 39 (.iadd) (40) := ri_of (by decide +kernel) rfl
theorem wi_169_4 : ri (rt_P sc fm) 169 4 (.iload_n 2) (5) := ri_of (by decide +kernel) rfl
theorem wi_169_40 : ri (rt_P sc fm) 169 40 (.goto 9) (43) := ri_of (by decide +kernel) rfl
theorem wi_169_43 : ri (rt_P sc fm) 169 43 (.aload_n 0) (44) := ri_of (by decide +kernel) rfl
theorem wi_169_44 : ri (rt_P sc fm) 169 44 (.getfield 37) (47) := ri_of (by decide +kernel) rfl
theorem wi_169_47 : ri (rt_P sc fm) 169 47 (.iload_n 2) (48) := ri_of (by decide +kernel) rfl
theorem wi_169_48 : ri (rt_P sc fm) 169 48 (.iaload) (49) := ri_of (by decide +kernel) rfl
theorem wi_169_49 : ri (rt_P sc fm) 169 49 (.ireturn) (50) := ri_of (by decide +kernel) rfl
theorem wi_169_5 : ri (rt_P sc fm) 169 5 (.iaload) (6) := ri_of (by decide +kernel) rfl
theorem wi_169_6 : ri (rt_P sc fm) 169 6 (.sipush 221) (9) := ri_of (by decide +kernel) rfl
theorem wi_169_9 : ri (rt_P sc fm) 169 9 (.if_icmp .ne 9) (12) := ri_of (by decide +kernel) rfl
theorem wr_169 : rx_rt (rt_P sc fm) 169 = (some FieldType.int) := (by decide +kernel : rt_rt 169 = (some FieldType.int))
/-- MarkHouse$Code.wantedPlace(III)I -/
def d_169 (n : Nat) (a1 : Int32) (a2 : Int32) (a3 : Int32) (c : cS) : Option (Int32) :=
  if ib a2 1024 then
  if (c.1 121 (ix a2)) = 221 then
    Option.bind (d_156 n a1) (fun v6 =>
    some v6)
  else
    if ib a2 1024 then
    jn (fun p3 : Int32 =>
      some p3)
    (fun j49 =>
    if (c.1 121 (ix a2)) = 220 then
      if ib a2 1024 then
      j49 (((c.1 123 (ix a2)) + 1) + a3)
      else none
    else
      if ib a2 1024 then
      j49 (c.1 123 (ix a2))
      else none)
    else none
  else none
theorem sp_169 {F Lo n : Nat} {a1 : Int32} {a2 : Int32} {a3 : Int32} {c y : cS} {w : cW} {K : Int32 → Prop} {Q : ((Option Value) ⊕ String) → List va_E → Prop} (hw : rOK fm w) (hF : 1 ≤ F) (hLo : 21 ≤ Lo)  (h : wp (d_169 n a1 a2 a3 c) K) (hQ : ∀ r, K r → Q (.inl (some (.int r))) (hq true c y w)) : rs (rt_P sc fm) 169 F Lo 0 [(0, .ref 114), (1, .int a1), (2, .int a2), (3, .int a3)] [] (hq true c y w) Q := by
  unfold d_169 at h
  obtain ⟨lv, elv⟩ : ∃ lv : rx_L, lv = [(0, .ref 114), (1, .int a1), (2, .int a2), (3, .int a3)] := ⟨_, rfl⟩
  rw [← elv]
  have l0 : rx_ld lv 0 = some (.ref 114) := by rw [elv]; rfl
  have l1 : rx_ld lv 1 = some (.int a1) := by rw [elv]; rfl
  have l2 : rx_ld lv 2 = some (.int a2) := by rw [elv]; rfl
  have l3 : rx_ld lv 3 = some (.int a3) := by rw [elv]; rfl
  refine rs_aldn wi_169_0 l0 ?_
  refine dq_gr wi_169_1 wf_169_31 tf_114_8 ?_
  refine rs_ildn wi_169_4 l2 ?_
  obtain ⟨g1, h⟩ := wp_gd h
  refine dq_iald wi_169_5 t_121 g1 ?_
  refine rs_pure wi_169_6 rfl ?_
  refine rs_topi (v := 221) (by decide) ?_
  refine rs_icne (tg := 18) wi_169_9 ⟨by decide, by decide⟩ (fun q => ?_) (fun q => ?_)
  ·
    have h := wp_neg h q
    refine rs_aldn wi_169_18 l0 ?_
    refine dq_gr wi_169_19 wf_169_31 tf_114_8 ?_
    refine rs_ildn wi_169_22 l2 ?_
    obtain ⟨g2, h⟩ := wp_gd h
    refine dq_iald wi_169_23 t_121 g2 ?_
    refine rs_pure wi_169_24 rfl ?_
    refine rs_topi (v := 220) (by decide) ?_
    refine wp_jn (B := fun p3 : Int32 => ∀ lv, rs (rt_P sc fm) 169 F Lo 49 lv [.int p3] (hq true c y w) Q) h (fun p3 h lv => ?_) (fun j49 hj49 h => ?_)
    ·
      exact rs_iret wi_169_49 wr_169 rfl (hQ p3 h)
    refine rs_icne (tg := 43) wi_169_27 ⟨by decide, by decide⟩ (fun q => ?_) (fun q => ?_)
    ·
      have h := wp_neg h q
      refine rs_aldn wi_169_43 l0 ?_
      refine dq_gr wi_169_44 wf_169_37 tf_114_10 ?_
      refine rs_ildn wi_169_47 l2 ?_
      obtain ⟨g4, h⟩ := wp_gd h
      refine dq_iald wi_169_48 t_123 g4 ?_
      exact hj49 _ h _
    ·
      have h := wp_pos h q
      refine rs_aldn wi_169_30 l0 ?_
      refine dq_gr wi_169_31 wf_169_37 tf_114_10 ?_
      refine rs_ildn wi_169_34 l2 ?_
      obtain ⟨g5, h⟩ := wp_gd h
      refine dq_iald wi_169_35 t_123 g5 ?_
      refine rs_pure wi_169_36 rfl ?_
      refine rs_topi (v := 1) (by decide) ?_
      refine rs_pure wi_169_37 rfl ?_
      refine rs_ildn wi_169_38 l3 ?_
      refine rs_pure wi_169_39 rfl ?_
      refine rs_goto (tg := 49) wi_169_40 ⟨by decide, by decide⟩ ?_
      exact hj49 _ h _
  ·
    have h := wp_pos h q
    refine rs_aldn wi_169_12 l0 ?_
    refine rs_ildn wi_169_13 l1 ?_
    refine rs_V wi_169_14 wc_169_104 rfl (dq_isa tf_114_0 wa_2_156) (Nat.le_trans (by decide) hF) (ml_le wm_156 (Nat.le_trans (by decide) hLo)) rfl (sp_156 (Nat.le_trans (by decide : 0 ≤ 1 - 1) (Nat.sub_le_sub_right hF 1)) (ml_sub wm_156 (Nat.le_trans (by decide : 0 ≤ 21 - 21) (Nat.sub_le_sub_right hLo 21))) (wp_bind h) (fun v6 h => rs_back1 ?_))
    exact rs_iret wi_169_17 wr_169 rfl (hQ v6 h)
theorem wa_2_168 : rz_cn 2 (rx_yn (rt_P sc fm) 168).cls = true := (by decide +kernel : rz_cn 2 (rt_yn 168).cls = true)
theorem wc_170_116 : rx_ct (rt_P sc fm) 170 116 = some (0, 168, 1) := (by decide +kernel : rt_ct 170 116 = some (0, 168, 1))
theorem wf_170_43 : rx_ft (rt_P sc fm) 170 43 = some (2, 12) := (by decide +kernel : rt_ft 170 43 = some (2, 12))
theorem wi_170_0 : ri (rt_P sc fm) 170 0 (.bipush 8) (2) := ri_of (by decide +kernel) rfl
theorem wi_170_10 : ri (rt_P sc fm) 170 10 (.iload_n 1) (11) := ri_of (by decide +kernel) rfl
theorem wi_170_11 : ri (rt_P sc fm) 170 11 (.invokevirtual 116) (14) := ri_of (by decide +kernel) rfl
theorem wi_170_14 : ri (rt_P sc fm) 170 14 (.isub) (15) := ri_of (by decide +kernel) rfl
theorem wi_170_15 : ri (rt_P sc fm) 170 15 (.iload_n 2) (16) := ri_of (by decide +kernel) rfl
theorem wi_170_16 : ri (rt_P sc fm) 170 16 (.iadd) (17) := ri_of (by decide +kernel) rfl
theorem wi_170_17 : ri (rt_P sc fm) 170 17 (.ireturn) (18) := ri_of (by decide +kernel) rfl
theorem wi_170_2 : ri (rt_P sc fm) 170 2 (.aload_n 0) (3) := ri_of (by decide +kernel) rfl
theorem wi_170_3 : ri (rt_P sc fm) 170 3 (.getfield 43) (6) := ri_of (by decide +kernel) rfl
theorem wi_170_6 : ri (rt_P sc fm) 170 6 (.iload_n 1) (7) := ri_of (by decide +kernel) rfl
theorem wi_170_7 : ri (rt_P sc fm) 170 7 (.iaload) (8) := ri_of (by decide +kernel) rfl
theorem wi_170_8 : ri (rt_P sc fm) 170 8 (.iadd) (9) := ri_of (by decide +kernel) rfl
theorem wi_170_9 : ri (rt_P sc fm) 170 9 (.aload_n 0) (10) := ri_of (by decide +kernel) rfl
theorem wm_168 : rx_ml (rt_P sc fm) 168 = 2 := (by decide +kernel : rt_ml 168 = 2)
theorem wr_170 : rx_rt (rt_P sc fm) 170 = (some FieldType.int) := (by decide +kernel : rt_rt 170 = (some FieldType.int))
/-- MarkHouse$Code.wantedSlot(II)I -/
def d_170 (n : Nat) (a1 : Int32) (a2 : Int32) (c : cS) : Option (Int32) :=
  if ib a1 1024 then
  Option.bind (d_168 n a1 c) (fun v2 =>
  some (((8 + (c.1 125 (ix a1))) - v2) + a2))
  else none
theorem sp_170 {F Lo n : Nat} {a1 : Int32} {a2 : Int32} {c y : cS} {w : cW} {K : Int32 → Prop} {Q : ((Option Value) ⊕ String) → List va_E → Prop} (hw : rOK fm w) (hF : 1 ≤ F) (hLo : 21 ≤ Lo)  (h : wp (d_170 n a1 a2 c) K) (hQ : ∀ r, K r → Q (.inl (some (.int r))) (hq true c y w)) : rs (rt_P sc fm) 170 F Lo 0 [(0, .ref 114), (1, .int a1), (2, .int a2)] [] (hq true c y w) Q := by
  unfold d_170 at h
  obtain ⟨lv, elv⟩ : ∃ lv : rx_L, lv = [(0, .ref 114), (1, .int a1), (2, .int a2)] := ⟨_, rfl⟩
  rw [← elv]
  have l0 : rx_ld lv 0 = some (.ref 114) := by rw [elv]; rfl
  have l1 : rx_ld lv 1 = some (.int a1) := by rw [elv]; rfl
  have l2 : rx_ld lv 2 = some (.int a2) := by rw [elv]; rfl
  refine rs_pure wi_170_0 rfl ?_
  refine rs_topi (v := 8) (by decide) ?_
  refine rs_aldn wi_170_2 l0 ?_
  refine dq_gr wi_170_3 wf_170_43 tf_114_12 ?_
  refine rs_ildn wi_170_6 l1 ?_
  obtain ⟨g1, h⟩ := wp_gd h
  refine dq_iald wi_170_7 t_125 g1 ?_
  refine rs_pure wi_170_8 rfl ?_
  refine rs_aldn wi_170_9 l0 ?_
  refine rs_ildn wi_170_10 l1 ?_
  refine rs_V wi_170_11 wc_170_116 rfl (dq_isa tf_114_0 wa_2_168) (Nat.le_trans (by decide) hF) (ml_le wm_168 (Nat.le_trans (by decide) hLo)) rfl (sp_168 hw (Nat.le_trans (by decide : 0 ≤ 1 - 1) (Nat.sub_le_sub_right hF 1)) (ml_sub wm_168 (Nat.le_trans (by decide : 0 ≤ 21 - 21) (Nat.sub_le_sub_right hLo 21))) (wp_bind h) (fun v2 h => rs_back1 ?_))
  refine rs_pure wi_170_14 rfl ?_
  refine rs_ildn wi_170_15 l2 ?_
  refine rs_pure wi_170_16 rfl ?_
  exact rs_iret wi_170_17 wr_170 rfl (hQ (((8 + (c.1 125 (ix a1))) - v2) + a2) h)
theorem wa_2_169 : rz_cn 2 (rx_yn (rt_P sc fm) 169).cls = true := (by decide +kernel : rz_cn 2 (rt_yn 169).cls = true)
theorem wa_2_170 : rz_cn 2 (rx_yn (rt_P sc fm) 170).cls = true := (by decide +kernel : rz_cn 2 (rt_yn 170).cls = true)
theorem wc_206_126 : rx_ct (rt_P sc fm) 206 126 = some (0, 190, 2) := (by decide +kernel : rt_ct 206 126 = some (0, 190, 2))
theorem wc_206_157 : rx_ct (rt_P sc fm) 206 157 = some (11, 355, 2) := (by decide +kernel : rt_ct 206 157 = some (11, 355, 2))
theorem wc_206_190 : rx_ct (rt_P sc fm) 206 190 = some (0, 169, 3) := (by decide +kernel : rt_ct 206 190 = some (0, 169, 3))
theorem wc_206_194 : rx_ct (rt_P sc fm) 206 194 = some (0, 170, 2) := (by decide +kernel : rt_ct 206 194 = some (0, 170, 2))
theorem wc_206_197 : rx_ct (rt_P sc fm) 206 197 = some (0, 237, 2) := (by decide +kernel : rt_ct 206 197 = some (0, 237, 2))
theorem wf_206_108 : rx_ft (rt_P sc fm) 206 108 = some (9, 1) := (by decide +kernel : rt_ft 206 108 = some (9, 1))
theorem wf_206_41 : rx_ft (rt_P sc fm) 206 41 = some (5, 0) := (by decide +kernel : rt_ft 206 41 = some (5, 0))
theorem wf_206_45 : rx_ft (rt_P sc fm) 206 45 = some (5, 1) := (by decide +kernel : rt_ft 206 45 = some (5, 1))
theorem wf_206_49 : rx_ft (rt_P sc fm) 206 49 = some (5, 2) := (by decide +kernel : rt_ft 206 49 = some (5, 2))
theorem wf_206_9 : rx_ft (rt_P sc fm) 206 9 = some (5, 3) := (by decide +kernel : rt_ft 206 9 = some (5, 3))
theorem wi_206_0 : ri (rt_P sc fm) 206 0 (.aload_n 0) (1) := ri_of (by decide +kernel) rfl
theorem wi_206_1 : ri (rt_P sc fm) 206 1 (.getfield 49) (4) := ri_of (by decide +kernel) rfl
theorem wi_206_10 : ri (rt_P sc fm) 206 10 (.iload_n 3) (11) := ri_of (by decide +kernel) rfl
theorem wi_206_11 : ri (rt_P sc fm) 206 11 (.invokevirtual 190) (14) := ri_of (by decide +kernel) rfl
theorem wi_206_14 : ri (rt_P sc fm) 206 14 (.aload_n 0) (15) := ri_of (by decide +kernel) rfl
theorem wi_206_15 : ri (rt_P sc fm) 206 15 (.getfield 9) (18) := ri_of (by decide +kernel) rfl
theorem wi_206_18 : ri (rt_P sc fm) 206 18 (.invokevirtual 126) (21) := ri_of (by decide +kernel) rfl
theorem wi_206_21 : ri (rt_P sc fm) 206 21 (.istore 6) (23) := ri_of (by decide +kernel) rfl
theorem wi_206_23 : ri (rt_P sc fm) 206 23 (.aload_n 0) (24) := ri_of (by decide +kernel) rfl
theorem wi_206_24 : ri (rt_P sc fm) 206 24 (.getfield 41) (27) := ri_of (by decide +kernel) rfl
theorem wi_206_27 : ri (rt_P sc fm) 206 27 (.getfield 108) (30) := ri_of (by decide +kernel) rfl
theorem wi_206_30 : ri (rt_P sc fm) 206 30 (.aload_n 0) (31) := ri_of (by decide +kernel) rfl
theorem wi_206_31 : ri (rt_P sc fm) 206 31 (.getfield 9) (34) := ri_of (by decide +kernel) rfl
theorem wi_206_34 : ri (rt_P sc fm) 206 34 (.aaload) (35) := ri_of (by decide +kernel) rfl
theorem wi_206_35 : ri (rt_P sc fm) 206 35 (.lload 4) (37) := ri_of (by decide +kernel) rfl
theorem wi_206_37 : ri (rt_P sc fm) 206 37 (.aload_n 0) (38) := ri_of (by decide +kernel) rfl
theorem wi_206_38 : ri (rt_P sc fm) 206 38 (.getfield 45) (41) := ri_of (by decide +kernel) rfl
theorem wi_206_4 : ri (rt_P sc fm) 206 4 (.aload_n 0) (5) := ri_of (by decide +kernel) rfl
theorem wi_206_41 : ri (rt_P sc fm) 206 41 (.iload_n 2) (42) := ri_of (by decide +kernel) rfl
theorem wi_206_42 : ri (rt_P sc fm) 206 42 (.iload_n 3) (43) := ri_of (by decide +kernel) rfl
theorem wi_206_43 : ri (rt_P sc fm) 206 43 (.invokevirtual 194) (46) := ri_of (by decide +kernel) rfl
theorem wi_206_46 : ri (rt_P sc fm) 206 46 (.invokestatic 157) (49) := ri_of (by decide +kernel) rfl
theorem wi_206_49 : ri (rt_P sc fm) 206 49 (.iload 6) (51) := ri_of (by decide +kernel) rfl
theorem wi_206_5 : ri (rt_P sc fm) 206 5 (.getfield 45) (8) := ri_of (by decide +kernel) rfl
theorem wi_206_51 : ri (rt_P sc fm) 206 51 (.invokevirtual 197) (54) := ri_of (by decide +kernel) rfl
theorem wi_206_54 : ri (rt_P sc fm) 206 54 (.ifCond .ne 7) (57) := ri_of (by decide +kernel) rfl
theorem wi_206_57 : ri (rt_P sc fm) 206 57 (.iconst 1) (58) := ri_of (by decide +kernel) rfl
theorem wi_206_58 : ri (rt_P sc fm) 206 58 (.goto 4) (61) := ri_of (by decide +kernel) rfl
theorem wi_206_61 : ri (rt_P sc fm) 206 61 (.iconst 0) (62) := ri_of (by decide +kernel) rfl
theorem wi_206_62 : ri (rt_P sc fm) 206 62 (.ireturn) (63) := ri_of (by decide +kernel) rfl
theorem wi_206_8 : ri (rt_P sc fm) 206 8 (.iload_n 1) (9) := ri_of (by decide +kernel) rfl
theorem wi_206_9 : ri (rt_P sc fm) 206 9 (.iload_n 2) (10) := ri_of (by decide +kernel) rfl
theorem wm_169 : rx_ml (rt_P sc fm) 169 = 4 := (by decide +kernel : rt_ml 169 = 4)
theorem wm_170 : rx_ml (rt_P sc fm) 170 = 3 := (by decide +kernel : rt_ml 170 = 3)
theorem wr_206 : rx_rt (rt_P sc fm) 206 = (some FieldType.boolean) := (by decide +kernel : rt_rt 206 = (some FieldType.boolean))
/-- MarkHouse$Flow.isWrong(IIIJ)Z -/
def d_206 (n : Nat) (a1 : Int32) (a2 : Int32) (a3 : Int32) (a4 : Int64) (c : cS) : Option (Int32) :=
  Option.bind (d_169 n a1 a2 a3 c) (fun v1 =>
  Option.bind (d_190 n v1 (c.1 150 3) c) (fun v2 =>
  if ib (c.1 150 3) 4 then
  Option.bind (d_170 n a2 a3 c) (fun v5 =>
  Option.bind (d_355 n a4 v5) (fun v6 =>
  Option.bind (d_237 n (ix (c.1 150 3)) v6 v2 c) (fun v7 =>
  jn (fun p8 : Int32 =>
    if nb p8 then
    some p8
    else none)
  (fun j62 =>
  if v7 = 0 then
    j62 1
  else
    j62 0))))
  else none))
theorem sp_206 {F Lo n : Nat} {a1 : Int32} {a2 : Int32} {a3 : Int32} {a4 : Int64} {c y : cS} {w : cW} {K : Int32 → Prop} {Q : ((Option Value) ⊕ String) → List va_E → Prop} (hw : rOK fm w) (hF : 2 ≤ F) (hLo : 44 ≤ Lo)  (h : wp (d_206 n a1 a2 a3 a4 c) K) (hQ : ∀ r, K r → Q (.inl (some (.int r))) (hq true c y w)) : rs (rt_P sc fm) 206 F Lo 0 [(0, .ref 150), (1, .int a1), (2, .int a2), (3, .int a3), (4, .long a4)] [] (hq true c y w) Q := by
  unfold d_206 at h
  obtain ⟨lv, elv⟩ : ∃ lv : rx_L, lv = [(0, .ref 150), (1, .int a1), (2, .int a2), (3, .int a3), (4, .long a4)] := ⟨_, rfl⟩
  rw [← elv]
  have l0 : rx_ld lv 0 = some (.ref 150) := by rw [elv]; rfl
  have l1 : rx_ld lv 1 = some (.int a1) := by rw [elv]; rfl
  have l2 : rx_ld lv 2 = some (.int a2) := by rw [elv]; rfl
  have l3 : rx_ld lv 3 = some (.int a3) := by rw [elv]; rfl
  have l4 : rx_ld lv 4 = some (.long a4) := by rw [elv]; rfl
  refine rs_aldn wi_206_0 l0 ?_
  refine dq_gr wi_206_1 wf_206_49 tf_150_2 ?_
  refine rs_aldn wi_206_4 l0 ?_
  refine dq_gr wi_206_5 wf_206_45 tf_150_1 ?_
  refine rs_ildn wi_206_8 l1 ?_
  refine rs_ildn wi_206_9 l2 ?_
  refine rs_ildn wi_206_10 l3 ?_
  refine rs_V wi_206_11 wc_206_190 rfl (dq_isa tf_114_0 wa_2_169) (Nat.le_trans (by decide) hF) (ml_le wm_169 (Nat.le_trans (by decide) hLo)) rfl (sp_169 hw (Nat.le_trans (by decide : 1 ≤ 2 - 1) (Nat.sub_le_sub_right hF 1)) (ml_sub wm_169 (Nat.le_trans (by decide : 21 ≤ 44 - 23) (Nat.sub_le_sub_right hLo 23))) (wp_bind h) (fun v1 h => rs_back1 ?_))
  refine rs_aldn wi_206_14 l0 ?_
  refine dq_gi wi_206_15 wf_206_9 tf_150_3 ?_
  refine rs_V wi_206_18 wc_206_126 rfl (dq_isa tf_146_0 wa_4_190) (Nat.le_trans (by decide) hF) (ml_le wm_190 (Nat.le_trans (by decide) hLo)) rfl (sp_190 hw (Nat.le_trans (by decide : 0 ≤ 2 - 1) (Nat.sub_le_sub_right hF 1)) (ml_sub wm_190 (Nat.le_trans (by decide : 0 ≤ 44 - 23) (Nat.sub_le_sub_right hLo 23))) (wp_bind h) (fun v2 h => rs_back1 ?_))
  refine dl_ist wi_206_21 rfl (fun lv l6 t3 => ?_)
  have l0 := t3 _ _ (by decide) (Or.inl rfl) l0
  have l2 := t3 _ _ (by decide) (Or.inl rfl) l2
  have l3 := t3 _ _ (by decide) (Or.inl rfl) l3
  have l4 := t3 _ _ (by decide) (Or.inr (by decide)) l4
  refine rs_aldn wi_206_23 l0 ?_
  refine dq_gr wi_206_24 wf_206_41 tf_150_0 ?_
  refine dq_gr wi_206_27 wf_206_108 tf_7_1 ?_
  refine rs_aldn wi_206_30 l0 ?_
  refine dq_gi wi_206_31 wf_206_9 tf_150_3 ?_
  obtain ⟨g4, h⟩ := wp_gd h
  refine dq_aald wi_206_34 (by decide) t_8 g4 (hw.1 _ (ib_lt g4)) ?_
  refine rs_lld wi_206_35 l4 ?_
  refine rs_aldn wi_206_37 l0 ?_
  refine dq_gr wi_206_38 wf_206_45 tf_150_1 ?_
  refine rs_ildn wi_206_41 l2 ?_
  refine rs_ildn wi_206_42 l3 ?_
  refine rs_V wi_206_43 wc_206_194 rfl (dq_isa tf_114_0 wa_2_170) (Nat.le_trans (by decide) hF) (ml_le wm_170 (Nat.le_trans (by decide) hLo)) rfl (sp_170 hw (Nat.le_trans (by decide : 1 ≤ 2 - 1) (Nat.sub_le_sub_right hF 1)) (ml_sub wm_170 (Nat.le_trans (by decide : 21 ≤ 44 - 22) (Nat.sub_le_sub_right hLo 22))) (wp_bind h) (fun v5 h => rs_back1 ?_))
  refine rs_SN wi_206_46 wc_206_157 rfl (Nat.le_trans (by decide) hF) (ml_le wm_355 (Nat.le_trans (by decide) hLo)) rfl (sp_355 (Nat.le_trans (by decide : 0 ≤ 2 - 1) (Nat.sub_le_sub_right hF 1)) (ml_sub wm_355 (Nat.le_trans (by decide : 0 ≤ 44 - 22) (Nat.sub_le_sub_right hLo 22))) (wp_bind h) (fun v6 h => rs_back1 ?_))
  refine rs_ild wi_206_49 l6 ?_
  refine rs_V wi_206_51 wc_206_197 rfl (dq_isa (fO_0 (ib_lt g4)) wa_8_237) (Nat.le_trans (by decide) hF) (ml_le wm_237 (Nat.le_trans (by decide) hLo)) rfl (sp_237 hw (Nat.le_trans (by decide : 0 ≤ 2 - 1) (Nat.sub_le_sub_right hF 1)) (ml_sub wm_237 (Nat.le_trans (by decide : 0 ≤ 44 - 22) (Nat.sub_le_sub_right hLo 22))) (ib_lt g4) (wp_bind h) (fun v7 h => rs_back1 ?_))
  refine wp_jn (B := fun p8 : Int32 => ∀ lv, rs (rt_P sc fm) 206 F Lo 62 lv [.int p8] (hq true c y w) Q) h (fun p8 h lv => ?_) (fun j62 hj62 h => ?_)
  ·
    obtain ⟨g9, h⟩ := wp_gd h
    exact rs_iret wi_206_62 wr_206 (nb_n g9) (hQ p8 h)
  refine rs_ifne (tg := 61) wi_206_54 ⟨by decide, by decide⟩ (fun q => ?_) (fun q => ?_)
  ·
    have h := wp_neg h q
    refine rs_pure wi_206_61 rfl ?_
    refine rs_topi (v := 0) (by decide) ?_
    exact hj62 _ h _
  ·
    have h := wp_pos h q
    refine rs_pure wi_206_57 rfl ?_
    refine rs_topi (v := 1) (by decide) ?_
    refine rs_goto (tg := 62) wi_206_58 ⟨by decide, by decide⟩ ?_
    exact hj62 _ h _
theorem t_152 : ta true 152 0 2048 := ⟨rfl, by decide, by decide⟩
theorem tf_150_5 : fo true 150 5 5 (.ref 152) := ⟨_, rfl, rfl, by decide, by decide⟩
theorem wa_5_206 : rz_cn 5 (rx_yn (rt_P sc fm) 206).cls = true := (by decide +kernel : rz_cn 5 (rt_yn 206).cls = true)
theorem wc_205_183 : rx_ct (rt_P sc fm) 205 183 = some (0, 168, 1) := (by decide +kernel : rt_ct 205 183 = some (0, 168, 1))
theorem wc_205_186 : rx_ct (rt_P sc fm) 205 186 = some (0, 206, 4) := (by decide +kernel : rt_ct 205 186 = some (0, 206, 4))
theorem wf_205_15 : rx_ft (rt_P sc fm) 205 15 = some (5, 4) := (by decide +kernel : rt_ft 205 15 = some (5, 4))
theorem wf_205_19 : rx_ft (rt_P sc fm) 205 19 = some (5, 5) := (by decide +kernel : rt_ft 205 19 = some (5, 5))
theorem wf_205_45 : rx_ft (rt_P sc fm) 205 45 = some (5, 1) := (by decide +kernel : rt_ft 205 45 = some (5, 1))
theorem wf_205_53 : rx_ft (rt_P sc fm) 205 53 = some (5, 6) := (by decide +kernel : rt_ft 205 53 = some (5, 6))
theorem wf_205_76 : rx_ft (rt_P sc fm) 205 76 = some (2, 5) := (by decide +kernel : rt_ft 205 76 = some (2, 5))
theorem wf_205_79 : rx_ft (rt_P sc fm) 205 79 = some (2, 6) := (by decide +kernel : rt_ft 205 79 = some (2, 6))
theorem wi_205_0 : ri (rt_P sc fm) 205 0 (.iconst 0) (1) := ri_of (by decide +kernel) rfl
theorem wi_205_1 : ri (rt_P sc fm) 205 1 (.istore_n 2) (2) := ri_of (by decide +kernel) rfl
theorem wi_205_10 : ri (rt_P sc fm) 205 10 (.iload_n 1) (11) := ri_of (by decide +kernel) rfl
theorem wi_205_102 : ri (rt_P sc fm) 205 102 (.imul) (103) := ri_of (by decide +kernel) rfl
theorem wi_205_103 : ri (rt_P sc fm) 205 103 (.iload_n 2) (104) := ri_of (by decide +kernel) rfl
theorem wi_205_104 : ri (rt_P sc fm) 205 104 (.iconst 4) (105) := ri_of (by decide +kernel) rfl
theorem wi_205_105 : ri (rt_P sc fm) 205 105 (.imul) (106) := ri_of (by decide +kernel) rfl
theorem wi_205_106 : ri (rt_P sc fm) 205 106 (.iadd) (107) := ri_of (by decide +kernel) rfl
theorem wi_205_107 : ri (rt_P sc fm) 205 107 (.iload 4) (109) := ri_of (by decide +kernel) rfl
theorem wi_205_109 : ri (rt_P sc fm) 205 109 (.iadd) (110) := ri_of (by decide +kernel) rfl
theorem wi_205_11 : ri (rt_P sc fm) 205 11 (.iaload) (12) := ri_of (by decide +kernel) rfl
theorem wi_205_110 : ri (rt_P sc fm) 205 110 (.iastore) (111) := ri_of (by decide +kernel) rfl
theorem wi_205_111 : ri (rt_P sc fm) 205 111 (.iinc 4 1) (114) := ri_of (by decide +kernel) rfl
theorem wi_205_114 : ri (rt_P sc fm) 205 114 (.goto (-84)) (117) := ri_of (by decide +kernel) rfl
theorem wi_205_117 : ri (rt_P sc fm) 205 117 (.iinc 2 1) (120) := ri_of (by decide +kernel) rfl
theorem wi_205_12 : ri (rt_P sc fm) 205 12 (.if_icmp .ge 111) (15) := ri_of (by decide +kernel) rfl
theorem wi_205_120 : ri (rt_P sc fm) 205 120 (.goto (-118)) (123) := ri_of (by decide +kernel) rfl
theorem wi_205_123 : ri (rt_P sc fm) 205 123 (.return_) (124) := ri_of (by decide +kernel) rfl
theorem wi_205_15 : ri (rt_P sc fm) 205 15 (.aload_n 0) (16) := ri_of (by decide +kernel) rfl
theorem wi_205_16 : ri (rt_P sc fm) 205 16 (.getfield 45) (19) := ri_of (by decide +kernel) rfl
theorem wi_205_19 : ri (rt_P sc fm) 205 19 (.getfield 76) (22) := ri_of (by decide +kernel) rfl
theorem wi_205_2 : ri (rt_P sc fm) 205 2 (.iload_n 2) (3) := ri_of (by decide +kernel) rfl
theorem wi_205_22 : ri (rt_P sc fm) 205 22 (.iload_n 1) (23) := ri_of (by decide +kernel) rfl
theorem wi_205_23 : ri (rt_P sc fm) 205 23 (.iaload) (24) := ri_of (by decide +kernel) rfl
theorem wi_205_24 : ri (rt_P sc fm) 205 24 (.iload_n 2) (25) := ri_of (by decide +kernel) rfl
theorem wi_205_25 : ri (rt_P sc fm) 205 25 (.iadd) (26) := ri_of (by decide +kernel) rfl
theorem wi_205_26 : ri (rt_P sc fm) 205 26 (.istore_n 3) (27) := ri_of (by decide +kernel) rfl
theorem wi_205_27 : ri (rt_P sc fm) 205 27 (.iconst 0) (28) := ri_of (by decide +kernel) rfl
theorem wi_205_28 : ri (rt_P sc fm) 205 28 (.istore 4) (30) := ri_of (by decide +kernel) rfl
theorem wi_205_3 : ri (rt_P sc fm) 205 3 (.aload_n 0) (4) := ri_of (by decide +kernel) rfl
theorem wi_205_30 : ri (rt_P sc fm) 205 30 (.iload 4) (32) := ri_of (by decide +kernel) rfl
theorem wi_205_32 : ri (rt_P sc fm) 205 32 (.aload_n 0) (33) := ri_of (by decide +kernel) rfl
theorem wi_205_33 : ri (rt_P sc fm) 205 33 (.getfield 45) (36) := ri_of (by decide +kernel) rfl
theorem wi_205_36 : ri (rt_P sc fm) 205 36 (.iload_n 3) (37) := ri_of (by decide +kernel) rfl
theorem wi_205_37 : ri (rt_P sc fm) 205 37 (.invokevirtual 183) (40) := ri_of (by decide +kernel) rfl
theorem wi_205_4 : ri (rt_P sc fm) 205 4 (.getfield 45) (7) := ri_of (by decide +kernel) rfl
theorem wi_205_40 : ri (rt_P sc fm) 205 40 (.if_icmp .ge 77) (43) := ri_of (by decide +kernel) rfl
theorem wi_205_43 : ri (rt_P sc fm) 205 43 (.aload_n 0) (44) := ri_of (by decide +kernel) rfl
theorem wi_205_44 : ri (rt_P sc fm) 205 44 (.getfield 15) (47) := ri_of (by decide +kernel) rfl
theorem wi_205_47 : ri (rt_P sc fm) 205 47 (.iload_n 3) (48) := ri_of (by decide +kernel) rfl
theorem wi_205_48 : ri (rt_P sc fm) 205 48 (.laload) (49) := ri_of (by decide +kernel) rfl
theorem wi_205_49 : ri (rt_P sc fm) 205 49 (.ldc2_w 82) (52) := ri_of (by decide +kernel) rfl
theorem wi_205_52 : ri (rt_P sc fm) 205 52 (.lcmp) (53) := ri_of (by decide +kernel) rfl
theorem wi_205_53 : ri (rt_P sc fm) 205 53 (.ifCond .eq 64) (56) := ri_of (by decide +kernel) rfl
theorem wi_205_56 : ri (rt_P sc fm) 205 56 (.aload_n 0) (57) := ri_of (by decide +kernel) rfl
theorem wi_205_57 : ri (rt_P sc fm) 205 57 (.iload_n 1) (58) := ri_of (by decide +kernel) rfl
theorem wi_205_58 : ri (rt_P sc fm) 205 58 (.iload_n 3) (59) := ri_of (by decide +kernel) rfl
theorem wi_205_59 : ri (rt_P sc fm) 205 59 (.iload 4) (61) := ri_of (by decide +kernel) rfl
theorem wi_205_61 : ri (rt_P sc fm) 205 61 (.aload_n 0) (62) := ri_of (by decide +kernel) rfl
theorem wi_205_62 : ri (rt_P sc fm) 205 62 (.getfield 15) (65) := ri_of (by decide +kernel) rfl
theorem wi_205_65 : ri (rt_P sc fm) 205 65 (.iload_n 3) (66) := ri_of (by decide +kernel) rfl
theorem wi_205_66 : ri (rt_P sc fm) 205 66 (.laload) (67) := ri_of (by decide +kernel) rfl
theorem wi_205_67 : ri (rt_P sc fm) 205 67 (.invokevirtual 186) (70) := ri_of (by decide +kernel) rfl
theorem wi_205_7 : ri (rt_P sc fm) 205 7 (.getfield 79) (10) := ri_of (by decide +kernel) rfl
theorem wi_205_70 : ri (rt_P sc fm) 205 70 (.ifCond .eq 41) (73) := ri_of (by decide +kernel) rfl
theorem wi_205_73 : ri (rt_P sc fm) 205 73 (.aload_n 0) (74) := ri_of (by decide +kernel) rfl
theorem wi_205_74 : ri (rt_P sc fm) 205 74 (.getfield 53) (77) := ri_of (by decide +kernel) rfl
theorem wi_205_77 : ri (rt_P sc fm) 205 77 (.sipush 2048) (80) := ri_of (by decide +kernel) rfl
theorem wi_205_80 : ri (rt_P sc fm) 205 80 (.if_icmp .ge 31) (83) := ri_of (by decide +kernel) rfl
theorem wi_205_83 : ri (rt_P sc fm) 205 83 (.aload_n 0) (84) := ri_of (by decide +kernel) rfl
theorem wi_205_84 : ri (rt_P sc fm) 205 84 (.getfield 19) (87) := ri_of (by decide +kernel) rfl
theorem wi_205_87 : ri (rt_P sc fm) 205 87 (.aload_n 0) (88) := ri_of (by decide +kernel) rfl
theorem wi_205_88 : ri (rt_P sc fm) 205 88 (.dup) (89) := ri_of (by decide +kernel) rfl
theorem wi_205_89 : ri (rt_P sc fm) 205 89 (.getfield 53) (92) := ri_of (by decide +kernel) rfl
theorem wi_205_92 : ri (rt_P sc fm) 205 92 (.dup_x1) (93) := ri_of (by decide +kernel) rfl
theorem wi_205_93 : ri (rt_P sc fm) 205 93 (.iconst 1) (94) := ri_of (by decide +kernel) rfl
theorem wi_205_94 : ri (rt_P sc fm) 205 94 (.iadd) (95) := ri_of (by decide +kernel) rfl
theorem wi_205_95 : ri (rt_P sc fm) 205 95 (.putfield 53) (98) := ri_of (by decide +kernel) rfl
theorem wi_205_98 : ri (rt_P sc fm) 205 98 (.iload_n 1) (99) := ri_of (by decide +kernel) rfl
theorem wi_205_99 : ri (rt_P sc fm) 205 99 (.sipush 160) (102) := ri_of (by decide +kernel) rfl
theorem wk_205_82 : rx_kt (rt_P sc fm) 205 82 = some (.long (-1)) := (by decide +kernel : rt_kt 205 82 = some (.long (-1)))
theorem wm_206 : rx_ml (rt_P sc fm) 206 = 7 := (by decide +kernel : rt_ml 206 = 7)
theorem wp_205_53 : rx_pt (rt_P sc fm) 205 53 = some (5, 6, .int) := (by decide +kernel : rt_pt 205 53 = some (5, 6, .int))
theorem wr_205 : rx_rt (rt_P sc fm) 205 = none := (by decide +kernel : rt_rt 205 = none)
/-- MarkHouse$Flow.addErrors(I)V -/
def d_205 (n : Nat) (a1 : Int32) (c : cS) : Option (cS) :=
  Option.bind (whl (R := (cS)) (fun s2 : Int32 × cS =>
    if ib a1 96 then
    if (s2.2.1 120 (ix a1)) ≤ s2.1 then
      some (.inr s2.2)
    else
      if ib a1 96 then
      lt (((s2.2.1 119 (ix a1)) + s2.1) : Int32) (fun v6 =>
      Option.bind (whl (R := (cS)) (fun s9 : Int32 × cS =>
        Option.bind (d_168 n v6 s9.2) (fun v10 =>
        if v10 ≤ s9.1 then
          some (.inr s9.2)
        else
          if ib v6 1024 then
          if (lg_cmp (s9.2.2 151 (ix v6)) (-1)) = 0 then
            some (.inr s9.2)
          else
            if ib v6 1024 then
            Option.bind (d_206 n a1 v6 s9.1 (s9.2.2 151 (ix v6)) s9.2) (fun v13 =>
            jn (fun p14 : cS =>
              lt (s9.1 + 1 : Int32) (fun v16 =>
              some (.inl (v16, p14))))
            (fun j111 =>
            if v13 = 0 then
              j111 s9.2
            else
              if 2048 ≤ (s9.2.1 150 6) then
                j111 s9.2
              else
                lt (pI s9.2 150 6 ((s9.2.1 150 6) + 1)) (fun c18 =>
                if ib (s9.2.1 150 6) 2048 then
                lt (pI c18 152 (ix (s9.2.1 150 6)) (((a1 * 160) + (s2.1 * 4)) + s9.1)) (fun c21 =>
                j111 c21)
                else none)))
            else none
          else none)) n (0, s2.2))
      (fun x23 : cS =>
        lt (s2.1 + 1 : Int32) (fun v25 =>
        some (.inl (v25, x23)))))
      else none
    else none) n (0, c))
  (fun x27 : cS =>
    some x27)
theorem sp_205 {F Lo n : Nat} {a1 : Int32} {c y : cS} {w : cW} {K : cS → Prop} {Q : ((Option Value) ⊕ String) → List va_E → Prop} (hw : rOK fm w) (hF : 3 ≤ F) (hLo : 70 ≤ Lo)  (h : wp (d_205 n a1 c) K) (hQ : ∀ r, K r → Q (.inl none) (hq true r y w)) : rs (rt_P sc fm) 205 F Lo 0 [(0, .ref 150), (1, .int a1)] [] (hq true c y w) Q := by
  unfold d_205 at h
  obtain ⟨lv, elv⟩ : ∃ lv : rx_L, lv = [(0, .ref 150), (1, .int a1)] := ⟨_, rfl⟩
  rw [← elv]
  have l0 : rx_ld lv 0 = some (.ref 150) := by rw [elv]; rfl
  have l1 : rx_ld lv 1 = some (.int a1) := by rw [elv]; rfl
  refine rs_pure wi_205_0 rfl ?_
  refine rs_topi (v := 0) (by decide) ?_
  refine dl_istn wi_205_1 rfl (fun lv l2 t1 => ?_)
  have l0 := t1 _ _ (by decide) (Or.inl rfl) l0
  have l1 := t1 _ _ (by decide) (Or.inl rfl) l1
  refine whl_ex (A := fun s2 : Int32 × cS => ∀ lv, rx_ld lv 0 = some (.ref 150) → rx_ld lv 1 = some (.int a1) → rx_ld lv 2 = some (.int s2.1) → rs (rt_P sc fm) 205 F Lo 2 lv [] (hq true s2.2 y w) Q) (B := (fun x27 : cS => ∀ lv, rs (rt_P sc fm) 205 F Lo 123 lv [] (hq true x27 y w) Q)) ?_ ?_ _ _ (wp_bind h) _ l0 l1 l2
  · intro s2 h lv l0 l1 l2
    refine rs_ildn wi_205_2 l2 ?_
    refine rs_aldn wi_205_3 l0 ?_
    refine dq_gr wi_205_4 wf_205_45 tf_150_1 ?_
    refine dq_gr wi_205_7 wf_205_79 tf_114_6 ?_
    refine rs_ildn wi_205_10 l1 ?_
    obtain ⟨g3, h⟩ := wp_gd h
    refine dq_iald wi_205_11 t_120 g3 ?_
    refine rs_icge (tg := 123) wi_205_12 ⟨by decide, by decide⟩ (fun q => ?_) (fun q => ?_)
    ·
      have h := wp_pos h q
      exact h _
    ·
      have h := wp_neg h q
      refine rs_aldn wi_205_15 l0 ?_
      refine dq_gr wi_205_16 wf_205_45 tf_150_1 ?_
      refine dq_gr wi_205_19 wf_205_76 tf_114_5 ?_
      refine rs_ildn wi_205_22 l1 ?_
      obtain ⟨g4, h⟩ := wp_gd h
      refine dq_iald wi_205_23 t_119 g4 ?_
      refine rs_ildn wi_205_24 l2 ?_
      refine rs_pure wi_205_25 rfl ?_
      obtain ⟨v6, e7, h⟩ := wp_lt h
      refine rs_topi e7 ?_
      refine dl_istn wi_205_26 rfl (fun lv l3 t5 => ?_)
      have l0 := t5 _ _ (by decide) (Or.inl rfl) l0
      have l1 := t5 _ _ (by decide) (Or.inl rfl) l1
      have l2 := t5 _ _ (by decide) (Or.inl rfl) l2
      refine rs_pure wi_205_27 rfl ?_
      refine rs_topi (v := 0) (by decide) ?_
      refine dl_ist wi_205_28 rfl (fun lv l4 t8 => ?_)
      have l0 := t8 _ _ (by decide) (Or.inl rfl) l0
      have l1 := t8 _ _ (by decide) (Or.inl rfl) l1
      have l2 := t8 _ _ (by decide) (Or.inl rfl) l2
      have l3 := t8 _ _ (by decide) (Or.inl rfl) l3
      refine whl_ex (A := fun s9 : Int32 × cS => ∀ lv, rx_ld lv 0 = some (.ref 150) → rx_ld lv 1 = some (.int a1) → rx_ld lv 2 = some (.int s2.1) → rx_ld lv 3 = some (.int v6) → rx_ld lv 4 = some (.int s9.1) → rs (rt_P sc fm) 205 F Lo 30 lv [] (hq true s9.2 y w) Q) (B := (fun x23 : cS => ∀ lv, rx_ld lv 0 = some (.ref 150) → rx_ld lv 1 = some (.int a1) → rx_ld lv 2 = some (.int s2.1) → rs (rt_P sc fm) 205 F Lo 117 lv [] (hq true x23 y w) Q)) ?_ ?_ _ _ (wp_bind h) _ l0 l1 l2 l3 l4
      · intro s9 h lv l0 l1 l2 l3 l4
        refine rs_ild wi_205_30 l4 ?_
        refine rs_aldn wi_205_32 l0 ?_
        refine dq_gr wi_205_33 wf_205_45 tf_150_1 ?_
        refine rs_ildn wi_205_36 l3 ?_
        refine rs_V wi_205_37 wc_205_183 rfl (dq_isa tf_114_0 wa_2_168) (Nat.le_trans (by decide) hF) (ml_le wm_168 (Nat.le_trans (by decide) hLo)) rfl (sp_168 hw (Nat.le_trans (by decide : 0 ≤ 3 - 1) (Nat.sub_le_sub_right hF 1)) (ml_sub wm_168 (Nat.le_trans (by decide : 0 ≤ 70 - 21) (Nat.sub_le_sub_right hLo 21))) (wp_bind h) (fun v10 h => rs_back1 ?_))
        refine rs_icge (tg := 117) wi_205_40 ⟨by decide, by decide⟩ (fun q => ?_) (fun q => ?_)
        ·
          have h := wp_pos h q
          exact h _ l0 l1 l2
        ·
          have h := wp_neg h q
          refine rs_aldn wi_205_43 l0 ?_
          refine dq_gr wi_205_44 wf_205_15 tf_150_4 ?_
          refine rs_ildn wi_205_47 l3 ?_
          obtain ⟨g11, h⟩ := wp_gd h
          refine dq_lald wi_205_48 t_151 g11 ?_
          refine rs_ldcl wi_205_49 wk_205_82 ?_
          refine rs_pure wi_205_52 rfl ?_
          refine rs_ifeq (tg := 117) wi_205_53 ⟨by decide, by decide⟩ (fun q => ?_) (fun q => ?_)
          ·
            have h := wp_pos h q
            exact h _ l0 l1 l2
          ·
            have h := wp_neg h q
            refine rs_aldn wi_205_56 l0 ?_
            refine rs_ildn wi_205_57 l1 ?_
            refine rs_ildn wi_205_58 l3 ?_
            refine rs_ild wi_205_59 l4 ?_
            refine rs_aldn wi_205_61 l0 ?_
            refine dq_gr wi_205_62 wf_205_15 tf_150_4 ?_
            refine rs_ildn wi_205_65 l3 ?_
            obtain ⟨g12, h⟩ := wp_gd h
            refine dq_lald wi_205_66 t_151 g12 ?_
            refine rs_V wi_205_67 wc_205_186 rfl (dq_isa tf_150_0 wa_5_206) (Nat.le_trans (by decide) hF) (ml_le wm_206 (Nat.le_trans (by decide) hLo)) rfl (sp_206 hw (Nat.le_trans (by decide : 2 ≤ 3 - 1) (Nat.sub_le_sub_right hF 1)) (ml_sub wm_206 (Nat.le_trans (by decide : 44 ≤ 70 - 26) (Nat.sub_le_sub_right hLo 26))) (wp_bind h) (fun v13 h => rs_back1 ?_))
            refine wp_jn (B := fun p14 : cS => ∀ lv, rx_ld lv 0 = some (.ref 150) → rx_ld lv 1 = some (.int a1) → rx_ld lv 2 = some (.int s2.1) → rx_ld lv 3 = some (.int v6) → rx_ld lv 4 = some (.int s9.1) → rs (rt_P sc fm) 205 F Lo 111 lv [] (hq true p14 y w) Q) h (fun p14 h lv l0 l1 l2 l3 l4 => ?_) (fun j111 hj111 h => ?_)
            ·
              obtain ⟨v16, e17, h⟩ := wp_lt h
              refine dl_inc wi_205_111 l4 rfl e17 (fun lv l4 t15 => ?_)
              have l0 := t15 _ _ (by decide) (Or.inl rfl) l0
              have l1 := t15 _ _ (by decide) (Or.inl rfl) l1
              have l2 := t15 _ _ (by decide) (Or.inl rfl) l2
              have l3 := t15 _ _ (by decide) (Or.inl rfl) l3
              refine rs_goto (tg := 30) wi_205_114 ⟨by decide, by decide⟩ ?_
              exact h _ l0 l1 l2 l3 l4
            refine rs_ifeq (tg := 111) wi_205_70 ⟨by decide, by decide⟩ (fun q => ?_) (fun q => ?_)
            ·
              have h := wp_pos h q
              exact hj111 _ h _ l0 l1 l2 l3 l4
            ·
              have h := wp_neg h q
              refine rs_aldn wi_205_73 l0 ?_
              refine dq_gi wi_205_74 wf_205_53 tf_150_6 ?_
              refine rs_pure wi_205_77 rfl ?_
              refine rs_topi (v := 2048) (by decide) ?_
              refine rs_icge (tg := 111) wi_205_80 ⟨by decide, by decide⟩ (fun q => ?_) (fun q => ?_)
              ·
                have h := wp_pos h q
                exact hj111 _ h _ l0 l1 l2 l3 l4
              ·
                have h := wp_neg h q
                refine rs_aldn wi_205_83 l0 ?_
                refine dq_gr wi_205_84 wf_205_19 tf_150_5 ?_
                refine rs_aldn wi_205_87 l0 ?_
                refine rs_pure wi_205_88 rfl ?_
                refine dq_gi wi_205_89 wf_205_53 tf_150_6 ?_
                refine rs_pure wi_205_92 rfl ?_
                refine rs_pure wi_205_93 rfl ?_
                refine rs_topi (v := 1) (by decide) ?_
                refine rs_pure wi_205_94 rfl ?_
                obtain ⟨c18, e19, h⟩ := wp_lt h
                refine dq_pi wi_205_95 wp_205_53 tf_150_6 rfl rfl e19 ?_
                refine rs_ildn wi_205_98 l1 ?_
                refine rs_pure wi_205_99 rfl ?_
                refine rs_topi (v := 160) (by decide) ?_
                refine rs_pure wi_205_102 rfl ?_
                refine rs_ildn wi_205_103 l2 ?_
                refine rs_pure wi_205_104 rfl ?_
                refine rs_topi (v := 4) (by decide) ?_
                refine rs_pure wi_205_105 rfl ?_
                refine rs_pure wi_205_106 rfl ?_
                refine rs_ild wi_205_107 l4 ?_
                refine rs_pure wi_205_109 rfl ?_
                obtain ⟨g20, h⟩ := wp_gd h
                obtain ⟨c21, e22, h⟩ := wp_lt h
                refine dq_iast wi_205_110 t_152 g20 e22 ?_
                exact hj111 _ h _ l0 l1 l2 l3 l4
      ·
        intro x23 h lv l0 l1 l2
        obtain ⟨v25, e26, h⟩ := wp_lt h
        refine dl_inc wi_205_117 l2 rfl e26 (fun lv l2 t24 => ?_)
        have l0 := t24 _ _ (by decide) (Or.inl rfl) l0
        have l1 := t24 _ _ (by decide) (Or.inl rfl) l1
        refine rs_goto (tg := 2) wi_205_120 ⟨by decide, by decide⟩ ?_
        exact h _ l0 l1 l2
  ·
    intro x27 h lv
    exact rs_vret wi_205_123 wr_205 (hQ x27 h)
theorem wa_5_197 : rz_cn 5 (rx_yn (rt_P sc fm) 197).cls = true := (by decide +kernel : rz_cn 5 (rt_yn 197).cls = true)
theorem wa_5_205 : rz_cn 5 (rx_yn (rt_P sc fm) 205).cls = true := (by decide +kernel : rz_cn 5 (rt_yn 205).cls = true)
theorem wc_196_59 : rx_ct (rt_P sc fm) 196 59 = some (0, 158, 0) := (by decide +kernel : rt_ct 196 59 = some (0, 158, 0))
theorem wc_196_65 : rx_ct (rt_P sc fm) 196 65 = some (0, 157, 1) := (by decide +kernel : rt_ct 196 65 = some (0, 157, 1))
theorem wc_196_69 : rx_ct (rt_P sc fm) 196 69 = some (0, 197, 1) := (by decide +kernel : rt_ct 196 69 = some (0, 197, 1))
theorem wc_196_73 : rx_ct (rt_P sc fm) 196 73 = some (0, 205, 1) := (by decide +kernel : rt_ct 196 73 = some (0, 205, 1))
theorem wf_196_45 : rx_ft (rt_P sc fm) 196 45 = some (5, 1) := (by decide +kernel : rt_ft 196 45 = some (5, 1))
theorem wi_196_0 : ri (rt_P sc fm) 196 0 (.aload_n 0) (1) := ri_of (by decide +kernel) rfl
theorem wi_196_1 : ri (rt_P sc fm) 196 1 (.iload_n 1) (2) := ri_of (by decide +kernel) rfl
theorem wi_196_10 : ri (rt_P sc fm) 196 10 (.iconst 0) (11) := ri_of (by decide +kernel) rfl
theorem wi_196_11 : ri (rt_P sc fm) 196 11 (.istore_n 2) (12) := ri_of (by decide +kernel) rfl
theorem wi_196_12 : ri (rt_P sc fm) 196 12 (.iload_n 2) (13) := ri_of (by decide +kernel) rfl
theorem wi_196_13 : ri (rt_P sc fm) 196 13 (.aload_n 0) (14) := ri_of (by decide +kernel) rfl
theorem wi_196_14 : ri (rt_P sc fm) 196 14 (.getfield 45) (17) := ri_of (by decide +kernel) rfl
theorem wi_196_17 : ri (rt_P sc fm) 196 17 (.invokevirtual 59) (20) := ri_of (by decide +kernel) rfl
theorem wi_196_2 : ri (rt_P sc fm) 196 2 (.putfield 9) (5) := ri_of (by decide +kernel) rfl
theorem wi_196_20 : ri (rt_P sc fm) 196 20 (.if_icmp .ge 30) (23) := ri_of (by decide +kernel) rfl
theorem wi_196_23 : ri (rt_P sc fm) 196 23 (.aload_n 0) (24) := ri_of (by decide +kernel) rfl
theorem wi_196_24 : ri (rt_P sc fm) 196 24 (.getfield 45) (27) := ri_of (by decide +kernel) rfl
theorem wi_196_27 : ri (rt_P sc fm) 196 27 (.iload_n 2) (28) := ri_of (by decide +kernel) rfl
theorem wi_196_28 : ri (rt_P sc fm) 196 28 (.invokevirtual 65) (31) := ri_of (by decide +kernel) rfl
theorem wi_196_31 : ri (rt_P sc fm) 196 31 (.ifCond .eq 13) (34) := ri_of (by decide +kernel) rfl
theorem wi_196_34 : ri (rt_P sc fm) 196 34 (.aload_n 0) (35) := ri_of (by decide +kernel) rfl
theorem wi_196_35 : ri (rt_P sc fm) 196 35 (.iload_n 2) (36) := ri_of (by decide +kernel) rfl
theorem wi_196_36 : ri (rt_P sc fm) 196 36 (.invokevirtual 69) (39) := ri_of (by decide +kernel) rfl
theorem wi_196_39 : ri (rt_P sc fm) 196 39 (.aload_n 0) (40) := ri_of (by decide +kernel) rfl
theorem wi_196_40 : ri (rt_P sc fm) 196 40 (.iload_n 2) (41) := ri_of (by decide +kernel) rfl
theorem wi_196_41 : ri (rt_P sc fm) 196 41 (.invokevirtual 73) (44) := ri_of (by decide +kernel) rfl
theorem wi_196_44 : ri (rt_P sc fm) 196 44 (.iinc 2 1) (47) := ri_of (by decide +kernel) rfl
theorem wi_196_47 : ri (rt_P sc fm) 196 47 (.goto (-35)) (50) := ri_of (by decide +kernel) rfl
theorem wi_196_5 : ri (rt_P sc fm) 196 5 (.aload_n 0) (6) := ri_of (by decide +kernel) rfl
theorem wi_196_50 : ri (rt_P sc fm) 196 50 (.return_) (51) := ri_of (by decide +kernel) rfl
theorem wi_196_6 : ri (rt_P sc fm) 196 6 (.iconst 0) (7) := ri_of (by decide +kernel) rfl
theorem wi_196_7 : ri (rt_P sc fm) 196 7 (.putfield 53) (10) := ri_of (by decide +kernel) rfl
theorem wm_197 : rx_ml (rt_P sc fm) 197 = 7 := (by decide +kernel : rt_ml 197 = 7)
theorem wm_205 : rx_ml (rt_P sc fm) 205 = 5 := (by decide +kernel : rt_ml 205 = 5)
theorem wp_196_53 : rx_pt (rt_P sc fm) 196 53 = some (5, 6, .int) := (by decide +kernel : rt_pt 196 53 = some (5, 6, .int))
theorem wp_196_9 : rx_pt (rt_P sc fm) 196 9 = some (5, 3, .int) := (by decide +kernel : rt_pt 196 9 = some (5, 3, .int))
theorem wr_196 : rx_rt (rt_P sc fm) 196 = none := (by decide +kernel : rt_rt 196 = none)
/-- MarkHouse$Flow.follow(I)V -/
def d_196 (n : Nat) (a1 : Int32) (c : cS) : Option (cS) :=
  lt (pI c 150 3 a1) (fun c1 =>
  lt (pI c1 150 6 0) (fun c3 =>
  Option.bind (whl (R := (cS)) (fun s6 : Int32 × cS =>
    Option.bind (d_158 n s6.2) (fun v7 =>
    if v7 ≤ s6.1 then
      some (.inr s6.2)
    else
      Option.bind (d_157 n s6.1 s6.2) (fun v8 =>
      jn (fun p9 : cS =>
        lt (s6.1 + 1 : Int32) (fun v11 =>
        some (.inl (v11, p9))))
      (fun j44 =>
      if v8 = 0 then
        j44 s6.2
      else
        Option.bind (d_197 n s6.1 s6.2) (fun r13 =>
        Option.bind (d_205 n s6.1 r13) (fun r14 =>
        j44 r14)))))) n (0, c3))
  (fun x15 : cS =>
    some x15)))
theorem sp_196 {F Lo n : Nat} {a1 : Int32} {c y : cS} {w : cW} {K : cS → Prop} {Q : ((Option Value) ⊕ String) → List va_E → Prop} (hw : rOK fm w) (hF : 5 ≤ F) (hLo : 132 ≤ Lo)  (h : wp (d_196 n a1 c) K) (hQ : ∀ r, K r → Q (.inl none) (hq true r y w)) : rs (rt_P sc fm) 196 F Lo 0 [(0, .ref 150), (1, .int a1)] [] (hq true c y w) Q := by
  unfold d_196 at h
  obtain ⟨lv, elv⟩ : ∃ lv : rx_L, lv = [(0, .ref 150), (1, .int a1)] := ⟨_, rfl⟩
  rw [← elv]
  have l0 : rx_ld lv 0 = some (.ref 150) := by rw [elv]; rfl
  have l1 : rx_ld lv 1 = some (.int a1) := by rw [elv]; rfl
  refine rs_aldn wi_196_0 l0 ?_
  refine rs_ildn wi_196_1 l1 ?_
  obtain ⟨c1, e2, h⟩ := wp_lt h
  refine dq_pi wi_196_2 wp_196_9 tf_150_3 rfl rfl e2 ?_
  refine rs_aldn wi_196_5 l0 ?_
  refine rs_pure wi_196_6 rfl ?_
  refine rs_topi (v := 0) (by decide) ?_
  obtain ⟨c3, e4, h⟩ := wp_lt h
  refine dq_pi wi_196_7 wp_196_53 tf_150_6 rfl rfl e4 ?_
  refine rs_pure wi_196_10 rfl ?_
  refine rs_topi (v := 0) (by decide) ?_
  refine dl_istn wi_196_11 rfl (fun lv l2 t5 => ?_)
  have l0 := t5 _ _ (by decide) (Or.inl rfl) l0
  refine whl_ex (A := fun s6 : Int32 × cS => ∀ lv, rx_ld lv 0 = some (.ref 150) → rx_ld lv 2 = some (.int s6.1) → rs (rt_P sc fm) 196 F Lo 12 lv [] (hq true s6.2 y w) Q) (B := (fun x15 : cS => ∀ lv, rs (rt_P sc fm) 196 F Lo 50 lv [] (hq true x15 y w) Q)) ?_ ?_ _ _ (wp_bind h) _ l0 l2
  · intro s6 h lv l0 l2
    refine rs_ildn wi_196_12 l2 ?_
    refine rs_aldn wi_196_13 l0 ?_
    refine dq_gr wi_196_14 wf_196_45 tf_150_1 ?_
    refine rs_V wi_196_17 wc_196_59 rfl (dq_isa tf_114_0 wa_2_158) (Nat.le_trans (by decide) hF) (ml_le wm_158 (Nat.le_trans (by decide) hLo)) rfl (sp_158 hw (Nat.le_trans (by decide : 0 ≤ 5 - 1) (Nat.sub_le_sub_right hF 1)) (ml_sub wm_158 (Nat.le_trans (by decide : 0 ≤ 132 - 20) (Nat.sub_le_sub_right hLo 20))) (wp_bind h) (fun v7 h => rs_back1 ?_))
    refine rs_icge (tg := 50) wi_196_20 ⟨by decide, by decide⟩ (fun q => ?_) (fun q => ?_)
    ·
      have h := wp_pos h q
      exact h _
    ·
      have h := wp_neg h q
      refine rs_aldn wi_196_23 l0 ?_
      refine dq_gr wi_196_24 wf_196_45 tf_150_1 ?_
      refine rs_ildn wi_196_27 l2 ?_
      refine rs_V wi_196_28 wc_196_65 rfl (dq_isa tf_114_0 wa_2_157) (Nat.le_trans (by decide) hF) (ml_le wm_157 (Nat.le_trans (by decide) hLo)) rfl (sp_157 hw (Nat.le_trans (by decide : 0 ≤ 5 - 1) (Nat.sub_le_sub_right hF 1)) (ml_sub wm_157 (Nat.le_trans (by decide : 0 ≤ 132 - 21) (Nat.sub_le_sub_right hLo 21))) (wp_bind h) (fun v8 h => rs_back1 ?_))
      refine wp_jn (B := fun p9 : cS => ∀ lv, rx_ld lv 0 = some (.ref 150) → rx_ld lv 2 = some (.int s6.1) → rs (rt_P sc fm) 196 F Lo 44 lv [] (hq true p9 y w) Q) h (fun p9 h lv l0 l2 => ?_) (fun j44 hj44 h => ?_)
      ·
        obtain ⟨v11, e12, h⟩ := wp_lt h
        refine dl_inc wi_196_44 l2 rfl e12 (fun lv l2 t10 => ?_)
        have l0 := t10 _ _ (by decide) (Or.inl rfl) l0
        refine rs_goto (tg := 12) wi_196_47 ⟨by decide, by decide⟩ ?_
        exact h _ l0 l2
      refine rs_ifeq (tg := 44) wi_196_31 ⟨by decide, by decide⟩ (fun q => ?_) (fun q => ?_)
      ·
        have h := wp_pos h q
        exact hj44 _ h _ l0 l2
      ·
        have h := wp_neg h q
        refine rs_aldn wi_196_34 l0 ?_
        refine rs_ildn wi_196_35 l2 ?_
        refine rs_V wi_196_36 wc_196_69 rfl (dq_isa tf_150_0 wa_5_197) (Nat.le_trans (by decide) hF) (ml_le wm_197 (Nat.le_trans (by decide) hLo)) rfl (sp_197 hw (Nat.le_trans (by decide : 4 ≤ 5 - 1) (Nat.sub_le_sub_right hF 1)) (ml_sub wm_197 (Nat.le_trans (by decide : 106 ≤ 132 - 26) (Nat.sub_le_sub_right hLo 26))) (wp_bind h) (fun r13 h => rs_back0 ?_))
        refine rs_aldn wi_196_39 l0 ?_
        refine rs_ildn wi_196_40 l2 ?_
        refine rs_V wi_196_41 wc_196_73 rfl (dq_isa tf_150_0 wa_5_205) (Nat.le_trans (by decide) hF) (ml_le wm_205 (Nat.le_trans (by decide) hLo)) rfl (sp_205 hw (Nat.le_trans (by decide : 3 ≤ 5 - 1) (Nat.sub_le_sub_right hF 1)) (ml_sub wm_205 (Nat.le_trans (by decide : 70 ≤ 132 - 24) (Nat.sub_le_sub_right hLo 24))) (wp_bind h) (fun r14 h => rs_back0 ?_))
        exact hj44 _ h _ l0 l2
  ·
    intro x15 h lv
    exact rs_vret wi_196_50 wr_196 (hQ x15 h)
theorem wa_5_196 : rz_cn 5 (rx_yn (rt_P sc fm) 196).cls = true := (by decide +kernel : rz_cn 5 (rt_yn 196).cls = true)
theorem wc_73_170 : rx_ct (rt_P sc fm) 73 170 = some (0, 37, 1) := (by decide +kernel : rt_ct 73 170 = some (0, 37, 1))
theorem wc_73_269 : rx_ct (rt_P sc fm) 73 269 = some (0, 188, 0) := (by decide +kernel : rt_ct 73 269 = some (0, 188, 0))
theorem wc_73_278 : rx_ct (rt_P sc fm) 73 278 = some (0, 196, 1) := (by decide +kernel : rt_ct 73 278 = some (0, 196, 1))
theorem wf_73_19 : rx_ft (rt_P sc fm) 73 19 = some (14, 1) := (by decide +kernel : rt_ft 73 19 = some (14, 1))
theorem wf_73_284 : rx_ft (rt_P sc fm) 73 284 = some (5, 6) := (by decide +kernel : rt_ft 73 284 = some (5, 6))
theorem wf_73_53 : rx_ft (rt_P sc fm) 73 53 = some (14, 5) := (by decide +kernel : rt_ft 73 53 = some (14, 5))
theorem wf_73_62 : rx_ft (rt_P sc fm) 73 62 = some (14, 6) := (by decide +kernel : rt_ft 73 62 = some (14, 6))
theorem wi_73_0 : ri (rt_P sc fm) 73 0 (.aload_n 0) (1) := ri_of (by decide +kernel) rfl
theorem wi_73_1 : ri (rt_P sc fm) 73 1 (.getfield 19) (4) := ri_of (by decide +kernel) rfl
theorem wi_73_11 : ri (rt_P sc fm) 73 11 (.iconst (-1)) (12) := ri_of (by decide +kernel) rfl
theorem wi_73_12 : ri (rt_P sc fm) 73 12 (.ireturn) (13) := ri_of (by decide +kernel) rfl
theorem wi_73_13 : ri (rt_P sc fm) 73 13 (.aload_n 0) (14) := ri_of (by decide +kernel) rfl
theorem wi_73_14 : ri (rt_P sc fm) 73 14 (.getfield 53) (17) := ri_of (by decide +kernel) rfl
theorem wi_73_17 : ri (rt_P sc fm) 73 17 (.invokevirtual 269) (20) := ri_of (by decide +kernel) rfl
theorem wi_73_20 : ri (rt_P sc fm) 73 20 (.aload_n 0) (21) := ri_of (by decide +kernel) rfl
theorem wi_73_21 : ri (rt_P sc fm) 73 21 (.getfield 62) (24) := ri_of (by decide +kernel) rfl
theorem wi_73_24 : ri (rt_P sc fm) 73 24 (.iload_n 1) (25) := ri_of (by decide +kernel) rfl
theorem wi_73_25 : ri (rt_P sc fm) 73 25 (.invokevirtual 278) (28) := ri_of (by decide +kernel) rfl
theorem wi_73_28 : ri (rt_P sc fm) 73 28 (.aload_n 0) (29) := ri_of (by decide +kernel) rfl
theorem wi_73_29 : ri (rt_P sc fm) 73 29 (.getfield 62) (32) := ri_of (by decide +kernel) rfl
theorem wi_73_32 : ri (rt_P sc fm) 73 32 (.iconst 0) (33) := ri_of (by decide +kernel) rfl
theorem wi_73_33 : ri (rt_P sc fm) 73 33 (.putfield 281) (36) := ri_of (by decide +kernel) rfl
theorem wi_73_36 : ri (rt_P sc fm) 73 36 (.aload_n 0) (37) := ri_of (by decide +kernel) rfl
theorem wi_73_37 : ri (rt_P sc fm) 73 37 (.getfield 62) (40) := ri_of (by decide +kernel) rfl
theorem wi_73_4 : ri (rt_P sc fm) 73 4 (.iload_n 1) (5) := ri_of (by decide +kernel) rfl
theorem wi_73_40 : ri (rt_P sc fm) 73 40 (.getfield 284) (43) := ri_of (by decide +kernel) rfl
theorem wi_73_43 : ri (rt_P sc fm) 73 43 (.ireturn) (44) := ri_of (by decide +kernel) rfl
theorem wi_73_5 : ri (rt_P sc fm) 73 5 (.invokevirtual 170) (8) := ri_of (by decide +kernel) rfl
theorem wi_73_8 : ri (rt_P sc fm) 73 8 (.ifCond .ne 5) (11) := ri_of (by decide +kernel) rfl
theorem wm_196 : rx_ml (rt_P sc fm) 196 = 3 := (by decide +kernel : rt_ml 196 = 3)
theorem wp_73_281 : rx_pt (rt_P sc fm) 73 281 = some (5, 16, .int) := (by decide +kernel : rt_pt 73 281 = some (5, 16, .int))
theorem wr_73 : rx_rt (rt_P sc fm) 73 = (some FieldType.int) := (by decide +kernel : rt_rt 73 = (some FieldType.int))
/-- MarkHouse.flow(I)I -/
def d_73 (n : Nat) (a1 : Int32) (c : cS) : Option (Int32 × cS) :=
  Option.bind (d_37 n a1 c) (fun v1 =>
  if v1 = 0 then
    some ((-1), c)
  else
    Option.bind (d_188 n c) (fun r2 =>
    Option.bind (d_196 n a1 r2) (fun r3 =>
    lt (pI r3 150 16 0) (fun c4 =>
    some ((c4.1 150 6), c4)))))
theorem sp_73 {F Lo n : Nat} {a1 : Int32} {c y : cS} {w : cW} {K : Int32 × cS → Prop} {Q : ((Option Value) ⊕ String) → List va_E → Prop} (hw : rOK fm w) (hF : 8 ≤ F) (hLo : 177 ≤ Lo)  (h : wp (d_73 n a1 c) K) (hQ : ∀ r, K r → Q (.inl (some (.int r.1))) (hq true r.2 y w)) : rs (rt_P sc fm) 73 F Lo 0 [(0, .ref 0), (1, .int a1)] [] (hq true c y w) Q := by
  unfold d_73 at h
  obtain ⟨lv, elv⟩ : ∃ lv : rx_L, lv = [(0, .ref 0), (1, .int a1)] := ⟨_, rfl⟩
  rw [← elv]
  have l0 : rx_ld lv 0 = some (.ref 0) := by rw [elv]; rfl
  have l1 : rx_ld lv 1 = some (.int a1) := by rw [elv]; rfl
  refine rs_aldn wi_73_0 l0 ?_
  refine dq_gr wi_73_1 wf_73_19 tf_0_1 ?_
  refine rs_ildn wi_73_4 l1 ?_
  refine rs_V wi_73_5 wc_73_170 rfl (dq_isa tf_7_0 wa_9_37) (Nat.le_trans (by decide) hF) (ml_le wm_37 (Nat.le_trans (by decide) hLo)) rfl (sp_37 hw (Nat.le_trans (by decide : 0 ≤ 8 - 1) (Nat.sub_le_sub_right hF 1)) (ml_sub wm_37 (Nat.le_trans (by decide : 0 ≤ 177 - 21) (Nat.sub_le_sub_right hLo 21))) (wp_bind h) (fun v1 h => rs_back1 ?_))
  refine rs_ifne (tg := 13) wi_73_8 ⟨by decide, by decide⟩ (fun q => ?_) (fun q => ?_)
  ·
    have h := wp_neg h q
    refine rs_aldn wi_73_13 l0 ?_
    refine dq_gr wi_73_14 wf_73_53 tf_0_5 ?_
    refine rs_V wi_73_17 wc_73_269 rfl (dq_isa tf_146_0 wa_4_188) (Nat.le_trans (by decide) hF) (ml_le wm_188 (Nat.le_trans (by decide) hLo)) rfl (sp_188 hw (Nat.le_trans (by decide : 7 ≤ 8 - 1) (Nat.sub_le_sub_right hF 1)) (ml_sub wm_188 (Nat.le_trans (by decide : 155 ≤ 177 - 22) (Nat.sub_le_sub_right hLo 22))) (wp_bind h) (fun r2 h => rs_back0 ?_))
    refine rs_aldn wi_73_20 l0 ?_
    refine dq_gr wi_73_21 wf_73_62 tf_0_6 ?_
    refine rs_ildn wi_73_24 l1 ?_
    refine rs_V wi_73_25 wc_73_278 rfl (dq_isa tf_150_0 wa_5_196) (Nat.le_trans (by decide) hF) (ml_le wm_196 (Nat.le_trans (by decide) hLo)) rfl (sp_196 hw (Nat.le_trans (by decide : 5 ≤ 8 - 1) (Nat.sub_le_sub_right hF 1)) (ml_sub wm_196 (Nat.le_trans (by decide : 132 ≤ 177 - 22) (Nat.sub_le_sub_right hLo 22))) (wp_bind h) (fun r3 h => rs_back0 ?_))
    refine rs_aldn wi_73_28 l0 ?_
    refine dq_gr wi_73_29 wf_73_62 tf_0_6 ?_
    refine rs_pure wi_73_32 rfl ?_
    refine rs_topi (v := 0) (by decide) ?_
    obtain ⟨c4, e5, h⟩ := wp_lt h
    refine dq_pi wi_73_33 wp_73_281 tf_150_16 rfl rfl e5 ?_
    refine rs_aldn wi_73_36 l0 ?_
    refine dq_gr wi_73_37 wf_73_62 tf_0_6 ?_
    refine dq_gi wi_73_40 wf_73_284 tf_150_6 ?_
    exact rs_iret wi_73_43 wr_73 rfl (hQ ((c4.1 150 6), c4) h)
  ·
    have h := wp_pos h q
    refine rs_pure wi_73_11 rfl ?_
    refine rs_topi (v := (-1)) (by decide) ?_
    exact rs_iret wi_73_12 wr_73 rfl (hQ ((-1), c) h)
theorem wc_207_122 : rx_ct (rt_P sc fm) 207 122 = some (0, 156, 1) := (by decide +kernel : rt_ct 207 122 = some (0, 156, 1))
theorem wc_207_126 : rx_ct (rt_P sc fm) 207 126 = some (0, 190, 2) := (by decide +kernel : rt_ct 207 126 = some (0, 190, 2))
theorem wc_207_157 : rx_ct (rt_P sc fm) 207 157 = some (11, 355, 2) := (by decide +kernel : rt_ct 207 157 = some (11, 355, 2))
theorem wc_207_190 : rx_ct (rt_P sc fm) 207 190 = some (0, 169, 3) := (by decide +kernel : rt_ct 207 190 = some (0, 169, 3))
theorem wc_207_194 : rx_ct (rt_P sc fm) 207 194 = some (0, 170, 2) := (by decide +kernel : rt_ct 207 194 = some (0, 170, 2))
theorem wf_207_15 : rx_ft (rt_P sc fm) 207 15 = some (5, 4) := (by decide +kernel : rt_ft 207 15 = some (5, 4))
theorem wf_207_19 : rx_ft (rt_P sc fm) 207 19 = some (5, 5) := (by decide +kernel : rt_ft 207 19 = some (5, 5))
theorem wf_207_45 : rx_ft (rt_P sc fm) 207 45 = some (5, 1) := (by decide +kernel : rt_ft 207 45 = some (5, 1))
theorem wf_207_49 : rx_ft (rt_P sc fm) 207 49 = some (5, 2) := (by decide +kernel : rt_ft 207 49 = some (5, 2))
theorem wf_207_76 : rx_ft (rt_P sc fm) 207 76 = some (2, 5) := (by decide +kernel : rt_ft 207 76 = some (2, 5))
theorem wf_207_9 : rx_ft (rt_P sc fm) 207 9 = some (5, 3) := (by decide +kernel : rt_ft 207 9 = some (5, 3))
theorem wi_207_0 : ri (rt_P sc fm) 207 0 (.aload_n 0) (1) := ri_of (by decide +kernel) rfl
theorem wi_207_1 : ri (rt_P sc fm) 207 1 (.getfield 19) (4) := ri_of (by decide +kernel) rfl
theorem wi_207_10 : ri (rt_P sc fm) 207 10 (.istore_n 3) (11) := ri_of (by decide +kernel) rfl
theorem wi_207_100 : ri (rt_P sc fm) 207 100 (.getfield 15) (103) := ri_of (by decide +kernel) rfl
theorem wi_207_103 : ri (rt_P sc fm) 207 103 (.iload 6) (105) := ri_of (by decide +kernel) rfl
theorem wi_207_105 : ri (rt_P sc fm) 207 105 (.laload) (106) := ri_of (by decide +kernel) rfl
theorem wi_207_106 : ri (rt_P sc fm) 207 106 (.aload_n 0) (107) := ri_of (by decide +kernel) rfl
theorem wi_207_107 : ri (rt_P sc fm) 207 107 (.getfield 45) (110) := ri_of (by decide +kernel) rfl
theorem wi_207_11 : ri (rt_P sc fm) 207 11 (.aload_n 0) (12) := ri_of (by decide +kernel) rfl
theorem wi_207_110 : ri (rt_P sc fm) 207 110 (.iload 6) (112) := ri_of (by decide +kernel) rfl
theorem wi_207_112 : ri (rt_P sc fm) 207 112 (.iload 5) (114) := ri_of (by decide +kernel) rfl
theorem wi_207_114 : ri (rt_P sc fm) 207 114 (.invokevirtual 194) (117) := ri_of (by decide +kernel) rfl
theorem wi_207_117 : ri (rt_P sc fm) 207 117 (.invokestatic 157) (120) := ri_of (by decide +kernel) rfl
theorem wi_207_12 : ri (rt_P sc fm) 207 12 (.getfield 19) (15) := ri_of (by decide +kernel) rfl
theorem wi_207_120 : ri (rt_P sc fm) 207 120 (.ireturn) (121) := ri_of (by decide +kernel) rfl
theorem wi_207_121 : ri (rt_P sc fm) 207 121 (.aload_n 0) (122) := ri_of (by decide +kernel) rfl
theorem wi_207_122 : ri (rt_P sc fm) 207 122 (.getfield 49) (125) := ri_of (by decide +kernel) rfl
theorem wi_207_125 : ri (rt_P sc fm) 207 125 (.aload_n 0) (126) := ri_of (by decide +kernel) rfl
theorem wi_207_126 : ri (rt_P sc fm) 207 126 (.getfield 45) (129) := ri_of (by decide +kernel) rfl
theorem wi_207_129 : ri (rt_P sc fm) 207 129 (.iload_n 3) (130) := ri_of (by decide +kernel) rfl
theorem wi_207_130 : ri (rt_P sc fm) 207 130 (.iload 6) (132) := ri_of (by decide +kernel) rfl
theorem wi_207_132 : ri (rt_P sc fm) 207 132 (.iload 5) (134) := ri_of (by decide +kernel) rfl
theorem wi_207_134 : ri (rt_P sc fm) 207 134 (.invokevirtual 190) (137) := ri_of (by decide +kernel) rfl
theorem wi_207_137 : ri (rt_P sc fm) 207 137 (.aload_n 0) (138) := ri_of (by decide +kernel) rfl
theorem wi_207_138 : ri (rt_P sc fm) 207 138 (.getfield 9) (141) := ri_of (by decide +kernel) rfl
theorem wi_207_141 : ri (rt_P sc fm) 207 141 (.invokevirtual 126) (144) := ri_of (by decide +kernel) rfl
theorem wi_207_144 : ri (rt_P sc fm) 207 144 (.ireturn) (145) := ri_of (by decide +kernel) rfl
theorem wi_207_145 : ri (rt_P sc fm) 207 145 (.iconst (-1)) (146) := ri_of (by decide +kernel) rfl
theorem wi_207_146 : ri (rt_P sc fm) 207 146 (.ireturn) (147) := ri_of (by decide +kernel) rfl
theorem wi_207_15 : ri (rt_P sc fm) 207 15 (.iload_n 1) (16) := ri_of (by decide +kernel) rfl
theorem wi_207_16 : ri (rt_P sc fm) 207 16 (.iaload) (17) := ri_of (by decide +kernel) rfl
theorem wi_207_17 : ri (rt_P sc fm) 207 17 (.sipush 160) (20) := ri_of (by decide +kernel) rfl
theorem wi_207_20 : ri (rt_P sc fm) 207 20 (.irem) (21) := ri_of (by decide +kernel) rfl
theorem wi_207_21 : ri (rt_P sc fm) 207 21 (.iconst 4) (22) := ri_of (by decide +kernel) rfl
theorem wi_207_22 : ri (rt_P sc fm) 207 22 (.idiv) (23) := ri_of (by decide +kernel) rfl
theorem wi_207_23 : ri (rt_P sc fm) 207 23 (.istore 4) (25) := ri_of (by decide +kernel) rfl
theorem wi_207_25 : ri (rt_P sc fm) 207 25 (.aload_n 0) (26) := ri_of (by decide +kernel) rfl
theorem wi_207_26 : ri (rt_P sc fm) 207 26 (.getfield 19) (29) := ri_of (by decide +kernel) rfl
theorem wi_207_29 : ri (rt_P sc fm) 207 29 (.iload_n 1) (30) := ri_of (by decide +kernel) rfl
theorem wi_207_30 : ri (rt_P sc fm) 207 30 (.iaload) (31) := ri_of (by decide +kernel) rfl
theorem wi_207_31 : ri (rt_P sc fm) 207 31 (.iconst 4) (32) := ri_of (by decide +kernel) rfl
theorem wi_207_32 : ri (rt_P sc fm) 207 32 (.irem) (33) := ri_of (by decide +kernel) rfl
theorem wi_207_33 : ri (rt_P sc fm) 207 33 (.istore 5) (35) := ri_of (by decide +kernel) rfl
theorem wi_207_35 : ri (rt_P sc fm) 207 35 (.aload_n 0) (36) := ri_of (by decide +kernel) rfl
theorem wi_207_36 : ri (rt_P sc fm) 207 36 (.getfield 45) (39) := ri_of (by decide +kernel) rfl
theorem wi_207_39 : ri (rt_P sc fm) 207 39 (.getfield 76) (42) := ri_of (by decide +kernel) rfl
theorem wi_207_4 : ri (rt_P sc fm) 207 4 (.iload_n 1) (5) := ri_of (by decide +kernel) rfl
theorem wi_207_42 : ri (rt_P sc fm) 207 42 (.iload_n 3) (43) := ri_of (by decide +kernel) rfl
theorem wi_207_43 : ri (rt_P sc fm) 207 43 (.iaload) (44) := ri_of (by decide +kernel) rfl
theorem wi_207_44 : ri (rt_P sc fm) 207 44 (.iload 4) (46) := ri_of (by decide +kernel) rfl
theorem wi_207_46 : ri (rt_P sc fm) 207 46 (.iadd) (47) := ri_of (by decide +kernel) rfl
theorem wi_207_47 : ri (rt_P sc fm) 207 47 (.istore 6) (49) := ri_of (by decide +kernel) rfl
theorem wi_207_49 : ri (rt_P sc fm) 207 49 (.iload_n 2) (50) := ri_of (by decide +kernel) rfl
theorem wi_207_5 : ri (rt_P sc fm) 207 5 (.iaload) (6) := ri_of (by decide +kernel) rfl
theorem wi_207_50 : ri (rt_P sc fm) 207 50 (.tableswitch 95 0 4 #[34, 43, 46, 49, 71]) (50 + rx_len (.tableswitch 95 0 4 #[34, 43, 46, 49, 71])) := ri_of (by decide +kernel) rfl
theorem wi_207_6 : ri (rt_P sc fm) 207 6 (.sipush 160) (9) := ri_of (by decide +kernel) rfl
theorem wi_207_84 : ri (rt_P sc fm) 207 84 (.aload_n 0) (85) := ri_of (by decide +kernel) rfl
theorem wi_207_85 : ri (rt_P sc fm) 207 85 (.getfield 45) (88) := ri_of (by decide +kernel) rfl
theorem wi_207_88 : ri (rt_P sc fm) 207 88 (.iload_n 3) (89) := ri_of (by decide +kernel) rfl
theorem wi_207_89 : ri (rt_P sc fm) 207 89 (.invokevirtual 122) (92) := ri_of (by decide +kernel) rfl
theorem wi_207_9 : ri (rt_P sc fm) 207 9 (.idiv) (10) := ri_of (by decide +kernel) rfl
theorem wi_207_92 : ri (rt_P sc fm) 207 92 (.ireturn) (93) := ri_of (by decide +kernel) rfl
theorem wi_207_93 : ri (rt_P sc fm) 207 93 (.iload 4) (95) := ri_of (by decide +kernel) rfl
theorem wi_207_95 : ri (rt_P sc fm) 207 95 (.ireturn) (96) := ri_of (by decide +kernel) rfl
theorem wi_207_96 : ri (rt_P sc fm) 207 96 (.iload 5) (98) := ri_of (by decide +kernel) rfl
theorem wi_207_98 : ri (rt_P sc fm) 207 98 (.ireturn) (99) := ri_of (by decide +kernel) rfl
theorem wi_207_99 : ri (rt_P sc fm) 207 99 (.aload_n 0) (100) := ri_of (by decide +kernel) rfl
theorem wr_207 : rx_rt (rt_P sc fm) 207 = (some FieldType.int) := (by decide +kernel : rt_rt 207 = (some FieldType.int))
/-- MarkHouse$Flow.tellError(II)I -/
def d_207 (n : Nat) (a1 : Int32) (a2 : Int32) (c : cS) : Option (Int32) :=
  if ib a1 2048 then
  lt (((c.1 152 (ix a1)) / 160) : Int32) (fun v3 =>
  if ib a1 2048 then
  lt ((((c.1 152 (ix a1)) - (c.1 152 (ix a1)) / 160 * 160) / 4) : Int32) (fun v7 =>
  if ib a1 2048 then
  lt (((c.1 152 (ix a1)) - (c.1 152 (ix a1)) / 4 * 4) : Int32) (fun v11 =>
  if ib v3 96 then
  lt (((c.1 119 (ix v3)) + v7) : Int32) (fun v15 =>
  if a2 = 0 then
    Option.bind (d_156 n v3) (fun v18 =>
    some v18)
  else
  if a2 = 1 then
    some v7
  else
  if a2 = 2 then
    some v11
  else
  if a2 = 3 then
    if ib v15 1024 then
    Option.bind (d_170 n v15 v11 c) (fun v23 =>
    Option.bind (d_355 n (c.2 151 (ix v15)) v23) (fun v24 =>
    some v24))
    else none
  else
  if a2 = 4 then
    Option.bind (d_169 n v3 v15 v11 c) (fun v26 =>
    Option.bind (d_190 n v26 (c.1 150 3) c) (fun v27 =>
    some v27))
  else
  some (-1))
  else none)
  else none)
  else none)
  else none
theorem sp_207 {F Lo n : Nat} {a1 : Int32} {a2 : Int32} {c y : cS} {w : cW} {K : Int32 → Prop} {Q : ((Option Value) ⊕ String) → List va_E → Prop} (hw : rOK fm w) (hF : 2 ≤ F) (hLo : 44 ≤ Lo)  (h : wp (d_207 n a1 a2 c) K) (hQ : ∀ r, K r → Q (.inl (some (.int r))) (hq true c y w)) : rs (rt_P sc fm) 207 F Lo 0 [(0, .ref 150), (1, .int a1), (2, .int a2)] [] (hq true c y w) Q := by
  unfold d_207 at h
  obtain ⟨lv, elv⟩ : ∃ lv : rx_L, lv = [(0, .ref 150), (1, .int a1), (2, .int a2)] := ⟨_, rfl⟩
  rw [← elv]
  have l0 : rx_ld lv 0 = some (.ref 150) := by rw [elv]; rfl
  have l1 : rx_ld lv 1 = some (.int a1) := by rw [elv]; rfl
  have l2 : rx_ld lv 2 = some (.int a2) := by rw [elv]; rfl
  refine rs_aldn wi_207_0 l0 ?_
  refine dq_gr wi_207_1 wf_207_19 tf_150_5 ?_
  refine rs_ildn wi_207_4 l1 ?_
  obtain ⟨g1, h⟩ := wp_gd h
  refine dq_iald wi_207_5 t_152 g1 ?_
  refine rs_pure wi_207_6 rfl ?_
  refine rs_topi (v := 160) (by decide) ?_
  refine dl_idiv wi_207_9 (by decide) ?_
  obtain ⟨v3, e4, h⟩ := wp_lt h
  refine rs_topi e4 ?_
  refine dl_istn wi_207_10 rfl (fun lv l3 t2 => ?_)
  have l0 := t2 _ _ (by decide) (Or.inl rfl) l0
  have l1 := t2 _ _ (by decide) (Or.inl rfl) l1
  have l2 := t2 _ _ (by decide) (Or.inl rfl) l2
  refine rs_aldn wi_207_11 l0 ?_
  refine dq_gr wi_207_12 wf_207_19 tf_150_5 ?_
  refine rs_ildn wi_207_15 l1 ?_
  obtain ⟨g5, h⟩ := wp_gd h
  refine dq_iald wi_207_16 t_152 g5 ?_
  refine rs_pure wi_207_17 rfl ?_
  refine rs_topi (v := 160) (by decide) ?_
  refine dl_irem wi_207_20 (by decide) ?_
  refine rs_pure wi_207_21 rfl ?_
  refine rs_topi (v := 4) (by decide) ?_
  refine dl_idiv wi_207_22 (by decide) ?_
  obtain ⟨v7, e8, h⟩ := wp_lt h
  refine rs_topi e8 ?_
  refine dl_ist wi_207_23 rfl (fun lv l4 t6 => ?_)
  have l0 := t6 _ _ (by decide) (Or.inl rfl) l0
  have l1 := t6 _ _ (by decide) (Or.inl rfl) l1
  have l2 := t6 _ _ (by decide) (Or.inl rfl) l2
  have l3 := t6 _ _ (by decide) (Or.inl rfl) l3
  refine rs_aldn wi_207_25 l0 ?_
  refine dq_gr wi_207_26 wf_207_19 tf_150_5 ?_
  refine rs_ildn wi_207_29 l1 ?_
  obtain ⟨g9, h⟩ := wp_gd h
  refine dq_iald wi_207_30 t_152 g9 ?_
  refine rs_pure wi_207_31 rfl ?_
  refine rs_topi (v := 4) (by decide) ?_
  refine dl_irem wi_207_32 (by decide) ?_
  obtain ⟨v11, e12, h⟩ := wp_lt h
  refine rs_topi e12 ?_
  refine dl_ist wi_207_33 rfl (fun lv l5 t10 => ?_)
  have l0 := t10 _ _ (by decide) (Or.inl rfl) l0
  have l2 := t10 _ _ (by decide) (Or.inl rfl) l2
  have l3 := t10 _ _ (by decide) (Or.inl rfl) l3
  have l4 := t10 _ _ (by decide) (Or.inl rfl) l4
  refine rs_aldn wi_207_35 l0 ?_
  refine dq_gr wi_207_36 wf_207_45 tf_150_1 ?_
  refine dq_gr wi_207_39 wf_207_76 tf_114_5 ?_
  refine rs_ildn wi_207_42 l3 ?_
  obtain ⟨g13, h⟩ := wp_gd h
  refine dq_iald wi_207_43 t_119 g13 ?_
  refine rs_ild wi_207_44 l4 ?_
  refine rs_pure wi_207_46 rfl ?_
  obtain ⟨v15, e16, h⟩ := wp_lt h
  refine rs_topi e16 ?_
  refine dl_ist wi_207_47 rfl (fun lv l6 t14 => ?_)
  have l0 := t14 _ _ (by decide) (Or.inl rfl) l0
  have l2 := t14 _ _ (by decide) (Or.inl rfl) l2
  have l3 := t14 _ _ (by decide) (Or.inl rfl) l3
  have l4 := t14 _ _ (by decide) (Or.inl rfl) l4
  have l5 := t14 _ _ (by decide) (Or.inl rfl) l5
  refine rs_ildn wi_207_49 l2 ?_
  by_cases q17 : a2 = 0
  ·
    have h := wp_pos h q17
    refine rs_tsk (tg := 84) (off := 34) (v := 0) wi_207_50 q17 (by decide) (by decide) ⟨by decide, by decide⟩ ?_
    refine rs_aldn wi_207_84 l0 ?_
    refine dq_gr wi_207_85 wf_207_45 tf_150_1 ?_
    refine rs_ildn wi_207_88 l3 ?_
    refine rs_V wi_207_89 wc_207_122 rfl (dq_isa tf_114_0 wa_2_156) (Nat.le_trans (by decide) hF) (ml_le wm_156 (Nat.le_trans (by decide) hLo)) rfl (sp_156 (Nat.le_trans (by decide : 0 ≤ 2 - 1) (Nat.sub_le_sub_right hF 1)) (ml_sub wm_156 (Nat.le_trans (by decide : 0 ≤ 44 - 21) (Nat.sub_le_sub_right hLo 21))) (wp_bind h) (fun v18 h => rs_back1 ?_))
    exact rs_iret wi_207_92 wr_207 rfl (hQ v18 h)
  have h := wp_neg h q17
  by_cases q19 : a2 = 1
  ·
    have h := wp_pos h q19
    refine rs_tsk (tg := 93) (off := 43) (v := 1) wi_207_50 q19 (by decide) (by decide) ⟨by decide, by decide⟩ ?_
    refine rs_ild wi_207_93 l4 ?_
    exact rs_iret wi_207_95 wr_207 rfl (hQ v7 h)
  have h := wp_neg h q19
  by_cases q20 : a2 = 2
  ·
    have h := wp_pos h q20
    refine rs_tsk (tg := 96) (off := 46) (v := 2) wi_207_50 q20 (by decide) (by decide) ⟨by decide, by decide⟩ ?_
    refine rs_ild wi_207_96 l5 ?_
    exact rs_iret wi_207_98 wr_207 rfl (hQ v11 h)
  have h := wp_neg h q20
  by_cases q21 : a2 = 3
  ·
    have h := wp_pos h q21
    refine rs_tsk (tg := 99) (off := 49) (v := 3) wi_207_50 q21 (by decide) (by decide) ⟨by decide, by decide⟩ ?_
    refine rs_aldn wi_207_99 l0 ?_
    refine dq_gr wi_207_100 wf_207_15 tf_150_4 ?_
    refine rs_ild wi_207_103 l6 ?_
    obtain ⟨g22, h⟩ := wp_gd h
    refine dq_lald wi_207_105 t_151 g22 ?_
    refine rs_aldn wi_207_106 l0 ?_
    refine dq_gr wi_207_107 wf_207_45 tf_150_1 ?_
    refine rs_ild wi_207_110 l6 ?_
    refine rs_ild wi_207_112 l5 ?_
    refine rs_V wi_207_114 wc_207_194 rfl (dq_isa tf_114_0 wa_2_170) (Nat.le_trans (by decide) hF) (ml_le wm_170 (Nat.le_trans (by decide) hLo)) rfl (sp_170 hw (Nat.le_trans (by decide : 1 ≤ 2 - 1) (Nat.sub_le_sub_right hF 1)) (ml_sub wm_170 (Nat.le_trans (by decide : 21 ≤ 44 - 22) (Nat.sub_le_sub_right hLo 22))) (wp_bind h) (fun v23 h => rs_back1 ?_))
    refine rs_SN wi_207_117 wc_207_157 rfl (Nat.le_trans (by decide) hF) (ml_le wm_355 (Nat.le_trans (by decide) hLo)) rfl (sp_355 (Nat.le_trans (by decide : 0 ≤ 2 - 1) (Nat.sub_le_sub_right hF 1)) (ml_sub wm_355 (Nat.le_trans (by decide : 0 ≤ 44 - 22) (Nat.sub_le_sub_right hLo 22))) (wp_bind h) (fun v24 h => rs_back1 ?_))
    exact rs_iret wi_207_120 wr_207 rfl (hQ v24 h)
  have h := wp_neg h q21
  by_cases q25 : a2 = 4
  ·
    have h := wp_pos h q25
    refine rs_tsk (tg := 121) (off := 71) (v := 4) wi_207_50 q25 (by decide) (by decide) ⟨by decide, by decide⟩ ?_
    refine rs_aldn wi_207_121 l0 ?_
    refine dq_gr wi_207_122 wf_207_49 tf_150_2 ?_
    refine rs_aldn wi_207_125 l0 ?_
    refine dq_gr wi_207_126 wf_207_45 tf_150_1 ?_
    refine rs_ildn wi_207_129 l3 ?_
    refine rs_ild wi_207_130 l6 ?_
    refine rs_ild wi_207_132 l5 ?_
    refine rs_V wi_207_134 wc_207_190 rfl (dq_isa tf_114_0 wa_2_169) (Nat.le_trans (by decide) hF) (ml_le wm_169 (Nat.le_trans (by decide) hLo)) rfl (sp_169 hw (Nat.le_trans (by decide : 1 ≤ 2 - 1) (Nat.sub_le_sub_right hF 1)) (ml_sub wm_169 (Nat.le_trans (by decide : 21 ≤ 44 - 23) (Nat.sub_le_sub_right hLo 23))) (wp_bind h) (fun v26 h => rs_back1 ?_))
    refine rs_aldn wi_207_137 l0 ?_
    refine dq_gi wi_207_138 wf_207_9 tf_150_3 ?_
    refine rs_V wi_207_141 wc_207_126 rfl (dq_isa tf_146_0 wa_4_190) (Nat.le_trans (by decide) hF) (ml_le wm_190 (Nat.le_trans (by decide) hLo)) rfl (sp_190 hw (Nat.le_trans (by decide : 0 ≤ 2 - 1) (Nat.sub_le_sub_right hF 1)) (ml_sub wm_190 (Nat.le_trans (by decide : 0 ≤ 44 - 23) (Nat.sub_le_sub_right hLo 23))) (wp_bind h) (fun v27 h => rs_back1 ?_))
    exact rs_iret wi_207_144 wr_207 rfl (hQ v27 h)
  have h := wp_neg h q25
  refine rs_tsd (tg := 145) wi_207_50 (rz_sw fun k k1 k2 => by
    have kk : k = 0 ∨ k = 1 ∨ k = 2 ∨ k = 3 ∨ k = 4 := by omega
    rcases kk with rfl | rfl | rfl | rfl | rfl
    · exact q17
    · exact q19
    · exact q20
    · exact q21
    · exact q25
    ) ⟨by decide, by decide⟩ ?_
  refine rs_pure wi_207_145 rfl ?_
  refine rs_topi (v := (-1)) (by decide) ?_
  exact rs_iret wi_207_146 wr_207 rfl (hQ (-1) h)
theorem wa_5_207 : rz_cn 5 (rx_yn (rt_P sc fm) 207).cls = true := (by decide +kernel : rz_cn 5 (rt_yn 207).cls = true)
theorem wa_5_30 : rz_cn 5 (rx_yn (rt_P sc fm) 30).cls = true := (by decide +kernel : rz_cn 5 (rt_yn 30).cls = true)
theorem wc_74_287 : rx_ct (rt_P sc fm) 74 287 = some (0, 30, 1) := (by decide +kernel : rt_ct 74 287 = some (0, 30, 1))
theorem wc_74_290 : rx_ct (rt_P sc fm) 74 290 = some (0, 207, 2) := (by decide +kernel : rt_ct 74 290 = some (0, 207, 2))
theorem wf_74_62 : rx_ft (rt_P sc fm) 74 62 = some (14, 6) := (by decide +kernel : rt_ft 74 62 = some (14, 6))
theorem wi_74_0 : ri (rt_P sc fm) 74 0 (.aload_n 0) (1) := ri_of (by decide +kernel) rfl
theorem wi_74_1 : ri (rt_P sc fm) 74 1 (.getfield 62) (4) := ri_of (by decide +kernel) rfl
theorem wi_74_11 : ri (rt_P sc fm) 74 11 (.aload_n 0) (12) := ri_of (by decide +kernel) rfl
theorem wi_74_12 : ri (rt_P sc fm) 74 12 (.getfield 62) (15) := ri_of (by decide +kernel) rfl
theorem wi_74_15 : ri (rt_P sc fm) 74 15 (.iload_n 1) (16) := ri_of (by decide +kernel) rfl
theorem wi_74_16 : ri (rt_P sc fm) 74 16 (.iload_n 2) (17) := ri_of (by decide +kernel) rfl
theorem wi_74_17 : ri (rt_P sc fm) 74 17 (.invokevirtual 290) (20) := ri_of (by decide +kernel) rfl
theorem wi_74_20 : ri (rt_P sc fm) 74 20 (.goto 4) (23) := ri_of (by decide +kernel) rfl
theorem wi_74_23 : ri (rt_P sc fm) 74 23 (.iconst (-1)) (24) := ri_of (by decide +kernel) rfl
theorem wi_74_24 : ri (rt_P sc fm) 74 24 (.ireturn) (25) := ri_of (by decide +kernel) rfl
theorem wi_74_4 : ri (rt_P sc fm) 74 4 (.iload_n 1) (5) := ri_of (by decide +kernel) rfl
theorem wi_74_5 : ri (rt_P sc fm) 74 5 (.invokevirtual 287) (8) := ri_of (by decide +kernel) rfl
theorem wi_74_8 : ri (rt_P sc fm) 74 8 (.ifCond .eq 15) (11) := ri_of (by decide +kernel) rfl
theorem wm_207 : rx_ml (rt_P sc fm) 207 = 7 := (by decide +kernel : rt_ml 207 = 7)
theorem wm_30 : rx_ml (rt_P sc fm) 30 = 2 := (by decide +kernel : rt_ml 30 = 2)
theorem wr_74 : rx_rt (rt_P sc fm) 74 = (some FieldType.int) := (by decide +kernel : rt_rt 74 = (some FieldType.int))
/-- MarkHouse.error(II)I -/
def d_74 (n : Nat) (a1 : Int32) (a2 : Int32) (c : cS) : Option (Int32) :=
  Option.bind (d_30 n a1 c) (fun v1 =>
  jn (fun p2 : Int32 =>
    some p2)
  (fun j24 =>
  if v1 = 0 then
    j24 (-1)
  else
    Option.bind (d_207 n a1 a2 c) (fun v3 =>
    j24 v3)))
theorem sp_74 {F Lo n : Nat} {a1 : Int32} {a2 : Int32} {c y : cS} {w : cW} {K : Int32 → Prop} {Q : ((Option Value) ⊕ String) → List va_E → Prop} (hw : rOK fm w) (hF : 3 ≤ F) (hLo : 70 ≤ Lo)  (h : wp (d_74 n a1 a2 c) K) (hQ : ∀ r, K r → Q (.inl (some (.int r))) (hq true c y w)) : rs (rt_P sc fm) 74 F Lo 0 [(0, .ref 0), (1, .int a1), (2, .int a2)] [] (hq true c y w) Q := by
  unfold d_74 at h
  obtain ⟨lv, elv⟩ : ∃ lv : rx_L, lv = [(0, .ref 0), (1, .int a1), (2, .int a2)] := ⟨_, rfl⟩
  rw [← elv]
  have l0 : rx_ld lv 0 = some (.ref 0) := by rw [elv]; rfl
  have l1 : rx_ld lv 1 = some (.int a1) := by rw [elv]; rfl
  have l2 : rx_ld lv 2 = some (.int a2) := by rw [elv]; rfl
  refine rs_aldn wi_74_0 l0 ?_
  refine dq_gr wi_74_1 wf_74_62 tf_0_6 ?_
  refine rs_ildn wi_74_4 l1 ?_
  refine rs_V wi_74_5 wc_74_287 rfl (dq_isa tf_150_0 wa_5_30) (Nat.le_trans (by decide) hF) (ml_le wm_30 (Nat.le_trans (by decide) hLo)) rfl (sp_30 hw (Nat.le_trans (by decide : 0 ≤ 3 - 1) (Nat.sub_le_sub_right hF 1)) (ml_sub wm_30 (Nat.le_trans (by decide : 0 ≤ 70 - 21) (Nat.sub_le_sub_right hLo 21))) (wp_bind h) (fun v1 h => rs_back1 ?_))
  refine wp_jn (B := fun p2 : Int32 => ∀ lv, rs (rt_P sc fm) 74 F Lo 24 lv [.int p2] (hq true c y w) Q) h (fun p2 h lv => ?_) (fun j24 hj24 h => ?_)
  ·
    exact rs_iret wi_74_24 wr_74 rfl (hQ p2 h)
  refine rs_ifeq (tg := 23) wi_74_8 ⟨by decide, by decide⟩ (fun q => ?_) (fun q => ?_)
  ·
    have h := wp_pos h q
    refine rs_pure wi_74_23 rfl ?_
    refine rs_topi (v := (-1)) (by decide) ?_
    exact hj24 _ h _
  ·
    have h := wp_neg h q
    refine rs_aldn wi_74_11 l0 ?_
    refine dq_gr wi_74_12 wf_74_62 tf_0_6 ?_
    refine rs_ildn wi_74_15 l1 ?_
    refine rs_ildn wi_74_16 l2 ?_
    refine rs_V wi_74_17 wc_74_290 rfl (dq_isa tf_150_0 wa_5_207) (Nat.le_trans (by decide) hF) (ml_le wm_207 (Nat.le_trans (by decide) hLo)) rfl (sp_207 hw (Nat.le_trans (by decide : 2 ≤ 3 - 1) (Nat.sub_le_sub_right hF 1)) (ml_sub wm_207 (Nat.le_trans (by decide : 44 ≤ 70 - 26) (Nat.sub_le_sub_right hLo 26))) (wp_bind h) (fun v3 h => rs_back1 ?_))
    refine rs_goto (tg := 24) wi_74_20 ⟨by decide, by decide⟩ ?_
    exact hj24 _ h _
theorem tf_150_13 : fo true 150 5 13 (.int 0) := ⟨_, rfl, rfl, by decide, by decide⟩
theorem wc_215_186 : rx_ct (rt_P sc fm) 215 186 = some (0, 206, 4) := (by decide +kernel : rt_ct 215 186 = some (0, 206, 4))
theorem wf_215_211 : rx_ft (rt_P sc fm) 215 211 = some (5, 13) := (by decide +kernel : rt_ft 215 211 = some (5, 13))
theorem wf_215_45 : rx_ft (rt_P sc fm) 215 45 = some (5, 1) := (by decide +kernel : rt_ft 215 45 = some (5, 1))
theorem wf_215_76 : rx_ft (rt_P sc fm) 215 76 = some (2, 5) := (by decide +kernel : rt_ft 215 76 = some (2, 5))
theorem wi_215_0 : ri (rt_P sc fm) 215 0 (.aload_n 0) (1) := ri_of (by decide +kernel) rfl
theorem wi_215_1 : ri (rt_P sc fm) 215 1 (.getfield 211) (4) := ri_of (by decide +kernel) rfl
theorem wi_215_10 : ri (rt_P sc fm) 215 10 (.iload_n 1) (11) := ri_of (by decide +kernel) rfl
theorem wi_215_11 : ri (rt_P sc fm) 215 11 (.aload_n 0) (12) := ri_of (by decide +kernel) rfl
theorem wi_215_12 : ri (rt_P sc fm) 215 12 (.getfield 211) (15) := ri_of (by decide +kernel) rfl
theorem wi_215_15 : ri (rt_P sc fm) 215 15 (.sipush 160) (18) := ri_of (by decide +kernel) rfl
theorem wi_215_18 : ri (rt_P sc fm) 215 18 (.irem) (19) := ri_of (by decide +kernel) rfl
theorem wi_215_19 : ri (rt_P sc fm) 215 19 (.iconst 4) (20) := ri_of (by decide +kernel) rfl
theorem wi_215_20 : ri (rt_P sc fm) 215 20 (.idiv) (21) := ri_of (by decide +kernel) rfl
theorem wi_215_21 : ri (rt_P sc fm) 215 21 (.if_icmp .ne 7) (24) := ri_of (by decide +kernel) rfl
theorem wi_215_24 : ri (rt_P sc fm) 215 24 (.iconst 1) (25) := ri_of (by decide +kernel) rfl
theorem wi_215_25 : ri (rt_P sc fm) 215 25 (.goto 4) (28) := ri_of (by decide +kernel) rfl
theorem wi_215_28 : ri (rt_P sc fm) 215 28 (.iconst 0) (29) := ri_of (by decide +kernel) rfl
theorem wi_215_29 : ri (rt_P sc fm) 215 29 (.istore 5) (31) := ri_of (by decide +kernel) rfl
theorem wi_215_31 : ri (rt_P sc fm) 215 31 (.iload 5) (33) := ri_of (by decide +kernel) rfl
theorem wi_215_33 : ri (rt_P sc fm) 215 33 (.ifCond .eq 35) (36) := ri_of (by decide +kernel) rfl
theorem wi_215_36 : ri (rt_P sc fm) 215 36 (.aload_n 0) (37) := ri_of (by decide +kernel) rfl
theorem wi_215_37 : ri (rt_P sc fm) 215 37 (.iload 4) (39) := ri_of (by decide +kernel) rfl
theorem wi_215_39 : ri (rt_P sc fm) 215 39 (.aload_n 0) (40) := ri_of (by decide +kernel) rfl
theorem wi_215_4 : ri (rt_P sc fm) 215 4 (.sipush 160) (7) := ri_of (by decide +kernel) rfl
theorem wi_215_40 : ri (rt_P sc fm) 215 40 (.getfield 45) (43) := ri_of (by decide +kernel) rfl
theorem wi_215_43 : ri (rt_P sc fm) 215 43 (.getfield 76) (46) := ri_of (by decide +kernel) rfl
theorem wi_215_46 : ri (rt_P sc fm) 215 46 (.iload 4) (48) := ri_of (by decide +kernel) rfl
theorem wi_215_48 : ri (rt_P sc fm) 215 48 (.iaload) (49) := ri_of (by decide +kernel) rfl
theorem wi_215_49 : ri (rt_P sc fm) 215 49 (.iload_n 1) (50) := ri_of (by decide +kernel) rfl
theorem wi_215_50 : ri (rt_P sc fm) 215 50 (.iadd) (51) := ri_of (by decide +kernel) rfl
theorem wi_215_51 : ri (rt_P sc fm) 215 51 (.aload_n 0) (52) := ri_of (by decide +kernel) rfl
theorem wi_215_52 : ri (rt_P sc fm) 215 52 (.getfield 211) (55) := ri_of (by decide +kernel) rfl
theorem wi_215_55 : ri (rt_P sc fm) 215 55 (.iconst 4) (56) := ri_of (by decide +kernel) rfl
theorem wi_215_56 : ri (rt_P sc fm) 215 56 (.irem) (57) := ri_of (by decide +kernel) rfl
theorem wi_215_57 : ri (rt_P sc fm) 215 57 (.lload_n 2) (58) := ri_of (by decide +kernel) rfl
theorem wi_215_58 : ri (rt_P sc fm) 215 58 (.invokevirtual 186) (61) := ri_of (by decide +kernel) rfl
theorem wi_215_61 : ri (rt_P sc fm) 215 61 (.ifCond .eq 7) (64) := ri_of (by decide +kernel) rfl
theorem wi_215_64 : ri (rt_P sc fm) 215 64 (.iconst 1) (65) := ri_of (by decide +kernel) rfl
theorem wi_215_65 : ri (rt_P sc fm) 215 65 (.goto 4) (68) := ri_of (by decide +kernel) rfl
theorem wi_215_68 : ri (rt_P sc fm) 215 68 (.iconst 0) (69) := ri_of (by decide +kernel) rfl
theorem wi_215_69 : ri (rt_P sc fm) 215 69 (.ireturn) (70) := ri_of (by decide +kernel) rfl
theorem wi_215_7 : ri (rt_P sc fm) 215 7 (.idiv) (8) := ri_of (by decide +kernel) rfl
theorem wi_215_8 : ri (rt_P sc fm) 215 8 (.istore 4) (10) := ri_of (by decide +kernel) rfl
theorem wr_215 : rx_rt (rt_P sc fm) 215 = (some FieldType.boolean) := (by decide +kernel : rt_rt 215 = (some FieldType.boolean))
/-- MarkHouse$Flow.showsError(IJ)Z -/
def d_215 (n : Nat) (a1 : Int32) (a2 : Int64) (c : cS) : Option (Int32) :=
  lt (((c.1 150 13) / 160) : Int32) (fun v2 =>
  jn (fun p4 : Int32 =>
    jn (fun p6 : Int32 =>
      if nb p6 then
      some p6
      else none)
    (fun j69 =>
    jn (fun p8 : Unit =>
      j69 0)
    (fun j68 =>
    if p4 = 0 then
      j68 ()
    else
      if ib v2 96 then
      Option.bind (d_206 n v2 ((c.1 119 (ix v2)) + a1) ((c.1 150 13) - (c.1 150 13) / 4 * 4) a2 c) (fun v10 =>
      if v10 = 0 then
        j68 ()
      else
        j69 1)
      else none)))
  (fun j29 =>
  if a1 = (((c.1 150 13) - (c.1 150 13) / 160 * 160) / 4) then
    j29 1
  else
    j29 0))
theorem sp_215 {F Lo n : Nat} {a1 : Int32} {a2 : Int64} {c y : cS} {w : cW} {K : Int32 → Prop} {Q : ((Option Value) ⊕ String) → List va_E → Prop} (hw : rOK fm w) (hF : 3 ≤ F) (hLo : 70 ≤ Lo)  (h : wp (d_215 n a1 a2 c) K) (hQ : ∀ r, K r → Q (.inl (some (.int r))) (hq true c y w)) : rs (rt_P sc fm) 215 F Lo 0 [(0, .ref 150), (1, .int a1), (2, .long a2)] [] (hq true c y w) Q := by
  unfold d_215 at h
  obtain ⟨lv, elv⟩ : ∃ lv : rx_L, lv = [(0, .ref 150), (1, .int a1), (2, .long a2)] := ⟨_, rfl⟩
  rw [← elv]
  have l0 : rx_ld lv 0 = some (.ref 150) := by rw [elv]; rfl
  have l1 : rx_ld lv 1 = some (.int a1) := by rw [elv]; rfl
  have l2 : rx_ld lv 2 = some (.long a2) := by rw [elv]; rfl
  refine rs_aldn wi_215_0 l0 ?_
  refine dq_gi wi_215_1 wf_215_211 tf_150_13 ?_
  refine rs_pure wi_215_4 rfl ?_
  refine rs_topi (v := 160) (by decide) ?_
  refine dl_idiv wi_215_7 (by decide) ?_
  obtain ⟨v2, e3, h⟩ := wp_lt h
  refine rs_topi e3 ?_
  refine dl_ist wi_215_8 rfl (fun lv l4 t1 => ?_)
  have l0 := t1 _ _ (by decide) (Or.inl rfl) l0
  have l1 := t1 _ _ (by decide) (Or.inl rfl) l1
  have l2 := t1 _ _ (by decide) (Or.inr (by decide)) l2
  refine rs_ildn wi_215_10 l1 ?_
  refine rs_aldn wi_215_11 l0 ?_
  refine dq_gi wi_215_12 wf_215_211 tf_150_13 ?_
  refine rs_pure wi_215_15 rfl ?_
  refine rs_topi (v := 160) (by decide) ?_
  refine dl_irem wi_215_18 (by decide) ?_
  refine rs_pure wi_215_19 rfl ?_
  refine rs_topi (v := 4) (by decide) ?_
  refine dl_idiv wi_215_20 (by decide) ?_
  refine wp_jn (B := fun p4 : Int32 => ∀ lv, rx_ld lv 0 = some (.ref 150) → rx_ld lv 1 = some (.int a1) → rx_ld lv 2 = some (.long a2) → rx_ld lv 4 = some (.int v2) → rs (rt_P sc fm) 215 F Lo 29 lv [.int p4] (hq true c y w) Q) h (fun p4 h lv l0 l1 l2 l4 => ?_) (fun j29 hj29 h => ?_)
  ·
    refine dl_ist wi_215_29 rfl (fun lv l5 t5 => ?_)
    have l0 := t5 _ _ (by decide) (Or.inl rfl) l0
    have l1 := t5 _ _ (by decide) (Or.inl rfl) l1
    have l2 := t5 _ _ (by decide) (Or.inr (by decide)) l2
    have l4 := t5 _ _ (by decide) (Or.inl rfl) l4
    refine rs_ild wi_215_31 l5 ?_
    refine wp_jn (B := fun p6 : Int32 => ∀ lv, rs (rt_P sc fm) 215 F Lo 69 lv [.int p6] (hq true c y w) Q) h (fun p6 h lv => ?_) (fun j69 hj69 h => ?_)
    ·
      obtain ⟨g7, h⟩ := wp_gd h
      exact rs_iret wi_215_69 wr_215 (nb_n g7) (hQ p6 h)
    refine wp_jn (B := fun p8 : Unit => ∀ lv, rs (rt_P sc fm) 215 F Lo 68 lv [] (hq true c y w) Q) h (fun p8 h lv => ?_) (fun j68 hj68 h => ?_)
    ·
      refine rs_pure wi_215_68 rfl ?_
      refine rs_topi (v := 0) (by decide) ?_
      exact hj69 _ h _
    refine rs_ifeq (tg := 68) wi_215_33 ⟨by decide, by decide⟩ (fun q => ?_) (fun q => ?_)
    ·
      have h := wp_pos h q
      exact hj68 _ h _
    ·
      have h := wp_neg h q
      refine rs_aldn wi_215_36 l0 ?_
      refine rs_ild wi_215_37 l4 ?_
      refine rs_aldn wi_215_39 l0 ?_
      refine dq_gr wi_215_40 wf_215_45 tf_150_1 ?_
      refine dq_gr wi_215_43 wf_215_76 tf_114_5 ?_
      refine rs_ild wi_215_46 l4 ?_
      obtain ⟨g9, h⟩ := wp_gd h
      refine dq_iald wi_215_48 t_119 g9 ?_
      refine rs_ildn wi_215_49 l1 ?_
      refine rs_pure wi_215_50 rfl ?_
      refine rs_aldn wi_215_51 l0 ?_
      refine dq_gi wi_215_52 wf_215_211 tf_150_13 ?_
      refine rs_pure wi_215_55 rfl ?_
      refine rs_topi (v := 4) (by decide) ?_
      refine dl_irem wi_215_56 (by decide) ?_
      refine rs_lldn wi_215_57 l2 ?_
      refine rs_V wi_215_58 wc_215_186 rfl (dq_isa tf_150_0 wa_5_206) (Nat.le_trans (by decide) hF) (ml_le wm_206 (Nat.le_trans (by decide) hLo)) rfl (sp_206 hw (Nat.le_trans (by decide : 2 ≤ 3 - 1) (Nat.sub_le_sub_right hF 1)) (ml_sub wm_206 (Nat.le_trans (by decide : 44 ≤ 70 - 26) (Nat.sub_le_sub_right hLo 26))) (wp_bind h) (fun v10 h => rs_back1 ?_))
      refine rs_ifeq (tg := 68) wi_215_61 ⟨by decide, by decide⟩ (fun q => ?_) (fun q => ?_)
      ·
        have h := wp_pos h q
        exact hj68 _ h _
      ·
        have h := wp_neg h q
        refine rs_pure wi_215_64 rfl ?_
        refine rs_topi (v := 1) (by decide) ?_
        refine rs_goto (tg := 69) wi_215_65 ⟨by decide, by decide⟩ ?_
        exact hj69 _ h _
  refine rs_icne (tg := 28) wi_215_21 ⟨by decide, by decide⟩ (fun q => ?_) (fun q => ?_)
  ·
    have h := wp_neg h q
    refine rs_pure wi_215_28 rfl ?_
    refine rs_topi (v := 0) (by decide) ?_
    exact hj29 _ h _ l0 l1 l2 l4
  ·
    have h := wp_pos h q
    refine rs_pure wi_215_24 rfl ?_
    refine rs_topi (v := 1) (by decide) ?_
    refine rs_goto (tg := 29) wi_215_25 ⟨by decide, by decide⟩ ?_
    exact hj29 _ h _ l0 l1 l2 l4
theorem t_153 : ta true 153 0 400 := ⟨rfl, by decide, by decide⟩
theorem t_154 : ta true 154 1 400 := ⟨rfl, by decide, by decide⟩
theorem t_155 : ta true 155 0 400 := ⟨rfl, by decide, by decide⟩
theorem t_156 : ta true 156 0 400 := ⟨rfl, by decide, by decide⟩
theorem t_157 : ta true 157 0 40 := ⟨rfl, by decide, by decide⟩
theorem tf_150_10 : fo true 150 5 10 (.ref 156) := ⟨_, rfl, rfl, by decide, by decide⟩
theorem tf_150_11 : fo true 150 5 11 (.ref 157) := ⟨_, rfl, rfl, by decide, by decide⟩
theorem tf_150_12 : fo true 150 5 12 (.int 0) := ⟨_, rfl, rfl, by decide, by decide⟩
theorem tf_150_14 : fo true 150 5 14 (.int 0) := ⟨_, rfl, rfl, by decide, by decide⟩
theorem tf_150_7 : fo true 150 5 7 (.ref 153) := ⟨_, rfl, rfl, by decide, by decide⟩
theorem tf_150_8 : fo true 150 5 8 (.ref 154) := ⟨_, rfl, rfl, by decide, by decide⟩
theorem tf_150_9 : fo true 150 5 9 (.ref 155) := ⟨_, rfl, rfl, by decide, by decide⟩
theorem wa_5_215 : rz_cn 5 (rx_yn (rt_P sc fm) 215).cls = true := (by decide +kernel : rz_cn 5 (rt_yn 215).cls = true)
theorem wc_214_234 : rx_ct (rt_P sc fm) 214 234 = some (0, 215, 2) := (by decide +kernel : rt_ct 214 234 = some (0, 215, 2))
theorem wf_214_214 : rx_ft (rt_P sc fm) 214 214 = some (5, 14) := (by decide +kernel : rt_ft 214 214 = some (5, 14))
theorem wf_214_217 : rx_ft (rt_P sc fm) 214 217 = some (5, 12) := (by decide +kernel : rt_ft 214 217 = some (5, 12))
theorem wf_214_23 : rx_ft (rt_P sc fm) 214 23 = some (5, 7) := (by decide +kernel : rt_ft 214 23 = some (5, 7))
theorem wf_214_26 : rx_ft (rt_P sc fm) 214 26 = some (5, 8) := (by decide +kernel : rt_ft 214 26 = some (5, 8))
theorem wf_214_29 : rx_ft (rt_P sc fm) 214 29 = some (5, 9) := (by decide +kernel : rt_ft 214 29 = some (5, 9))
theorem wf_214_32 : rx_ft (rt_P sc fm) 214 32 = some (5, 10) := (by decide +kernel : rt_ft 214 32 = some (5, 10))
theorem wf_214_35 : rx_ft (rt_P sc fm) 214 35 = some (5, 11) := (by decide +kernel : rt_ft 214 35 = some (5, 11))
theorem wi_214_0 : ri (rt_P sc fm) 214 0 (.aload_n 0) (1) := ri_of (by decide +kernel) rfl
theorem wi_214_1 : ri (rt_P sc fm) 214 1 (.getfield 214) (4) := ri_of (by decide +kernel) rfl
theorem wi_214_10 : ri (rt_P sc fm) 214 10 (.getfield 35) (13) := ri_of (by decide +kernel) rfl
theorem wi_214_102 : ri (rt_P sc fm) 214 102 (.aload_n 0) (103) := ri_of (by decide +kernel) rfl
theorem wi_214_103 : ri (rt_P sc fm) 214 103 (.getfield 217) (106) := ri_of (by decide +kernel) rfl
theorem wi_214_106 : ri (rt_P sc fm) 214 106 (.iload 4) (108) := ri_of (by decide +kernel) rfl
theorem wi_214_108 : ri (rt_P sc fm) 214 108 (.iastore) (109) := ri_of (by decide +kernel) rfl
theorem wi_214_109 : ri (rt_P sc fm) 214 109 (.aload_n 0) (110) := ri_of (by decide +kernel) rfl
theorem wi_214_110 : ri (rt_P sc fm) 214 110 (.getfield 32) (113) := ri_of (by decide +kernel) rfl
theorem wi_214_113 : ri (rt_P sc fm) 214 113 (.aload_n 0) (114) := ri_of (by decide +kernel) rfl
theorem wi_214_114 : ri (rt_P sc fm) 214 114 (.getfield 217) (117) := ri_of (by decide +kernel) rfl
theorem wi_214_117 : ri (rt_P sc fm) 214 117 (.aload_n 0) (118) := ri_of (by decide +kernel) rfl
theorem wi_214_118 : ri (rt_P sc fm) 214 118 (.getfield 35) (121) := ri_of (by decide +kernel) rfl
theorem wi_214_121 : ri (rt_P sc fm) 214 121 (.iload_n 1) (122) := ri_of (by decide +kernel) rfl
theorem wi_214_122 : ri (rt_P sc fm) 214 122 (.iaload) (123) := ri_of (by decide +kernel) rfl
theorem wi_214_123 : ri (rt_P sc fm) 214 123 (.iastore) (124) := ri_of (by decide +kernel) rfl
theorem wi_214_124 : ri (rt_P sc fm) 214 124 (.aload_n 0) (125) := ri_of (by decide +kernel) rfl
theorem wi_214_125 : ri (rt_P sc fm) 214 125 (.getfield 35) (128) := ri_of (by decide +kernel) rfl
theorem wi_214_128 : ri (rt_P sc fm) 214 128 (.iload_n 1) (129) := ri_of (by decide +kernel) rfl
theorem wi_214_129 : ri (rt_P sc fm) 214 129 (.aload_n 0) (130) := ri_of (by decide +kernel) rfl
theorem wi_214_13 : ri (rt_P sc fm) 214 13 (.iload_n 1) (14) := ri_of (by decide +kernel) rfl
theorem wi_214_130 : ri (rt_P sc fm) 214 130 (.getfield 217) (133) := ri_of (by decide +kernel) rfl
theorem wi_214_133 : ri (rt_P sc fm) 214 133 (.iastore) (134) := ri_of (by decide +kernel) rfl
theorem wi_214_134 : ri (rt_P sc fm) 214 134 (.aload_n 0) (135) := ri_of (by decide +kernel) rfl
theorem wi_214_135 : ri (rt_P sc fm) 214 135 (.iload_n 1) (136) := ri_of (by decide +kernel) rfl
theorem wi_214_136 : ri (rt_P sc fm) 214 136 (.lload_n 2) (137) := ri_of (by decide +kernel) rfl
theorem wi_214_137 : ri (rt_P sc fm) 214 137 (.invokevirtual 234) (140) := ri_of (by decide +kernel) rfl
theorem wi_214_14 : ri (rt_P sc fm) 214 14 (.iaload) (15) := ri_of (by decide +kernel) rfl
theorem wi_214_140 : ri (rt_P sc fm) 214 140 (.ifCond .eq 11) (143) := ri_of (by decide +kernel) rfl
theorem wi_214_143 : ri (rt_P sc fm) 214 143 (.aload_n 0) (144) := ri_of (by decide +kernel) rfl
theorem wi_214_144 : ri (rt_P sc fm) 214 144 (.aload_n 0) (145) := ri_of (by decide +kernel) rfl
theorem wi_214_145 : ri (rt_P sc fm) 214 145 (.getfield 217) (148) := ri_of (by decide +kernel) rfl
theorem wi_214_148 : ri (rt_P sc fm) 214 148 (.putfield 214) (151) := ri_of (by decide +kernel) rfl
theorem wi_214_15 : ri (rt_P sc fm) 214 15 (.istore 5) (17) := ri_of (by decide +kernel) rfl
theorem wi_214_151 : ri (rt_P sc fm) 214 151 (.aload_n 0) (152) := ri_of (by decide +kernel) rfl
theorem wi_214_152 : ri (rt_P sc fm) 214 152 (.dup) (153) := ri_of (by decide +kernel) rfl
theorem wi_214_153 : ri (rt_P sc fm) 214 153 (.getfield 217) (156) := ri_of (by decide +kernel) rfl
theorem wi_214_156 : ri (rt_P sc fm) 214 156 (.iconst 1) (157) := ri_of (by decide +kernel) rfl
theorem wi_214_157 : ri (rt_P sc fm) 214 157 (.iadd) (158) := ri_of (by decide +kernel) rfl
theorem wi_214_158 : ri (rt_P sc fm) 214 158 (.putfield 217) (161) := ri_of (by decide +kernel) rfl
theorem wi_214_161 : ri (rt_P sc fm) 214 161 (.return_) (162) := ri_of (by decide +kernel) rfl
theorem wi_214_17 : ri (rt_P sc fm) 214 17 (.iconst 0) (18) := ri_of (by decide +kernel) rfl
theorem wi_214_18 : ri (rt_P sc fm) 214 18 (.istore 6) (20) := ri_of (by decide +kernel) rfl
theorem wi_214_20 : ri (rt_P sc fm) 214 20 (.iload 6) (22) := ri_of (by decide +kernel) rfl
theorem wi_214_22 : ri (rt_P sc fm) 214 22 (.sipush 400) (25) := ri_of (by decide +kernel) rfl
theorem wi_214_25 : ri (rt_P sc fm) 214 25 (.if_icmp .ge 36) (28) := ri_of (by decide +kernel) rfl
theorem wi_214_28 : ri (rt_P sc fm) 214 28 (.iload 5) (30) := ri_of (by decide +kernel) rfl
theorem wi_214_30 : ri (rt_P sc fm) 214 30 (.ifCond .lt 31) (33) := ri_of (by decide +kernel) rfl
theorem wi_214_33 : ri (rt_P sc fm) 214 33 (.aload_n 0) (34) := ri_of (by decide +kernel) rfl
theorem wi_214_34 : ri (rt_P sc fm) 214 34 (.getfield 26) (37) := ri_of (by decide +kernel) rfl
theorem wi_214_37 : ri (rt_P sc fm) 214 37 (.iload 5) (39) := ri_of (by decide +kernel) rfl
theorem wi_214_39 : ri (rt_P sc fm) 214 39 (.laload) (40) := ri_of (by decide +kernel) rfl
theorem wi_214_4 : ri (rt_P sc fm) 214 4 (.iconst (-1)) (5) := ri_of (by decide +kernel) rfl
theorem wi_214_40 : ri (rt_P sc fm) 214 40 (.lload_n 2) (41) := ri_of (by decide +kernel) rfl
theorem wi_214_41 : ri (rt_P sc fm) 214 41 (.lcmp) (42) := ri_of (by decide +kernel) rfl
theorem wi_214_42 : ri (rt_P sc fm) 214 42 (.ifCond .ne 4) (45) := ri_of (by decide +kernel) rfl
theorem wi_214_45 : ri (rt_P sc fm) 214 45 (.return_) (46) := ri_of (by decide +kernel) rfl
theorem wi_214_46 : ri (rt_P sc fm) 214 46 (.aload_n 0) (47) := ri_of (by decide +kernel) rfl
theorem wi_214_47 : ri (rt_P sc fm) 214 47 (.getfield 32) (50) := ri_of (by decide +kernel) rfl
theorem wi_214_5 : ri (rt_P sc fm) 214 5 (.if_icmp .eq 4) (8) := ri_of (by decide +kernel) rfl
theorem wi_214_50 : ri (rt_P sc fm) 214 50 (.iload 5) (52) := ri_of (by decide +kernel) rfl
theorem wi_214_52 : ri (rt_P sc fm) 214 52 (.iaload) (53) := ri_of (by decide +kernel) rfl
theorem wi_214_53 : ri (rt_P sc fm) 214 53 (.istore 5) (55) := ri_of (by decide +kernel) rfl
theorem wi_214_55 : ri (rt_P sc fm) 214 55 (.iinc 6 1) (58) := ri_of (by decide +kernel) rfl
theorem wi_214_58 : ri (rt_P sc fm) 214 58 (.goto (-38)) (61) := ri_of (by decide +kernel) rfl
theorem wi_214_61 : ri (rt_P sc fm) 214 61 (.aload_n 0) (62) := ri_of (by decide +kernel) rfl
theorem wi_214_62 : ri (rt_P sc fm) 214 62 (.getfield 217) (65) := ri_of (by decide +kernel) rfl
theorem wi_214_65 : ri (rt_P sc fm) 214 65 (.sipush 400) (68) := ri_of (by decide +kernel) rfl
theorem wi_214_68 : ri (rt_P sc fm) 214 68 (.if_icmp .lt 10) (71) := ri_of (by decide +kernel) rfl
theorem wi_214_71 : ri (rt_P sc fm) 214 71 (.aload_n 0) (72) := ri_of (by decide +kernel) rfl
theorem wi_214_72 : ri (rt_P sc fm) 214 72 (.bipush (-2)) (74) := ri_of (by decide +kernel) rfl
theorem wi_214_74 : ri (rt_P sc fm) 214 74 (.putfield 214) (77) := ri_of (by decide +kernel) rfl
theorem wi_214_77 : ri (rt_P sc fm) 214 77 (.return_) (78) := ri_of (by decide +kernel) rfl
theorem wi_214_78 : ri (rt_P sc fm) 214 78 (.aload_n 0) (79) := ri_of (by decide +kernel) rfl
theorem wi_214_79 : ri (rt_P sc fm) 214 79 (.getfield 23) (82) := ri_of (by decide +kernel) rfl
theorem wi_214_8 : ri (rt_P sc fm) 214 8 (.return_) (9) := ri_of (by decide +kernel) rfl
theorem wi_214_82 : ri (rt_P sc fm) 214 82 (.aload_n 0) (83) := ri_of (by decide +kernel) rfl
theorem wi_214_83 : ri (rt_P sc fm) 214 83 (.getfield 217) (86) := ri_of (by decide +kernel) rfl
theorem wi_214_86 : ri (rt_P sc fm) 214 86 (.iload_n 1) (87) := ri_of (by decide +kernel) rfl
theorem wi_214_87 : ri (rt_P sc fm) 214 87 (.iastore) (88) := ri_of (by decide +kernel) rfl
theorem wi_214_88 : ri (rt_P sc fm) 214 88 (.aload_n 0) (89) := ri_of (by decide +kernel) rfl
theorem wi_214_89 : ri (rt_P sc fm) 214 89 (.getfield 26) (92) := ri_of (by decide +kernel) rfl
theorem wi_214_9 : ri (rt_P sc fm) 214 9 (.aload_n 0) (10) := ri_of (by decide +kernel) rfl
theorem wi_214_92 : ri (rt_P sc fm) 214 92 (.aload_n 0) (93) := ri_of (by decide +kernel) rfl
theorem wi_214_93 : ri (rt_P sc fm) 214 93 (.getfield 217) (96) := ri_of (by decide +kernel) rfl
theorem wi_214_96 : ri (rt_P sc fm) 214 96 (.lload_n 2) (97) := ri_of (by decide +kernel) rfl
theorem wi_214_97 : ri (rt_P sc fm) 214 97 (.lastore) (98) := ri_of (by decide +kernel) rfl
theorem wi_214_98 : ri (rt_P sc fm) 214 98 (.aload_n 0) (99) := ri_of (by decide +kernel) rfl
theorem wi_214_99 : ri (rt_P sc fm) 214 99 (.getfield 29) (102) := ri_of (by decide +kernel) rfl
theorem wm_215 : rx_ml (rt_P sc fm) 215 = 6 := (by decide +kernel : rt_ml 215 = 6)
theorem wp_214_214 : rx_pt (rt_P sc fm) 214 214 = some (5, 14, .int) := (by decide +kernel : rt_pt 214 214 = some (5, 14, .int))
theorem wp_214_217 : rx_pt (rt_P sc fm) 214 217 = some (5, 12, .int) := (by decide +kernel : rt_pt 214 217 = some (5, 12, .int))
theorem wr_214 : rx_rt (rt_P sc fm) 214 = none := (by decide +kernel : rt_rt 214 = none)
/-- MarkHouse$Flow.meetSituation(IJI)V -/
def d_214 (n : Nat) (a1 : Int32) (a2 : Int64) (a4 : Int32) (c : cS) : Option (cS) :=
  if (c.1 150 14) = (-1) then
    if ib a1 40 then
    lt ((c.1 157 (ix a1)) : Int32) (fun v3 =>
    Option.bind (whl (R := (Unit) ⊕ (Unit)) (fun s6 : Int32 × Int32 =>
      if 400 ≤ s6.2 then
        some (.inr (.inl ()))
      else
        if s6.1 < 0 then
          some (.inr (.inl ()))
        else
          if ib s6.1 400 then
          if (lg_cmp (c.2 154 (ix s6.1)) a2) = 0 then
            some (.inr (.inr ()))
          else
            if ib s6.1 400 then
            lt ((c.1 156 (ix s6.1)) : Int32) (fun v10 =>
            lt (s6.2 + 1 : Int32) (fun v13 =>
            some (.inl (v10, v13))))
            else none
          else none) n (v3, 0))
    (Sum.elim (fun x15 : Unit =>
      if (c.1 150 12) < 400 then
        if ib (c.1 150 12) 400 then
        lt (pI c 153 (ix (c.1 150 12)) a1) (fun c17 =>
        if ib (c17.1 150 12) 400 then
        lt (pL c17 154 (ix (c17.1 150 12)) a2) (fun c20 =>
        if ib (c20.1 150 12) 400 then
        lt (pI c20 155 (ix (c20.1 150 12)) a4) (fun c23 =>
        if ib a1 40 then
        if ib (c23.1 150 12) 400 then
        lt (pI c23 156 (ix (c23.1 150 12)) (c23.1 157 (ix a1))) (fun c27 =>
        if ib a1 40 then
        lt (pI c27 157 (ix a1) (c27.1 150 12)) (fun c30 =>
        Option.bind (d_215 n a1 a2 c30) (fun v32 =>
        jn (fun p33 : cS =>
          lt (pI p33 150 12 ((p33.1 150 12) + 1)) (fun c34 =>
          some c34))
        (fun j151 =>
        if v32 = 0 then
          j151 c30
        else
          lt (pI c30 150 14 (c30.1 150 12)) (fun c36 =>
          j151 c36))))
        else none)
        else none
        else none)
        else none)
        else none)
        else none
      else
        lt (pI c 150 14 (-2)) (fun c38 =>
        some c38))
    (fun x40 : Unit =>
      some c)))
    else none
  else
    some c
theorem sp_214 {F Lo n : Nat} {a1 : Int32} {a2 : Int64} {a4 : Int32} {c y : cS} {w : cW} {K : cS → Prop} {Q : ((Option Value) ⊕ String) → List va_E → Prop} (hw : rOK fm w) (hF : 4 ≤ F) (hLo : 95 ≤ Lo)  (h : wp (d_214 n a1 a2 a4 c) K) (hQ : ∀ r, K r → Q (.inl none) (hq true r y w)) : rs (rt_P sc fm) 214 F Lo 0 [(0, .ref 150), (1, .int a1), (2, .long a2), (4, .int a4)] [] (hq true c y w) Q := by
  unfold d_214 at h
  obtain ⟨lv, elv⟩ : ∃ lv : rx_L, lv = [(0, .ref 150), (1, .int a1), (2, .long a2), (4, .int a4)] := ⟨_, rfl⟩
  rw [← elv]
  have l0 : rx_ld lv 0 = some (.ref 150) := by rw [elv]; rfl
  have l1 : rx_ld lv 1 = some (.int a1) := by rw [elv]; rfl
  have l2 : rx_ld lv 2 = some (.long a2) := by rw [elv]; rfl
  have l4 : rx_ld lv 4 = some (.int a4) := by rw [elv]; rfl
  refine rs_aldn wi_214_0 l0 ?_
  refine dq_gi wi_214_1 wf_214_214 tf_150_14 ?_
  refine rs_pure wi_214_4 rfl ?_
  refine rs_topi (v := (-1)) (by decide) ?_
  refine rs_iceq (tg := 9) wi_214_5 ⟨by decide, by decide⟩ (fun q => ?_) (fun q => ?_)
  ·
    have h := wp_pos h q
    refine rs_aldn wi_214_9 l0 ?_
    refine dq_gr wi_214_10 wf_214_35 tf_150_11 ?_
    refine rs_ildn wi_214_13 l1 ?_
    obtain ⟨g1, h⟩ := wp_gd h
    refine dq_iald wi_214_14 t_157 g1 ?_
    obtain ⟨v3, e4, h⟩ := wp_lt h
    refine rs_topi e4 ?_
    refine dl_ist wi_214_15 rfl (fun lv l5 t2 => ?_)
    have l0 := t2 _ _ (by decide) (Or.inl rfl) l0
    have l1 := t2 _ _ (by decide) (Or.inl rfl) l1
    have l2 := t2 _ _ (by decide) (Or.inr (by decide)) l2
    have l4 := t2 _ _ (by decide) (Or.inl rfl) l4
    refine rs_pure wi_214_17 rfl ?_
    refine rs_topi (v := 0) (by decide) ?_
    refine dl_ist wi_214_18 rfl (fun lv l6 t5 => ?_)
    have l0 := t5 _ _ (by decide) (Or.inl rfl) l0
    have l1 := t5 _ _ (by decide) (Or.inl rfl) l1
    have l2 := t5 _ _ (by decide) (Or.inr (by decide)) l2
    have l4 := t5 _ _ (by decide) (Or.inl rfl) l4
    have l5 := t5 _ _ (by decide) (Or.inl rfl) l5
    refine whl_ex (A := fun s6 : Int32 × Int32 => ∀ lv, rx_ld lv 0 = some (.ref 150) → rx_ld lv 1 = some (.int a1) → rx_ld lv 2 = some (.long a2) → rx_ld lv 4 = some (.int a4) → rx_ld lv 5 = some (.int s6.1) → rx_ld lv 6 = some (.int s6.2) → rs (rt_P sc fm) 214 F Lo 20 lv [] (hq true c y w) Q) (B := (Sum.elim (fun x15 : Unit => ∀ lv, rx_ld lv 0 = some (.ref 150) → rx_ld lv 1 = some (.int a1) → rx_ld lv 2 = some (.long a2) → rx_ld lv 4 = some (.int a4) → rs (rt_P sc fm) 214 F Lo 61 lv [] (hq true c y w) Q) (fun x40 : Unit => ∀ lv, rs (rt_P sc fm) 214 F Lo 45 lv [] (hq true c y w) Q))) ?_ ?_ _ _ (wp_bind h) _ l0 l1 l2 l4 l5 l6
    · intro s6 h lv l0 l1 l2 l4 l5 l6
      refine rs_ild wi_214_20 l6 ?_
      refine rs_pure wi_214_22 rfl ?_
      refine rs_topi (v := 400) (by decide) ?_
      refine rs_icge (tg := 61) wi_214_25 ⟨by decide, by decide⟩ (fun q => ?_) (fun q => ?_)
      ·
        have h := wp_pos h q
        exact h _ l0 l1 l2 l4
      ·
        have h := wp_neg h q
        refine rs_ild wi_214_28 l5 ?_
        refine rs_iflt (tg := 61) wi_214_30 ⟨by decide, by decide⟩ (fun q => ?_) (fun q => ?_)
        ·
          have h := wp_pos h q
          exact h _ l0 l1 l2 l4
        ·
          have h := wp_neg h q
          refine rs_aldn wi_214_33 l0 ?_
          refine dq_gr wi_214_34 wf_214_26 tf_150_8 ?_
          refine rs_ild wi_214_37 l5 ?_
          obtain ⟨g7, h⟩ := wp_gd h
          refine dq_lald wi_214_39 t_154 g7 ?_
          refine rs_lldn wi_214_40 l2 ?_
          refine rs_pure wi_214_41 rfl ?_
          refine rs_ifne (tg := 46) wi_214_42 ⟨by decide, by decide⟩ (fun q => ?_) (fun q => ?_)
          ·
            have h := wp_neg h q
            refine rs_aldn wi_214_46 l0 ?_
            refine dq_gr wi_214_47 wf_214_32 tf_150_10 ?_
            refine rs_ild wi_214_50 l5 ?_
            obtain ⟨g8, h⟩ := wp_gd h
            refine dq_iald wi_214_52 t_156 g8 ?_
            obtain ⟨v10, e11, h⟩ := wp_lt h
            refine rs_topi e11 ?_
            refine dl_ist wi_214_53 rfl (fun lv l5 t9 => ?_)
            have l0 := t9 _ _ (by decide) (Or.inl rfl) l0
            have l1 := t9 _ _ (by decide) (Or.inl rfl) l1
            have l2 := t9 _ _ (by decide) (Or.inr (by decide)) l2
            have l4 := t9 _ _ (by decide) (Or.inl rfl) l4
            have l6 := t9 _ _ (by decide) (Or.inl rfl) l6
            obtain ⟨v13, e14, h⟩ := wp_lt h
            refine dl_inc wi_214_55 l6 rfl e14 (fun lv l6 t12 => ?_)
            have l0 := t12 _ _ (by decide) (Or.inl rfl) l0
            have l1 := t12 _ _ (by decide) (Or.inl rfl) l1
            have l2 := t12 _ _ (by decide) (Or.inr (by decide)) l2
            have l4 := t12 _ _ (by decide) (Or.inl rfl) l4
            have l5 := t12 _ _ (by decide) (Or.inl rfl) l5
            refine rs_goto (tg := 20) wi_214_58 ⟨by decide, by decide⟩ ?_
            exact h _ l0 l1 l2 l4 l5 l6
          ·
            have h := wp_pos h q
            exact h _
    ·
      refine sum_all ?_ ?_
      ·
        intro x15 h lv l0 l1 l2 l4
        have h := wp_inl h
        refine rs_aldn wi_214_61 l0 ?_
        refine dq_gi wi_214_62 wf_214_217 tf_150_12 ?_
        refine rs_pure wi_214_65 rfl ?_
        refine rs_topi (v := 400) (by decide) ?_
        refine rs_iclt (tg := 78) wi_214_68 ⟨by decide, by decide⟩ (fun q => ?_) (fun q => ?_)
        ·
          have h := wp_pos h q
          refine rs_aldn wi_214_78 l0 ?_
          refine dq_gr wi_214_79 wf_214_23 tf_150_7 ?_
          refine rs_aldn wi_214_82 l0 ?_
          refine dq_gi wi_214_83 wf_214_217 tf_150_12 ?_
          refine rs_ildn wi_214_86 l1 ?_
          obtain ⟨g16, h⟩ := wp_gd h
          obtain ⟨c17, e18, h⟩ := wp_lt h
          refine dq_iast wi_214_87 t_153 g16 e18 ?_
          refine rs_aldn wi_214_88 l0 ?_
          refine dq_gr wi_214_89 wf_214_26 tf_150_8 ?_
          refine rs_aldn wi_214_92 l0 ?_
          refine dq_gi wi_214_93 wf_214_217 tf_150_12 ?_
          refine rs_lldn wi_214_96 l2 ?_
          obtain ⟨g19, h⟩ := wp_gd h
          obtain ⟨c20, e21, h⟩ := wp_lt h
          refine dq_last wi_214_97 t_154 g19 e21 ?_
          refine rs_aldn wi_214_98 l0 ?_
          refine dq_gr wi_214_99 wf_214_29 tf_150_9 ?_
          refine rs_aldn wi_214_102 l0 ?_
          refine dq_gi wi_214_103 wf_214_217 tf_150_12 ?_
          refine rs_ild wi_214_106 l4 ?_
          obtain ⟨g22, h⟩ := wp_gd h
          obtain ⟨c23, e24, h⟩ := wp_lt h
          refine dq_iast wi_214_108 t_155 g22 e24 ?_
          refine rs_aldn wi_214_109 l0 ?_
          refine dq_gr wi_214_110 wf_214_32 tf_150_10 ?_
          refine rs_aldn wi_214_113 l0 ?_
          refine dq_gi wi_214_114 wf_214_217 tf_150_12 ?_
          refine rs_aldn wi_214_117 l0 ?_
          refine dq_gr wi_214_118 wf_214_35 tf_150_11 ?_
          refine rs_ildn wi_214_121 l1 ?_
          obtain ⟨g25, h⟩ := wp_gd h
          refine dq_iald wi_214_122 t_157 g25 ?_
          obtain ⟨g26, h⟩ := wp_gd h
          obtain ⟨c27, e28, h⟩ := wp_lt h
          refine dq_iast wi_214_123 t_156 g26 e28 ?_
          refine rs_aldn wi_214_124 l0 ?_
          refine dq_gr wi_214_125 wf_214_35 tf_150_11 ?_
          refine rs_ildn wi_214_128 l1 ?_
          refine rs_aldn wi_214_129 l0 ?_
          refine dq_gi wi_214_130 wf_214_217 tf_150_12 ?_
          obtain ⟨g29, h⟩ := wp_gd h
          obtain ⟨c30, e31, h⟩ := wp_lt h
          refine dq_iast wi_214_133 t_157 g29 e31 ?_
          refine rs_aldn wi_214_134 l0 ?_
          refine rs_ildn wi_214_135 l1 ?_
          refine rs_lldn wi_214_136 l2 ?_
          refine rs_V wi_214_137 wc_214_234 rfl (dq_isa tf_150_0 wa_5_215) (Nat.le_trans (by decide) hF) (ml_le wm_215 (Nat.le_trans (by decide) hLo)) rfl (sp_215 hw (Nat.le_trans (by decide : 3 ≤ 4 - 1) (Nat.sub_le_sub_right hF 1)) (ml_sub wm_215 (Nat.le_trans (by decide : 70 ≤ 95 - 25) (Nat.sub_le_sub_right hLo 25))) (wp_bind h) (fun v32 h => rs_back1 ?_))
          refine wp_jn (B := fun p33 : cS => ∀ lv, rx_ld lv 0 = some (.ref 150) → rs (rt_P sc fm) 214 F Lo 151 lv [] (hq true p33 y w) Q) h (fun p33 h lv l0 => ?_) (fun j151 hj151 h => ?_)
          ·
            refine rs_aldn wi_214_151 l0 ?_
            refine rs_pure wi_214_152 rfl ?_
            refine dq_gi wi_214_153 wf_214_217 tf_150_12 ?_
            refine rs_pure wi_214_156 rfl ?_
            refine rs_topi (v := 1) (by decide) ?_
            refine rs_pure wi_214_157 rfl ?_
            obtain ⟨c34, e35, h⟩ := wp_lt h
            refine dq_pi wi_214_158 wp_214_217 tf_150_12 rfl rfl e35 ?_
            exact rs_vret wi_214_161 wr_214 (hQ c34 h)
          refine rs_ifeq (tg := 151) wi_214_140 ⟨by decide, by decide⟩ (fun q => ?_) (fun q => ?_)
          ·
            have h := wp_pos h q
            exact hj151 _ h _ l0
          ·
            have h := wp_neg h q
            refine rs_aldn wi_214_143 l0 ?_
            refine rs_aldn wi_214_144 l0 ?_
            refine dq_gi wi_214_145 wf_214_217 tf_150_12 ?_
            obtain ⟨c36, e37, h⟩ := wp_lt h
            refine dq_pi wi_214_148 wp_214_214 tf_150_14 rfl rfl e37 ?_
            exact hj151 _ h _ l0
        ·
          have h := wp_neg h q
          refine rs_aldn wi_214_71 l0 ?_
          refine rs_pure wi_214_72 rfl ?_
          refine rs_topi (v := (-2)) (by decide) ?_
          obtain ⟨c38, e39, h⟩ := wp_lt h
          refine dq_pi wi_214_74 wp_214_214 tf_150_14 rfl rfl e39 ?_
          exact rs_vret wi_214_77 wr_214 (hQ c38 h)
      ·
        intro x40 h lv
        have h := wp_inr h
        exact rs_vret wi_214_45 wr_214 (hQ c h)
  ·
    have h := wp_neg h q
    exact rs_vret wi_214_8 wr_214 (hQ c h)
theorem wa_5_214 : rz_cn 5 (rx_yn (rt_P sc fm) 214).cls = true := (by decide +kernel : rz_cn 5 (rt_yn 214).cls = true)
theorem wc_213_136 : rx_ct (rt_P sc fm) 213 136 = some (0, 202, 2) := (by decide +kernel : rt_ct 213 136 = some (0, 202, 2))
theorem wc_213_140 : rx_ct (rt_P sc fm) 213 140 = some (0, 167, 1) := (by decide +kernel : rt_ct 213 140 = some (0, 167, 1))
theorem wc_213_150 : rx_ct (rt_P sc fm) 213 150 = some (0, 204, 2) := (by decide +kernel : rt_ct 213 150 = some (0, 204, 2))
theorem wc_213_223 : rx_ct (rt_P sc fm) 213 223 = some (0, 214, 3) := (by decide +kernel : rt_ct 213 223 = some (0, 214, 3))
theorem wf_213_147 : rx_ft (rt_P sc fm) 213 147 = some (2, 11) := (by decide +kernel : rt_ft 213 147 = some (2, 11))
theorem wf_213_23 : rx_ft (rt_P sc fm) 213 23 = some (5, 7) := (by decide +kernel : rt_ft 213 23 = some (5, 7))
theorem wf_213_26 : rx_ft (rt_P sc fm) 213 26 = some (5, 8) := (by decide +kernel : rt_ft 213 26 = some (5, 8))
theorem wf_213_45 : rx_ft (rt_P sc fm) 213 45 = some (5, 1) := (by decide +kernel : rt_ft 213 45 = some (5, 1))
theorem wi_213_0 : ri (rt_P sc fm) 213 0 (.aload_n 0) (1) := ri_of (by decide +kernel) rfl
theorem wi_213_1 : ri (rt_P sc fm) 213 1 (.getfield 23) (4) := ri_of (by decide +kernel) rfl
theorem wi_213_10 : ri (rt_P sc fm) 213 10 (.istore 4) (12) := ri_of (by decide +kernel) rfl
theorem wi_213_100 : ri (rt_P sc fm) 213 100 (.invokevirtual 150) (103) := ri_of (by decide +kernel) rfl
theorem wi_213_103 : ri (rt_P sc fm) 213 103 (.iload_n 1) (104) := ri_of (by decide +kernel) rfl
theorem wi_213_104 : ri (rt_P sc fm) 213 104 (.invokevirtual 223) (107) := ri_of (by decide +kernel) rfl
theorem wi_213_107 : ri (rt_P sc fm) 213 107 (.return_) (108) := ri_of (by decide +kernel) rfl
theorem wi_213_12 : ri (rt_P sc fm) 213 12 (.aload_n 0) (13) := ri_of (by decide +kernel) rfl
theorem wi_213_13 : ri (rt_P sc fm) 213 13 (.getfield 45) (16) := ri_of (by decide +kernel) rfl
theorem wi_213_16 : ri (rt_P sc fm) 213 16 (.getfield 147) (19) := ri_of (by decide +kernel) rfl
theorem wi_213_19 : ri (rt_P sc fm) 213 19 (.iload 4) (21) := ri_of (by decide +kernel) rfl
theorem wi_213_21 : ri (rt_P sc fm) 213 21 (.iaload) (22) := ri_of (by decide +kernel) rfl
theorem wi_213_22 : ri (rt_P sc fm) 213 22 (.istore 5) (24) := ri_of (by decide +kernel) rfl
theorem wi_213_24 : ri (rt_P sc fm) 213 24 (.aload_n 0) (25) := ri_of (by decide +kernel) rfl
theorem wi_213_25 : ri (rt_P sc fm) 213 25 (.iload 4) (27) := ri_of (by decide +kernel) rfl
theorem wi_213_27 : ri (rt_P sc fm) 213 27 (.aload_n 0) (28) := ri_of (by decide +kernel) rfl
theorem wi_213_28 : ri (rt_P sc fm) 213 28 (.getfield 26) (31) := ri_of (by decide +kernel) rfl
theorem wi_213_31 : ri (rt_P sc fm) 213 31 (.iload_n 1) (32) := ri_of (by decide +kernel) rfl
theorem wi_213_32 : ri (rt_P sc fm) 213 32 (.laload) (33) := ri_of (by decide +kernel) rfl
theorem wi_213_33 : ri (rt_P sc fm) 213 33 (.invokevirtual 136) (36) := ri_of (by decide +kernel) rfl
theorem wi_213_36 : ri (rt_P sc fm) 213 36 (.lstore 6) (38) := ri_of (by decide +kernel) rfl
theorem wi_213_38 : ri (rt_P sc fm) 213 38 (.iload 5) (40) := ri_of (by decide +kernel) rfl
theorem wi_213_4 : ri (rt_P sc fm) 213 4 (.iload_n 1) (5) := ri_of (by decide +kernel) rfl
theorem wi_213_40 : ri (rt_P sc fm) 213 40 (.ifCond .lt 24) (43) := ri_of (by decide +kernel) rfl
theorem wi_213_43 : ri (rt_P sc fm) 213 43 (.iload 5) (45) := ri_of (by decide +kernel) rfl
theorem wi_213_45 : ri (rt_P sc fm) 213 45 (.iload_n 3) (46) := ri_of (by decide +kernel) rfl
theorem wi_213_46 : ri (rt_P sc fm) 213 46 (.if_icmp .gt 18) (49) := ri_of (by decide +kernel) rfl
theorem wi_213_49 : ri (rt_P sc fm) 213 49 (.aload_n 0) (50) := ri_of (by decide +kernel) rfl
theorem wi_213_5 : ri (rt_P sc fm) 213 5 (.iaload) (6) := ri_of (by decide +kernel) rfl
theorem wi_213_50 : ri (rt_P sc fm) 213 50 (.iload 5) (52) := ri_of (by decide +kernel) rfl
theorem wi_213_52 : ri (rt_P sc fm) 213 52 (.aload_n 0) (53) := ri_of (by decide +kernel) rfl
theorem wi_213_53 : ri (rt_P sc fm) 213 53 (.iload 4) (55) := ri_of (by decide +kernel) rfl
theorem wi_213_55 : ri (rt_P sc fm) 213 55 (.lload 6) (57) := ri_of (by decide +kernel) rfl
theorem wi_213_57 : ri (rt_P sc fm) 213 57 (.invokevirtual 150) (60) := ri_of (by decide +kernel) rfl
theorem wi_213_6 : ri (rt_P sc fm) 213 6 (.istore_n 3) (7) := ri_of (by decide +kernel) rfl
theorem wi_213_60 : ri (rt_P sc fm) 213 60 (.iload_n 1) (61) := ri_of (by decide +kernel) rfl
theorem wi_213_61 : ri (rt_P sc fm) 213 61 (.invokevirtual 223) (64) := ri_of (by decide +kernel) rfl
theorem wi_213_64 : ri (rt_P sc fm) 213 64 (.aload_n 0) (65) := ri_of (by decide +kernel) rfl
theorem wi_213_65 : ri (rt_P sc fm) 213 65 (.getfield 45) (68) := ri_of (by decide +kernel) rfl
theorem wi_213_68 : ri (rt_P sc fm) 213 68 (.iload 4) (70) := ri_of (by decide +kernel) rfl
theorem wi_213_7 : ri (rt_P sc fm) 213 7 (.iload_n 2) (8) := ri_of (by decide +kernel) rfl
theorem wi_213_70 : ri (rt_P sc fm) 213 70 (.invokevirtual 140) (73) := ri_of (by decide +kernel) rfl
theorem wi_213_73 : ri (rt_P sc fm) 213 73 (.ifCond .eq 13) (76) := ri_of (by decide +kernel) rfl
theorem wi_213_76 : ri (rt_P sc fm) 213 76 (.aload_n 0) (77) := ri_of (by decide +kernel) rfl
theorem wi_213_77 : ri (rt_P sc fm) 213 77 (.iload_n 3) (78) := ri_of (by decide +kernel) rfl
theorem wi_213_78 : ri (rt_P sc fm) 213 78 (.iconst 1) (79) := ri_of (by decide +kernel) rfl
theorem wi_213_79 : ri (rt_P sc fm) 213 79 (.iadd) (80) := ri_of (by decide +kernel) rfl
theorem wi_213_8 : ri (rt_P sc fm) 213 8 (.iload_n 3) (9) := ri_of (by decide +kernel) rfl
theorem wi_213_80 : ri (rt_P sc fm) 213 80 (.lload 6) (82) := ri_of (by decide +kernel) rfl
theorem wi_213_82 : ri (rt_P sc fm) 213 82 (.iload_n 1) (83) := ri_of (by decide +kernel) rfl
theorem wi_213_83 : ri (rt_P sc fm) 213 83 (.invokevirtual 223) (86) := ri_of (by decide +kernel) rfl
theorem wi_213_86 : ri (rt_P sc fm) 213 86 (.iload 5) (88) := ri_of (by decide +kernel) rfl
theorem wi_213_88 : ri (rt_P sc fm) 213 88 (.iload_n 3) (89) := ri_of (by decide +kernel) rfl
theorem wi_213_89 : ri (rt_P sc fm) 213 89 (.if_icmp .le 18) (92) := ri_of (by decide +kernel) rfl
theorem wi_213_9 : ri (rt_P sc fm) 213 9 (.iadd) (10) := ri_of (by decide +kernel) rfl
theorem wi_213_92 : ri (rt_P sc fm) 213 92 (.aload_n 0) (93) := ri_of (by decide +kernel) rfl
theorem wi_213_93 : ri (rt_P sc fm) 213 93 (.iload 5) (95) := ri_of (by decide +kernel) rfl
theorem wi_213_95 : ri (rt_P sc fm) 213 95 (.aload_n 0) (96) := ri_of (by decide +kernel) rfl
theorem wi_213_96 : ri (rt_P sc fm) 213 96 (.iload 4) (98) := ri_of (by decide +kernel) rfl
theorem wi_213_98 : ri (rt_P sc fm) 213 98 (.lload 6) (100) := ri_of (by decide +kernel) rfl
theorem wm_214 : rx_ml (rt_P sc fm) 214 = 7 := (by decide +kernel : rt_ml 214 = 7)
theorem wr_213 : rx_rt (rt_P sc fm) 213 = none := (by decide +kernel : rt_rt 213 = none)
/-- MarkHouse$Flow.goOnFrom(II)V -/
def d_213 (n : Nat) (a1 : Int32) (a2 : Int32) (c : cS) : Option (cS) :=
  if ib a1 400 then
  lt ((c.1 153 (ix a1)) : Int32) (fun v3 =>
  lt ((a2 + v3) : Int32) (fun v6 =>
  if ib v6 1024 then
  lt ((c.1 124 (ix v6)) : Int32) (fun v10 =>
  if ib a1 400 then
  Option.bind (d_202 n v6 (c.2 154 (ix a1)) c) (fun v13 =>
  jn (fun p15 : cS =>
    Option.bind (d_167 n v6 p15) (fun v16 =>
    jn (fun p17 : cS =>
      jn (fun p18 : cS =>
        some p18)
      (fun j107 =>
      if v10 ≤ v3 then
        j107 p17
      else
        Option.bind (d_204 n v6 v13 p17) (fun v19 =>
        Option.bind (d_214 n v10 v19 a1 p17) (fun r20 =>
        j107 r20))))
    (fun j86 =>
    if v16 = 0 then
      j86 p15
    else
      Option.bind (d_214 n (v3 + 1) v13 a1 p15) (fun r21 =>
      j86 r21))))
  (fun j64 =>
  if v10 < 0 then
    j64 c
  else
    if v3 < v10 then
      j64 c
    else
      Option.bind (d_204 n v6 v13 c) (fun v22 =>
      Option.bind (d_214 n v10 v22 a1 c) (fun r23 =>
      j64 r23))))
  else none)
  else none))
  else none
theorem sp_213 {F Lo n : Nat} {a1 : Int32} {a2 : Int32} {c y : cS} {w : cW} {K : cS → Prop} {Q : ((Option Value) ⊕ String) → List va_E → Prop} (hw : rOK fm w) (hF : 5 ≤ F) (hLo : 121 ≤ Lo)  (h : wp (d_213 n a1 a2 c) K) (hQ : ∀ r, K r → Q (.inl none) (hq true r y w)) : rs (rt_P sc fm) 213 F Lo 0 [(0, .ref 150), (1, .int a1), (2, .int a2)] [] (hq true c y w) Q := by
  unfold d_213 at h
  obtain ⟨lv, elv⟩ : ∃ lv : rx_L, lv = [(0, .ref 150), (1, .int a1), (2, .int a2)] := ⟨_, rfl⟩
  rw [← elv]
  have l0 : rx_ld lv 0 = some (.ref 150) := by rw [elv]; rfl
  have l1 : rx_ld lv 1 = some (.int a1) := by rw [elv]; rfl
  have l2 : rx_ld lv 2 = some (.int a2) := by rw [elv]; rfl
  refine rs_aldn wi_213_0 l0 ?_
  refine dq_gr wi_213_1 wf_213_23 tf_150_7 ?_
  refine rs_ildn wi_213_4 l1 ?_
  obtain ⟨g1, h⟩ := wp_gd h
  refine dq_iald wi_213_5 t_153 g1 ?_
  obtain ⟨v3, e4, h⟩ := wp_lt h
  refine rs_topi e4 ?_
  refine dl_istn wi_213_6 rfl (fun lv l3 t2 => ?_)
  have l0 := t2 _ _ (by decide) (Or.inl rfl) l0
  have l1 := t2 _ _ (by decide) (Or.inl rfl) l1
  have l2 := t2 _ _ (by decide) (Or.inl rfl) l2
  refine rs_ildn wi_213_7 l2 ?_
  refine rs_ildn wi_213_8 l3 ?_
  refine rs_pure wi_213_9 rfl ?_
  obtain ⟨v6, e7, h⟩ := wp_lt h
  refine rs_topi e7 ?_
  refine dl_ist wi_213_10 rfl (fun lv l4 t5 => ?_)
  have l0 := t5 _ _ (by decide) (Or.inl rfl) l0
  have l1 := t5 _ _ (by decide) (Or.inl rfl) l1
  have l3 := t5 _ _ (by decide) (Or.inl rfl) l3
  refine rs_aldn wi_213_12 l0 ?_
  refine dq_gr wi_213_13 wf_213_45 tf_150_1 ?_
  refine dq_gr wi_213_16 wf_213_147 tf_114_11 ?_
  refine rs_ild wi_213_19 l4 ?_
  obtain ⟨g8, h⟩ := wp_gd h
  refine dq_iald wi_213_21 t_124 g8 ?_
  obtain ⟨v10, e11, h⟩ := wp_lt h
  refine rs_topi e11 ?_
  refine dl_ist wi_213_22 rfl (fun lv l5 t9 => ?_)
  have l0 := t9 _ _ (by decide) (Or.inl rfl) l0
  have l1 := t9 _ _ (by decide) (Or.inl rfl) l1
  have l3 := t9 _ _ (by decide) (Or.inl rfl) l3
  have l4 := t9 _ _ (by decide) (Or.inl rfl) l4
  refine rs_aldn wi_213_24 l0 ?_
  refine rs_ild wi_213_25 l4 ?_
  refine rs_aldn wi_213_27 l0 ?_
  refine dq_gr wi_213_28 wf_213_26 tf_150_8 ?_
  refine rs_ildn wi_213_31 l1 ?_
  obtain ⟨g12, h⟩ := wp_gd h
  refine dq_lald wi_213_32 t_154 g12 ?_
  refine rs_V wi_213_33 wc_213_136 rfl (dq_isa tf_150_0 wa_5_202) (Nat.le_trans (by decide) hF) (ml_le wm_202 (Nat.le_trans (by decide) hLo)) rfl (sp_202 hw (Nat.le_trans (by decide : 2 ≤ 5 - 1) (Nat.sub_le_sub_right hF 1)) (ml_sub wm_202 (Nat.le_trans (by decide : 51 ≤ 121 - 25) (Nat.sub_le_sub_right hLo 25))) (wp_bind h) (fun v13 h => rs_back1 ?_))
  refine dl_lst wi_213_36 rfl (fun lv l6 t14 => ?_)
  have l0 := t14 _ _ (by decide) (by decide) (Or.inl rfl) l0
  have l1 := t14 _ _ (by decide) (by decide) (Or.inl rfl) l1
  have l3 := t14 _ _ (by decide) (by decide) (Or.inl rfl) l3
  have l4 := t14 _ _ (by decide) (by decide) (Or.inl rfl) l4
  have l5 := t14 _ _ (by decide) (by decide) (Or.inl rfl) l5
  refine rs_ild wi_213_38 l5 ?_
  refine wp_jn (B := fun p15 : cS => ∀ lv, rx_ld lv 0 = some (.ref 150) → rx_ld lv 1 = some (.int a1) → rx_ld lv 3 = some (.int v3) → rx_ld lv 4 = some (.int v6) → rx_ld lv 5 = some (.int v10) → rx_ld lv 6 = some (.long v13) → rs (rt_P sc fm) 213 F Lo 64 lv [] (hq true p15 y w) Q) h (fun p15 h lv l0 l1 l3 l4 l5 l6 => ?_) (fun j64 hj64 h => ?_)
  ·
    refine rs_aldn wi_213_64 l0 ?_
    refine dq_gr wi_213_65 wf_213_45 tf_150_1 ?_
    refine rs_ild wi_213_68 l4 ?_
    refine rs_V wi_213_70 wc_213_140 rfl (dq_isa tf_114_0 wa_2_167) (Nat.le_trans (by decide) hF) (ml_le wm_167 (Nat.le_trans (by decide) hLo)) rfl (sp_167 hw (Nat.le_trans (by decide : 0 ≤ 5 - 1) (Nat.sub_le_sub_right hF 1)) (ml_sub wm_167 (Nat.le_trans (by decide : 0 ≤ 121 - 21) (Nat.sub_le_sub_right hLo 21))) (wp_bind h) (fun v16 h => rs_back1 ?_))
    refine wp_jn (B := fun p17 : cS => ∀ lv, rx_ld lv 0 = some (.ref 150) → rx_ld lv 1 = some (.int a1) → rx_ld lv 3 = some (.int v3) → rx_ld lv 4 = some (.int v6) → rx_ld lv 5 = some (.int v10) → rx_ld lv 6 = some (.long v13) → rs (rt_P sc fm) 213 F Lo 86 lv [] (hq true p17 y w) Q) h (fun p17 h lv l0 l1 l3 l4 l5 l6 => ?_) (fun j86 hj86 h => ?_)
    ·
      refine rs_ild wi_213_86 l5 ?_
      refine rs_ildn wi_213_88 l3 ?_
      refine wp_jn (B := fun p18 : cS => ∀ lv, rs (rt_P sc fm) 213 F Lo 107 lv [] (hq true p18 y w) Q) h (fun p18 h lv => ?_) (fun j107 hj107 h => ?_)
      ·
        exact rs_vret wi_213_107 wr_213 (hQ p18 h)
      refine rs_icle (tg := 107) wi_213_89 ⟨by decide, by decide⟩ (fun q => ?_) (fun q => ?_)
      ·
        have h := wp_pos h q
        exact hj107 _ h _
      ·
        have h := wp_neg h q
        refine rs_aldn wi_213_92 l0 ?_
        refine rs_ild wi_213_93 l5 ?_
        refine rs_aldn wi_213_95 l0 ?_
        refine rs_ild wi_213_96 l4 ?_
        refine rs_lld wi_213_98 l6 ?_
        refine rs_V wi_213_100 wc_213_150 rfl (dq_isa tf_150_0 wa_5_204) (Nat.le_trans (by decide) hF) (ml_le wm_204 (Nat.le_trans (by decide) hLo)) rfl (sp_204 hw (Nat.le_trans (by decide : 1 ≤ 5 - 1) (Nat.sub_le_sub_right hF 1)) (ml_sub wm_204 (Nat.le_trans (by decide : 23 ≤ 121 - 24) (Nat.sub_le_sub_right hLo 24))) (wp_bind h) (fun v19 h => rs_back1 ?_))
        refine rs_ildn wi_213_103 l1 ?_
        refine rs_V wi_213_104 wc_213_223 rfl (dq_isa tf_150_0 wa_5_214) (Nat.le_trans (by decide) hF) (ml_le wm_214 (Nat.le_trans (by decide) hLo)) rfl (sp_214 hw (Nat.le_trans (by decide : 4 ≤ 5 - 1) (Nat.sub_le_sub_right hF 1)) (ml_sub wm_214 (Nat.le_trans (by decide : 95 ≤ 121 - 26) (Nat.sub_le_sub_right hLo 26))) (wp_bind h) (fun r20 h => rs_back0 ?_))
        exact hj107 _ h _
    refine rs_ifeq (tg := 86) wi_213_73 ⟨by decide, by decide⟩ (fun q => ?_) (fun q => ?_)
    ·
      have h := wp_pos h q
      exact hj86 _ h _ l0 l1 l3 l4 l5 l6
    ·
      have h := wp_neg h q
      refine rs_aldn wi_213_76 l0 ?_
      refine rs_ildn wi_213_77 l3 ?_
      refine rs_pure wi_213_78 rfl ?_
      refine rs_topi (v := 1) (by decide) ?_
      refine rs_pure wi_213_79 rfl ?_
      refine rs_lld wi_213_80 l6 ?_
      refine rs_ildn wi_213_82 l1 ?_
      refine rs_V wi_213_83 wc_213_223 rfl (dq_isa tf_150_0 wa_5_214) (Nat.le_trans (by decide) hF) (ml_le wm_214 (Nat.le_trans (by decide) hLo)) rfl (sp_214 hw (Nat.le_trans (by decide : 4 ≤ 5 - 1) (Nat.sub_le_sub_right hF 1)) (ml_sub wm_214 (Nat.le_trans (by decide : 95 ≤ 121 - 26) (Nat.sub_le_sub_right hLo 26))) (wp_bind h) (fun r21 h => rs_back0 ?_))
      exact hj86 _ h _ l0 l1 l3 l4 l5 l6
  refine rs_iflt (tg := 64) wi_213_40 ⟨by decide, by decide⟩ (fun q => ?_) (fun q => ?_)
  ·
    have h := wp_pos h q
    exact hj64 _ h _ l0 l1 l3 l4 l5 l6
  ·
    have h := wp_neg h q
    refine rs_ild wi_213_43 l5 ?_
    refine rs_ildn wi_213_45 l3 ?_
    refine rs_icgt (tg := 64) wi_213_46 ⟨by decide, by decide⟩ (fun q => ?_) (fun q => ?_)
    ·
      have h := wp_pos h q
      exact hj64 _ h _ l0 l1 l3 l4 l5 l6
    ·
      have h := wp_neg h q
      refine rs_aldn wi_213_49 l0 ?_
      refine rs_ild wi_213_50 l5 ?_
      refine rs_aldn wi_213_52 l0 ?_
      refine rs_ild wi_213_53 l4 ?_
      refine rs_lld wi_213_55 l6 ?_
      refine rs_V wi_213_57 wc_213_150 rfl (dq_isa tf_150_0 wa_5_204) (Nat.le_trans (by decide) hF) (ml_le wm_204 (Nat.le_trans (by decide) hLo)) rfl (sp_204 hw (Nat.le_trans (by decide : 1 ≤ 5 - 1) (Nat.sub_le_sub_right hF 1)) (ml_sub wm_204 (Nat.le_trans (by decide : 23 ≤ 121 - 24) (Nat.sub_le_sub_right hLo 24))) (wp_bind h) (fun v22 h => rs_back1 ?_))
      refine rs_ildn wi_213_60 l1 ?_
      refine rs_V wi_213_61 wc_213_223 rfl (dq_isa tf_150_0 wa_5_214) (Nat.le_trans (by decide) hF) (ml_le wm_214 (Nat.le_trans (by decide) hLo)) rfl (sp_214 hw (Nat.le_trans (by decide : 4 ≤ 5 - 1) (Nat.sub_le_sub_right hF 1)) (ml_sub wm_214 (Nat.le_trans (by decide : 95 ≤ 121 - 26) (Nat.sub_le_sub_right hLo 26))) (wp_bind h) (fun r23 h => rs_back0 ?_))
      exact hj64 _ h _ l0 l1 l3 l4 l5 l6
theorem t_158 : ta true 158 0 400 := ⟨rfl, by decide, by decide⟩
theorem tf_150_15 : fo true 150 5 15 (.ref 158) := ⟨_, rfl, rfl, by decide, by decide⟩
theorem wf_216_214 : rx_ft (rt_P sc fm) 216 214 = some (5, 14) := (by decide +kernel : rt_ft 216 214 = some (5, 14))
theorem wf_216_23 : rx_ft (rt_P sc fm) 216 23 = some (5, 7) := (by decide +kernel : rt_ft 216 23 = some (5, 7))
theorem wf_216_29 : rx_ft (rt_P sc fm) 216 29 = some (5, 9) := (by decide +kernel : rt_ft 216 29 = some (5, 9))
theorem wf_216_38 : rx_ft (rt_P sc fm) 216 38 = some (5, 15) := (by decide +kernel : rt_ft 216 38 = some (5, 15))
theorem wf_216_56 : rx_ft (rt_P sc fm) 216 56 = some (5, 16) := (by decide +kernel : rt_ft 216 56 = some (5, 16))
theorem wi_216_0 : ri (rt_P sc fm) 216 0 (.aload_n 0) (1) := ri_of (by decide +kernel) rfl
theorem wi_216_1 : ri (rt_P sc fm) 216 1 (.iconst 0) (2) := ri_of (by decide +kernel) rfl
theorem wi_216_10 : ri (rt_P sc fm) 216 10 (.iconst 0) (11) := ri_of (by decide +kernel) rfl
theorem wi_216_11 : ri (rt_P sc fm) 216 11 (.istore_n 2) (12) := ri_of (by decide +kernel) rfl
theorem wi_216_12 : ri (rt_P sc fm) 216 12 (.iload_n 2) (13) := ri_of (by decide +kernel) rfl
theorem wi_216_13 : ri (rt_P sc fm) 216 13 (.sipush 400) (16) := ri_of (by decide +kernel) rfl
theorem wi_216_16 : ri (rt_P sc fm) 216 16 (.if_icmp .ge 30) (19) := ri_of (by decide +kernel) rfl
theorem wi_216_19 : ri (rt_P sc fm) 216 19 (.iload_n 1) (20) := ri_of (by decide +kernel) rfl
theorem wi_216_2 : ri (rt_P sc fm) 216 2 (.putfield 56) (5) := ri_of (by decide +kernel) rfl
theorem wi_216_20 : ri (rt_P sc fm) 216 20 (.ifCond .lt 26) (23) := ri_of (by decide +kernel) rfl
theorem wi_216_23 : ri (rt_P sc fm) 216 23 (.aload_n 0) (24) := ri_of (by decide +kernel) rfl
theorem wi_216_24 : ri (rt_P sc fm) 216 24 (.dup) (25) := ri_of (by decide +kernel) rfl
theorem wi_216_25 : ri (rt_P sc fm) 216 25 (.getfield 56) (28) := ri_of (by decide +kernel) rfl
theorem wi_216_28 : ri (rt_P sc fm) 216 28 (.iconst 1) (29) := ri_of (by decide +kernel) rfl
theorem wi_216_29 : ri (rt_P sc fm) 216 29 (.iadd) (30) := ri_of (by decide +kernel) rfl
theorem wi_216_30 : ri (rt_P sc fm) 216 30 (.putfield 56) (33) := ri_of (by decide +kernel) rfl
theorem wi_216_33 : ri (rt_P sc fm) 216 33 (.aload_n 0) (34) := ri_of (by decide +kernel) rfl
theorem wi_216_34 : ri (rt_P sc fm) 216 34 (.getfield 29) (37) := ri_of (by decide +kernel) rfl
theorem wi_216_37 : ri (rt_P sc fm) 216 37 (.iload_n 1) (38) := ri_of (by decide +kernel) rfl
theorem wi_216_38 : ri (rt_P sc fm) 216 38 (.iaload) (39) := ri_of (by decide +kernel) rfl
theorem wi_216_39 : ri (rt_P sc fm) 216 39 (.istore_n 1) (40) := ri_of (by decide +kernel) rfl
theorem wi_216_40 : ri (rt_P sc fm) 216 40 (.iinc 2 1) (43) := ri_of (by decide +kernel) rfl
theorem wi_216_43 : ri (rt_P sc fm) 216 43 (.goto (-31)) (46) := ri_of (by decide +kernel) rfl
theorem wi_216_46 : ri (rt_P sc fm) 216 46 (.aload_n 0) (47) := ri_of (by decide +kernel) rfl
theorem wi_216_47 : ri (rt_P sc fm) 216 47 (.getfield 214) (50) := ri_of (by decide +kernel) rfl
theorem wi_216_5 : ri (rt_P sc fm) 216 5 (.aload_n 0) (6) := ri_of (by decide +kernel) rfl
theorem wi_216_50 : ri (rt_P sc fm) 216 50 (.istore_n 1) (51) := ri_of (by decide +kernel) rfl
theorem wi_216_51 : ri (rt_P sc fm) 216 51 (.aload_n 0) (52) := ri_of (by decide +kernel) rfl
theorem wi_216_52 : ri (rt_P sc fm) 216 52 (.getfield 56) (55) := ri_of (by decide +kernel) rfl
theorem wi_216_55 : ri (rt_P sc fm) 216 55 (.iconst 1) (56) := ri_of (by decide +kernel) rfl
theorem wi_216_56 : ri (rt_P sc fm) 216 56 (.isub) (57) := ri_of (by decide +kernel) rfl
theorem wi_216_57 : ri (rt_P sc fm) 216 57 (.istore_n 2) (58) := ri_of (by decide +kernel) rfl
theorem wi_216_58 : ri (rt_P sc fm) 216 58 (.iload_n 2) (59) := ri_of (by decide +kernel) rfl
theorem wi_216_59 : ri (rt_P sc fm) 216 59 (.ifCond .lt 28) (62) := ri_of (by decide +kernel) rfl
theorem wi_216_6 : ri (rt_P sc fm) 216 6 (.getfield 214) (9) := ri_of (by decide +kernel) rfl
theorem wi_216_62 : ri (rt_P sc fm) 216 62 (.aload_n 0) (63) := ri_of (by decide +kernel) rfl
theorem wi_216_63 : ri (rt_P sc fm) 216 63 (.getfield 38) (66) := ri_of (by decide +kernel) rfl
theorem wi_216_66 : ri (rt_P sc fm) 216 66 (.iload_n 2) (67) := ri_of (by decide +kernel) rfl
theorem wi_216_67 : ri (rt_P sc fm) 216 67 (.aload_n 0) (68) := ri_of (by decide +kernel) rfl
theorem wi_216_68 : ri (rt_P sc fm) 216 68 (.getfield 23) (71) := ri_of (by decide +kernel) rfl
theorem wi_216_71 : ri (rt_P sc fm) 216 71 (.iload_n 1) (72) := ri_of (by decide +kernel) rfl
theorem wi_216_72 : ri (rt_P sc fm) 216 72 (.iaload) (73) := ri_of (by decide +kernel) rfl
theorem wi_216_73 : ri (rt_P sc fm) 216 73 (.iastore) (74) := ri_of (by decide +kernel) rfl
theorem wi_216_74 : ri (rt_P sc fm) 216 74 (.aload_n 0) (75) := ri_of (by decide +kernel) rfl
theorem wi_216_75 : ri (rt_P sc fm) 216 75 (.getfield 29) (78) := ri_of (by decide +kernel) rfl
theorem wi_216_78 : ri (rt_P sc fm) 216 78 (.iload_n 1) (79) := ri_of (by decide +kernel) rfl
theorem wi_216_79 : ri (rt_P sc fm) 216 79 (.iaload) (80) := ri_of (by decide +kernel) rfl
theorem wi_216_80 : ri (rt_P sc fm) 216 80 (.istore_n 1) (81) := ri_of (by decide +kernel) rfl
theorem wi_216_81 : ri (rt_P sc fm) 216 81 (.iinc 2 (-1)) (84) := ri_of (by decide +kernel) rfl
theorem wi_216_84 : ri (rt_P sc fm) 216 84 (.goto (-26)) (87) := ri_of (by decide +kernel) rfl
theorem wi_216_87 : ri (rt_P sc fm) 216 87 (.aload_n 0) (88) := ri_of (by decide +kernel) rfl
theorem wi_216_88 : ri (rt_P sc fm) 216 88 (.getfield 56) (91) := ri_of (by decide +kernel) rfl
theorem wi_216_9 : ri (rt_P sc fm) 216 9 (.istore_n 1) (10) := ri_of (by decide +kernel) rfl
theorem wi_216_91 : ri (rt_P sc fm) 216 91 (.ireturn) (92) := ri_of (by decide +kernel) rfl
theorem wp_216_56 : rx_pt (rt_P sc fm) 216 56 = some (5, 16, .int) := (by decide +kernel : rt_pt 216 56 = some (5, 16, .int))
theorem wr_216 : rx_rt (rt_P sc fm) 216 = (some FieldType.int) := (by decide +kernel : rt_rt 216 = (some FieldType.int))
/-- MarkHouse$Flow.keepSteps()I -/
def d_216 (n : Nat)  (c : cS) : Option (Int32 × cS) :=
  lt (pI c 150 16 0) (fun c1 =>
  lt ((c1.1 150 14) : Int32) (fun v4 =>
  Option.bind (whl (R := (cS)) (fun s7 : Int32 × Int32 × cS =>
    if 400 ≤ s7.2.1 then
      some (.inr s7.2.2)
    else
      if s7.1 < 0 then
        some (.inr s7.2.2)
      else
        lt (pI s7.2.2 150 16 ((s7.2.2.1 150 16) + 1)) (fun c8 =>
        if ib s7.1 400 then
        lt ((c8.1 155 (ix s7.1)) : Int32) (fun v12 =>
        lt (s7.2.1 + 1 : Int32) (fun v15 =>
        some (.inl (v12, v15, c8))))
        else none)) n (v4, 0, c1))
  (fun x17 : cS =>
    lt ((x17.1 150 14) : Int32) (fun v19 =>
    lt (((x17.1 150 16) - 1) : Int32) (fun v22 =>
    Option.bind (whl (R := (cS)) (fun s24 : Int32 × Int32 × cS =>
      if s24.2.1 < 0 then
        some (.inr s24.2.2)
      else
        if ib s24.1 400 then
        if ib s24.2.1 400 then
        lt (pI s24.2.2 158 (ix s24.2.1) (s24.2.2.1 153 (ix s24.1))) (fun c27 =>
        if ib s24.1 400 then
        lt ((c27.1 155 (ix s24.1)) : Int32) (fun v31 =>
        lt (s24.2.1 + (-1) : Int32) (fun v34 =>
        some (.inl (v31, v34, c27))))
        else none)
        else none
        else none) n (v19, v22, x17))
    (fun x36 : cS =>
      some ((x36.1 150 16), x36)))))))
theorem sp_216 {F Lo n : Nat}  {c y : cS} {w : cW} {K : Int32 × cS → Prop} {Q : ((Option Value) ⊕ String) → List va_E → Prop} (hw : rOK fm w) (hF : 0 ≤ F) (hLo : 0 ≤ Lo)  (h : wp (d_216 n  c) K) (hQ : ∀ r, K r → Q (.inl (some (.int r.1))) (hq true r.2 y w)) : rs (rt_P sc fm) 216 F Lo 0 [(0, .ref 150)] [] (hq true c y w) Q := by
  unfold d_216 at h
  obtain ⟨lv, elv⟩ : ∃ lv : rx_L, lv = [(0, .ref 150)] := ⟨_, rfl⟩
  rw [← elv]
  have l0 : rx_ld lv 0 = some (.ref 150) := by rw [elv]; rfl
  refine rs_aldn wi_216_0 l0 ?_
  refine rs_pure wi_216_1 rfl ?_
  refine rs_topi (v := 0) (by decide) ?_
  obtain ⟨c1, e2, h⟩ := wp_lt h
  refine dq_pi wi_216_2 wp_216_56 tf_150_16 rfl rfl e2 ?_
  refine rs_aldn wi_216_5 l0 ?_
  refine dq_gi wi_216_6 wf_216_214 tf_150_14 ?_
  obtain ⟨v4, e5, h⟩ := wp_lt h
  refine rs_topi e5 ?_
  refine dl_istn wi_216_9 rfl (fun lv l1 t3 => ?_)
  have l0 := t3 _ _ (by decide) (Or.inl rfl) l0
  refine rs_pure wi_216_10 rfl ?_
  refine rs_topi (v := 0) (by decide) ?_
  refine dl_istn wi_216_11 rfl (fun lv l2 t6 => ?_)
  have l0 := t6 _ _ (by decide) (Or.inl rfl) l0
  have l1 := t6 _ _ (by decide) (Or.inl rfl) l1
  refine whl_ex (A := fun s7 : Int32 × Int32 × cS => ∀ lv, rx_ld lv 0 = some (.ref 150) → rx_ld lv 1 = some (.int s7.1) → rx_ld lv 2 = some (.int s7.2.1) → rs (rt_P sc fm) 216 F Lo 12 lv [] (hq true s7.2.2 y w) Q) (B := (fun x17 : cS => ∀ lv, rx_ld lv 0 = some (.ref 150) → rs (rt_P sc fm) 216 F Lo 46 lv [] (hq true x17 y w) Q)) ?_ ?_ _ _ (wp_bind h) _ l0 l1 l2
  · intro s7 h lv l0 l1 l2
    refine rs_ildn wi_216_12 l2 ?_
    refine rs_pure wi_216_13 rfl ?_
    refine rs_topi (v := 400) (by decide) ?_
    refine rs_icge (tg := 46) wi_216_16 ⟨by decide, by decide⟩ (fun q => ?_) (fun q => ?_)
    ·
      have h := wp_pos h q
      exact h _ l0
    ·
      have h := wp_neg h q
      refine rs_ildn wi_216_19 l1 ?_
      refine rs_iflt (tg := 46) wi_216_20 ⟨by decide, by decide⟩ (fun q => ?_) (fun q => ?_)
      ·
        have h := wp_pos h q
        exact h _ l0
      ·
        have h := wp_neg h q
        refine rs_aldn wi_216_23 l0 ?_
        refine rs_pure wi_216_24 rfl ?_
        refine dq_gi wi_216_25 wf_216_56 tf_150_16 ?_
        refine rs_pure wi_216_28 rfl ?_
        refine rs_topi (v := 1) (by decide) ?_
        refine rs_pure wi_216_29 rfl ?_
        obtain ⟨c8, e9, h⟩ := wp_lt h
        refine dq_pi wi_216_30 wp_216_56 tf_150_16 rfl rfl e9 ?_
        refine rs_aldn wi_216_33 l0 ?_
        refine dq_gr wi_216_34 wf_216_29 tf_150_9 ?_
        refine rs_ildn wi_216_37 l1 ?_
        obtain ⟨g10, h⟩ := wp_gd h
        refine dq_iald wi_216_38 t_155 g10 ?_
        obtain ⟨v12, e13, h⟩ := wp_lt h
        refine rs_topi e13 ?_
        refine dl_istn wi_216_39 rfl (fun lv l1 t11 => ?_)
        have l0 := t11 _ _ (by decide) (Or.inl rfl) l0
        have l2 := t11 _ _ (by decide) (Or.inl rfl) l2
        obtain ⟨v15, e16, h⟩ := wp_lt h
        refine dl_inc wi_216_40 l2 rfl e16 (fun lv l2 t14 => ?_)
        have l0 := t14 _ _ (by decide) (Or.inl rfl) l0
        have l1 := t14 _ _ (by decide) (Or.inl rfl) l1
        refine rs_goto (tg := 12) wi_216_43 ⟨by decide, by decide⟩ ?_
        exact h _ l0 l1 l2
  ·
    intro x17 h lv l0
    refine rs_aldn wi_216_46 l0 ?_
    refine dq_gi wi_216_47 wf_216_214 tf_150_14 ?_
    obtain ⟨v19, e20, h⟩ := wp_lt h
    refine rs_topi e20 ?_
    refine dl_istn wi_216_50 rfl (fun lv l1 t18 => ?_)
    have l0 := t18 _ _ (by decide) (Or.inl rfl) l0
    refine rs_aldn wi_216_51 l0 ?_
    refine dq_gi wi_216_52 wf_216_56 tf_150_16 ?_
    refine rs_pure wi_216_55 rfl ?_
    refine rs_topi (v := 1) (by decide) ?_
    refine rs_pure wi_216_56 rfl ?_
    obtain ⟨v22, e23, h⟩ := wp_lt h
    refine rs_topi e23 ?_
    refine dl_istn wi_216_57 rfl (fun lv l2 t21 => ?_)
    have l0 := t21 _ _ (by decide) (Or.inl rfl) l0
    have l1 := t21 _ _ (by decide) (Or.inl rfl) l1
    refine whl_ex (A := fun s24 : Int32 × Int32 × cS => ∀ lv, rx_ld lv 0 = some (.ref 150) → rx_ld lv 1 = some (.int s24.1) → rx_ld lv 2 = some (.int s24.2.1) → rs (rt_P sc fm) 216 F Lo 58 lv [] (hq true s24.2.2 y w) Q) (B := (fun x36 : cS => ∀ lv, rx_ld lv 0 = some (.ref 150) → rs (rt_P sc fm) 216 F Lo 87 lv [] (hq true x36 y w) Q)) ?_ ?_ _ _ (wp_bind h) _ l0 l1 l2
    · intro s24 h lv l0 l1 l2
      refine rs_ildn wi_216_58 l2 ?_
      refine rs_iflt (tg := 87) wi_216_59 ⟨by decide, by decide⟩ (fun q => ?_) (fun q => ?_)
      ·
        have h := wp_pos h q
        exact h _ l0
      ·
        have h := wp_neg h q
        refine rs_aldn wi_216_62 l0 ?_
        refine dq_gr wi_216_63 wf_216_38 tf_150_15 ?_
        refine rs_ildn wi_216_66 l2 ?_
        refine rs_aldn wi_216_67 l0 ?_
        refine dq_gr wi_216_68 wf_216_23 tf_150_7 ?_
        refine rs_ildn wi_216_71 l1 ?_
        obtain ⟨g25, h⟩ := wp_gd h
        refine dq_iald wi_216_72 t_153 g25 ?_
        obtain ⟨g26, h⟩ := wp_gd h
        obtain ⟨c27, e28, h⟩ := wp_lt h
        refine dq_iast wi_216_73 t_158 g26 e28 ?_
        refine rs_aldn wi_216_74 l0 ?_
        refine dq_gr wi_216_75 wf_216_29 tf_150_9 ?_
        refine rs_ildn wi_216_78 l1 ?_
        obtain ⟨g29, h⟩ := wp_gd h
        refine dq_iald wi_216_79 t_155 g29 ?_
        obtain ⟨v31, e32, h⟩ := wp_lt h
        refine rs_topi e32 ?_
        refine dl_istn wi_216_80 rfl (fun lv l1 t30 => ?_)
        have l0 := t30 _ _ (by decide) (Or.inl rfl) l0
        have l2 := t30 _ _ (by decide) (Or.inl rfl) l2
        obtain ⟨v34, e35, h⟩ := wp_lt h
        refine dl_inc wi_216_81 l2 rfl e35 (fun lv l2 t33 => ?_)
        have l0 := t33 _ _ (by decide) (Or.inl rfl) l0
        have l1 := t33 _ _ (by decide) (Or.inl rfl) l1
        refine rs_goto (tg := 58) wi_216_84 ⟨by decide, by decide⟩ ?_
        exact h _ l0 l1 l2
    ·
      intro x36 h lv l0
      refine rs_aldn wi_216_87 l0 ?_
      refine dq_gi wi_216_88 wf_216_56 tf_150_16 ?_
      exact rs_iret wi_216_91 wr_216 rfl (hQ ((x36.1 150 16), x36) h)
theorem wa_5_213 : rz_cn 5 (rx_yn (rt_P sc fm) 213).cls = true := (by decide +kernel : rz_cn 5 (rt_yn 213).cls = true)
theorem wa_5_216 : rz_cn 5 (rx_yn (rt_P sc fm) 216).cls = true := (by decide +kernel : rz_cn 5 (rt_yn 216).cls = true)
theorem wc_212_220 : rx_ct (rt_P sc fm) 212 220 = some (1, 153, 2) := (by decide +kernel : rt_ct 212 220 = some (1, 153, 2))
theorem wc_212_223 : rx_ct (rt_P sc fm) 212 223 = some (0, 214, 3) := (by decide +kernel : rt_ct 212 223 = some (0, 214, 3))
theorem wc_212_227 : rx_ct (rt_P sc fm) 212 227 = some (0, 213, 2) := (by decide +kernel : rt_ct 212 227 = some (0, 213, 2))
theorem wc_212_231 : rx_ct (rt_P sc fm) 212 231 = some (0, 216, 0) := (by decide +kernel : rt_ct 212 231 = some (0, 216, 0))
theorem wc_212_90 : rx_ct (rt_P sc fm) 212 90 = some (0, 198, 1) := (by decide +kernel : rt_ct 212 90 = some (0, 198, 1))
theorem wf_212_19 : rx_ft (rt_P sc fm) 212 19 = some (5, 5) := (by decide +kernel : rt_ft 212 19 = some (5, 5))
theorem wf_212_211 : rx_ft (rt_P sc fm) 212 211 = some (5, 13) := (by decide +kernel : rt_ft 212 211 = some (5, 13))
theorem wf_212_214 : rx_ft (rt_P sc fm) 212 214 = some (5, 14) := (by decide +kernel : rt_ft 212 214 = some (5, 14))
theorem wf_212_217 : rx_ft (rt_P sc fm) 212 217 = some (5, 12) := (by decide +kernel : rt_ft 212 217 = some (5, 12))
theorem wf_212_35 : rx_ft (rt_P sc fm) 212 35 = some (5, 11) := (by decide +kernel : rt_ft 212 35 = some (5, 11))
theorem wf_212_45 : rx_ft (rt_P sc fm) 212 45 = some (5, 1) := (by decide +kernel : rt_ft 212 45 = some (5, 1))
theorem wf_212_76 : rx_ft (rt_P sc fm) 212 76 = some (2, 5) := (by decide +kernel : rt_ft 212 76 = some (2, 5))
theorem wi_212_0 : ri (rt_P sc fm) 212 0 (.aload_n 0) (1) := ri_of (by decide +kernel) rfl
theorem wi_212_1 : ri (rt_P sc fm) 212 1 (.aload_n 0) (2) := ri_of (by decide +kernel) rfl
theorem wi_212_10 : ri (rt_P sc fm) 212 10 (.aload_n 0) (11) := ri_of (by decide +kernel) rfl
theorem wi_212_102 : ri (rt_P sc fm) 212 102 (.bipush (-2)) (104) := ri_of (by decide +kernel) rfl
theorem wi_212_104 : ri (rt_P sc fm) 212 104 (.ireturn) (105) := ri_of (by decide +kernel) rfl
theorem wi_212_105 : ri (rt_P sc fm) 212 105 (.aload_n 0) (106) := ri_of (by decide +kernel) rfl
theorem wi_212_106 : ri (rt_P sc fm) 212 106 (.getfield 214) (109) := ri_of (by decide +kernel) rfl
theorem wi_212_109 : ri (rt_P sc fm) 212 109 (.iconst (-1)) (110) := ri_of (by decide +kernel) rfl
theorem wi_212_11 : ri (rt_P sc fm) 212 11 (.iconst (-1)) (12) := ri_of (by decide +kernel) rfl
theorem wi_212_110 : ri (rt_P sc fm) 212 110 (.if_icmp .ne 7) (113) := ri_of (by decide +kernel) rfl
theorem wi_212_113 : ri (rt_P sc fm) 212 113 (.iconst 0) (114) := ri_of (by decide +kernel) rfl
theorem wi_212_114 : ri (rt_P sc fm) 212 114 (.goto 7) (117) := ri_of (by decide +kernel) rfl
theorem wi_212_117 : ri (rt_P sc fm) 212 117 (.aload_n 0) (118) := ri_of (by decide +kernel) rfl
theorem wi_212_118 : ri (rt_P sc fm) 212 118 (.invokevirtual 231) (121) := ri_of (by decide +kernel) rfl
theorem wi_212_12 : ri (rt_P sc fm) 212 12 (.putfield 214) (15) := ri_of (by decide +kernel) rfl
theorem wi_212_121 : ri (rt_P sc fm) 212 121 (.ireturn) (122) := ri_of (by decide +kernel) rfl
theorem wi_212_15 : ri (rt_P sc fm) 212 15 (.aload_n 0) (16) := ri_of (by decide +kernel) rfl
theorem wi_212_16 : ri (rt_P sc fm) 212 16 (.iconst 0) (17) := ri_of (by decide +kernel) rfl
theorem wi_212_17 : ri (rt_P sc fm) 212 17 (.putfield 217) (20) := ri_of (by decide +kernel) rfl
theorem wi_212_2 : ri (rt_P sc fm) 212 2 (.getfield 19) (5) := ri_of (by decide +kernel) rfl
theorem wi_212_20 : ri (rt_P sc fm) 212 20 (.aload_n 0) (21) := ri_of (by decide +kernel) rfl
theorem wi_212_21 : ri (rt_P sc fm) 212 21 (.getfield 35) (24) := ri_of (by decide +kernel) rfl
theorem wi_212_24 : ri (rt_P sc fm) 212 24 (.iconst (-1)) (25) := ri_of (by decide +kernel) rfl
theorem wi_212_25 : ri (rt_P sc fm) 212 25 (.invokestatic 220) (28) := ri_of (by decide +kernel) rfl
theorem wi_212_28 : ri (rt_P sc fm) 212 28 (.aload_n 0) (29) := ri_of (by decide +kernel) rfl
theorem wi_212_29 : ri (rt_P sc fm) 212 29 (.getfield 211) (32) := ri_of (by decide +kernel) rfl
theorem wi_212_32 : ri (rt_P sc fm) 212 32 (.sipush 160) (35) := ri_of (by decide +kernel) rfl
theorem wi_212_35 : ri (rt_P sc fm) 212 35 (.idiv) (36) := ri_of (by decide +kernel) rfl
theorem wi_212_36 : ri (rt_P sc fm) 212 36 (.istore_n 2) (37) := ri_of (by decide +kernel) rfl
theorem wi_212_37 : ri (rt_P sc fm) 212 37 (.aload_n 0) (38) := ri_of (by decide +kernel) rfl
theorem wi_212_38 : ri (rt_P sc fm) 212 38 (.iconst 0) (39) := ri_of (by decide +kernel) rfl
theorem wi_212_39 : ri (rt_P sc fm) 212 39 (.aload_n 0) (40) := ri_of (by decide +kernel) rfl
theorem wi_212_40 : ri (rt_P sc fm) 212 40 (.iload_n 2) (41) := ri_of (by decide +kernel) rfl
theorem wi_212_41 : ri (rt_P sc fm) 212 41 (.invokevirtual 90) (44) := ri_of (by decide +kernel) rfl
theorem wi_212_44 : ri (rt_P sc fm) 212 44 (.iconst (-1)) (45) := ri_of (by decide +kernel) rfl
theorem wi_212_45 : ri (rt_P sc fm) 212 45 (.invokevirtual 223) (48) := ri_of (by decide +kernel) rfl
theorem wi_212_48 : ri (rt_P sc fm) 212 48 (.iconst 0) (49) := ri_of (by decide +kernel) rfl
theorem wi_212_49 : ri (rt_P sc fm) 212 49 (.istore_n 3) (50) := ri_of (by decide +kernel) rfl
theorem wi_212_5 : ri (rt_P sc fm) 212 5 (.iload_n 1) (6) := ri_of (by decide +kernel) rfl
theorem wi_212_50 : ri (rt_P sc fm) 212 50 (.iload_n 3) (51) := ri_of (by decide +kernel) rfl
theorem wi_212_51 : ri (rt_P sc fm) 212 51 (.sipush 400) (54) := ri_of (by decide +kernel) rfl
theorem wi_212_54 : ri (rt_P sc fm) 212 54 (.if_icmp .ge 39) (57) := ri_of (by decide +kernel) rfl
theorem wi_212_57 : ri (rt_P sc fm) 212 57 (.iload_n 3) (58) := ri_of (by decide +kernel) rfl
theorem wi_212_58 : ri (rt_P sc fm) 212 58 (.aload_n 0) (59) := ri_of (by decide +kernel) rfl
theorem wi_212_59 : ri (rt_P sc fm) 212 59 (.getfield 217) (62) := ri_of (by decide +kernel) rfl
theorem wi_212_6 : ri (rt_P sc fm) 212 6 (.iaload) (7) := ri_of (by decide +kernel) rfl
theorem wi_212_62 : ri (rt_P sc fm) 212 62 (.if_icmp .ge 31) (65) := ri_of (by decide +kernel) rfl
theorem wi_212_65 : ri (rt_P sc fm) 212 65 (.aload_n 0) (66) := ri_of (by decide +kernel) rfl
theorem wi_212_66 : ri (rt_P sc fm) 212 66 (.getfield 214) (69) := ri_of (by decide +kernel) rfl
theorem wi_212_69 : ri (rt_P sc fm) 212 69 (.iconst (-1)) (70) := ri_of (by decide +kernel) rfl
theorem wi_212_7 : ri (rt_P sc fm) 212 7 (.putfield 211) (10) := ri_of (by decide +kernel) rfl
theorem wi_212_70 : ri (rt_P sc fm) 212 70 (.if_icmp .ne 23) (73) := ri_of (by decide +kernel) rfl
theorem wi_212_73 : ri (rt_P sc fm) 212 73 (.aload_n 0) (74) := ri_of (by decide +kernel) rfl
theorem wi_212_74 : ri (rt_P sc fm) 212 74 (.iload_n 3) (75) := ri_of (by decide +kernel) rfl
theorem wi_212_75 : ri (rt_P sc fm) 212 75 (.aload_n 0) (76) := ri_of (by decide +kernel) rfl
theorem wi_212_76 : ri (rt_P sc fm) 212 76 (.getfield 45) (79) := ri_of (by decide +kernel) rfl
theorem wi_212_79 : ri (rt_P sc fm) 212 79 (.getfield 76) (82) := ri_of (by decide +kernel) rfl
theorem wi_212_82 : ri (rt_P sc fm) 212 82 (.iload_n 2) (83) := ri_of (by decide +kernel) rfl
theorem wi_212_83 : ri (rt_P sc fm) 212 83 (.iaload) (84) := ri_of (by decide +kernel) rfl
theorem wi_212_84 : ri (rt_P sc fm) 212 84 (.invokevirtual 227) (87) := ri_of (by decide +kernel) rfl
theorem wi_212_87 : ri (rt_P sc fm) 212 87 (.iinc 3 1) (90) := ri_of (by decide +kernel) rfl
theorem wi_212_90 : ri (rt_P sc fm) 212 90 (.goto (-40)) (93) := ri_of (by decide +kernel) rfl
theorem wi_212_93 : ri (rt_P sc fm) 212 93 (.aload_n 0) (94) := ri_of (by decide +kernel) rfl
theorem wi_212_94 : ri (rt_P sc fm) 212 94 (.getfield 214) (97) := ri_of (by decide +kernel) rfl
theorem wi_212_97 : ri (rt_P sc fm) 212 97 (.bipush (-2)) (99) := ri_of (by decide +kernel) rfl
theorem wi_212_99 : ri (rt_P sc fm) 212 99 (.if_icmp .ne 6) (102) := ri_of (by decide +kernel) rfl
theorem wm_213 : rx_ml (rt_P sc fm) 213 = 8 := (by decide +kernel : rt_ml 213 = 8)
theorem wm_216 : rx_ml (rt_P sc fm) 216 = 3 := (by decide +kernel : rt_ml 216 = 3)
theorem wp_212_211 : rx_pt (rt_P sc fm) 212 211 = some (5, 13, .int) := (by decide +kernel : rt_pt 212 211 = some (5, 13, .int))
theorem wp_212_214 : rx_pt (rt_P sc fm) 212 214 = some (5, 14, .int) := (by decide +kernel : rt_pt 212 214 = some (5, 14, .int))
theorem wp_212_217 : rx_pt (rt_P sc fm) 212 217 = some (5, 12, .int) := (by decide +kernel : rt_pt 212 217 = some (5, 12, .int))
theorem wr_212 : rx_rt (rt_P sc fm) 212 = (some FieldType.int) := (by decide +kernel : rt_rt 212 = (some FieldType.int))
/-- MarkHouse$Flow.seekWay(I)I -/
def d_212 (n : Nat) (a1 : Int32) (c : cS) : Option (Int32 × cS) :=
  if ib a1 2048 then
  lt (pI c 150 13 (c.1 152 (ix a1))) (fun c2 =>
  lt (pI c2 150 14 (-1)) (fun c4 =>
  lt (pI c4 150 12 0) (fun c6 =>
  Option.bind (d_153 n 157 40 (-1) c6) (fun r8 =>
  lt (((r8.1 150 13) / 160) : Int32) (fun v10 =>
  Option.bind (d_198 n v10 r8) (fun v12 =>
  Option.bind (d_214 n 0 v12 (-1) r8) (fun r13 =>
  Option.bind (whl (R := (cS)) (fun s15 : Int32 × cS =>
    if 400 ≤ s15.1 then
      some (.inr s15.2)
    else
      if (s15.2.1 150 12) ≤ s15.1 then
        some (.inr s15.2)
      else
        if (s15.2.1 150 14) = (-1) then
          if ib v10 96 then
          Option.bind (d_213 n s15.1 (s15.2.1 119 (ix v10)) s15.2) (fun r17 =>
          lt (s15.1 + 1 : Int32) (fun v19 =>
          some (.inl (v19, r17))))
          else none
        else
          some (.inr s15.2)) n (0, r13))
  (fun x21 : cS =>
    if (x21.1 150 14) = (-2) then
      some ((-2), x21)
    else
      jn (fun p22 : Int32 × cS =>
        some (p22.1, p22.2))
      (fun j121 =>
      if (x21.1 150 14) = (-1) then
        j121 (0, x21)
      else
        Option.bind (d_216 n x21) (fun r23 =>
        j121 (r23.1, r23.2)))))))))))
  else none
theorem sp_212 {F Lo n : Nat} {a1 : Int32} {c y : cS} {w : cW} {K : Int32 × cS → Prop} {Q : ((Option Value) ⊕ String) → List va_E → Prop} (hw : rOK fm w) (hF : 6 ≤ F) (hLo : 148 ≤ Lo)  (h : wp (d_212 n a1 c) K) (hQ : ∀ r, K r → Q (.inl (some (.int r.1))) (hq true r.2 y w)) : rs (rt_P sc fm) 212 F Lo 0 [(0, .ref 150), (1, .int a1)] [] (hq true c y w) Q := by
  unfold d_212 at h
  obtain ⟨lv, elv⟩ : ∃ lv : rx_L, lv = [(0, .ref 150), (1, .int a1)] := ⟨_, rfl⟩
  rw [← elv]
  have l0 : rx_ld lv 0 = some (.ref 150) := by rw [elv]; rfl
  have l1 : rx_ld lv 1 = some (.int a1) := by rw [elv]; rfl
  refine rs_aldn wi_212_0 l0 ?_
  refine rs_aldn wi_212_1 l0 ?_
  refine dq_gr wi_212_2 wf_212_19 tf_150_5 ?_
  refine rs_ildn wi_212_5 l1 ?_
  obtain ⟨g1, h⟩ := wp_gd h
  refine dq_iald wi_212_6 t_152 g1 ?_
  obtain ⟨c2, e3, h⟩ := wp_lt h
  refine dq_pi wi_212_7 wp_212_211 tf_150_13 rfl rfl e3 ?_
  refine rs_aldn wi_212_10 l0 ?_
  refine rs_pure wi_212_11 rfl ?_
  refine rs_topi (v := (-1)) (by decide) ?_
  obtain ⟨c4, e5, h⟩ := wp_lt h
  refine dq_pi wi_212_12 wp_212_214 tf_150_14 rfl rfl e5 ?_
  refine rs_aldn wi_212_15 l0 ?_
  refine rs_pure wi_212_16 rfl ?_
  refine rs_topi (v := 0) (by decide) ?_
  obtain ⟨c6, e7, h⟩ := wp_lt h
  refine dq_pi wi_212_17 wp_212_217 tf_150_12 rfl rfl e7 ?_
  refine rs_aldn wi_212_20 l0 ?_
  refine dq_gr wi_212_21 wf_212_35 tf_150_11 ?_
  refine rs_pure wi_212_24 rfl ?_
  refine rs_topi (v := (-1)) (by decide) ?_
  refine rs_S wi_212_25 wc_212_220 (Or.inl rfl) rfl (Nat.le_trans (by decide) hF) (ml_le wm_153 (Nat.le_trans (by decide) hLo)) rfl (sp_153 hw (Nat.le_trans (by decide : 0 ≤ 6 - 1) (Nat.sub_le_sub_right hF 1)) (ml_sub wm_153 (Nat.le_trans (by decide : 0 ≤ 148 - 23) (Nat.sub_le_sub_right hLo 23))) t_157 (wp_bind h) (fun r8 h => rs_back0 ?_))
  refine rs_aldn wi_212_28 l0 ?_
  refine dq_gi wi_212_29 wf_212_211 tf_150_13 ?_
  refine rs_pure wi_212_32 rfl ?_
  refine rs_topi (v := 160) (by decide) ?_
  refine dl_idiv wi_212_35 (by decide) ?_
  obtain ⟨v10, e11, h⟩ := wp_lt h
  refine rs_topi e11 ?_
  refine dl_istn wi_212_36 rfl (fun lv l2 t9 => ?_)
  have l0 := t9 _ _ (by decide) (Or.inl rfl) l0
  refine rs_aldn wi_212_37 l0 ?_
  refine rs_pure wi_212_38 rfl ?_
  refine rs_topi (v := 0) (by decide) ?_
  refine rs_aldn wi_212_39 l0 ?_
  refine rs_ildn wi_212_40 l2 ?_
  refine rs_V wi_212_41 wc_212_90 rfl (dq_isa tf_150_0 wa_5_198) (Nat.le_trans (by decide) hF) (ml_le wm_198 (Nat.le_trans (by decide) hLo)) rfl (sp_198 hw (Nat.le_trans (by decide : 1 ≤ 6 - 1) (Nat.sub_le_sub_right hF 1)) (ml_sub wm_198 (Nat.le_trans (by decide : 23 ≤ 148 - 25) (Nat.sub_le_sub_right hLo 25))) (wp_bind h) (fun v12 h => rs_back1 ?_))
  refine rs_pure wi_212_44 rfl ?_
  refine rs_topi (v := (-1)) (by decide) ?_
  refine rs_V wi_212_45 wc_212_223 rfl (dq_isa tf_150_0 wa_5_214) (Nat.le_trans (by decide) hF) (ml_le wm_214 (Nat.le_trans (by decide) hLo)) rfl (sp_214 hw (Nat.le_trans (by decide : 4 ≤ 6 - 1) (Nat.sub_le_sub_right hF 1)) (ml_sub wm_214 (Nat.le_trans (by decide : 95 ≤ 148 - 26) (Nat.sub_le_sub_right hLo 26))) (wp_bind h) (fun r13 h => rs_back0 ?_))
  refine rs_pure wi_212_48 rfl ?_
  refine rs_topi (v := 0) (by decide) ?_
  refine dl_istn wi_212_49 rfl (fun lv l3 t14 => ?_)
  have l0 := t14 _ _ (by decide) (Or.inl rfl) l0
  have l2 := t14 _ _ (by decide) (Or.inl rfl) l2
  refine whl_ex (A := fun s15 : Int32 × cS => ∀ lv, rx_ld lv 0 = some (.ref 150) → rx_ld lv 2 = some (.int v10) → rx_ld lv 3 = some (.int s15.1) → rs (rt_P sc fm) 212 F Lo 50 lv [] (hq true s15.2 y w) Q) (B := (fun x21 : cS => ∀ lv, rx_ld lv 0 = some (.ref 150) → rs (rt_P sc fm) 212 F Lo 93 lv [] (hq true x21 y w) Q)) ?_ ?_ _ _ (wp_bind h) _ l0 l2 l3
  · intro s15 h lv l0 l2 l3
    refine rs_ildn wi_212_50 l3 ?_
    refine rs_pure wi_212_51 rfl ?_
    refine rs_topi (v := 400) (by decide) ?_
    refine rs_icge (tg := 93) wi_212_54 ⟨by decide, by decide⟩ (fun q => ?_) (fun q => ?_)
    ·
      have h := wp_pos h q
      exact h _ l0
    ·
      have h := wp_neg h q
      refine rs_ildn wi_212_57 l3 ?_
      refine rs_aldn wi_212_58 l0 ?_
      refine dq_gi wi_212_59 wf_212_217 tf_150_12 ?_
      refine rs_icge (tg := 93) wi_212_62 ⟨by decide, by decide⟩ (fun q => ?_) (fun q => ?_)
      ·
        have h := wp_pos h q
        exact h _ l0
      ·
        have h := wp_neg h q
        refine rs_aldn wi_212_65 l0 ?_
        refine dq_gi wi_212_66 wf_212_214 tf_150_14 ?_
        refine rs_pure wi_212_69 rfl ?_
        refine rs_topi (v := (-1)) (by decide) ?_
        refine rs_icne (tg := 93) wi_212_70 ⟨by decide, by decide⟩ (fun q => ?_) (fun q => ?_)
        ·
          have h := wp_neg h q
          exact h _ l0
        ·
          have h := wp_pos h q
          refine rs_aldn wi_212_73 l0 ?_
          refine rs_ildn wi_212_74 l3 ?_
          refine rs_aldn wi_212_75 l0 ?_
          refine dq_gr wi_212_76 wf_212_45 tf_150_1 ?_
          refine dq_gr wi_212_79 wf_212_76 tf_114_5 ?_
          refine rs_ildn wi_212_82 l2 ?_
          obtain ⟨g16, h⟩ := wp_gd h
          refine dq_iald wi_212_83 t_119 g16 ?_
          refine rs_V wi_212_84 wc_212_227 rfl (dq_isa tf_150_0 wa_5_213) (Nat.le_trans (by decide) hF) (ml_le wm_213 (Nat.le_trans (by decide) hLo)) rfl (sp_213 hw (Nat.le_trans (by decide : 5 ≤ 6 - 1) (Nat.sub_le_sub_right hF 1)) (ml_sub wm_213 (Nat.le_trans (by decide : 121 ≤ 148 - 27) (Nat.sub_le_sub_right hLo 27))) (wp_bind h) (fun r17 h => rs_back0 ?_))
          obtain ⟨v19, e20, h⟩ := wp_lt h
          refine dl_inc wi_212_87 l3 rfl e20 (fun lv l3 t18 => ?_)
          have l0 := t18 _ _ (by decide) (Or.inl rfl) l0
          have l2 := t18 _ _ (by decide) (Or.inl rfl) l2
          refine rs_goto (tg := 50) wi_212_90 ⟨by decide, by decide⟩ ?_
          exact h _ l0 l2 l3
  ·
    intro x21 h lv l0
    refine rs_aldn wi_212_93 l0 ?_
    refine dq_gi wi_212_94 wf_212_214 tf_150_14 ?_
    refine rs_pure wi_212_97 rfl ?_
    refine rs_topi (v := (-2)) (by decide) ?_
    refine rs_icne (tg := 105) wi_212_99 ⟨by decide, by decide⟩ (fun q => ?_) (fun q => ?_)
    ·
      have h := wp_neg h q
      refine rs_aldn wi_212_105 l0 ?_
      refine dq_gi wi_212_106 wf_212_214 tf_150_14 ?_
      refine rs_pure wi_212_109 rfl ?_
      refine rs_topi (v := (-1)) (by decide) ?_
      refine wp_jn (B := fun p22 : Int32 × cS => ∀ lv, rs (rt_P sc fm) 212 F Lo 121 lv [.int p22.1] (hq true p22.2 y w) Q) h (fun p22 h lv => ?_) (fun j121 hj121 h => ?_)
      ·
        exact rs_iret wi_212_121 wr_212 rfl (hQ (p22.1, p22.2) h)
      refine rs_icne (tg := 117) wi_212_110 ⟨by decide, by decide⟩ (fun q => ?_) (fun q => ?_)
      ·
        have h := wp_neg h q
        refine rs_aldn wi_212_117 l0 ?_
        refine rs_V wi_212_118 wc_212_231 rfl (dq_isa tf_150_0 wa_5_216) (Nat.le_trans (by decide) hF) (ml_le wm_216 (Nat.le_trans (by decide) hLo)) rfl (sp_216 hw (Nat.le_trans (by decide : 0 ≤ 6 - 1) (Nat.sub_le_sub_right hF 1)) (ml_sub wm_216 (Nat.le_trans (by decide : 0 ≤ 148 - 22) (Nat.sub_le_sub_right hLo 22))) (wp_bind h) (fun r23 h => rs_back1 ?_))
        exact hj121 _ h _
      ·
        have h := wp_pos h q
        refine rs_pure wi_212_113 rfl ?_
        refine rs_topi (v := 0) (by decide) ?_
        refine rs_goto (tg := 121) wi_212_114 ⟨by decide, by decide⟩ ?_
        exact hj121 _ h _
    ·
      have h := wp_pos h q
      refine rs_pure wi_212_102 rfl ?_
      refine rs_topi (v := (-2)) (by decide) ?_
      exact rs_iret wi_212_104 wr_212 rfl (hQ ((-2), x21) h)
theorem wa_5_212 : rz_cn 5 (rx_yn (rt_P sc fm) 212).cls = true := (by decide +kernel : rz_cn 5 (rt_yn 212).cls = true)
theorem wc_75_287 : rx_ct (rt_P sc fm) 75 287 = some (0, 30, 1) := (by decide +kernel : rt_ct 75 287 = some (0, 30, 1))
theorem wc_75_293 : rx_ct (rt_P sc fm) 75 293 = some (0, 212, 1) := (by decide +kernel : rt_ct 75 293 = some (0, 212, 1))
theorem wf_75_62 : rx_ft (rt_P sc fm) 75 62 = some (14, 6) := (by decide +kernel : rt_ft 75 62 = some (14, 6))
theorem wi_75_0 : ri (rt_P sc fm) 75 0 (.aload_n 0) (1) := ri_of (by decide +kernel) rfl
theorem wi_75_1 : ri (rt_P sc fm) 75 1 (.getfield 62) (4) := ri_of (by decide +kernel) rfl
theorem wi_75_11 : ri (rt_P sc fm) 75 11 (.aload_n 0) (12) := ri_of (by decide +kernel) rfl
theorem wi_75_12 : ri (rt_P sc fm) 75 12 (.getfield 62) (15) := ri_of (by decide +kernel) rfl
theorem wi_75_15 : ri (rt_P sc fm) 75 15 (.iload_n 1) (16) := ri_of (by decide +kernel) rfl
theorem wi_75_16 : ri (rt_P sc fm) 75 16 (.invokevirtual 293) (19) := ri_of (by decide +kernel) rfl
theorem wi_75_19 : ri (rt_P sc fm) 75 19 (.goto 4) (22) := ri_of (by decide +kernel) rfl
theorem wi_75_22 : ri (rt_P sc fm) 75 22 (.iconst (-1)) (23) := ri_of (by decide +kernel) rfl
theorem wi_75_23 : ri (rt_P sc fm) 75 23 (.ireturn) (24) := ri_of (by decide +kernel) rfl
theorem wi_75_4 : ri (rt_P sc fm) 75 4 (.iload_n 1) (5) := ri_of (by decide +kernel) rfl
theorem wi_75_5 : ri (rt_P sc fm) 75 5 (.invokevirtual 287) (8) := ri_of (by decide +kernel) rfl
theorem wi_75_8 : ri (rt_P sc fm) 75 8 (.ifCond .eq 14) (11) := ri_of (by decide +kernel) rfl
theorem wm_212 : rx_ml (rt_P sc fm) 212 = 4 := (by decide +kernel : rt_ml 212 = 4)
theorem wr_75 : rx_rt (rt_P sc fm) 75 = (some FieldType.int) := (by decide +kernel : rt_rt 75 = (some FieldType.int))
/-- MarkHouse.way(I)I -/
def d_75 (n : Nat) (a1 : Int32) (c : cS) : Option (Int32 × cS) :=
  Option.bind (d_30 n a1 c) (fun v1 =>
  jn (fun p2 : Int32 × cS =>
    some (p2.1, p2.2))
  (fun j23 =>
  if v1 = 0 then
    j23 ((-1), c)
  else
    Option.bind (d_212 n a1 c) (fun r3 =>
    j23 (r3.1, r3.2))))
theorem sp_75 {F Lo n : Nat} {a1 : Int32} {c y : cS} {w : cW} {K : Int32 × cS → Prop} {Q : ((Option Value) ⊕ String) → List va_E → Prop} (hw : rOK fm w) (hF : 7 ≤ F) (hLo : 171 ≤ Lo)  (h : wp (d_75 n a1 c) K) (hQ : ∀ r, K r → Q (.inl (some (.int r.1))) (hq true r.2 y w)) : rs (rt_P sc fm) 75 F Lo 0 [(0, .ref 0), (1, .int a1)] [] (hq true c y w) Q := by
  unfold d_75 at h
  obtain ⟨lv, elv⟩ : ∃ lv : rx_L, lv = [(0, .ref 0), (1, .int a1)] := ⟨_, rfl⟩
  rw [← elv]
  have l0 : rx_ld lv 0 = some (.ref 0) := by rw [elv]; rfl
  have l1 : rx_ld lv 1 = some (.int a1) := by rw [elv]; rfl
  refine rs_aldn wi_75_0 l0 ?_
  refine dq_gr wi_75_1 wf_75_62 tf_0_6 ?_
  refine rs_ildn wi_75_4 l1 ?_
  refine rs_V wi_75_5 wc_75_287 rfl (dq_isa tf_150_0 wa_5_30) (Nat.le_trans (by decide) hF) (ml_le wm_30 (Nat.le_trans (by decide) hLo)) rfl (sp_30 hw (Nat.le_trans (by decide : 0 ≤ 7 - 1) (Nat.sub_le_sub_right hF 1)) (ml_sub wm_30 (Nat.le_trans (by decide : 0 ≤ 171 - 21) (Nat.sub_le_sub_right hLo 21))) (wp_bind h) (fun v1 h => rs_back1 ?_))
  refine wp_jn (B := fun p2 : Int32 × cS => ∀ lv, rs (rt_P sc fm) 75 F Lo 23 lv [.int p2.1] (hq true p2.2 y w) Q) h (fun p2 h lv => ?_) (fun j23 hj23 h => ?_)
  ·
    exact rs_iret wi_75_23 wr_75 rfl (hQ (p2.1, p2.2) h)
  refine rs_ifeq (tg := 22) wi_75_8 ⟨by decide, by decide⟩ (fun q => ?_) (fun q => ?_)
  ·
    have h := wp_pos h q
    refine rs_pure wi_75_22 rfl ?_
    refine rs_topi (v := (-1)) (by decide) ?_
    exact hj23 _ h _
  ·
    have h := wp_neg h q
    refine rs_aldn wi_75_11 l0 ?_
    refine dq_gr wi_75_12 wf_75_62 tf_0_6 ?_
    refine rs_ildn wi_75_15 l1 ?_
    refine rs_V wi_75_16 wc_75_293 rfl (dq_isa tf_150_0 wa_5_212) (Nat.le_trans (by decide) hF) (ml_le wm_212 (Nat.le_trans (by decide) hLo)) rfl (sp_212 hw (Nat.le_trans (by decide : 6 ≤ 7 - 1) (Nat.sub_le_sub_right hF 1)) (ml_sub wm_212 (Nat.le_trans (by decide : 148 ≤ 171 - 23) (Nat.sub_le_sub_right hLo 23))) (wp_bind h) (fun r3 h => rs_back1 ?_))
    refine rs_goto (tg := 23) wi_75_19 ⟨by decide, by decide⟩ ?_
    exact hj23 _ h _
theorem wf_76_281 : rx_ft (rt_P sc fm) 76 281 = some (5, 16) := (by decide +kernel : rt_ft 76 281 = some (5, 16))
theorem wf_76_296 : rx_ft (rt_P sc fm) 76 296 = some (5, 15) := (by decide +kernel : rt_ft 76 296 = some (5, 15))
theorem wf_76_62 : rx_ft (rt_P sc fm) 76 62 = some (14, 6) := (by decide +kernel : rt_ft 76 62 = some (14, 6))
theorem wi_76_0 : ri (rt_P sc fm) 76 0 (.iload_n 1) (1) := ri_of (by decide +kernel) rfl
theorem wi_76_1 : ri (rt_P sc fm) 76 1 (.ifCond .lt 14) (4) := ri_of (by decide +kernel) rfl
theorem wi_76_12 : ri (rt_P sc fm) 76 12 (.if_icmp .lt 7) (15) := ri_of (by decide +kernel) rfl
theorem wi_76_15 : ri (rt_P sc fm) 76 15 (.iconst (-1)) (16) := ri_of (by decide +kernel) rfl
theorem wi_76_16 : ri (rt_P sc fm) 76 16 (.goto 12) (19) := ri_of (by decide +kernel) rfl
theorem wi_76_19 : ri (rt_P sc fm) 76 19 (.aload_n 0) (20) := ri_of (by decide +kernel) rfl
theorem wi_76_20 : ri (rt_P sc fm) 76 20 (.getfield 62) (23) := ri_of (by decide +kernel) rfl
theorem wi_76_23 : ri (rt_P sc fm) 76 23 (.getfield 296) (26) := ri_of (by decide +kernel) rfl
theorem wi_76_26 : ri (rt_P sc fm) 76 26 (.iload_n 1) (27) := ri_of (by decide +kernel) rfl
theorem wi_76_27 : ri (rt_P sc fm) 76 27 (.iaload) (28) := ri_of (by decide +kernel) rfl
theorem wi_76_28 : ri (rt_P sc fm) 76 28 (.ireturn) (29) := ri_of (by decide +kernel) rfl
theorem wi_76_4 : ri (rt_P sc fm) 76 4 (.iload_n 1) (5) := ri_of (by decide +kernel) rfl
theorem wi_76_5 : ri (rt_P sc fm) 76 5 (.aload_n 0) (6) := ri_of (by decide +kernel) rfl
theorem wi_76_6 : ri (rt_P sc fm) 76 6 (.getfield 62) (9) := ri_of (by decide +kernel) rfl
theorem wi_76_9 : ri (rt_P sc fm) 76 9 (.getfield 281) (12) := ri_of (by decide +kernel) rfl
theorem wr_76 : rx_rt (rt_P sc fm) 76 = (some FieldType.int) := (by decide +kernel : rt_rt 76 = (some FieldType.int))
/-- MarkHouse.step(I)I -/
def d_76 (n : Nat) (a1 : Int32) (c : cS) : Option (Int32) :=
  jn (fun p1 : Int32 =>
    some p1)
  (fun j28 =>
  jn (fun p2 : Unit =>
    j28 (-1))
  (fun j15 =>
  if a1 < 0 then
    j15 ()
  else
    if a1 < (c.1 150 16) then
      if ib a1 400 then
      j28 (c.1 158 (ix a1))
      else none
    else
      j15 ()))
theorem sp_76 {F Lo n : Nat} {a1 : Int32} {c y : cS} {w : cW} {K : Int32 → Prop} {Q : ((Option Value) ⊕ String) → List va_E → Prop} (hw : rOK fm w) (hF : 0 ≤ F) (hLo : 0 ≤ Lo)  (h : wp (d_76 n a1 c) K) (hQ : ∀ r, K r → Q (.inl (some (.int r))) (hq true c y w)) : rs (rt_P sc fm) 76 F Lo 0 [(0, .ref 0), (1, .int a1)] [] (hq true c y w) Q := by
  unfold d_76 at h
  obtain ⟨lv, elv⟩ : ∃ lv : rx_L, lv = [(0, .ref 0), (1, .int a1)] := ⟨_, rfl⟩
  rw [← elv]
  have l0 : rx_ld lv 0 = some (.ref 0) := by rw [elv]; rfl
  have l1 : rx_ld lv 1 = some (.int a1) := by rw [elv]; rfl
  refine rs_ildn wi_76_0 l1 ?_
  refine wp_jn (B := fun p1 : Int32 => ∀ lv, rs (rt_P sc fm) 76 F Lo 28 lv [.int p1] (hq true c y w) Q) h (fun p1 h lv => ?_) (fun j28 hj28 h => ?_)
  ·
    exact rs_iret wi_76_28 wr_76 rfl (hQ p1 h)
  refine wp_jn (B := fun p2 : Unit => ∀ lv, rs (rt_P sc fm) 76 F Lo 15 lv [] (hq true c y w) Q) h (fun p2 h lv => ?_) (fun j15 hj15 h => ?_)
  ·
    refine rs_pure wi_76_15 rfl ?_
    refine rs_topi (v := (-1)) (by decide) ?_
    refine rs_goto (tg := 28) wi_76_16 ⟨by decide, by decide⟩ ?_
    exact hj28 _ h _
  refine rs_iflt (tg := 15) wi_76_1 ⟨by decide, by decide⟩ (fun q => ?_) (fun q => ?_)
  ·
    have h := wp_pos h q
    exact hj15 _ h _
  ·
    have h := wp_neg h q
    refine rs_ildn wi_76_4 l1 ?_
    refine rs_aldn wi_76_5 l0 ?_
    refine dq_gr wi_76_6 wf_76_62 tf_0_6 ?_
    refine dq_gi wi_76_9 wf_76_281 tf_150_16 ?_
    refine rs_iclt (tg := 19) wi_76_12 ⟨by decide, by decide⟩ (fun q => ?_) (fun q => ?_)
    ·
      have h := wp_pos h q
      refine rs_aldn wi_76_19 l0 ?_
      refine dq_gr wi_76_20 wf_76_62 tf_0_6 ?_
      refine dq_gr wi_76_23 wf_76_296 tf_150_15 ?_
      refine rs_ildn wi_76_26 l1 ?_
      obtain ⟨g3, h⟩ := wp_gd h
      refine dq_iald wi_76_27 t_158 g3 ?_
      exact hj28 _ h _
    ·
      have h := wp_neg h q
      exact hj15 _ h _
end D49
