/-! THE CODE AS PURE PROGRAMS, 20: by wip/whole/dc.py -/
section D61
variable {sc : Nat × (Nat → Int32)} {fm : Value}
theorem wc_475_568 : rx_ct (rt_P sc fm) 475 568 = some (0, 378, 2) := (by decide +kernel : rt_ct 475 568 = some (0, 378, 2))
theorem wc_475_706 : rx_ct (rt_P sc fm) 475 706 = some (0, 429, 3) := (by decide +kernel : rt_ct 475 706 = some (0, 429, 3))
theorem wi_475_0 : ri (rt_P sc fm) 475 0 (.aload_n 0) (1) := ri_of (by decide +kernel) rfl
theorem wi_475_1 : ri (rt_P sc fm) 475 1 (.iload_n 2) (2) := ri_of (by decide +kernel) rfl
theorem wi_475_10 : ri (rt_P sc fm) 475 10 (.ifCond .lt 19) (13) := ri_of (by decide +kernel) rfl
theorem wi_475_13 : ri (rt_P sc fm) 475 13 (.aload_n 0) (14) := ri_of (by decide +kernel) rfl
theorem wi_475_14 : ri (rt_P sc fm) 475 14 (.iload_n 1) (15) := ri_of (by decide +kernel) rfl
theorem wi_475_15 : ri (rt_P sc fm) 475 15 (.iload_n 2) (16) := ri_of (by decide +kernel) rfl
theorem wi_475_16 : ri (rt_P sc fm) 475 16 (.iload 5) (18) := ri_of (by decide +kernel) rfl
theorem wi_475_18 : ri (rt_P sc fm) 475 18 (.invokevirtual 706) (21) := ri_of (by decide +kernel) rfl
theorem wi_475_2 : ri (rt_P sc fm) 475 2 (.lload_n 3) (3) := ri_of (by decide +kernel) rfl
theorem wi_475_21 : ri (rt_P sc fm) 475 21 (.iconst 2) (22) := ri_of (by decide +kernel) rfl
theorem wi_475_22 : ri (rt_P sc fm) 475 22 (.if_icmp .ne 7) (25) := ri_of (by decide +kernel) rfl
theorem wi_475_25 : ri (rt_P sc fm) 475 25 (.iconst 1) (26) := ri_of (by decide +kernel) rfl
theorem wi_475_26 : ri (rt_P sc fm) 475 26 (.goto 4) (29) := ri_of (by decide +kernel) rfl
theorem wi_475_29 : ri (rt_P sc fm) 475 29 (.iconst 0) (30) := ri_of (by decide +kernel) rfl
theorem wi_475_3 : ri (rt_P sc fm) 475 3 (.invokevirtual 568) (6) := ri_of (by decide +kernel) rfl
theorem wi_475_30 : ri (rt_P sc fm) 475 30 (.ireturn) (31) := ri_of (by decide +kernel) rfl
theorem wi_475_6 : ri (rt_P sc fm) 475 6 (.istore 5) (8) := ri_of (by decide +kernel) rfl
theorem wi_475_8 : ri (rt_P sc fm) 475 8 (.iload 5) (10) := ri_of (by decide +kernel) rfl
theorem wr_475 : rx_rt (rt_P sc fm) 475 = (some FieldType.boolean) := (by decide +kernel : rt_rt 475 = (some FieldType.boolean))
/-- MarkHouseModel.hasText(IIJ)Z -/
def d_475 (n : Nat) (a1 : Int32) (a2 : Int32) (a3 : Int64) (c : cS) : Option (Int32 × cS) :=
  Option.bind (d_378 n a2 a3 c) (fun v1 =>
  jn (fun p3 : Int32 × cS =>
    if nb p3.1 then
    some (p3.1, p3.2)
    else none)
  (fun j30 =>
  jn (fun p5 : cS =>
    j30 (0, p5))
  (fun j29 =>
  if v1 < 0 then
    j29 c
  else
    Option.bind (d_429 n a1 a2 v1 c) (fun r6 =>
    if r6.1 = 2 then
      j30 (1, r6.2)
    else
      j29 r6.2))))
theorem sp_475 {F Lo n : Nat} {a1 : Int32} {a2 : Int32} {a3 : Int64} {c y : cS} {w : cW} {K : Int32 × cS → Prop} {Q : ((Option Value) ⊕ String) → List va_E → Prop} (hw : rOK fm w) (hF : 1 ≤ F) (hLo : 26 ≤ Lo)  (h : wp (d_475 n a1 a2 a3 c) K) (hQ : ∀ r, K r → Q (.inl (some (.int r.1))) (hq false r.2 y w)) : rs (rt_P sc fm) 475 F Lo 0 [(0, .ref 174), (1, .int a1), (2, .int a2), (3, .long a3)] [] (hq false c y w) Q := by
  unfold d_475 at h
  obtain ⟨lv, elv⟩ : ∃ lv : rx_L, lv = [(0, .ref 174), (1, .int a1), (2, .int a2), (3, .long a3)] := ⟨_, rfl⟩
  rw [← elv]
  have l0 : rx_ld lv 0 = some (.ref 174) := by rw [elv]; rfl
  have l1 : rx_ld lv 1 = some (.int a1) := by rw [elv]; rfl
  have l2 : rx_ld lv 2 = some (.int a2) := by rw [elv]; rfl
  have l3 : rx_ld lv 3 = some (.long a3) := by rw [elv]; rfl
  refine rs_aldn wi_475_0 l0 ?_
  refine rs_ildn wi_475_1 l2 ?_
  refine rs_lldn wi_475_2 l3 ?_
  refine rs_V wi_475_3 wc_475_568 rfl (dq_isa tf_174_0 wa_15_378) (Nat.le_trans (by decide) hF) (ml_le wm_378 (Nat.le_trans (by decide) hLo)) rfl (sp_378 hw (Nat.le_trans (by decide : 0 ≤ 1 - 1) (Nat.sub_le_sub_right hF 1)) (ml_sub wm_378 (Nat.le_trans (by decide : 0 ≤ 26 - 24) (Nat.sub_le_sub_right hLo 24))) (wp_bind h) (fun v1 h => rs_back1 ?_))
  refine dl_ist wi_475_6 rfl (fun lv l5 t2 => ?_)
  have l0 := t2 _ _ (by decide) (Or.inl rfl) l0
  have l1 := t2 _ _ (by decide) (Or.inl rfl) l1
  have l2 := t2 _ _ (by decide) (Or.inl rfl) l2
  refine rs_ild wi_475_8 l5 ?_
  refine wp_jn (B := fun p3 : Int32 × cS => ∀ lv, rs (rt_P sc fm) 475 F Lo 30 lv [.int p3.1] (hq false p3.2 y w) Q) h (fun p3 h lv => ?_) (fun j30 hj30 h => ?_)
  ·
    obtain ⟨g4, h⟩ := wp_gd h
    exact rs_iret wi_475_30 wr_475 (nb_n g4) (hQ (p3.1, p3.2) h)
  refine wp_jn (B := fun p5 : cS => ∀ lv, rs (rt_P sc fm) 475 F Lo 29 lv [] (hq false p5 y w) Q) h (fun p5 h lv => ?_) (fun j29 hj29 h => ?_)
  ·
    refine rs_pure wi_475_29 rfl ?_
    refine rs_topi (v := 0) (by decide) ?_
    exact hj30 _ h _
  refine rs_iflt (tg := 29) wi_475_10 ⟨by decide, by decide⟩ (fun q => ?_) (fun q => ?_)
  ·
    have h := wp_pos h q
    exact hj29 _ h _
  ·
    have h := wp_neg h q
    refine rs_aldn wi_475_13 l0 ?_
    refine rs_ildn wi_475_14 l1 ?_
    refine rs_ildn wi_475_15 l2 ?_
    refine rs_ild wi_475_16 l5 ?_
    refine rs_V wi_475_18 wc_475_706 rfl (dq_isa tf_174_0 wa_15_429) (Nat.le_trans (by decide) hF) (ml_le wm_429 (Nat.le_trans (by decide) hLo)) rfl (sp_429 hw (Nat.le_trans (by decide : 0 ≤ 1 - 1) (Nat.sub_le_sub_right hF 1)) (ml_sub wm_429 (Nat.le_trans (by decide : 0 ≤ 26 - 26) (Nat.sub_le_sub_right hLo 26))) (wp_bind h) (fun r6 h => rs_back1 ?_))
    refine rs_pure wi_475_21 rfl ?_
    refine rs_topi (v := 2) (by decide) ?_
    refine rs_icne (tg := 29) wi_475_22 ⟨by decide, by decide⟩ (fun q => ?_) (fun q => ?_)
    ·
      have h := wp_neg h q
      exact hj29 _ h _
    ·
      have h := wp_pos h q
      refine rs_pure wi_475_25 rfl ?_
      refine rs_topi (v := 1) (by decide) ?_
      refine rs_goto (tg := 30) wi_475_26 ⟨by decide, by decide⟩ ?_
      exact hj30 _ h _
theorem wf_476_155 : rx_ft (rt_P sc fm) 476 155 = some (15, 39) := (by decide +kernel : rt_ft 476 155 = some (15, 39))
theorem wi_476_0 : ri (rt_P sc fm) 476 0 (.iload_n 1) (1) := ri_of (by decide +kernel) rfl
theorem wi_476_1 : ri (rt_P sc fm) 476 1 (.istore_n 3) (2) := ri_of (by decide +kernel) rfl
theorem wi_476_11 : ri (rt_P sc fm) 476 11 (.iconst 1) (12) := ri_of (by decide +kernel) rfl
theorem wi_476_12 : ri (rt_P sc fm) 476 12 (.ireturn) (13) := ri_of (by decide +kernel) rfl
theorem wi_476_13 : ri (rt_P sc fm) 476 13 (.aload_n 0) (14) := ri_of (by decide +kernel) rfl
theorem wi_476_14 : ri (rt_P sc fm) 476 14 (.getfield 155) (17) := ri_of (by decide +kernel) rfl
theorem wi_476_17 : ri (rt_P sc fm) 476 17 (.iload_n 3) (18) := ri_of (by decide +kernel) rfl
theorem wi_476_18 : ri (rt_P sc fm) 476 18 (.iaload) (19) := ri_of (by decide +kernel) rfl
theorem wi_476_19 : ri (rt_P sc fm) 476 19 (.istore_n 3) (20) := ri_of (by decide +kernel) rfl
theorem wi_476_2 : ri (rt_P sc fm) 476 2 (.iload_n 3) (3) := ri_of (by decide +kernel) rfl
theorem wi_476_20 : ri (rt_P sc fm) 476 20 (.goto (-18)) (23) := ri_of (by decide +kernel) rfl
theorem wi_476_23 : ri (rt_P sc fm) 476 23 (.iconst 0) (24) := ri_of (by decide +kernel) rfl
theorem wi_476_24 : ri (rt_P sc fm) 476 24 (.ireturn) (25) := ri_of (by decide +kernel) rfl
theorem wi_476_3 : ri (rt_P sc fm) 476 3 (.ifCond .lt 20) (6) := ri_of (by decide +kernel) rfl
theorem wi_476_6 : ri (rt_P sc fm) 476 6 (.iload_n 3) (7) := ri_of (by decide +kernel) rfl
theorem wi_476_7 : ri (rt_P sc fm) 476 7 (.iload_n 2) (8) := ri_of (by decide +kernel) rfl
theorem wi_476_8 : ri (rt_P sc fm) 476 8 (.if_icmp .ne 5) (11) := ri_of (by decide +kernel) rfl
theorem wr_476 : rx_rt (rt_P sc fm) 476 = (some FieldType.boolean) := (by decide +kernel : rt_rt 476 = (some FieldType.boolean))
/-- MarkHouseModel.isUnder(II)Z -/
def d_476 (n : Nat) (a1 : Int32) (a2 : Int32) (c : cS) : Option (Int32) :=
  Option.bind (whl (R := (Unit) ⊕ (Unit)) (fun s2 : Int32 =>
    if s2 < 0 then
      some (.inr (.inl ()))
    else
      if s2 = a2 then
        some (.inr (.inr ()))
      else
        if ib s2 12 then
        lt ((c.1 201 (ix s2)) : Int32) (fun v5 =>
        some (.inl v5))
        else none) n a1)
  (Sum.elim (fun x7 : Unit =>
    some 0)
  (fun x8 : Unit =>
    some 1))
theorem sp_476 {F Lo n : Nat} {a1 : Int32} {a2 : Int32} {c y : cS} {w : cW} {K : Int32 → Prop} {Q : ((Option Value) ⊕ String) → List va_E → Prop} (hw : rOK fm w) (hF : 0 ≤ F) (hLo : 0 ≤ Lo)  (h : wp (d_476 n a1 a2 c) K) (hQ : ∀ r, K r → Q (.inl (some (.int r))) (hq false c y w)) : rs (rt_P sc fm) 476 F Lo 0 [(0, .ref 174), (1, .int a1), (2, .int a2)] [] (hq false c y w) Q := by
  unfold d_476 at h
  obtain ⟨lv, elv⟩ : ∃ lv : rx_L, lv = [(0, .ref 174), (1, .int a1), (2, .int a2)] := ⟨_, rfl⟩
  rw [← elv]
  have l0 : rx_ld lv 0 = some (.ref 174) := by rw [elv]; rfl
  have l1 : rx_ld lv 1 = some (.int a1) := by rw [elv]; rfl
  have l2 : rx_ld lv 2 = some (.int a2) := by rw [elv]; rfl
  refine rs_ildn wi_476_0 l1 ?_
  refine dl_istn wi_476_1 rfl (fun lv l3 t1 => ?_)
  have l0 := t1 _ _ (by decide) (Or.inl rfl) l0
  have l2 := t1 _ _ (by decide) (Or.inl rfl) l2
  refine whl_ex (A := fun s2 : Int32 => ∀ lv, rx_ld lv 0 = some (.ref 174) → rx_ld lv 2 = some (.int a2) → rx_ld lv 3 = some (.int s2) → rs (rt_P sc fm) 476 F Lo 2 lv [] (hq false c y w) Q) (B := (Sum.elim (fun x7 : Unit => ∀ lv, rs (rt_P sc fm) 476 F Lo 23 lv [] (hq false c y w) Q) (fun x8 : Unit => ∀ lv, rs (rt_P sc fm) 476 F Lo 11 lv [] (hq false c y w) Q))) ?_ ?_ _ _ (wp_bind h) _ l0 l2 l3
  · intro s2 h lv l0 l2 l3
    refine rs_ildn wi_476_2 l3 ?_
    refine rs_iflt (tg := 23) wi_476_3 ⟨by decide, by decide⟩ (fun q => ?_) (fun q => ?_)
    ·
      have h := wp_pos h q
      exact h _
    ·
      have h := wp_neg h q
      refine rs_ildn wi_476_6 l3 ?_
      refine rs_ildn wi_476_7 l2 ?_
      refine rs_icne (tg := 13) wi_476_8 ⟨by decide, by decide⟩ (fun q => ?_) (fun q => ?_)
      ·
        have h := wp_neg h q
        refine rs_aldn wi_476_13 l0 ?_
        refine dq_gr wi_476_14 wf_476_155 tf_174_39 ?_
        refine rs_ildn wi_476_17 l3 ?_
        obtain ⟨g3, h⟩ := wp_gd h
        refine dq_iald wi_476_18 t_201 g3 ?_
        obtain ⟨v5, e6, h⟩ := wp_lt h
        refine rs_topi e6 ?_
        refine dl_istn wi_476_19 rfl (fun lv l3 t4 => ?_)
        have l0 := t4 _ _ (by decide) (Or.inl rfl) l0
        have l2 := t4 _ _ (by decide) (Or.inl rfl) l2
        refine rs_goto (tg := 2) wi_476_20 ⟨by decide, by decide⟩ ?_
        exact h _ l0 l2 l3
      ·
        have h := wp_pos h q
        exact h _
  ·
    refine sum_all ?_ ?_
    ·
      intro x7 h lv
      refine rs_pure wi_476_23 rfl ?_
      refine rs_topi (v := 0) (by decide) ?_
      exact rs_iret wi_476_24 wr_476 (nb_n (by decide)) (hQ 0 h)
    ·
      intro x8 h lv
      refine rs_pure wi_476_11 rfl ?_
      refine rs_topi (v := 1) (by decide) ?_
      exact rs_iret wi_476_12 wr_476 (nb_n (by decide)) (hQ 1 h)
theorem wf_477_969 : rx_ft (rt_P sc fm) 477 969 = some (15, 131) := (by decide +kernel : rt_ft 477 969 = some (15, 131))
theorem wi_477_0 : ri (rt_P sc fm) 477 0 (.aload_n 0) (1) := ri_of (by decide +kernel) rfl
theorem wi_477_1 : ri (rt_P sc fm) 477 1 (.getfield 969) (4) := ri_of (by decide +kernel) rfl
theorem wi_477_10 : ri (rt_P sc fm) 477 10 (.putfield 969) (13) := ri_of (by decide +kernel) rfl
theorem wi_477_13 : ri (rt_P sc fm) 477 13 (.aload_n 0) (14) := ri_of (by decide +kernel) rfl
theorem wi_477_14 : ri (rt_P sc fm) 477 14 (.iload_n 2) (15) := ri_of (by decide +kernel) rfl
theorem wi_477_15 : ri (rt_P sc fm) 477 15 (.putfield 972) (18) := ri_of (by decide +kernel) rfl
theorem wi_477_18 : ri (rt_P sc fm) 477 18 (.aload_n 0) (19) := ri_of (by decide +kernel) rfl
theorem wi_477_19 : ri (rt_P sc fm) 477 19 (.iload_n 3) (20) := ri_of (by decide +kernel) rfl
theorem wi_477_20 : ri (rt_P sc fm) 477 20 (.putfield 975) (23) := ri_of (by decide +kernel) rfl
theorem wi_477_23 : ri (rt_P sc fm) 477 23 (.return_) (24) := ri_of (by decide +kernel) rfl
theorem wi_477_4 : ri (rt_P sc fm) 477 4 (.ifCond .le 4) (7) := ri_of (by decide +kernel) rfl
theorem wi_477_7 : ri (rt_P sc fm) 477 7 (.return_) (8) := ri_of (by decide +kernel) rfl
theorem wi_477_8 : ri (rt_P sc fm) 477 8 (.aload_n 0) (9) := ri_of (by decide +kernel) rfl
theorem wi_477_9 : ri (rt_P sc fm) 477 9 (.iload_n 1) (10) := ri_of (by decide +kernel) rfl
theorem wp_477_969 : rx_pt (rt_P sc fm) 477 969 = some (15, 131, .int) := (by decide +kernel : rt_pt 477 969 = some (15, 131, .int))
theorem wp_477_972 : rx_pt (rt_P sc fm) 477 972 = some (15, 132, .int) := (by decide +kernel : rt_pt 477 972 = some (15, 132, .int))
theorem wp_477_975 : rx_pt (rt_P sc fm) 477 975 = some (15, 133, .int) := (by decide +kernel : rt_pt 477 975 = some (15, 133, .int))
theorem wr_477 : rx_rt (rt_P sc fm) 477 = none := (by decide +kernel : rt_rt 477 = none)
/-- MarkHouseModel.wires(III)V -/
def d_477 (n : Nat) (a1 : Int32) (a2 : Int32) (a3 : Int32) (c : cS) : Option (cS) :=
  if (c.1 174 131) ≤ 0 then
    lt (pI c 174 131 a1) (fun c1 =>
    lt (pI c1 174 132 a2) (fun c3 =>
    lt (pI c3 174 133 a3) (fun c5 =>
    some c5)))
  else
    some c
theorem sp_477 {F Lo n : Nat} {a1 : Int32} {a2 : Int32} {a3 : Int32} {c y : cS} {w : cW} {K : cS → Prop} {Q : ((Option Value) ⊕ String) → List va_E → Prop} (hw : rOK fm w) (hF : 0 ≤ F) (hLo : 0 ≤ Lo)  (h : wp (d_477 n a1 a2 a3 c) K) (hQ : ∀ r, K r → Q (.inl none) (hq false r y w)) : rs (rt_P sc fm) 477 F Lo 0 [(0, .ref 174), (1, .int a1), (2, .int a2), (3, .int a3)] [] (hq false c y w) Q := by
  unfold d_477 at h
  obtain ⟨lv, elv⟩ : ∃ lv : rx_L, lv = [(0, .ref 174), (1, .int a1), (2, .int a2), (3, .int a3)] := ⟨_, rfl⟩
  rw [← elv]
  have l0 : rx_ld lv 0 = some (.ref 174) := by rw [elv]; rfl
  have l1 : rx_ld lv 1 = some (.int a1) := by rw [elv]; rfl
  have l2 : rx_ld lv 2 = some (.int a2) := by rw [elv]; rfl
  have l3 : rx_ld lv 3 = some (.int a3) := by rw [elv]; rfl
  refine rs_aldn wi_477_0 l0 ?_
  refine dq_gi wi_477_1 wf_477_969 tf_174_131 ?_
  refine rs_ifle (tg := 8) wi_477_4 ⟨by decide, by decide⟩ (fun q => ?_) (fun q => ?_)
  ·
    have h := wp_pos h q
    refine rs_aldn wi_477_8 l0 ?_
    refine rs_ildn wi_477_9 l1 ?_
    obtain ⟨c1, e2, h⟩ := wp_lt h
    refine dq_pi wi_477_10 wp_477_969 tf_174_131 rfl rfl e2 ?_
    refine rs_aldn wi_477_13 l0 ?_
    refine rs_ildn wi_477_14 l2 ?_
    obtain ⟨c3, e4, h⟩ := wp_lt h
    refine dq_pi wi_477_15 wp_477_972 tf_174_132 rfl rfl e4 ?_
    refine rs_aldn wi_477_18 l0 ?_
    refine rs_ildn wi_477_19 l3 ?_
    obtain ⟨c5, e6, h⟩ := wp_lt h
    refine dq_pi wi_477_20 wp_477_975 tf_174_133 rfl rfl e6 ?_
    exact rs_vret wi_477_23 wr_477 (hQ c5 h)
  ·
    have h := wp_neg h q
    exact rs_vret wi_477_7 wr_477 (hQ c h)
theorem wa_15_475 : rz_cn 15 (rx_yn (rt_P sc fm) 475).cls = true := (by decide +kernel : rz_cn 15 (rt_yn 475).cls = true)
theorem wa_15_476 : rz_cn 15 (rx_yn (rt_P sc fm) 476).cls = true := (by decide +kernel : rz_cn 15 (rt_yn 476).cls = true)
theorem wa_15_477 : rz_cn 15 (rx_yn (rt_P sc fm) 477).cls = true := (by decide +kernel : rz_cn 15 (rt_yn 477).cls = true)
theorem wc_480_1002 : rx_ct (rt_P sc fm) 480 1002 = some (0, 475, 3) := (by decide +kernel : rt_ct 480 1002 = some (0, 475, 3))
theorem wc_480_1007 : rx_ct (rt_P sc fm) 480 1007 = some (0, 476, 2) := (by decide +kernel : rt_ct 480 1007 = some (0, 476, 2))
theorem wc_480_1010 : rx_ct (rt_P sc fm) 480 1010 = some (0, 477, 3) := (by decide +kernel : rt_ct 480 1010 = some (0, 477, 3))
theorem wc_480_468 : rx_ct (rt_P sc fm) 480 468 = some (0, 375, 1) := (by decide +kernel : rt_ct 480 468 = some (0, 375, 1))
theorem wc_480_568 : rx_ct (rt_P sc fm) 480 568 = some (0, 378, 2) := (by decide +kernel : rt_ct 480 568 = some (0, 378, 2))
theorem wc_480_706 : rx_ct (rt_P sc fm) 480 706 = some (0, 429, 3) := (by decide +kernel : rt_ct 480 706 = some (0, 429, 3))
theorem wc_480_985 : rx_ct (rt_P sc fm) 480 985 = some (0, 474, 3) := (by decide +kernel : rt_ct 480 985 = some (0, 474, 3))
theorem wc_480_989 : rx_ct (rt_P sc fm) 480 989 = some (0, 478, 1) := (by decide +kernel : rt_ct 480 989 = some (0, 478, 1))
theorem wf_480_344 : rx_ft (rt_P sc fm) 480 344 = some (15, 136) := (by decide +kernel : rt_ft 480 344 = some (15, 136))
theorem wf_480_347 : rx_ft (rt_P sc fm) 480 347 = some (15, 137) := (by decide +kernel : rt_ft 480 347 = some (15, 137))
theorem wf_480_350 : rx_ft (rt_P sc fm) 480 350 = some (15, 138) := (by decide +kernel : rt_ft 480 350 = some (15, 138))
theorem wf_480_353 : rx_ft (rt_P sc fm) 480 353 = some (15, 139) := (by decide +kernel : rt_ft 480 353 = some (15, 139))
theorem wf_480_456 : rx_ft (rt_P sc fm) 480 456 = some (15, 37) := (by decide +kernel : rt_ft 480 456 = some (15, 37))
theorem wf_480_697 : rx_ft (rt_P sc fm) 480 697 = some (15, 79) := (by decide +kernel : rt_ft 480 697 = some (15, 79))
theorem wf_480_969 : rx_ft (rt_P sc fm) 480 969 = some (15, 131) := (by decide +kernel : rt_ft 480 969 = some (15, 131))
theorem wi_480_0 : ri (rt_P sc fm) 480 0 (.aload_n 0) (1) := ri_of (by decide +kernel) rfl
theorem wi_480_1 : ri (rt_P sc fm) 480 1 (.iload_n 3) (2) := ri_of (by decide +kernel) rfl
theorem wi_480_10 : ri (rt_P sc fm) 480 10 (.ifCond .eq 20) (13) := ri_of (by decide +kernel) rfl
theorem wi_480_101 : ri (rt_P sc fm) 480 101 (.aload_n 0) (102) := ri_of (by decide +kernel) rfl
theorem wi_480_102 : ri (rt_P sc fm) 480 102 (.getfield 456) (105) := ri_of (by decide +kernel) rfl
theorem wi_480_105 : ri (rt_P sc fm) 480 105 (.if_icmp .ge 65) (108) := ri_of (by decide +kernel) rfl
theorem wi_480_108 : ri (rt_P sc fm) 480 108 (.iload 5) (110) := ri_of (by decide +kernel) rfl
theorem wi_480_110 : ri (rt_P sc fm) 480 110 (.ifCond .lt 60) (113) := ri_of (by decide +kernel) rfl
theorem wi_480_113 : ri (rt_P sc fm) 480 113 (.aload_n 0) (114) := ri_of (by decide +kernel) rfl
theorem wi_480_114 : ri (rt_P sc fm) 480 114 (.getfield 350) (117) := ri_of (by decide +kernel) rfl
theorem wi_480_117 : ri (rt_P sc fm) 480 117 (.iload 12) (119) := ri_of (by decide +kernel) rfl
theorem wi_480_119 : ri (rt_P sc fm) 480 119 (.baload) (120) := ri_of (by decide +kernel) rfl
theorem wi_480_120 : ri (rt_P sc fm) 480 120 (.ifCond .eq 44) (123) := ri_of (by decide +kernel) rfl
theorem wi_480_123 : ri (rt_P sc fm) 480 123 (.aload_n 0) (124) := ri_of (by decide +kernel) rfl
theorem wi_480_124 : ri (rt_P sc fm) 480 124 (.iload 12) (126) := ri_of (by decide +kernel) rfl
theorem wi_480_126 : ri (rt_P sc fm) 480 126 (.iload 5) (128) := ri_of (by decide +kernel) rfl
theorem wi_480_128 : ri (rt_P sc fm) 480 128 (.invokevirtual 1007) (131) := ri_of (by decide +kernel) rfl
theorem wi_480_13 : ri (rt_P sc fm) 480 13 (.aload_n 0) (14) := ri_of (by decide +kernel) rfl
theorem wi_480_131 : ri (rt_P sc fm) 480 131 (.ifCond .eq 33) (134) := ri_of (by decide +kernel) rfl
theorem wi_480_134 : ri (rt_P sc fm) 480 134 (.lload 6) (136) := ri_of (by decide +kernel) rfl
theorem wi_480_136 : ri (rt_P sc fm) 480 136 (.lconst 0) (137) := ri_of (by decide +kernel) rfl
theorem wi_480_137 : ri (rt_P sc fm) 480 137 (.lcmp) (138) := ri_of (by decide +kernel) rfl
theorem wi_480_138 : ri (rt_P sc fm) 480 138 (.ifCond .eq 19) (141) := ri_of (by decide +kernel) rfl
theorem wi_480_14 : ri (rt_P sc fm) 480 14 (.aload_n 0) (15) := ri_of (by decide +kernel) rfl
theorem wi_480_141 : ri (rt_P sc fm) 480 141 (.aload_n 0) (142) := ri_of (by decide +kernel) rfl
theorem wi_480_142 : ri (rt_P sc fm) 480 142 (.getfield 353) (145) := ri_of (by decide +kernel) rfl
theorem wi_480_145 : ri (rt_P sc fm) 480 145 (.iload 12) (147) := ri_of (by decide +kernel) rfl
theorem wi_480_147 : ri (rt_P sc fm) 480 147 (.laload) (148) := ri_of (by decide +kernel) rfl
theorem wi_480_148 : ri (rt_P sc fm) 480 148 (.lload 6) (150) := ri_of (by decide +kernel) rfl
theorem wi_480_15 : ri (rt_P sc fm) 480 15 (.iload_n 3) (16) := ri_of (by decide +kernel) rfl
theorem wi_480_150 : ri (rt_P sc fm) 480 150 (.lcmp) (151) := ri_of (by decide +kernel) rfl
theorem wi_480_151 : ri (rt_P sc fm) 480 151 (.ifCond .eq 6) (154) := ri_of (by decide +kernel) rfl
theorem wi_480_154 : ri (rt_P sc fm) 480 154 (.goto 10) (157) := ri_of (by decide +kernel) rfl
theorem wi_480_157 : ri (rt_P sc fm) 480 157 (.iinc 10 1) (160) := ri_of (by decide +kernel) rfl
theorem wi_480_16 : ri (rt_P sc fm) 480 16 (.iload 4) (18) := ri_of (by decide +kernel) rfl
theorem wi_480_160 : ri (rt_P sc fm) 480 160 (.iload 12) (162) := ri_of (by decide +kernel) rfl
theorem wi_480_162 : ri (rt_P sc fm) 480 162 (.istore 11) (164) := ri_of (by decide +kernel) rfl
theorem wi_480_164 : ri (rt_P sc fm) 480 164 (.iinc 12 1) (167) := ri_of (by decide +kernel) rfl
theorem wi_480_167 : ri (rt_P sc fm) 480 167 (.goto (-68)) (170) := ri_of (by decide +kernel) rfl
theorem wi_480_170 : ri (rt_P sc fm) 480 170 (.iload 10) (172) := ri_of (by decide +kernel) rfl
theorem wi_480_172 : ri (rt_P sc fm) 480 172 (.ifCond .ne 10) (175) := ri_of (by decide +kernel) rfl
theorem wi_480_175 : ri (rt_P sc fm) 480 175 (.aload_n 0) (176) := ri_of (by decide +kernel) rfl
theorem wi_480_176 : ri (rt_P sc fm) 480 176 (.iconst 1) (177) := ri_of (by decide +kernel) rfl
theorem wi_480_177 : ri (rt_P sc fm) 480 177 (.iload_n 2) (178) := ri_of (by decide +kernel) rfl
theorem wi_480_178 : ri (rt_P sc fm) 480 178 (.iload_n 1) (179) := ri_of (by decide +kernel) rfl
theorem wi_480_179 : ri (rt_P sc fm) 480 179 (.invokevirtual 1010) (182) := ri_of (by decide +kernel) rfl
theorem wi_480_18 : ri (rt_P sc fm) 480 18 (.ldc2_w 1000) (21) := ri_of (by decide +kernel) rfl
theorem wi_480_182 : ri (rt_P sc fm) 480 182 (.iload 10) (184) := ri_of (by decide +kernel) rfl
theorem wi_480_184 : ri (rt_P sc fm) 480 184 (.iconst 1) (185) := ri_of (by decide +kernel) rfl
theorem wi_480_185 : ri (rt_P sc fm) 480 185 (.if_icmp .le 10) (188) := ri_of (by decide +kernel) rfl
theorem wi_480_188 : ri (rt_P sc fm) 480 188 (.aload_n 0) (189) := ri_of (by decide +kernel) rfl
theorem wi_480_189 : ri (rt_P sc fm) 480 189 (.iconst 2) (190) := ri_of (by decide +kernel) rfl
theorem wi_480_190 : ri (rt_P sc fm) 480 190 (.iload_n 2) (191) := ri_of (by decide +kernel) rfl
theorem wi_480_191 : ri (rt_P sc fm) 480 191 (.iload_n 1) (192) := ri_of (by decide +kernel) rfl
theorem wi_480_192 : ri (rt_P sc fm) 480 192 (.invokevirtual 1010) (195) := ri_of (by decide +kernel) rfl
theorem wi_480_195 : ri (rt_P sc fm) 480 195 (.aload_n 0) (196) := ri_of (by decide +kernel) rfl
theorem wi_480_196 : ri (rt_P sc fm) 480 196 (.getfield 969) (199) := ri_of (by decide +kernel) rfl
theorem wi_480_199 : ri (rt_P sc fm) 480 199 (.ifCond .gt 8) (202) := ri_of (by decide +kernel) rfl
theorem wi_480_2 : ri (rt_P sc fm) 480 2 (.iload 4) (4) := ri_of (by decide +kernel) rfl
theorem wi_480_202 : ri (rt_P sc fm) 480 202 (.iload 9) (204) := ri_of (by decide +kernel) rfl
theorem wi_480_204 : ri (rt_P sc fm) 480 204 (.ifCond .eq 4) (207) := ri_of (by decide +kernel) rfl
theorem wi_480_207 : ri (rt_P sc fm) 480 207 (.return_) (208) := ri_of (by decide +kernel) rfl
theorem wi_480_208 : ri (rt_P sc fm) 480 208 (.aload_n 0) (209) := ri_of (by decide +kernel) rfl
theorem wi_480_209 : ri (rt_P sc fm) 480 209 (.getfield 347) (212) := ri_of (by decide +kernel) rfl
theorem wi_480_21 : ri (rt_P sc fm) 480 21 (.invokevirtual 985) (24) := ri_of (by decide +kernel) rfl
theorem wi_480_212 : ri (rt_P sc fm) 480 212 (.iload 11) (214) := ri_of (by decide +kernel) rfl
theorem wi_480_214 : ri (rt_P sc fm) 480 214 (.baload) (215) := ri_of (by decide +kernel) rfl
theorem wi_480_215 : ri (rt_P sc fm) 480 215 (.ifCond .eq 13) (218) := ri_of (by decide +kernel) rfl
theorem wi_480_218 : ri (rt_P sc fm) 480 218 (.aload_n 0) (219) := ri_of (by decide +kernel) rfl
theorem wi_480_219 : ri (rt_P sc fm) 480 219 (.iconst 3) (220) := ri_of (by decide +kernel) rfl
theorem wi_480_220 : ri (rt_P sc fm) 480 220 (.iload_n 2) (221) := ri_of (by decide +kernel) rfl
theorem wi_480_221 : ri (rt_P sc fm) 480 221 (.iload_n 1) (222) := ri_of (by decide +kernel) rfl
theorem wi_480_222 : ri (rt_P sc fm) 480 222 (.invokevirtual 1010) (225) := ri_of (by decide +kernel) rfl
theorem wi_480_225 : ri (rt_P sc fm) 480 225 (.goto 19) (228) := ri_of (by decide +kernel) rfl
theorem wi_480_228 : ri (rt_P sc fm) 480 228 (.aload_n 0) (229) := ri_of (by decide +kernel) rfl
theorem wi_480_229 : ri (rt_P sc fm) 480 229 (.getfield 344) (232) := ri_of (by decide +kernel) rfl
theorem wi_480_232 : ri (rt_P sc fm) 480 232 (.iload 11) (234) := ri_of (by decide +kernel) rfl
theorem wi_480_234 : ri (rt_P sc fm) 480 234 (.baload) (235) := ri_of (by decide +kernel) rfl
theorem wi_480_235 : ri (rt_P sc fm) 480 235 (.ifCond .ne 9) (238) := ri_of (by decide +kernel) rfl
theorem wi_480_238 : ri (rt_P sc fm) 480 238 (.aload_n 0) (239) := ri_of (by decide +kernel) rfl
theorem wi_480_239 : ri (rt_P sc fm) 480 239 (.iload 11) (241) := ri_of (by decide +kernel) rfl
theorem wi_480_24 : ri (rt_P sc fm) 480 24 (.invokevirtual 468) (27) := ri_of (by decide +kernel) rfl
theorem wi_480_241 : ri (rt_P sc fm) 480 241 (.invokevirtual 989) (244) := ri_of (by decide +kernel) rfl
theorem wi_480_244 : ri (rt_P sc fm) 480 244 (.return_) (245) := ri_of (by decide +kernel) rfl
theorem wi_480_27 : ri (rt_P sc fm) 480 27 (.goto 4) (30) := ri_of (by decide +kernel) rfl
theorem wi_480_30 : ri (rt_P sc fm) 480 30 (.iconst (-1)) (31) := ri_of (by decide +kernel) rfl
theorem wi_480_31 : ri (rt_P sc fm) 480 31 (.istore 5) (33) := ri_of (by decide +kernel) rfl
theorem wi_480_33 : ri (rt_P sc fm) 480 33 (.aload_n 0) (34) := ri_of (by decide +kernel) rfl
theorem wi_480_34 : ri (rt_P sc fm) 480 34 (.iload_n 3) (35) := ri_of (by decide +kernel) rfl
theorem wi_480_35 : ri (rt_P sc fm) 480 35 (.iload 4) (37) := ri_of (by decide +kernel) rfl
theorem wi_480_37 : ri (rt_P sc fm) 480 37 (.ldc2_w 983) (40) := ri_of (by decide +kernel) rfl
theorem wi_480_4 : ri (rt_P sc fm) 480 4 (.ldc2_w 1000) (7) := ri_of (by decide +kernel) rfl
theorem wi_480_40 : ri (rt_P sc fm) 480 40 (.invokevirtual 985) (43) := ri_of (by decide +kernel) rfl
theorem wi_480_43 : ri (rt_P sc fm) 480 43 (.lstore 6) (45) := ri_of (by decide +kernel) rfl
theorem wi_480_45 : ri (rt_P sc fm) 480 45 (.aload_n 0) (46) := ri_of (by decide +kernel) rfl
theorem wi_480_46 : ri (rt_P sc fm) 480 46 (.iload 4) (48) := ri_of (by decide +kernel) rfl
theorem wi_480_48 : ri (rt_P sc fm) 480 48 (.ldc2_w 1005) (51) := ri_of (by decide +kernel) rfl
theorem wi_480_51 : ri (rt_P sc fm) 480 51 (.invokevirtual 568) (54) := ri_of (by decide +kernel) rfl
theorem wi_480_54 : ri (rt_P sc fm) 480 54 (.istore 8) (56) := ri_of (by decide +kernel) rfl
theorem wi_480_56 : ri (rt_P sc fm) 480 56 (.iload 8) (58) := ri_of (by decide +kernel) rfl
theorem wi_480_58 : ri (rt_P sc fm) 480 58 (.ifCond .lt 29) (61) := ri_of (by decide +kernel) rfl
theorem wi_480_61 : ri (rt_P sc fm) 480 61 (.aload_n 0) (62) := ri_of (by decide +kernel) rfl
theorem wi_480_62 : ri (rt_P sc fm) 480 62 (.iload_n 3) (63) := ri_of (by decide +kernel) rfl
theorem wi_480_63 : ri (rt_P sc fm) 480 63 (.iload 4) (65) := ri_of (by decide +kernel) rfl
theorem wi_480_65 : ri (rt_P sc fm) 480 65 (.iload 8) (67) := ri_of (by decide +kernel) rfl
theorem wi_480_67 : ri (rt_P sc fm) 480 67 (.invokevirtual 706) (70) := ri_of (by decide +kernel) rfl
theorem wi_480_7 : ri (rt_P sc fm) 480 7 (.invokevirtual 1002) (10) := ri_of (by decide +kernel) rfl
theorem wi_480_70 : ri (rt_P sc fm) 480 70 (.iconst 1) (71) := ri_of (by decide +kernel) rfl
theorem wi_480_71 : ri (rt_P sc fm) 480 71 (.if_icmp .ne 16) (74) := ri_of (by decide +kernel) rfl
theorem wi_480_74 : ri (rt_P sc fm) 480 74 (.aload_n 0) (75) := ri_of (by decide +kernel) rfl
theorem wi_480_75 : ri (rt_P sc fm) 480 75 (.getfield 697) (78) := ri_of (by decide +kernel) rfl
theorem wi_480_78 : ri (rt_P sc fm) 480 78 (.lconst 0) (79) := ri_of (by decide +kernel) rfl
theorem wi_480_79 : ri (rt_P sc fm) 480 79 (.lcmp) (80) := ri_of (by decide +kernel) rfl
theorem wi_480_80 : ri (rt_P sc fm) 480 80 (.ifCond .eq 7) (83) := ri_of (by decide +kernel) rfl
theorem wi_480_83 : ri (rt_P sc fm) 480 83 (.iconst 1) (84) := ri_of (by decide +kernel) rfl
theorem wi_480_84 : ri (rt_P sc fm) 480 84 (.goto 4) (87) := ri_of (by decide +kernel) rfl
theorem wi_480_87 : ri (rt_P sc fm) 480 87 (.iconst 0) (88) := ri_of (by decide +kernel) rfl
theorem wi_480_88 : ri (rt_P sc fm) 480 88 (.istore 9) (90) := ri_of (by decide +kernel) rfl
theorem wi_480_90 : ri (rt_P sc fm) 480 90 (.iconst 0) (91) := ri_of (by decide +kernel) rfl
theorem wi_480_91 : ri (rt_P sc fm) 480 91 (.istore 10) (93) := ri_of (by decide +kernel) rfl
theorem wi_480_93 : ri (rt_P sc fm) 480 93 (.iconst (-1)) (94) := ri_of (by decide +kernel) rfl
theorem wi_480_94 : ri (rt_P sc fm) 480 94 (.istore 11) (96) := ri_of (by decide +kernel) rfl
theorem wi_480_96 : ri (rt_P sc fm) 480 96 (.iconst 0) (97) := ri_of (by decide +kernel) rfl
theorem wi_480_97 : ri (rt_P sc fm) 480 97 (.istore 12) (99) := ri_of (by decide +kernel) rfl
theorem wi_480_99 : ri (rt_P sc fm) 480 99 (.iload 12) (101) := ri_of (by decide +kernel) rfl
theorem wk_480_1000 : rx_kt (rt_P sc fm) 480 1000 = some (.long (28518)) := (by decide +kernel : rt_kt 480 1000 = some (.long (28518)))
theorem wk_480_1005 : rx_kt (rt_P sc fm) 480 1005 = some (.long (1818326117)) := (by decide +kernel : rt_kt 480 1005 = some (.long (1818326117)))
theorem wk_480_983 : rx_kt (rt_P sc fm) 480 983 = some (.long (465490306412)) := (by decide +kernel : rt_kt 480 983 = some (.long (465490306412)))
theorem wm_475 : rx_ml (rt_P sc fm) 475 = 6 := (by decide +kernel : rt_ml 475 = 6)
theorem wm_476 : rx_ml (rt_P sc fm) 476 = 4 := (by decide +kernel : rt_ml 476 = 4)
theorem wm_477 : rx_ml (rt_P sc fm) 477 = 4 := (by decide +kernel : rt_ml 477 = 4)
theorem wr_480 : rx_rt (rt_P sc fm) 480 = none := (by decide +kernel : rt_rt 480 = none)
/-- MarkHouseModel.wantsOne(IIII)V -/
def d_480 (rec : Int32 → Int32 → cS → Option (cS)) (n : Nat) (a1 : Int32) (a2 : Int32) (a3 : Int32) (a4 : Int32) (c : cS) : Option (cS) :=
  Option.bind (d_475 n a3 a4 28518 c) (fun r1 =>
  jn (fun p2 : Int32 × cS =>
    Option.bind (d_474 n a3 a4 465490306412 p2.2) (fun r4 =>
    Option.bind (d_378 n a4 1818326117 r4.2) (fun v6 =>
    jn (fun p8 : Int32 × cS =>
      Option.bind (whl (R := (Int32 × Int32)) (fun s13 : Int32 × Int32 × Int32 =>
        if (p8.2.1 174 37) ≤ s13.2.2 then
          some (.inr (s13.1, s13.2.1))
        else
          if p2.1 < 0 then
            some (.inr (s13.1, s13.2.1))
          else
            if ib s13.2.2 12 then
            jn (fun p15 : Int32 × Int32 =>
              lt (s13.2.2 + 1 : Int32) (fun v17 =>
              some (.inl (p15.1, p15.2, v17))))
            (fun j164 =>
            if (p8.2.1 264 (ix s13.2.2)) = 0 then
              j164 (s13.1, s13.2.1)
            else
              Option.bind (d_476 n s13.2.2 p2.1 p8.2) (fun v19 =>
              if v19 = 0 then
                j164 (s13.1, s13.2.1)
              else
                jn (fun p20 : Unit =>
                  lt (s13.1 + 1 : Int32) (fun v22 =>
                  j164 (v22, s13.2.2)))
                (fun j157 =>
                if (lg_cmp r4.1 0) = 0 then
                  j157 ()
                else
                  if ib s13.2.2 12 then
                  if (lg_cmp (p8.2.2 265 (ix s13.2.2)) r4.1) = 0 then
                    j157 ()
                  else
                    j164 (s13.1, s13.2.1)
                  else none)))
            else none) n (0, (-1), 0))
      (fun x26 : Int32 × Int32 =>
        jn (fun p27 : cS =>
          jn (fun p28 : cS =>
            jn (fun p29 : Unit =>
              some p28)
            (fun j207 =>
            if 0 < (p28.1 174 131) then
              j207 ()
            else
              if p8.1 = 0 then
                if ib x26.2 12 then
                jn (fun p31 : cS =>
                  some p31)
                (fun j244 =>
                if (p28.1 263 (ix x26.2)) = 0 then
                  if ib x26.2 12 then
                  if (p28.1 262 (ix x26.2)) = 0 then
                    Option.bind (d_478 rec n x26.2 p28) (fun r33 =>
                    j244 r33)
                  else
                    j244 p28
                  else none
                else
                  Option.bind (d_477 n 3 a2 a1 p28) (fun r34 =>
                  j244 r34))
                else none
              else
                j207 ()))
          (fun j195 =>
          if x26.1 ≤ 1 then
            j195 p27
          else
            Option.bind (d_477 n 2 a2 a1 p27) (fun r35 =>
            j195 r35)))
        (fun j182 =>
        if x26.1 = 0 then
          Option.bind (d_477 n 1 a2 a1 p8.2) (fun r36 =>
          j182 r36)
        else
          j182 p8.2)))
    (fun j88 =>
    jn (fun p37 : cS =>
      j88 (0, p37))
    (fun j87 =>
    if v6 < 0 then
      j87 r4.2
    else
      Option.bind (d_429 n a3 a4 v6 r4.2) (fun r38 =>
      if r38.1 = 1 then
        if (lg_cmp (r38.2.2 174 79) 0) = 0 then
          j87 r38.2
        else
          j88 (1, r38.2)
      else
        j87 r38.2))))))
  (fun j31 =>
  if r1.1 = 0 then
    j31 ((-1), r1.2)
  else
    Option.bind (d_474 n a3 a4 28518 r1.2) (fun r39 =>
    Option.bind (d_375 n r39.1 r39.2) (fun v40 =>
    j31 (v40, r39.2)))))
theorem sp_480 {rec : Int32 → Int32 → cS → Option (cS)} {Fr Lr F Lo n : Nat} {a1 : Int32} {a2 : Int32} {a3 : Int32} {a4 : Int32} {c y : cS} {w : cW} {K : cS → Prop} {Q : ((Option Value) ⊕ String) → List va_E → Prop} (hw : rOK fm w) (hrec : ∀ {F Lo : Nat} {a1 : Int32} {a2 : Int32} {c : cS} {K : cS → Prop} {Q : ((Option Value) ⊕ String) → List va_E → Prop}, Fr ≤ F → Lr ≤ Lo → wp (rec a1 a2 c) K → (∀ r, K r → Q (.inl none) (hq false r y w)) → rs (rt_P sc fm) 479 F Lo 0 [(0, .ref 174), (1, .int a1), (2, .int a2)] [] (hq false c y w) Q) (hF : 2 ≤ F) (hLo : 51 ≤ Lo) (hFr : Fr + 2 ≤ F) (hLr : Lr + 46 ≤ Lo) (h : wp (d_480 rec n a1 a2 a3 a4 c) K) (hQ : ∀ r, K r → Q (.inl none) (hq false r y w)) : rs (rt_P sc fm) 480 F Lo 0 [(0, .ref 174), (1, .int a1), (2, .int a2), (3, .int a3), (4, .int a4)] [] (hq false c y w) Q := by
  unfold d_480 at h
  obtain ⟨lv, elv⟩ : ∃ lv : rx_L, lv = [(0, .ref 174), (1, .int a1), (2, .int a2), (3, .int a3), (4, .int a4)] := ⟨_, rfl⟩
  rw [← elv]
  have l0 : rx_ld lv 0 = some (.ref 174) := by rw [elv]; rfl
  have l1 : rx_ld lv 1 = some (.int a1) := by rw [elv]; rfl
  have l2 : rx_ld lv 2 = some (.int a2) := by rw [elv]; rfl
  have l3 : rx_ld lv 3 = some (.int a3) := by rw [elv]; rfl
  have l4 : rx_ld lv 4 = some (.int a4) := by rw [elv]; rfl
  refine rs_aldn wi_480_0 l0 ?_
  refine rs_ildn wi_480_1 l3 ?_
  refine rs_ild wi_480_2 l4 ?_
  refine rs_ldcl wi_480_4 wk_480_1000 ?_
  refine rs_V wi_480_7 wc_480_1002 rfl (dq_isa tf_174_0 wa_15_475) (by omega) (ml_le wm_475 (by omega)) rfl (sp_475 hw (by omega) (ml_sub wm_475 (by omega)) (wp_bind h) (fun r1 h => rs_back1 ?_))
  refine wp_jn (B := fun p2 : Int32 × cS => ∀ lv, rx_ld lv 0 = some (.ref 174) → rx_ld lv 1 = some (.int a1) → rx_ld lv 2 = some (.int a2) → rx_ld lv 3 = some (.int a3) → rx_ld lv 4 = some (.int a4) → rs (rt_P sc fm) 480 F Lo 31 lv [.int p2.1] (hq false p2.2 y w) Q) h (fun p2 h lv l0 l1 l2 l3 l4 => ?_) (fun j31 hj31 h => ?_)
  ·
    refine dl_ist wi_480_31 rfl (fun lv l5 t3 => ?_)
    have l0 := t3 _ _ (by decide) (Or.inl rfl) l0
    have l1 := t3 _ _ (by decide) (Or.inl rfl) l1
    have l2 := t3 _ _ (by decide) (Or.inl rfl) l2
    have l3 := t3 _ _ (by decide) (Or.inl rfl) l3
    have l4 := t3 _ _ (by decide) (Or.inl rfl) l4
    refine rs_aldn wi_480_33 l0 ?_
    refine rs_ildn wi_480_34 l3 ?_
    refine rs_ild wi_480_35 l4 ?_
    refine rs_ldcl wi_480_37 wk_480_983 ?_
    refine rs_V wi_480_40 wc_480_985 rfl (dq_isa tf_174_0 wa_15_474) (by omega) (ml_le wm_474 (by omega)) rfl (sp_474 hw (by omega) (ml_sub wm_474 (by omega)) (wp_bind h) (fun r4 h => rs_back1 ?_))
    refine dl_lst wi_480_43 rfl (fun lv l6 t5 => ?_)
    have l0 := t5 _ _ (by decide) (by decide) (Or.inl rfl) l0
    have l1 := t5 _ _ (by decide) (by decide) (Or.inl rfl) l1
    have l2 := t5 _ _ (by decide) (by decide) (Or.inl rfl) l2
    have l3 := t5 _ _ (by decide) (by decide) (Or.inl rfl) l3
    have l4 := t5 _ _ (by decide) (by decide) (Or.inl rfl) l4
    have l5 := t5 _ _ (by decide) (by decide) (Or.inl rfl) l5
    refine rs_aldn wi_480_45 l0 ?_
    refine rs_ild wi_480_46 l4 ?_
    refine rs_ldcl wi_480_48 wk_480_1005 ?_
    refine rs_V wi_480_51 wc_480_568 rfl (dq_isa tf_174_0 wa_15_378) (by omega) (ml_le wm_378 (by omega)) rfl (sp_378 hw (by omega) (ml_sub wm_378 (by omega)) (wp_bind h) (fun v6 h => rs_back1 ?_))
    refine dl_ist wi_480_54 rfl (fun lv l8 t7 => ?_)
    have l0 := t7 _ _ (by decide) (Or.inl rfl) l0
    have l1 := t7 _ _ (by decide) (Or.inl rfl) l1
    have l2 := t7 _ _ (by decide) (Or.inl rfl) l2
    have l3 := t7 _ _ (by decide) (Or.inl rfl) l3
    have l4 := t7 _ _ (by decide) (Or.inl rfl) l4
    have l5 := t7 _ _ (by decide) (Or.inl rfl) l5
    have l6 := t7 _ _ (by decide) (Or.inr (by decide)) l6
    refine rs_ild wi_480_56 l8 ?_
    refine wp_jn (B := fun p8 : Int32 × cS => ∀ lv, rx_ld lv 0 = some (.ref 174) → rx_ld lv 1 = some (.int a1) → rx_ld lv 2 = some (.int a2) → rx_ld lv 5 = some (.int p2.1) → rx_ld lv 6 = some (.long r4.1) → rs (rt_P sc fm) 480 F Lo 88 lv [.int p8.1] (hq false p8.2 y w) Q) h (fun p8 h lv l0 l1 l2 l5 l6 => ?_) (fun j88 hj88 h => ?_)
    ·
      refine dl_ist wi_480_88 rfl (fun lv l9 t9 => ?_)
      have l0 := t9 _ _ (by decide) (Or.inl rfl) l0
      have l1 := t9 _ _ (by decide) (Or.inl rfl) l1
      have l2 := t9 _ _ (by decide) (Or.inl rfl) l2
      have l5 := t9 _ _ (by decide) (Or.inl rfl) l5
      have l6 := t9 _ _ (by decide) (Or.inr (by decide)) l6
      refine rs_pure wi_480_90 rfl ?_
      refine rs_topi (v := 0) (by decide) ?_
      refine dl_ist wi_480_91 rfl (fun lv l10 t10 => ?_)
      have l0 := t10 _ _ (by decide) (Or.inl rfl) l0
      have l1 := t10 _ _ (by decide) (Or.inl rfl) l1
      have l2 := t10 _ _ (by decide) (Or.inl rfl) l2
      have l5 := t10 _ _ (by decide) (Or.inl rfl) l5
      have l6 := t10 _ _ (by decide) (Or.inr (by decide)) l6
      have l9 := t10 _ _ (by decide) (Or.inl rfl) l9
      refine rs_pure wi_480_93 rfl ?_
      refine rs_topi (v := (-1)) (by decide) ?_
      refine dl_ist wi_480_94 rfl (fun lv l11 t11 => ?_)
      have l0 := t11 _ _ (by decide) (Or.inl rfl) l0
      have l1 := t11 _ _ (by decide) (Or.inl rfl) l1
      have l2 := t11 _ _ (by decide) (Or.inl rfl) l2
      have l5 := t11 _ _ (by decide) (Or.inl rfl) l5
      have l6 := t11 _ _ (by decide) (Or.inr (by decide)) l6
      have l9 := t11 _ _ (by decide) (Or.inl rfl) l9
      have l10 := t11 _ _ (by decide) (Or.inl rfl) l10
      refine rs_pure wi_480_96 rfl ?_
      refine rs_topi (v := 0) (by decide) ?_
      refine dl_ist wi_480_97 rfl (fun lv l12 t12 => ?_)
      have l0 := t12 _ _ (by decide) (Or.inl rfl) l0
      have l1 := t12 _ _ (by decide) (Or.inl rfl) l1
      have l2 := t12 _ _ (by decide) (Or.inl rfl) l2
      have l5 := t12 _ _ (by decide) (Or.inl rfl) l5
      have l6 := t12 _ _ (by decide) (Or.inr (by decide)) l6
      have l9 := t12 _ _ (by decide) (Or.inl rfl) l9
      have l10 := t12 _ _ (by decide) (Or.inl rfl) l10
      have l11 := t12 _ _ (by decide) (Or.inl rfl) l11
      refine whl_ex (A := fun s13 : Int32 × Int32 × Int32 => ∀ lv, rx_ld lv 0 = some (.ref 174) → rx_ld lv 1 = some (.int a1) → rx_ld lv 2 = some (.int a2) → rx_ld lv 5 = some (.int p2.1) → rx_ld lv 6 = some (.long r4.1) → rx_ld lv 9 = some (.int p8.1) → rx_ld lv 10 = some (.int s13.1) → rx_ld lv 11 = some (.int s13.2.1) → rx_ld lv 12 = some (.int s13.2.2) → rs (rt_P sc fm) 480 F Lo 99 lv [] (hq false p8.2 y w) Q) (B := (fun x26 : Int32 × Int32 => ∀ lv, rx_ld lv 0 = some (.ref 174) → rx_ld lv 1 = some (.int a1) → rx_ld lv 2 = some (.int a2) → rx_ld lv 9 = some (.int p8.1) → rx_ld lv 10 = some (.int x26.1) → rx_ld lv 11 = some (.int x26.2) → rs (rt_P sc fm) 480 F Lo 170 lv [] (hq false p8.2 y w) Q)) ?_ ?_ _ _ (wp_bind h) _ l0 l1 l2 l5 l6 l9 l10 l11 l12
      · intro s13 h lv l0 l1 l2 l5 l6 l9 l10 l11 l12
        refine rs_ild wi_480_99 l12 ?_
        refine rs_aldn wi_480_101 l0 ?_
        refine dq_gi wi_480_102 wf_480_456 tf_174_37 ?_
        refine rs_icge (tg := 170) wi_480_105 ⟨by decide, by decide⟩ (fun q => ?_) (fun q => ?_)
        ·
          have h := wp_pos h q
          exact h _ l0 l1 l2 l9 l10 l11
        ·
          have h := wp_neg h q
          refine rs_ild wi_480_108 l5 ?_
          refine rs_iflt (tg := 170) wi_480_110 ⟨by decide, by decide⟩ (fun q => ?_) (fun q => ?_)
          ·
            have h := wp_pos h q
            exact h _ l0 l1 l2 l9 l10 l11
          ·
            have h := wp_neg h q
            refine rs_aldn wi_480_113 l0 ?_
            refine dq_gr wi_480_114 wf_480_350 tf_174_138 ?_
            refine rs_ild wi_480_117 l12 ?_
            obtain ⟨g14, h⟩ := wp_gd h
            refine dq_zald wi_480_119 t_264 g14 ?_
            refine wp_jn (B := fun p15 : Int32 × Int32 => ∀ lv, rx_ld lv 0 = some (.ref 174) → rx_ld lv 1 = some (.int a1) → rx_ld lv 2 = some (.int a2) → rx_ld lv 5 = some (.int p2.1) → rx_ld lv 6 = some (.long r4.1) → rx_ld lv 9 = some (.int p8.1) → rx_ld lv 10 = some (.int p15.1) → rx_ld lv 11 = some (.int p15.2) → rx_ld lv 12 = some (.int s13.2.2) → rs (rt_P sc fm) 480 F Lo 164 lv [] (hq false p8.2 y w) Q) h (fun p15 h lv l0 l1 l2 l5 l6 l9 l10 l11 l12 => ?_) (fun j164 hj164 h => ?_)
            ·
              obtain ⟨v17, e18, h⟩ := wp_lt h
              refine dl_inc wi_480_164 l12 rfl e18 (fun lv l12 t16 => ?_)
              have l0 := t16 _ _ (by decide) (Or.inl rfl) l0
              have l1 := t16 _ _ (by decide) (Or.inl rfl) l1
              have l2 := t16 _ _ (by decide) (Or.inl rfl) l2
              have l5 := t16 _ _ (by decide) (Or.inl rfl) l5
              have l6 := t16 _ _ (by decide) (Or.inr (by decide)) l6
              have l9 := t16 _ _ (by decide) (Or.inl rfl) l9
              have l10 := t16 _ _ (by decide) (Or.inl rfl) l10
              have l11 := t16 _ _ (by decide) (Or.inl rfl) l11
              refine rs_goto (tg := 99) wi_480_167 ⟨by decide, by decide⟩ ?_
              exact h _ l0 l1 l2 l5 l6 l9 l10 l11 l12
            refine rs_ifeq (tg := 164) wi_480_120 ⟨by decide, by decide⟩ (fun q => ?_) (fun q => ?_)
            ·
              have h := wp_pos h q
              exact hj164 _ h _ l0 l1 l2 l5 l6 l9 l10 l11 l12
            ·
              have h := wp_neg h q
              refine rs_aldn wi_480_123 l0 ?_
              refine rs_ild wi_480_124 l12 ?_
              refine rs_ild wi_480_126 l5 ?_
              refine rs_V wi_480_128 wc_480_1007 rfl (dq_isa tf_174_0 wa_15_476) (by omega) (ml_le wm_476 (by omega)) rfl (sp_476 hw (by omega) (ml_sub wm_476 (by omega)) (wp_bind h) (fun v19 h => rs_back1 ?_))
              refine rs_ifeq (tg := 164) wi_480_131 ⟨by decide, by decide⟩ (fun q => ?_) (fun q => ?_)
              ·
                have h := wp_pos h q
                exact hj164 _ h _ l0 l1 l2 l5 l6 l9 l10 l11 l12
              ·
                have h := wp_neg h q
                refine rs_lld wi_480_134 l6 ?_
                refine rs_pure wi_480_136 rfl ?_
                refine rs_topl (v := 0) (by decide) ?_
                refine rs_pure wi_480_137 rfl ?_
                refine wp_jn (B := fun p20 : Unit => ∀ lv, rx_ld lv 0 = some (.ref 174) → rx_ld lv 1 = some (.int a1) → rx_ld lv 2 = some (.int a2) → rx_ld lv 5 = some (.int p2.1) → rx_ld lv 6 = some (.long r4.1) → rx_ld lv 9 = some (.int p8.1) → rx_ld lv 10 = some (.int s13.1) → rx_ld lv 12 = some (.int s13.2.2) → rs (rt_P sc fm) 480 F Lo 157 lv [] (hq false p8.2 y w) Q) h (fun p20 h lv l0 l1 l2 l5 l6 l9 l10 l12 => ?_) (fun j157 hj157 h => ?_)
                ·
                  obtain ⟨v22, e23, h⟩ := wp_lt h
                  refine dl_inc wi_480_157 l10 rfl e23 (fun lv l10 t21 => ?_)
                  have l0 := t21 _ _ (by decide) (Or.inl rfl) l0
                  have l1 := t21 _ _ (by decide) (Or.inl rfl) l1
                  have l2 := t21 _ _ (by decide) (Or.inl rfl) l2
                  have l5 := t21 _ _ (by decide) (Or.inl rfl) l5
                  have l6 := t21 _ _ (by decide) (Or.inr (by decide)) l6
                  have l9 := t21 _ _ (by decide) (Or.inl rfl) l9
                  have l12 := t21 _ _ (by decide) (Or.inl rfl) l12
                  refine rs_ild wi_480_160 l12 ?_
                  refine dl_ist wi_480_162 rfl (fun lv l11 t24 => ?_)
                  have l0 := t24 _ _ (by decide) (Or.inl rfl) l0
                  have l1 := t24 _ _ (by decide) (Or.inl rfl) l1
                  have l2 := t24 _ _ (by decide) (Or.inl rfl) l2
                  have l5 := t24 _ _ (by decide) (Or.inl rfl) l5
                  have l6 := t24 _ _ (by decide) (Or.inr (by decide)) l6
                  have l9 := t24 _ _ (by decide) (Or.inl rfl) l9
                  have l10 := t24 _ _ (by decide) (Or.inl rfl) l10
                  have l12 := t24 _ _ (by decide) (Or.inl rfl) l12
                  exact hj164 _ h _ l0 l1 l2 l5 l6 l9 l10 l11 l12
                refine rs_ifeq (tg := 157) wi_480_138 ⟨by decide, by decide⟩ (fun q => ?_) (fun q => ?_)
                ·
                  have h := wp_pos h q
                  exact hj157 _ h _ l0 l1 l2 l5 l6 l9 l10 l12
                ·
                  have h := wp_neg h q
                  refine rs_aldn wi_480_141 l0 ?_
                  refine dq_gr wi_480_142 wf_480_353 tf_174_139 ?_
                  refine rs_ild wi_480_145 l12 ?_
                  obtain ⟨g25, h⟩ := wp_gd h
                  refine dq_lald wi_480_147 t_265 g25 ?_
                  refine rs_lld wi_480_148 l6 ?_
                  refine rs_pure wi_480_150 rfl ?_
                  refine rs_ifeq (tg := 157) wi_480_151 ⟨by decide, by decide⟩ (fun q => ?_) (fun q => ?_)
                  ·
                    have h := wp_pos h q
                    exact hj157 _ h _ l0 l1 l2 l5 l6 l9 l10 l12
                  ·
                    have h := wp_neg h q
                    refine rs_goto (tg := 164) wi_480_154 ⟨by decide, by decide⟩ ?_
                    exact hj164 _ h _ l0 l1 l2 l5 l6 l9 l10 l11 l12
      ·
        intro x26 h lv l0 l1 l2 l9 l10 l11
        refine rs_ild wi_480_170 l10 ?_
        refine wp_jn (B := fun p27 : cS => ∀ lv, rx_ld lv 0 = some (.ref 174) → rx_ld lv 1 = some (.int a1) → rx_ld lv 2 = some (.int a2) → rx_ld lv 9 = some (.int p8.1) → rx_ld lv 10 = some (.int x26.1) → rx_ld lv 11 = some (.int x26.2) → rs (rt_P sc fm) 480 F Lo 182 lv [] (hq false p27 y w) Q) h (fun p27 h lv l0 l1 l2 l9 l10 l11 => ?_) (fun j182 hj182 h => ?_)
        ·
          refine rs_ild wi_480_182 l10 ?_
          refine rs_pure wi_480_184 rfl ?_
          refine rs_topi (v := 1) (by decide) ?_
          refine wp_jn (B := fun p28 : cS => ∀ lv, rx_ld lv 0 = some (.ref 174) → rx_ld lv 1 = some (.int a1) → rx_ld lv 2 = some (.int a2) → rx_ld lv 9 = some (.int p8.1) → rx_ld lv 11 = some (.int x26.2) → rs (rt_P sc fm) 480 F Lo 195 lv [] (hq false p28 y w) Q) h (fun p28 h lv l0 l1 l2 l9 l11 => ?_) (fun j195 hj195 h => ?_)
          ·
            refine rs_aldn wi_480_195 l0 ?_
            refine dq_gi wi_480_196 wf_480_969 tf_174_131 ?_
            refine wp_jn (B := fun p29 : Unit => ∀ lv, rs (rt_P sc fm) 480 F Lo 207 lv [] (hq false p28 y w) Q) h (fun p29 h lv => ?_) (fun j207 hj207 h => ?_)
            ·
              exact rs_vret wi_480_207 wr_480 (hQ p28 h)
            refine rs_ifgt (tg := 207) wi_480_199 ⟨by decide, by decide⟩ (fun q => ?_) (fun q => ?_)
            ·
              have h := wp_pos h q
              exact hj207 _ h _
            ·
              have h := wp_neg h q
              refine rs_ild wi_480_202 l9 ?_
              refine rs_ifeq (tg := 208) wi_480_204 ⟨by decide, by decide⟩ (fun q => ?_) (fun q => ?_)
              ·
                have h := wp_pos h q
                refine rs_aldn wi_480_208 l0 ?_
                refine dq_gr wi_480_209 wf_480_347 tf_174_137 ?_
                refine rs_ild wi_480_212 l11 ?_
                obtain ⟨g30, h⟩ := wp_gd h
                refine dq_zald wi_480_214 t_263 g30 ?_
                refine wp_jn (B := fun p31 : cS => ∀ lv, rs (rt_P sc fm) 480 F Lo 244 lv [] (hq false p31 y w) Q) h (fun p31 h lv => ?_) (fun j244 hj244 h => ?_)
                ·
                  exact rs_vret wi_480_244 wr_480 (hQ p31 h)
                refine rs_ifeq (tg := 228) wi_480_215 ⟨by decide, by decide⟩ (fun q => ?_) (fun q => ?_)
                ·
                  have h := wp_pos h q
                  refine rs_aldn wi_480_228 l0 ?_
                  refine dq_gr wi_480_229 wf_480_344 tf_174_136 ?_
                  refine rs_ild wi_480_232 l11 ?_
                  obtain ⟨g32, h⟩ := wp_gd h
                  refine dq_zald wi_480_234 t_262 g32 ?_
                  refine rs_ifne (tg := 244) wi_480_235 ⟨by decide, by decide⟩ (fun q => ?_) (fun q => ?_)
                  ·
                    have h := wp_neg h q
                    exact hj244 _ h _
                  ·
                    have h := wp_pos h q
                    refine rs_aldn wi_480_238 l0 ?_
                    refine rs_ild wi_480_239 l11 ?_
                    refine rs_V wi_480_241 wc_480_989 rfl (dq_isa tf_174_0 wa_15_478) (by omega) (ml_le wm_478 (by omega)) rfl (sp_478 hw hrec (by omega) (ml_sub wm_478 (by omega)) (by omega) (ml_sub wm_478 (by omega)) (wp_bind h) (fun r33 h => rs_back0 ?_))
                    exact hj244 _ h _
                ·
                  have h := wp_neg h q
                  refine rs_aldn wi_480_218 l0 ?_
                  refine rs_pure wi_480_219 rfl ?_
                  refine rs_topi (v := 3) (by decide) ?_
                  refine rs_ildn wi_480_220 l2 ?_
                  refine rs_ildn wi_480_221 l1 ?_
                  refine rs_V wi_480_222 wc_480_1010 rfl (dq_isa tf_174_0 wa_15_477) (by omega) (ml_le wm_477 (by omega)) rfl (sp_477 hw (by omega) (ml_sub wm_477 (by omega)) (wp_bind h) (fun r34 h => rs_back0 ?_))
                  refine rs_goto (tg := 244) wi_480_225 ⟨by decide, by decide⟩ ?_
                  exact hj244 _ h _
              ·
                have h := wp_neg h q
                exact hj207 _ h _
          refine rs_icle (tg := 195) wi_480_185 ⟨by decide, by decide⟩ (fun q => ?_) (fun q => ?_)
          ·
            have h := wp_pos h q
            exact hj195 _ h _ l0 l1 l2 l9 l11
          ·
            have h := wp_neg h q
            refine rs_aldn wi_480_188 l0 ?_
            refine rs_pure wi_480_189 rfl ?_
            refine rs_topi (v := 2) (by decide) ?_
            refine rs_ildn wi_480_190 l2 ?_
            refine rs_ildn wi_480_191 l1 ?_
            refine rs_V wi_480_192 wc_480_1010 rfl (dq_isa tf_174_0 wa_15_477) (by omega) (ml_le wm_477 (by omega)) rfl (sp_477 hw (by omega) (ml_sub wm_477 (by omega)) (wp_bind h) (fun r35 h => rs_back0 ?_))
            exact hj195 _ h _ l0 l1 l2 l9 l11
        refine rs_ifne (tg := 182) wi_480_172 ⟨by decide, by decide⟩ (fun q => ?_) (fun q => ?_)
        ·
          have h := wp_neg h q
          exact hj182 _ h _ l0 l1 l2 l9 l10 l11
        ·
          have h := wp_pos h q
          refine rs_aldn wi_480_175 l0 ?_
          refine rs_pure wi_480_176 rfl ?_
          refine rs_topi (v := 1) (by decide) ?_
          refine rs_ildn wi_480_177 l2 ?_
          refine rs_ildn wi_480_178 l1 ?_
          refine rs_V wi_480_179 wc_480_1010 rfl (dq_isa tf_174_0 wa_15_477) (by omega) (ml_le wm_477 (by omega)) rfl (sp_477 hw (by omega) (ml_sub wm_477 (by omega)) (wp_bind h) (fun r36 h => rs_back0 ?_))
          exact hj182 _ h _ l0 l1 l2 l9 l10 l11
    refine wp_jn (B := fun p37 : cS => ∀ lv, rx_ld lv 0 = some (.ref 174) → rx_ld lv 1 = some (.int a1) → rx_ld lv 2 = some (.int a2) → rx_ld lv 5 = some (.int p2.1) → rx_ld lv 6 = some (.long r4.1) → rs (rt_P sc fm) 480 F Lo 87 lv [] (hq false p37 y w) Q) h (fun p37 h lv l0 l1 l2 l5 l6 => ?_) (fun j87 hj87 h => ?_)
    ·
      refine rs_pure wi_480_87 rfl ?_
      refine rs_topi (v := 0) (by decide) ?_
      exact hj88 _ h _ l0 l1 l2 l5 l6
    refine rs_iflt (tg := 87) wi_480_58 ⟨by decide, by decide⟩ (fun q => ?_) (fun q => ?_)
    ·
      have h := wp_pos h q
      exact hj87 _ h _ l0 l1 l2 l5 l6
    ·
      have h := wp_neg h q
      refine rs_aldn wi_480_61 l0 ?_
      refine rs_ildn wi_480_62 l3 ?_
      refine rs_ild wi_480_63 l4 ?_
      refine rs_ild wi_480_65 l8 ?_
      refine rs_V wi_480_67 wc_480_706 rfl (dq_isa tf_174_0 wa_15_429) (by omega) (ml_le wm_429 (by omega)) rfl (sp_429 hw (by omega) (ml_sub wm_429 (by omega)) (wp_bind h) (fun r38 h => rs_back1 ?_))
      refine rs_pure wi_480_70 rfl ?_
      refine rs_topi (v := 1) (by decide) ?_
      refine rs_icne (tg := 87) wi_480_71 ⟨by decide, by decide⟩ (fun q => ?_) (fun q => ?_)
      ·
        have h := wp_neg h q
        exact hj87 _ h _ l0 l1 l2 l5 l6
      ·
        have h := wp_pos h q
        refine rs_aldn wi_480_74 l0 ?_
        refine dq_gl wi_480_75 wf_480_697 tf_174_79 ?_
        refine rs_pure wi_480_78 rfl ?_
        refine rs_topl (v := 0) (by decide) ?_
        refine rs_pure wi_480_79 rfl ?_
        refine rs_ifeq (tg := 87) wi_480_80 ⟨by decide, by decide⟩ (fun q => ?_) (fun q => ?_)
        ·
          have h := wp_pos h q
          exact hj87 _ h _ l0 l1 l2 l5 l6
        ·
          have h := wp_neg h q
          refine rs_pure wi_480_83 rfl ?_
          refine rs_topi (v := 1) (by decide) ?_
          refine rs_goto (tg := 88) wi_480_84 ⟨by decide, by decide⟩ ?_
          exact hj88 _ h _ l0 l1 l2 l5 l6
  refine rs_ifeq (tg := 30) wi_480_10 ⟨by decide, by decide⟩ (fun q => ?_) (fun q => ?_)
  ·
    have h := wp_pos h q
    refine rs_pure wi_480_30 rfl ?_
    refine rs_topi (v := (-1)) (by decide) ?_
    exact hj31 _ h _ l0 l1 l2 l3 l4
  ·
    have h := wp_neg h q
    refine rs_aldn wi_480_13 l0 ?_
    refine rs_aldn wi_480_14 l0 ?_
    refine rs_ildn wi_480_15 l3 ?_
    refine rs_ild wi_480_16 l4 ?_
    refine rs_ldcl wi_480_18 wk_480_1000 ?_
    refine rs_V wi_480_21 wc_480_985 rfl (dq_isa tf_174_0 wa_15_474) (by omega) (ml_le wm_474 (by omega)) rfl (sp_474 hw (by omega) (ml_sub wm_474 (by omega)) (wp_bind h) (fun r39 h => rs_back1 ?_))
    refine rs_V wi_480_24 wc_480_468 rfl (dq_isa tf_174_0 wa_15_375) (by omega) (ml_le wm_375 (by omega)) rfl (sp_375 hw (by omega) (ml_sub wm_375 (by omega)) (wp_bind h) (fun v40 h => rs_back1 ?_))
    refine rs_goto (tg := 31) wi_480_27 ⟨by decide, by decide⟩ ?_
    exact hj31 _ h _ l0 l1 l2 l3 l4
theorem wa_15_480 : rz_cn 15 (rx_yn (rt_P sc fm) 480).cls = true := (by decide +kernel : rz_cn 15 (rt_yn 480).cls = true)
theorem wc_479_462 : rx_ct (rt_P sc fm) 479 462 = some (0, 373, 1) := (by decide +kernel : rt_ct 479 462 = some (0, 373, 1))
theorem wc_479_712 : rx_ct (rt_P sc fm) 479 712 = some (0, 428, 2) := (by decide +kernel : rt_ct 479 712 = some (0, 428, 2))
theorem wc_479_838 : rx_ct (rt_P sc fm) 479 838 = some (1, 451, 2) := (by decide +kernel : rt_ct 479 838 = some (1, 451, 2))
theorem wc_479_992 : rx_ct (rt_P sc fm) 479 992 = some (0, 479, 2) := (by decide +kernel : rt_ct 479 992 = some (0, 479, 2))
theorem wc_479_997 : rx_ct (rt_P sc fm) 479 997 = some (0, 480, 4) := (by decide +kernel : rt_ct 479 997 = some (0, 480, 4))
theorem wf_479_155 : rx_ft (rt_P sc fm) 479 155 = some (15, 39) := (by decide +kernel : rt_ft 479 155 = some (15, 39))
theorem wf_479_158 : rx_ft (rt_P sc fm) 479 158 = some (15, 40) := (by decide +kernel : rt_ft 479 158 = some (15, 40))
theorem wf_479_252 : rx_ft (rt_P sc fm) 479 252 = some (15, 75) := (by decide +kernel : rt_ft 479 252 = some (15, 75))
theorem wf_479_678 : rx_ft (rt_P sc fm) 479 678 = some (15, 74) := (by decide +kernel : rt_ft 479 678 = some (15, 74))
theorem wf_479_969 : rx_ft (rt_P sc fm) 479 969 = some (15, 131) := (by decide +kernel : rt_ft 479 969 = some (15, 131))
theorem wi_479_0 : ri (rt_P sc fm) 479 0 (.aload_n 0) (1) := ri_of (by decide +kernel) rfl
theorem wi_479_1 : ri (rt_P sc fm) 479 1 (.getfield 155) (4) := ri_of (by decide +kernel) rfl
theorem wi_479_10 : ri (rt_P sc fm) 479 10 (.iload_n 1) (11) := ri_of (by decide +kernel) rfl
theorem wi_479_11 : ri (rt_P sc fm) 479 11 (.aload_n 0) (12) := ri_of (by decide +kernel) rfl
theorem wi_479_12 : ri (rt_P sc fm) 479 12 (.getfield 155) (15) := ri_of (by decide +kernel) rfl
theorem wi_479_15 : ri (rt_P sc fm) 479 15 (.iload_n 2) (16) := ri_of (by decide +kernel) rfl
theorem wi_479_16 : ri (rt_P sc fm) 479 16 (.iaload) (17) := ri_of (by decide +kernel) rfl
theorem wi_479_17 : ri (rt_P sc fm) 479 17 (.invokevirtual 992) (20) := ri_of (by decide +kernel) rfl
theorem wi_479_20 : ri (rt_P sc fm) 479 20 (.aload_n 0) (21) := ri_of (by decide +kernel) rfl
theorem wi_479_21 : ri (rt_P sc fm) 479 21 (.ldc2_w 995) (24) := ri_of (by decide +kernel) rfl
theorem wi_479_24 : ri (rt_P sc fm) 479 24 (.invokevirtual 462) (27) := ri_of (by decide +kernel) rfl
theorem wi_479_27 : ri (rt_P sc fm) 479 27 (.istore_n 3) (28) := ri_of (by decide +kernel) rfl
theorem wi_479_28 : ri (rt_P sc fm) 479 28 (.iconst 0) (29) := ri_of (by decide +kernel) rfl
theorem wi_479_29 : ri (rt_P sc fm) 479 29 (.istore 4) (31) := ri_of (by decide +kernel) rfl
theorem wi_479_31 : ri (rt_P sc fm) 479 31 (.iload 4) (33) := ri_of (by decide +kernel) rfl
theorem wi_479_33 : ri (rt_P sc fm) 479 33 (.aload_n 0) (34) := ri_of (by decide +kernel) rfl
theorem wi_479_34 : ri (rt_P sc fm) 479 34 (.getfield 158) (37) := ri_of (by decide +kernel) rfl
theorem wi_479_37 : ri (rt_P sc fm) 479 37 (.iload_n 2) (38) := ri_of (by decide +kernel) rfl
theorem wi_479_38 : ri (rt_P sc fm) 479 38 (.iaload) (39) := ri_of (by decide +kernel) rfl
theorem wi_479_39 : ri (rt_P sc fm) 479 39 (.if_icmp .ge 56) (42) := ri_of (by decide +kernel) rfl
theorem wi_479_4 : ri (rt_P sc fm) 479 4 (.iload_n 2) (5) := ri_of (by decide +kernel) rfl
theorem wi_479_42 : ri (rt_P sc fm) 479 42 (.iload_n 3) (43) := ri_of (by decide +kernel) rfl
theorem wi_479_43 : ri (rt_P sc fm) 479 43 (.ifCond .lt 52) (46) := ri_of (by decide +kernel) rfl
theorem wi_479_46 : ri (rt_P sc fm) 479 46 (.aload_n 0) (47) := ri_of (by decide +kernel) rfl
theorem wi_479_47 : ri (rt_P sc fm) 479 47 (.getfield 969) (50) := ri_of (by decide +kernel) rfl
theorem wi_479_5 : ri (rt_P sc fm) 479 5 (.iaload) (6) := ri_of (by decide +kernel) rfl
theorem wi_479_50 : ri (rt_P sc fm) 479 50 (.ifCond .ne 45) (53) := ri_of (by decide +kernel) rfl
theorem wi_479_53 : ri (rt_P sc fm) 479 53 (.iload_n 2) (54) := ri_of (by decide +kernel) rfl
theorem wi_479_54 : ri (rt_P sc fm) 479 54 (.iload 4) (56) := ri_of (by decide +kernel) rfl
theorem wi_479_56 : ri (rt_P sc fm) 479 56 (.invokestatic 838) (59) := ri_of (by decide +kernel) rfl
theorem wi_479_59 : ri (rt_P sc fm) 479 59 (.istore 5) (61) := ri_of (by decide +kernel) rfl
theorem wi_479_6 : ri (rt_P sc fm) 479 6 (.ifCond .lt 14) (9) := ri_of (by decide +kernel) rfl
theorem wi_479_61 : ri (rt_P sc fm) 479 61 (.aload_n 0) (62) := ri_of (by decide +kernel) rfl
theorem wi_479_62 : ri (rt_P sc fm) 479 62 (.iload 5) (64) := ri_of (by decide +kernel) rfl
theorem wi_479_64 : ri (rt_P sc fm) 479 64 (.iload_n 3) (65) := ri_of (by decide +kernel) rfl
theorem wi_479_65 : ri (rt_P sc fm) 479 65 (.invokevirtual 712) (68) := ri_of (by decide +kernel) rfl
theorem wi_479_68 : ri (rt_P sc fm) 479 68 (.aload_n 0) (69) := ri_of (by decide +kernel) rfl
theorem wi_479_69 : ri (rt_P sc fm) 479 69 (.getfield 678) (72) := ri_of (by decide +kernel) rfl
theorem wi_479_72 : ri (rt_P sc fm) 479 72 (.ifCond .le 17) (75) := ri_of (by decide +kernel) rfl
theorem wi_479_75 : ri (rt_P sc fm) 479 75 (.aload_n 0) (76) := ri_of (by decide +kernel) rfl
theorem wi_479_76 : ri (rt_P sc fm) 479 76 (.iload_n 1) (77) := ri_of (by decide +kernel) rfl
theorem wi_479_77 : ri (rt_P sc fm) 479 77 (.iload 5) (79) := ri_of (by decide +kernel) rfl
theorem wi_479_79 : ri (rt_P sc fm) 479 79 (.aload_n 0) (80) := ri_of (by decide +kernel) rfl
theorem wi_479_80 : ri (rt_P sc fm) 479 80 (.getfield 252) (83) := ri_of (by decide +kernel) rfl
theorem wi_479_83 : ri (rt_P sc fm) 479 83 (.iconst 0) (84) := ri_of (by decide +kernel) rfl
theorem wi_479_84 : ri (rt_P sc fm) 479 84 (.iaload) (85) := ri_of (by decide +kernel) rfl
theorem wi_479_85 : ri (rt_P sc fm) 479 85 (.iload_n 3) (86) := ri_of (by decide +kernel) rfl
theorem wi_479_86 : ri (rt_P sc fm) 479 86 (.invokevirtual 997) (89) := ri_of (by decide +kernel) rfl
theorem wi_479_89 : ri (rt_P sc fm) 479 89 (.iinc 4 1) (92) := ri_of (by decide +kernel) rfl
theorem wi_479_9 : ri (rt_P sc fm) 479 9 (.aload_n 0) (10) := ri_of (by decide +kernel) rfl
theorem wi_479_92 : ri (rt_P sc fm) 479 92 (.goto (-61)) (95) := ri_of (by decide +kernel) rfl
theorem wi_479_95 : ri (rt_P sc fm) 479 95 (.return_) (96) := ri_of (by decide +kernel) rfl
theorem wk_479_995 : rx_kt (rt_P sc fm) 479 995 = some (.long (2002873972)) := (by decide +kernel : rt_kt 479 995 = some (.long (2002873972)))
theorem wm_480 : rx_ml (rt_P sc fm) 480 = 13 := (by decide +kernel : rt_ml 480 = 13)
theorem wr_479 : rx_rt (rt_P sc fm) 479 = none := (by decide +kernel : rt_rt 479 = none)
/-- MarkHouseModel.wantsOf(II)V -/
def d_479 : Nat → Nat → Int32 → Int32 → cS → Option (cS)
  | 0, _, _, _, _ => none
  | e + 1, n, a1, a2, c =>
  if ib a2 12 then
  jn (fun p2 : cS =>
    Option.bind (d_373 n 2002873972 p2) (fun v3 =>
    Option.bind (whl (R := (cS)) (fun s6 : Int32 × cS =>
      if ib a2 12 then
      if (s6.2.1 202 (ix a2)) ≤ s6.1 then
        some (.inr s6.2)
      else
        if v3 < 0 then
          some (.inr s6.2)
        else
          if (s6.2.1 174 131) = 0 then
            Option.bind (d_451 n a2 s6.1) (fun v8 =>
            Option.bind (d_428 n v8 v3 s6.2) (fun r10 =>
            jn (fun p11 : cS =>
              lt (s6.1 + 1 : Int32) (fun v13 =>
              some (.inl (v13, p11))))
            (fun j89 =>
            if (r10.1 174 74) ≤ 0 then
              j89 r10
            else
              if ib 0 20 then
              Option.bind (d_480 (d_479 e n) n a1 v8 (r10.1 233 (ix 0)) v3 r10) (fun r16 =>
              j89 r16)
              else none)))
          else
            some (.inr s6.2)
      else none) n (0, p2))
    (fun x17 : cS =>
      some x17)))
  (fun j20 =>
  if (c.1 201 (ix a2)) < 0 then
    j20 c
  else
    if ib a2 12 then
    Option.bind (d_479 e n a1 (c.1 201 (ix a2)) c) (fun r19 =>
    j20 r19)
    else none)
  else none
theorem sp_479 {n : Nat} {y : cS} {w : cW} (hw : rOK fm w) : ∀ (e : Nat) {F Lo : Nat} {a1 : Int32} {a2 : Int32} {c : cS} {K : cS → Prop} {Q : ((Option Value) ⊕ String) → List va_E → Prop}, 4 + 3 * e ≤ F → 105 + 78 * e ≤ Lo → wp (d_479 e n a1 a2 c) K → (∀ r, K r → Q (.inl none) (hq false r y w)) → rs (rt_P sc fm) 479 F Lo 0 [(0, .ref 174), (1, .int a1), (2, .int a2)] [] (hq false c y w) Q
  | 0, _, _, _, _, _, _, _, _, _, h, _ => h.elim
  | e + 1, F, Lo, a1, a2, c, K, Q, hF, hLo, h, hQ => by
  unfold d_479 at h
  obtain ⟨lv, elv⟩ : ∃ lv : rx_L, lv = [(0, .ref 174), (1, .int a1), (2, .int a2)] := ⟨_, rfl⟩
  rw [← elv]
  have l0 : rx_ld lv 0 = some (.ref 174) := by rw [elv]; rfl
  have l1 : rx_ld lv 1 = some (.int a1) := by rw [elv]; rfl
  have l2 : rx_ld lv 2 = some (.int a2) := by rw [elv]; rfl
  refine rs_aldn wi_479_0 l0 ?_
  refine dq_gr wi_479_1 wf_479_155 tf_174_39 ?_
  refine rs_ildn wi_479_4 l2 ?_
  obtain ⟨g1, h⟩ := wp_gd h
  refine dq_iald wi_479_5 t_201 g1 ?_
  refine wp_jn (B := fun p2 : cS => ∀ lv, rx_ld lv 0 = some (.ref 174) → rx_ld lv 1 = some (.int a1) → rx_ld lv 2 = some (.int a2) → rs (rt_P sc fm) 479 F Lo 20 lv [] (hq false p2 y w) Q) h (fun p2 h lv l0 l1 l2 => ?_) (fun j20 hj20 h => ?_)
  ·
    refine rs_aldn wi_479_20 l0 ?_
    refine rs_ldcl wi_479_21 wk_479_995 ?_
    refine rs_V wi_479_24 wc_479_462 rfl (dq_isa tf_174_0 wa_15_373) (by omega) (ml_le wm_373 (by omega)) rfl (sp_373 hw (by omega) (ml_sub wm_373 (by omega)) (wp_bind h) (fun v3 h => rs_back1 ?_))
    refine dl_istn wi_479_27 rfl (fun lv l3 t4 => ?_)
    have l0 := t4 _ _ (by decide) (Or.inl rfl) l0
    have l1 := t4 _ _ (by decide) (Or.inl rfl) l1
    have l2 := t4 _ _ (by decide) (Or.inl rfl) l2
    refine rs_pure wi_479_28 rfl ?_
    refine rs_topi (v := 0) (by decide) ?_
    refine dl_ist wi_479_29 rfl (fun lv l4 t5 => ?_)
    have l0 := t5 _ _ (by decide) (Or.inl rfl) l0
    have l1 := t5 _ _ (by decide) (Or.inl rfl) l1
    have l2 := t5 _ _ (by decide) (Or.inl rfl) l2
    have l3 := t5 _ _ (by decide) (Or.inl rfl) l3
    refine whl_ex (A := fun s6 : Int32 × cS => ∀ lv, rx_ld lv 0 = some (.ref 174) → rx_ld lv 1 = some (.int a1) → rx_ld lv 2 = some (.int a2) → rx_ld lv 3 = some (.int v3) → rx_ld lv 4 = some (.int s6.1) → rs (rt_P sc fm) 479 F Lo 31 lv [] (hq false s6.2 y w) Q) (B := (fun x17 : cS => ∀ lv, rs (rt_P sc fm) 479 F Lo 95 lv [] (hq false x17 y w) Q)) ?_ ?_ _ _ (wp_bind h) _ l0 l1 l2 l3 l4
    · intro s6 h lv l0 l1 l2 l3 l4
      refine rs_ild wi_479_31 l4 ?_
      refine rs_aldn wi_479_33 l0 ?_
      refine dq_gr wi_479_34 wf_479_158 tf_174_40 ?_
      refine rs_ildn wi_479_37 l2 ?_
      obtain ⟨g7, h⟩ := wp_gd h
      refine dq_iald wi_479_38 t_202 g7 ?_
      refine rs_icge (tg := 95) wi_479_39 ⟨by decide, by decide⟩ (fun q => ?_) (fun q => ?_)
      ·
        have h := wp_pos h q
        exact h _
      ·
        have h := wp_neg h q
        refine rs_ildn wi_479_42 l3 ?_
        refine rs_iflt (tg := 95) wi_479_43 ⟨by decide, by decide⟩ (fun q => ?_) (fun q => ?_)
        ·
          have h := wp_pos h q
          exact h _
        ·
          have h := wp_neg h q
          refine rs_aldn wi_479_46 l0 ?_
          refine dq_gi wi_479_47 wf_479_969 tf_174_131 ?_
          refine rs_ifne (tg := 95) wi_479_50 ⟨by decide, by decide⟩ (fun q => ?_) (fun q => ?_)
          ·
            have h := wp_neg h q
            exact h _
          ·
            have h := wp_pos h q
            refine rs_ildn wi_479_53 l2 ?_
            refine rs_ild wi_479_54 l4 ?_
            refine rs_S wi_479_56 wc_479_838 (Or.inl rfl) rfl (by omega) (ml_le wm_451 (by omega)) rfl (sp_451 (by omega) (ml_sub wm_451 (by omega)) (wp_bind h) (fun v8 h => rs_back1 ?_))
            refine dl_ist wi_479_59 rfl (fun lv l5 t9 => ?_)
            have l0 := t9 _ _ (by decide) (Or.inl rfl) l0
            have l1 := t9 _ _ (by decide) (Or.inl rfl) l1
            have l2 := t9 _ _ (by decide) (Or.inl rfl) l2
            have l3 := t9 _ _ (by decide) (Or.inl rfl) l3
            have l4 := t9 _ _ (by decide) (Or.inl rfl) l4
            refine rs_aldn wi_479_61 l0 ?_
            refine rs_ild wi_479_62 l5 ?_
            refine rs_ildn wi_479_64 l3 ?_
            refine rs_V wi_479_65 wc_479_712 rfl (dq_isa tf_174_0 wa_15_428) (by omega) (ml_le wm_428 (by omega)) rfl (sp_428 hw (by omega) (ml_sub wm_428 (by omega)) (wp_bind h) (fun r10 h => rs_back0 ?_))
            refine rs_aldn wi_479_68 l0 ?_
            refine dq_gi wi_479_69 wf_479_678 tf_174_74 ?_
            refine wp_jn (B := fun p11 : cS => ∀ lv, rx_ld lv 0 = some (.ref 174) → rx_ld lv 1 = some (.int a1) → rx_ld lv 2 = some (.int a2) → rx_ld lv 3 = some (.int v3) → rx_ld lv 4 = some (.int s6.1) → rs (rt_P sc fm) 479 F Lo 89 lv [] (hq false p11 y w) Q) h (fun p11 h lv l0 l1 l2 l3 l4 => ?_) (fun j89 hj89 h => ?_)
            ·
              obtain ⟨v13, e14, h⟩ := wp_lt h
              refine dl_inc wi_479_89 l4 rfl e14 (fun lv l4 t12 => ?_)
              have l0 := t12 _ _ (by decide) (Or.inl rfl) l0
              have l1 := t12 _ _ (by decide) (Or.inl rfl) l1
              have l2 := t12 _ _ (by decide) (Or.inl rfl) l2
              have l3 := t12 _ _ (by decide) (Or.inl rfl) l3
              refine rs_goto (tg := 31) wi_479_92 ⟨by decide, by decide⟩ ?_
              exact h _ l0 l1 l2 l3 l4
            refine rs_ifle (tg := 89) wi_479_72 ⟨by decide, by decide⟩ (fun q => ?_) (fun q => ?_)
            ·
              have h := wp_pos h q
              exact hj89 _ h _ l0 l1 l2 l3 l4
            ·
              have h := wp_neg h q
              refine rs_aldn wi_479_75 l0 ?_
              refine rs_ildn wi_479_76 l1 ?_
              refine rs_ild wi_479_77 l5 ?_
              refine rs_aldn wi_479_79 l0 ?_
              refine dq_gr wi_479_80 wf_479_252 tf_174_75 ?_
              refine rs_pure wi_479_83 rfl ?_
              refine rs_topi (v := 0) (by decide) ?_
              obtain ⟨g15, h⟩ := wp_gd h
              refine dq_iald wi_479_84 t_233 g15 ?_
              refine rs_ildn wi_479_85 l3 ?_
              refine rs_V wi_479_86 wc_479_997 rfl (dq_isa tf_174_0 wa_15_480) (by omega) (ml_le wm_480 (by omega)) rfl (sp_480 (Fr := 4 + 3 * e) (Lr := 105 + 78 * e) hw (sp_479 hw e) (by omega) (ml_sub wm_480 (by omega)) (by omega) (ml_sub wm_480 (by omega)) (wp_bind h) (fun r16 h => rs_back0 ?_))
              exact hj89 _ h _ l0 l1 l2 l3 l4
    ·
      intro x17 h lv
      exact rs_vret wi_479_95 wr_479 (hQ x17 h)
  refine rs_iflt (tg := 20) wi_479_6 ⟨by decide, by decide⟩ (fun q => ?_) (fun q => ?_)
  ·
    have h := wp_pos h q
    exact hj20 _ h _ l0 l1 l2
  ·
    have h := wp_neg h q
    refine rs_aldn wi_479_9 l0 ?_
    refine rs_ildn wi_479_10 l1 ?_
    refine rs_aldn wi_479_11 l0 ?_
    refine dq_gr wi_479_12 wf_479_155 tf_174_39 ?_
    refine rs_ildn wi_479_15 l2 ?_
    obtain ⟨g18, h⟩ := wp_gd h
    refine dq_iald wi_479_16 t_201 g18 ?_
    refine rs_V wi_479_17 wc_479_992 rfl (dq_isa tf_174_0 wa_15_479) (by omega) (ml_le wm_479 (by omega)) rfl (sp_479 hw e (by omega) (ml_sub wm_479 (by omega)) (wp_bind h) (fun r19 h => rs_back0 ?_))
    exact hj20 _ h _ l0 l1 l2
theorem wi_489_0 : ri (rt_P sc fm) 489 0 (.iload_n 1) (1) := ri_of (by decide +kernel) rfl
theorem wi_489_1 : ri (rt_P sc fm) 489 1 (.i2b) (2) := ri_of (by decide +kernel) rfl
theorem wi_489_10 : ri (rt_P sc fm) 489 10 (.if_icmp .ge 21) (13) := ri_of (by decide +kernel) rfl
theorem wi_489_13 : ri (rt_P sc fm) 489 13 (.aload_n 0) (14) := ri_of (by decide +kernel) rfl
theorem wi_489_14 : ri (rt_P sc fm) 489 14 (.iload 5) (16) := ri_of (by decide +kernel) rfl
theorem wi_489_16 : ri (rt_P sc fm) 489 16 (.baload) (17) := ri_of (by decide +kernel) rfl
theorem wi_489_17 : ri (rt_P sc fm) 489 17 (.iload 4) (19) := ri_of (by decide +kernel) rfl
theorem wi_489_19 : ri (rt_P sc fm) 489 19 (.if_icmp .ne 6) (22) := ri_of (by decide +kernel) rfl
theorem wi_489_2 : ri (rt_P sc fm) 489 2 (.istore 4) (4) := ri_of (by decide +kernel) rfl
theorem wi_489_22 : ri (rt_P sc fm) 489 22 (.iload 5) (24) := ri_of (by decide +kernel) rfl
theorem wi_489_24 : ri (rt_P sc fm) 489 24 (.ireturn) (25) := ri_of (by decide +kernel) rfl
theorem wi_489_25 : ri (rt_P sc fm) 489 25 (.iinc 5 1) (28) := ri_of (by decide +kernel) rfl
theorem wi_489_28 : ri (rt_P sc fm) 489 28 (.goto (-21)) (31) := ri_of (by decide +kernel) rfl
theorem wi_489_31 : ri (rt_P sc fm) 489 31 (.iconst (-1)) (32) := ri_of (by decide +kernel) rfl
theorem wi_489_32 : ri (rt_P sc fm) 489 32 (.ireturn) (33) := ri_of (by decide +kernel) rfl
theorem wi_489_4 : ri (rt_P sc fm) 489 4 (.iload_n 2) (5) := ri_of (by decide +kernel) rfl
theorem wi_489_5 : ri (rt_P sc fm) 489 5 (.istore 5) (7) := ri_of (by decide +kernel) rfl
theorem wi_489_7 : ri (rt_P sc fm) 489 7 (.iload 5) (9) := ri_of (by decide +kernel) rfl
theorem wi_489_9 : ri (rt_P sc fm) 489 9 (.iload_n 3) (10) := ri_of (by decide +kernel) rfl
theorem wr_489 : rx_rt (rt_P sc fm) 489 = (some FieldType.int) := (by decide +kernel : rt_rt 489 = (some FieldType.int))
/-- java/lang/StringLatin1.indexOfChar([BIII)I -/
def d_489 (n : Nat) (j0 : Nat) (a1 : Int32) (a2 : Int32) (a3 : Int32) : Option (Int32) :=
  lt ((a1 : Int32).toInt8.toInt32 : Int32) (fun v2 =>
  Option.bind (whl (R := (Unit) ⊕ (Int32)) (fun s5 : Int32 =>
    if a3 ≤ s5 then
      some (.inr (.inl ()))
    else
      if ib s5 (sB j0).length then
      if ((sB j0).getD (ix s5) 0) = v2 then
        some (.inr (.inr s5))
      else
        lt (s5 + 1 : Int32) (fun v8 =>
        some (.inl v8))
      else none) n a2)
  (Sum.elim (fun x10 : Unit =>
    some (-1))
  (fun x11 : Int32 =>
    some x11)))
theorem sp_489 {F Lo n : Nat} {j0 : Nat} {a1 : Int32} {a2 : Int32} {a3 : Int32} {L : List va_E} {K : Int32 → Prop} {Q : ((Option Value) ⊕ String) → List va_E → Prop} (hL : L.length ≤ rx_B) (hfm : fm = .null ∨ fm = .ref rx_Fm) (hF : 0 ≤ F) (hLo : 0 ≤ Lo) (hj0 : (rt_sb j0).isSome = true) (h : wp (d_489 n j0 a1 a2 a3) K) (hQ : ∀ r, K r → Q (.inl (some (.int r))) L) : rs (rt_P sc fm) 489 F Lo 0 [(0, .ref (rx_V j0)), (1, .int a1), (2, .int a2), (3, .int a3)] [] L Q := by
  unfold d_489 at h
  obtain ⟨lv, elv⟩ : ∃ lv : rx_L, lv = [(0, .ref (rx_V j0)), (1, .int a1), (2, .int a2), (3, .int a3)] := ⟨_, rfl⟩
  rw [← elv]
  have l0 : rx_ld lv 0 = some (.ref (rx_V j0)) := by rw [elv]; rfl
  have l1 : rx_ld lv 1 = some (.int a1) := by rw [elv]; rfl
  have l2 : rx_ld lv 2 = some (.int a2) := by rw [elv]; rfl
  have l3 : rx_ld lv 3 = some (.int a3) := by rw [elv]; rfl
  refine rs_ildn wi_489_0 l1 ?_
  refine rs_pure wi_489_1 rfl ?_
  obtain ⟨v2, e3, h⟩ := wp_lt h
  refine rs_topi e3 ?_
  refine dl_ist wi_489_2 rfl (fun lv l4 t1 => ?_)
  have l0 := t1 _ _ (by decide) (Or.inl rfl) l0
  have l2 := t1 _ _ (by decide) (Or.inl rfl) l2
  have l3 := t1 _ _ (by decide) (Or.inl rfl) l3
  refine rs_ildn wi_489_4 l2 ?_
  refine dl_ist wi_489_5 rfl (fun lv l5 t4 => ?_)
  have l0 := t4 _ _ (by decide) (Or.inl rfl) l0
  have l3 := t4 _ _ (by decide) (Or.inl rfl) l3
  have l4 := t4 _ _ (by decide) (Or.inl rfl) l4
  refine whl_ex (A := fun s5 : Int32 => ∀ lv, rx_ld lv 0 = some (.ref (rx_V j0)) → rx_ld lv 3 = some (.int a3) → rx_ld lv 4 = some (.int v2) → rx_ld lv 5 = some (.int s5) → rs (rt_P sc fm) 489 F Lo 7 lv [] L Q) (B := (Sum.elim (fun x10 : Unit => ∀ lv, rs (rt_P sc fm) 489 F Lo 31 lv [] L Q) (fun x11 : Int32 => ∀ lv, rx_ld lv 5 = some (.int x11) → rs (rt_P sc fm) 489 F Lo 22 lv [] L Q))) ?_ ?_ _ _ (wp_bind h) _ l0 l3 l4 l5
  · intro s5 h lv l0 l3 l4 l5
    refine rs_ild wi_489_7 l5 ?_
    refine rs_ildn wi_489_9 l3 ?_
    refine rs_icge (tg := 31) wi_489_10 ⟨by decide, by decide⟩ (fun q => ?_) (fun q => ?_)
    ·
      have h := wp_pos h q
      exact h _
    ·
      have h := wp_neg h q
      refine rs_aldn wi_489_13 l0 ?_
      refine rs_ild wi_489_14 l5 ?_
      obtain ⟨g6, h⟩ := wp_gd h
      refine dq_svb wi_489_16 hL hj0 g6 ?_
      refine rs_ild wi_489_17 l4 ?_
      refine rs_icne (tg := 25) wi_489_19 ⟨by decide, by decide⟩ (fun q => ?_) (fun q => ?_)
      ·
        have h := wp_neg h q
        obtain ⟨v8, e9, h⟩ := wp_lt h
        refine dl_inc wi_489_25 l5 rfl e9 (fun lv l5 t7 => ?_)
        have l0 := t7 _ _ (by decide) (Or.inl rfl) l0
        have l3 := t7 _ _ (by decide) (Or.inl rfl) l3
        have l4 := t7 _ _ (by decide) (Or.inl rfl) l4
        refine rs_goto (tg := 7) wi_489_28 ⟨by decide, by decide⟩ ?_
        exact h _ l0 l3 l4 l5
      ·
        have h := wp_pos h q
        exact h _ l5
  ·
    refine sum_all ?_ ?_
    ·
      intro x10 h lv
      refine rs_pure wi_489_31 rfl ?_
      refine rs_topi (v := (-1)) (by decide) ?_
      exact rs_iret wi_489_32 wr_489 rfl (hQ (-1) h)
    ·
      intro x11 h lv l5
      refine rs_ild wi_489_22 l5 ?_
      exact rs_iret wi_489_24 wr_489 rfl (hQ x11 h)
end D61
