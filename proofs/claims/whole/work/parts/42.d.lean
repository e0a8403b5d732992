/-! THE CODE AS PURE PROGRAMS, 1: by wip/whole/dc.py -/
section D42
variable {sc : Nat × (Nat → Int32)} {fm : Value}
theorem wi_151_0 : ri (rt_P sc fm) 151 0 (.iload_n 1) (1) := ri_of (by decide +kernel) rfl
theorem wi_151_1 : ri (rt_P sc fm) 151 1 (.iload_n 2) (2) := ri_of (by decide +kernel) rfl
theorem wi_151_2 : ri (rt_P sc fm) 151 2 (.if_icmp .le 44) (5) := ri_of (by decide +kernel) rfl
theorem wi_151_46 : ri (rt_P sc fm) 151 46 (.iload_n 1) (47) := ri_of (by decide +kernel) rfl
theorem wi_151_47 : ri (rt_P sc fm) 151 47 (.ifCond .ge 12) (50) := ri_of (by decide +kernel) rfl
theorem wi_151_59 : ri (rt_P sc fm) 151 59 (.iload_n 2) (60) := ri_of (by decide +kernel) rfl
theorem wi_151_60 : ri (rt_P sc fm) 151 60 (.iload_n 0) (61) := ri_of (by decide +kernel) rfl
theorem wi_151_61 : ri (rt_P sc fm) 151 61 (.if_icmp .le 12) (64) := ri_of (by decide +kernel) rfl
theorem wi_151_73 : ri (rt_P sc fm) 151 73 (.return_) (74) := ri_of (by decide +kernel) rfl
theorem wr_151 : rx_rt (rt_P sc fm) 151 = none := (by decide +kernel : rt_rt 151 = none)
/-- java/util/Arrays.rangeCheck(III)V -/
def d_151 (n : Nat) (a0 : Int32) (a1 : Int32) (a2 : Int32) : Option (Unit) :=
  if a1 ≤ a2 then
    if 0 ≤ a1 then
      if a2 ≤ a0 then
        some ()
      else
        none
    else
      none
  else
    none
theorem sp_151 {F Lo n : Nat} {a0 : Int32} {a1 : Int32} {a2 : Int32} {L : List va_E} {K : Unit → Prop} {Q : ((Option Value) ⊕ String) → List va_E → Prop} (hF : 0 ≤ F) (hLo : 0 ≤ Lo)  (h : wp (d_151 n a0 a1 a2) K) (hQ : ∀ r, K r → Q (.inl none) L) : rs (rt_P sc fm) 151 F Lo 0 [(0, .int a0), (1, .int a1), (2, .int a2)] [] L Q := by
  unfold d_151 at h
  obtain ⟨lv, elv⟩ : ∃ lv : rx_L, lv = [(0, .int a0), (1, .int a1), (2, .int a2)] := ⟨_, rfl⟩
  rw [← elv]
  have l0 : rx_ld lv 0 = some (.int a0) := by rw [elv]; rfl
  have l1 : rx_ld lv 1 = some (.int a1) := by rw [elv]; rfl
  have l2 : rx_ld lv 2 = some (.int a2) := by rw [elv]; rfl
  refine rs_ildn wi_151_0 l1 ?_
  refine rs_ildn wi_151_1 l2 ?_
  refine rs_icle (tg := 46) wi_151_2 ⟨by decide, by decide⟩ (fun q => ?_) (fun q => ?_)
  ·
    have h := wp_pos h q
    refine rs_ildn wi_151_46 l1 ?_
    refine rs_ifge (tg := 59) wi_151_47 ⟨by decide, by decide⟩ (fun q => ?_) (fun q => ?_)
    ·
      have h := wp_pos h q
      refine rs_ildn wi_151_59 l2 ?_
      refine rs_ildn wi_151_60 l0 ?_
      refine rs_icle (tg := 73) wi_151_61 ⟨by decide, by decide⟩ (fun q => ?_) (fun q => ?_)
      ·
        have h := wp_pos h q
        exact rs_vret wi_151_73 wr_151 (hQ () h)
      ·
        have h := wp_neg h q
        exact h.elim
    ·
      have h := wp_neg h q
      exact h.elim
  ·
    have h := wp_neg h q
    exact h.elim
theorem wc_154_13 : rx_ct (rt_P sc fm) 154 13 = some (1, 151, 3) := (by decide +kernel : rt_ct 154 13 = some (1, 151, 3))
theorem wi_154_0 : ri (rt_P sc fm) 154 0 (.aload_n 0) (1) := ri_of (by decide +kernel) rfl
theorem wi_154_1 : ri (rt_P sc fm) 154 1 (.arraylength) (2) := ri_of (by decide +kernel) rfl
theorem wi_154_10 : ri (rt_P sc fm) 154 10 (.iload 4) (12) := ri_of (by decide +kernel) rfl
theorem wi_154_12 : ri (rt_P sc fm) 154 12 (.iload_n 2) (13) := ri_of (by decide +kernel) rfl
theorem wi_154_13 : ri (rt_P sc fm) 154 13 (.if_icmp .ge 14) (16) := ri_of (by decide +kernel) rfl
theorem wi_154_16 : ri (rt_P sc fm) 154 16 (.aload_n 0) (17) := ri_of (by decide +kernel) rfl
theorem wi_154_17 : ri (rt_P sc fm) 154 17 (.iload 4) (19) := ri_of (by decide +kernel) rfl
theorem wi_154_19 : ri (rt_P sc fm) 154 19 (.iload_n 3) (20) := ri_of (by decide +kernel) rfl
theorem wi_154_2 : ri (rt_P sc fm) 154 2 (.iload_n 1) (3) := ri_of (by decide +kernel) rfl
theorem wi_154_20 : ri (rt_P sc fm) 154 20 (.iastore) (21) := ri_of (by decide +kernel) rfl
theorem wi_154_21 : ri (rt_P sc fm) 154 21 (.iinc 4 1) (24) := ri_of (by decide +kernel) rfl
theorem wi_154_24 : ri (rt_P sc fm) 154 24 (.goto (-14)) (27) := ri_of (by decide +kernel) rfl
theorem wi_154_27 : ri (rt_P sc fm) 154 27 (.return_) (28) := ri_of (by decide +kernel) rfl
theorem wi_154_3 : ri (rt_P sc fm) 154 3 (.iload_n 2) (4) := ri_of (by decide +kernel) rfl
theorem wi_154_4 : ri (rt_P sc fm) 154 4 (.invokestatic 13) (7) := ri_of (by decide +kernel) rfl
theorem wi_154_7 : ri (rt_P sc fm) 154 7 (.iload_n 1) (8) := ri_of (by decide +kernel) rfl
theorem wi_154_8 : ri (rt_P sc fm) 154 8 (.istore 4) (10) := ri_of (by decide +kernel) rfl
theorem wm_151 : rx_ml (rt_P sc fm) 151 = 3 := (by decide +kernel : rt_ml 151 = 3)
theorem wr_154 : rx_rt (rt_P sc fm) 154 = none := (by decide +kernel : rt_rt 154 = none)
/-- java/util/Arrays.fill([IIII)V -/
def d_154 (n : Nat) (r0 : Nat) (nr0 : Nat) (a1 : Int32) (a2 : Int32) (a3 : Int32) (c : cS) : Option (cS) :=
  Option.bind (d_151 n (Int32.ofNat nr0) a1 a2) (fun v1 =>
  Option.bind (whl (R := (cS)) (fun s3 : Int32 × cS =>
    if a2 ≤ s3.1 then
      some (.inr s3.2)
    else
      if ib s3.1 nr0 then
      lt (pI s3.2 r0 (ix s3.1) a3) (fun c5 =>
      lt (s3.1 + 1 : Int32) (fun v8 =>
      some (.inl (v8, c5))))
      else none) n (a1, c))
  (fun x10 : cS =>
    some x10))
theorem sp_154 {F Lo n : Nat} {r0 : Nat} {nr0 : Nat} {a1 : Int32} {a2 : Int32} {a3 : Int32} {b : Bool} {c y : cS} {w : cW} {K : cS → Prop} {Q : ((Option Value) ⊕ String) → List va_E → Prop} (hw : rOK fm w) (hF : 1 ≤ F) (hLo : 22 ≤ Lo) (hr0 : ta b r0 0 nr0) (h : wp (d_154 n r0 nr0 a1 a2 a3 c) K) (hQ : ∀ r, K r → Q (.inl none) (hq b r y w)) : rs (rt_P sc fm) 154 F Lo 0 [(0, .ref r0), (1, .int a1), (2, .int a2), (3, .int a3)] [] (hq b c y w) Q := by
  unfold d_154 at h
  obtain ⟨lv, elv⟩ : ∃ lv : rx_L, lv = [(0, .ref r0), (1, .int a1), (2, .int a2), (3, .int a3)] := ⟨_, rfl⟩
  rw [← elv]
  have l0 : rx_ld lv 0 = some (.ref r0) := by rw [elv]; rfl
  have l1 : rx_ld lv 1 = some (.int a1) := by rw [elv]; rfl
  have l2 : rx_ld lv 2 = some (.int a2) := by rw [elv]; rfl
  have l3 : rx_ld lv 3 = some (.int a3) := by rw [elv]; rfl
  refine rs_aldn wi_154_0 l0 ?_
  refine dq_alen wi_154_1 (by decide) hr0 ?_
  refine rs_ildn wi_154_2 l1 ?_
  refine rs_ildn wi_154_3 l2 ?_
  refine rs_S wi_154_4 wc_154_13 (Or.inl rfl) rfl (Nat.le_trans (by decide) hF) (ml_le wm_151 (Nat.le_trans (by decide) hLo)) rfl (sp_151 (Nat.le_trans (by decide : 0 ≤ 1 - 1) (Nat.sub_le_sub_right hF 1)) (ml_sub wm_151 (Nat.le_trans (by decide : 0 ≤ 22 - 22) (Nat.sub_le_sub_right hLo 22))) (wp_bind h) (fun v1 h => rs_back0 ?_))
  refine rs_ildn wi_154_7 l1 ?_
  refine dl_ist wi_154_8 rfl (fun lv l4 t2 => ?_)
  have l0 := t2 _ _ (by decide) (Or.inl rfl) l0
  have l2 := t2 _ _ (by decide) (Or.inl rfl) l2
  have l3 := t2 _ _ (by decide) (Or.inl rfl) l3
  refine whl_ex (A := fun s3 : Int32 × cS => ∀ lv, rx_ld lv 0 = some (.ref r0) → rx_ld lv 2 = some (.int a2) → rx_ld lv 3 = some (.int a3) → rx_ld lv 4 = some (.int s3.1) → rs (rt_P sc fm) 154 F Lo 10 lv [] (hq b s3.2 y w) Q) (B := (fun x10 : cS => ∀ lv, rs (rt_P sc fm) 154 F Lo 27 lv [] (hq b x10 y w) Q)) ?_ ?_ _ _ (wp_bind h) _ l0 l2 l3 l4
  · intro s3 h lv l0 l2 l3 l4
    refine rs_ild wi_154_10 l4 ?_
    refine rs_ildn wi_154_12 l2 ?_
    refine rs_icge (tg := 27) wi_154_13 ⟨by decide, by decide⟩ (fun q => ?_) (fun q => ?_)
    ·
      have h := wp_pos h q
      exact h _
    ·
      have h := wp_neg h q
      refine rs_aldn wi_154_16 l0 ?_
      refine rs_ild wi_154_17 l4 ?_
      refine rs_ildn wi_154_19 l3 ?_
      obtain ⟨g4, h⟩ := wp_gd h
      obtain ⟨c5, e6, h⟩ := wp_lt h
      refine dq_iast wi_154_20 hr0 g4 e6 ?_
      obtain ⟨v8, e9, h⟩ := wp_lt h
      refine dl_inc wi_154_21 l4 rfl e9 (fun lv l4 t7 => ?_)
      have l0 := t7 _ _ (by decide) (Or.inl rfl) l0
      have l2 := t7 _ _ (by decide) (Or.inl rfl) l2
      have l3 := t7 _ _ (by decide) (Or.inl rfl) l3
      refine rs_goto (tg := 10) wi_154_24 ⟨by decide, by decide⟩ ?_
      exact h _ l0 l2 l3 l4
  ·
    intro x10 h lv
    exact rs_vret wi_154_27 wr_154 (hQ x10 h)
theorem t_126 : ta true 126 0 1024 := ⟨rfl, by decide, by decide⟩
theorem tf_114_13 : fo true 114 2 13 (.ref 126) := ⟨_, rfl, rfl, by decide, by decide⟩
theorem tf_114_7 : fo true 114 2 7 (.int 0) := ⟨_, rfl, rfl, by decide, by decide⟩
theorem wc_20_75 : rx_ct (rt_P sc fm) 20 75 = some (1, 154, 4) := (by decide +kernel : rt_ct 20 75 = some (1, 154, 4))
theorem wf_20_46 : rx_ft (rt_P sc fm) 20 46 = some (2, 13) := (by decide +kernel : rt_ft 20 46 = some (2, 13))
theorem wf_20_71 : rx_ft (rt_P sc fm) 20 71 = some (2, 7) := (by decide +kernel : rt_ft 20 71 = some (2, 7))
theorem wi_20_0 : ri (rt_P sc fm) 20 0 (.aload_n 0) (1) := ri_of (by decide +kernel) rfl
theorem wi_20_1 : ri (rt_P sc fm) 20 1 (.getfield 46) (4) := ri_of (by decide +kernel) rfl
theorem wi_20_10 : ri (rt_P sc fm) 20 10 (.invokestatic 75) (13) := ri_of (by decide +kernel) rfl
theorem wi_20_13 : ri (rt_P sc fm) 20 13 (.return_) (14) := ri_of (by decide +kernel) rfl
theorem wi_20_4 : ri (rt_P sc fm) 20 4 (.iconst 0) (5) := ri_of (by decide +kernel) rfl
theorem wi_20_5 : ri (rt_P sc fm) 20 5 (.aload_n 0) (6) := ri_of (by decide +kernel) rfl
theorem wi_20_6 : ri (rt_P sc fm) 20 6 (.getfield 71) (9) := ri_of (by decide +kernel) rfl
theorem wi_20_9 : ri (rt_P sc fm) 20 9 (.iconst 0) (10) := ri_of (by decide +kernel) rfl
theorem wm_154 : rx_ml (rt_P sc fm) 154 = 5 := (by decide +kernel : rt_ml 154 = 5)
theorem wr_20 : rx_rt (rt_P sc fm) 20 = none := (by decide +kernel : rt_rt 20 = none)
/-- MarkHouse$Code.clearChecks()V -/
def d_20 (n : Nat)  (c : cS) : Option (cS) :=
  Option.bind (d_154 n 126 1024 0 (c.1 114 7) 0 c) (fun r1 =>
  some r1)
theorem sp_20 {F Lo n : Nat}  {c y : cS} {w : cW} {K : cS → Prop} {Q : ((Option Value) ⊕ String) → List va_E → Prop} (hw : rOK fm w) (hF : 2 ≤ F) (hLo : 46 ≤ Lo)  (h : wp (d_20 n  c) K) (hQ : ∀ r, K r → Q (.inl none) (hq true r y w)) : rs (rt_P sc fm) 20 F Lo 0 [(0, .ref 114)] [] (hq true c y w) Q := by
  unfold d_20 at h
  obtain ⟨lv, elv⟩ : ∃ lv : rx_L, lv = [(0, .ref 114)] := ⟨_, rfl⟩
  rw [← elv]
  have l0 : rx_ld lv 0 = some (.ref 114) := by rw [elv]; rfl
  refine rs_aldn wi_20_0 l0 ?_
  refine dq_gr wi_20_1 wf_20_46 tf_114_13 ?_
  refine rs_pure wi_20_4 rfl ?_
  refine rs_topi (v := 0) (by decide) ?_
  refine rs_aldn wi_20_5 l0 ?_
  refine dq_gi wi_20_6 wf_20_71 tf_114_7 ?_
  refine rs_pure wi_20_9 rfl ?_
  refine rs_topi (v := 0) (by decide) ?_
  refine rs_S wi_20_10 wc_20_75 (Or.inl rfl) rfl (Nat.le_trans (by decide) hF) (ml_le wm_154 (Nat.le_trans (by decide) hLo)) rfl (sp_154 hw (Nat.le_trans (by decide : 1 ≤ 2 - 1) (Nat.sub_le_sub_right hF 1)) (ml_sub wm_154 (Nat.le_trans (by decide : 22 ≤ 46 - 24) (Nat.sub_le_sub_right hLo 24))) t_126 (wp_bind h) (fun r1 h => rs_back0 ?_))
  exact rs_vret wi_20_13 wr_20 (hQ r1 h)
theorem wi_22_0 : ri (rt_P sc fm) 22 0 (.iload_n 1) (1) := ri_of (by decide +kernel) rfl
theorem wi_22_1 : ri (rt_P sc fm) 22 1 (.bipush 100) (3) := ri_of (by decide +kernel) rfl
theorem wi_22_10 : ri (rt_P sc fm) 22 10 (.irem) (11) := ri_of (by decide +kernel) rfl
theorem wi_22_11 : ri (rt_P sc fm) 22 11 (.bipush 20) (13) := ri_of (by decide +kernel) rfl
theorem wi_22_13 : ri (rt_P sc fm) 22 13 (.isub) (14) := ri_of (by decide +kernel) rfl
theorem wi_22_14 : ri (rt_P sc fm) 22 14 (.bipush 10) (16) := ri_of (by decide +kernel) rfl
theorem wi_22_16 : ri (rt_P sc fm) 22 16 (.idiv) (17) := ri_of (by decide +kernel) rfl
theorem wi_22_17 : ri (rt_P sc fm) 22 17 (.iadd) (18) := ri_of (by decide +kernel) rfl
theorem wi_22_18 : ri (rt_P sc fm) 22 18 (.ireturn) (19) := ri_of (by decide +kernel) rfl
theorem wi_22_3 : ri (rt_P sc fm) 22 3 (.idiv) (4) := ri_of (by decide +kernel) rfl
theorem wi_22_4 : ri (rt_P sc fm) 22 4 (.bipush 8) (6) := ri_of (by decide +kernel) rfl
theorem wi_22_6 : ri (rt_P sc fm) 22 6 (.imul) (7) := ri_of (by decide +kernel) rfl
theorem wi_22_7 : ri (rt_P sc fm) 22 7 (.iload_n 1) (8) := ri_of (by decide +kernel) rfl
theorem wi_22_8 : ri (rt_P sc fm) 22 8 (.bipush 100) (10) := ri_of (by decide +kernel) rfl
theorem wr_22 : rx_rt (rt_P sc fm) 22 = (some FieldType.int) := (by decide +kernel : rt_rt 22 = (some FieldType.int))
/-- MarkHouse$Code.methodAt(I)I -/
def d_22 (n : Nat) (a1 : Int32) : Option (Int32) :=
  some (((a1 / 100) * 8) + (((a1 - a1 / 100 * 100) - 20) / 10))
theorem sp_22 {F Lo n : Nat} {a1 : Int32} {L : List va_E} {K : Int32 → Prop} {Q : ((Option Value) ⊕ String) → List va_E → Prop} (hF : 0 ≤ F) (hLo : 0 ≤ Lo)  (h : wp (d_22 n a1) K) (hQ : ∀ r, K r → Q (.inl (some (.int r))) L) : rs (rt_P sc fm) 22 F Lo 0 [(0, .ref 114), (1, .int a1)] [] L Q := by
  unfold d_22 at h
  obtain ⟨lv, elv⟩ : ∃ lv : rx_L, lv = [(0, .ref 114), (1, .int a1)] := ⟨_, rfl⟩
  rw [← elv]
  have l1 : rx_ld lv 1 = some (.int a1) := by rw [elv]; rfl
  refine rs_ildn wi_22_0 l1 ?_
  refine rs_pure wi_22_1 rfl ?_
  refine rs_topi (v := 100) (by decide) ?_
  refine dl_idiv wi_22_3 (by decide) ?_
  refine rs_pure wi_22_4 rfl ?_
  refine rs_topi (v := 8) (by decide) ?_
  refine rs_pure wi_22_6 rfl ?_
  refine rs_ildn wi_22_7 l1 ?_
  refine rs_pure wi_22_8 rfl ?_
  refine rs_topi (v := 100) (by decide) ?_
  refine dl_irem wi_22_10 (by decide) ?_
  refine rs_pure wi_22_11 rfl ?_
  refine rs_topi (v := 20) (by decide) ?_
  refine rs_pure wi_22_13 rfl ?_
  refine rs_pure wi_22_14 rfl ?_
  refine rs_topi (v := 10) (by decide) ?_
  refine dl_idiv wi_22_16 (by decide) ?_
  refine rs_pure wi_22_17 rfl ?_
  exact rs_iret wi_22_18 wr_22 rfl (hQ (((a1 / 100) * 8) + (((a1 - a1 / 100 * 100) - 20) / 10)) h)
theorem t_116 : ta true 116 0 96 := ⟨rfl, by decide, by decide⟩
theorem t_14 : ta true 14 0 12 := ⟨rfl, by decide, by decide⟩
theorem t_17 : ta true 17 0 12 := ⟨rfl, by decide, by decide⟩
theorem tf_114_0 : fo true 114 2 0 (.ref 7) := ⟨_, rfl, rfl, by decide, by decide⟩
theorem tf_114_2 : fo true 114 2 2 (.ref 116) := ⟨_, rfl, rfl, by decide, by decide⟩
theorem tf_7_0 : fo true 7 9 0 (.int 0) := ⟨_, rfl, rfl, by decide, by decide⟩
theorem tf_7_10 : fo true 7 9 10 (.int 0) := ⟨_, rfl, rfl, by decide, by decide⟩
theorem tf_7_11 : fo true 7 9 11 (.ref 14) := ⟨_, rfl, rfl, by decide, by decide⟩
theorem tf_7_14 : fo true 7 9 14 (.ref 17) := ⟨_, rfl, rfl, by decide, by decide⟩
theorem wa_2_22 : rz_cn 2 (rx_yn (rt_P sc fm) 22).cls = true := (by decide +kernel : rz_cn 2 (rt_yn 22).cls = true)
theorem wc_21_96 : rx_ct (rt_P sc fm) 21 96 = some (0, 22, 1) := (by decide +kernel : rt_ct 21 96 = some (0, 22, 1))
theorem wf_21_15 : rx_ft (rt_P sc fm) 21 15 = some (2, 2) := (by decide +kernel : rt_ft 21 15 = some (2, 2))
theorem wf_21_67 : rx_ft (rt_P sc fm) 21 67 = some (2, 0) := (by decide +kernel : rt_ft 21 67 = some (2, 0))
theorem wf_21_81 : rx_ft (rt_P sc fm) 21 81 = some (9, 0) := (by decide +kernel : rt_ft 21 81 = some (9, 0))
theorem wf_21_87 : rx_ft (rt_P sc fm) 21 87 = some (9, 10) := (by decide +kernel : rt_ft 21 87 = some (9, 10))
theorem wf_21_90 : rx_ft (rt_P sc fm) 21 90 = some (9, 11) := (by decide +kernel : rt_ft 21 90 = some (9, 11))
theorem wf_21_93 : rx_ft (rt_P sc fm) 21 93 = some (9, 14) := (by decide +kernel : rt_ft 21 93 = some (9, 14))
theorem wi_21_0 : ri (rt_P sc fm) 21 0 (.iload_n 1) (1) := ri_of (by decide +kernel) rfl
theorem wi_21_1 : ri (rt_P sc fm) 21 1 (.bipush 100) (3) := ri_of (by decide +kernel) rfl
theorem wi_21_10 : ri (rt_P sc fm) 21 10 (.aload_n 0) (11) := ri_of (by decide +kernel) rfl
theorem wi_21_100 : ri (rt_P sc fm) 21 100 (.iaload) (101) := ri_of (by decide +kernel) rfl
theorem wi_21_101 : ri (rt_P sc fm) 21 101 (.if_icmp .le 5) (104) := ri_of (by decide +kernel) rfl
theorem wi_21_104 : ri (rt_P sc fm) 21 104 (.iconst (-1)) (105) := ri_of (by decide +kernel) rfl
theorem wi_21_105 : ri (rt_P sc fm) 21 105 (.ireturn) (106) := ri_of (by decide +kernel) rfl
theorem wi_21_106 : ri (rt_P sc fm) 21 106 (.iload_n 3) (107) := ri_of (by decide +kernel) rfl
theorem wi_21_107 : ri (rt_P sc fm) 21 107 (.bipush 10) (109) := ri_of (by decide +kernel) rfl
theorem wi_21_109 : ri (rt_P sc fm) 21 109 (.irem) (110) := ri_of (by decide +kernel) rfl
theorem wi_21_11 : ri (rt_P sc fm) 21 11 (.getfield 67) (14) := ri_of (by decide +kernel) rfl
theorem wi_21_110 : ri (rt_P sc fm) 21 110 (.ifCond .ne 7) (113) := ri_of (by decide +kernel) rfl
theorem wi_21_113 : ri (rt_P sc fm) 21 113 (.iconst 2) (114) := ri_of (by decide +kernel) rfl
theorem wi_21_114 : ri (rt_P sc fm) 21 114 (.goto 4) (117) := ri_of (by decide +kernel) rfl
theorem wi_21_117 : ri (rt_P sc fm) 21 117 (.iconst 3) (118) := ri_of (by decide +kernel) rfl
theorem wi_21_118 : ri (rt_P sc fm) 21 118 (.ireturn) (119) := ri_of (by decide +kernel) rfl
theorem wi_21_14 : ri (rt_P sc fm) 21 14 (.getfield 81) (17) := ri_of (by decide +kernel) rfl
theorem wi_21_17 : ri (rt_P sc fm) 21 17 (.ifCond .eq 18) (20) := ri_of (by decide +kernel) rfl
theorem wi_21_20 : ri (rt_P sc fm) 21 20 (.iload_n 1) (21) := ri_of (by decide +kernel) rfl
theorem wi_21_21 : ri (rt_P sc fm) 21 21 (.ifCond .lt 14) (24) := ri_of (by decide +kernel) rfl
theorem wi_21_24 : ri (rt_P sc fm) 21 24 (.iload_n 2) (25) := ri_of (by decide +kernel) rfl
theorem wi_21_25 : ri (rt_P sc fm) 21 25 (.aload_n 0) (26) := ri_of (by decide +kernel) rfl
theorem wi_21_26 : ri (rt_P sc fm) 21 26 (.getfield 67) (29) := ri_of (by decide +kernel) rfl
theorem wi_21_29 : ri (rt_P sc fm) 21 29 (.getfield 87) (32) := ri_of (by decide +kernel) rfl
theorem wi_21_3 : ri (rt_P sc fm) 21 3 (.idiv) (4) := ri_of (by decide +kernel) rfl
theorem wi_21_32 : ri (rt_P sc fm) 21 32 (.if_icmp .lt 5) (35) := ri_of (by decide +kernel) rfl
theorem wi_21_35 : ri (rt_P sc fm) 21 35 (.iconst (-1)) (36) := ri_of (by decide +kernel) rfl
theorem wi_21_36 : ri (rt_P sc fm) 21 36 (.ireturn) (37) := ri_of (by decide +kernel) rfl
theorem wi_21_37 : ri (rt_P sc fm) 21 37 (.iload_n 3) (38) := ri_of (by decide +kernel) rfl
theorem wi_21_38 : ri (rt_P sc fm) 21 38 (.ifCond .ne 5) (41) := ri_of (by decide +kernel) rfl
theorem wi_21_4 : ri (rt_P sc fm) 21 4 (.istore_n 2) (5) := ri_of (by decide +kernel) rfl
theorem wi_21_41 : ri (rt_P sc fm) 21 41 (.iconst 0) (42) := ri_of (by decide +kernel) rfl
theorem wi_21_42 : ri (rt_P sc fm) 21 42 (.ireturn) (43) := ri_of (by decide +kernel) rfl
theorem wi_21_43 : ri (rt_P sc fm) 21 43 (.iload_n 3) (44) := ri_of (by decide +kernel) rfl
theorem wi_21_44 : ri (rt_P sc fm) 21 44 (.bipush 20) (46) := ri_of (by decide +kernel) rfl
theorem wi_21_46 : ri (rt_P sc fm) 21 46 (.if_icmp .ge 22) (49) := ri_of (by decide +kernel) rfl
theorem wi_21_49 : ri (rt_P sc fm) 21 49 (.iload_n 3) (50) := ri_of (by decide +kernel) rfl
theorem wi_21_5 : ri (rt_P sc fm) 21 5 (.iload_n 1) (6) := ri_of (by decide +kernel) rfl
theorem wi_21_50 : ri (rt_P sc fm) 21 50 (.aload_n 0) (51) := ri_of (by decide +kernel) rfl
theorem wi_21_51 : ri (rt_P sc fm) 21 51 (.getfield 67) (54) := ri_of (by decide +kernel) rfl
theorem wi_21_54 : ri (rt_P sc fm) 21 54 (.getfield 90) (57) := ri_of (by decide +kernel) rfl
theorem wi_21_57 : ri (rt_P sc fm) 21 57 (.iload_n 2) (58) := ri_of (by decide +kernel) rfl
theorem wi_21_58 : ri (rt_P sc fm) 21 58 (.iaload) (59) := ri_of (by decide +kernel) rfl
theorem wi_21_59 : ri (rt_P sc fm) 21 59 (.if_icmp .gt 7) (62) := ri_of (by decide +kernel) rfl
theorem wi_21_6 : ri (rt_P sc fm) 21 6 (.bipush 100) (8) := ri_of (by decide +kernel) rfl
theorem wi_21_62 : ri (rt_P sc fm) 21 62 (.iconst 1) (63) := ri_of (by decide +kernel) rfl
theorem wi_21_63 : ri (rt_P sc fm) 21 63 (.goto 4) (66) := ri_of (by decide +kernel) rfl
theorem wi_21_66 : ri (rt_P sc fm) 21 66 (.iconst (-1)) (67) := ri_of (by decide +kernel) rfl
theorem wi_21_67 : ri (rt_P sc fm) 21 67 (.ireturn) (68) := ri_of (by decide +kernel) rfl
theorem wi_21_68 : ri (rt_P sc fm) 21 68 (.iload_n 3) (69) := ri_of (by decide +kernel) rfl
theorem wi_21_69 : ri (rt_P sc fm) 21 69 (.bipush 20) (71) := ri_of (by decide +kernel) rfl
theorem wi_21_71 : ri (rt_P sc fm) 21 71 (.isub) (72) := ri_of (by decide +kernel) rfl
theorem wi_21_72 : ri (rt_P sc fm) 21 72 (.bipush 10) (74) := ri_of (by decide +kernel) rfl
theorem wi_21_74 : ri (rt_P sc fm) 21 74 (.idiv) (75) := ri_of (by decide +kernel) rfl
theorem wi_21_75 : ri (rt_P sc fm) 21 75 (.aload_n 0) (76) := ri_of (by decide +kernel) rfl
theorem wi_21_76 : ri (rt_P sc fm) 21 76 (.getfield 67) (79) := ri_of (by decide +kernel) rfl
theorem wi_21_79 : ri (rt_P sc fm) 21 79 (.getfield 93) (82) := ri_of (by decide +kernel) rfl
theorem wi_21_8 : ri (rt_P sc fm) 21 8 (.irem) (9) := ri_of (by decide +kernel) rfl
theorem wi_21_82 : ri (rt_P sc fm) 21 82 (.iload_n 2) (83) := ri_of (by decide +kernel) rfl
theorem wi_21_83 : ri (rt_P sc fm) 21 83 (.iaload) (84) := ri_of (by decide +kernel) rfl
theorem wi_21_84 : ri (rt_P sc fm) 21 84 (.if_icmp .ge 20) (87) := ri_of (by decide +kernel) rfl
theorem wi_21_87 : ri (rt_P sc fm) 21 87 (.iload_n 3) (88) := ri_of (by decide +kernel) rfl
theorem wi_21_88 : ri (rt_P sc fm) 21 88 (.bipush 10) (90) := ri_of (by decide +kernel) rfl
theorem wi_21_9 : ri (rt_P sc fm) 21 9 (.istore_n 3) (10) := ri_of (by decide +kernel) rfl
theorem wi_21_90 : ri (rt_P sc fm) 21 90 (.irem) (91) := ri_of (by decide +kernel) rfl
theorem wi_21_91 : ri (rt_P sc fm) 21 91 (.aload_n 0) (92) := ri_of (by decide +kernel) rfl
theorem wi_21_92 : ri (rt_P sc fm) 21 92 (.getfield 15) (95) := ri_of (by decide +kernel) rfl
theorem wi_21_95 : ri (rt_P sc fm) 21 95 (.aload_n 0) (96) := ri_of (by decide +kernel) rfl
theorem wi_21_96 : ri (rt_P sc fm) 21 96 (.iload_n 1) (97) := ri_of (by decide +kernel) rfl
theorem wi_21_97 : ri (rt_P sc fm) 21 97 (.invokevirtual 96) (100) := ri_of (by decide +kernel) rfl
theorem wm_22 : rx_ml (rt_P sc fm) 22 = 2 := (by decide +kernel : rt_ml 22 = 2)
theorem wr_21 : rx_rt (rt_P sc fm) 21 = (some FieldType.int) := (by decide +kernel : rt_rt 21 = (some FieldType.int))
/-- MarkHouse$Code.sortOf(I)I -/
def d_21 (n : Nat) (a1 : Int32) (c : cS) : Option (Int32) :=
  lt ((a1 / 100) : Int32) (fun v2 =>
  lt ((a1 - a1 / 100 * 100) : Int32) (fun v5 =>
  jn (fun p7 : Unit =>
    some (-1))
  (fun j35 =>
  if (c.1 7 0) = 0 then
    j35 ()
  else
    if a1 < 0 then
      j35 ()
    else
      if v2 < (c.1 7 10) then
        if v5 = 0 then
          some 0
        else
          if 20 ≤ v5 then
            if ib v2 12 then
            jn (fun p9 : Unit =>
              some (-1))
            (fun j104 =>
            if (c.1 17 (ix v2)) ≤ ((v5 - 20) / 10) then
              j104 ()
            else
              Option.bind (d_22 n a1) (fun v10 =>
              if ib v10 96 then
              if (v5 - v5 / 10 * 10) ≤ (c.1 116 (ix v10)) then
                jn (fun p12 : Int32 =>
                  some p12)
                (fun j118 =>
                if (v5 - v5 / 10 * 10) = 0 then
                  j118 2
                else
                  j118 3)
              else
                j104 ()
              else none))
            else none
          else
            if ib v2 12 then
            jn (fun p14 : Int32 =>
              some p14)
            (fun j67 =>
            if (c.1 14 (ix v2)) < v5 then
              j67 (-1)
            else
              j67 1)
            else none
      else
        j35 ())))
theorem sp_21 {F Lo n : Nat} {a1 : Int32} {c y : cS} {w : cW} {K : Int32 → Prop} {Q : ((Option Value) ⊕ String) → List va_E → Prop} (hw : rOK fm w) (hF : 1 ≤ F) (hLo : 21 ≤ Lo)  (h : wp (d_21 n a1 c) K) (hQ : ∀ r, K r → Q (.inl (some (.int r))) (hq true c y w)) : rs (rt_P sc fm) 21 F Lo 0 [(0, .ref 114), (1, .int a1)] [] (hq true c y w) Q := by
  unfold d_21 at h
  obtain ⟨lv, elv⟩ : ∃ lv : rx_L, lv = [(0, .ref 114), (1, .int a1)] := ⟨_, rfl⟩
  rw [← elv]
  have l0 : rx_ld lv 0 = some (.ref 114) := by rw [elv]; rfl
  have l1 : rx_ld lv 1 = some (.int a1) := by rw [elv]; rfl
  refine rs_ildn wi_21_0 l1 ?_
  refine rs_pure wi_21_1 rfl ?_
  refine rs_topi (v := 100) (by decide) ?_
  refine dl_idiv wi_21_3 (by decide) ?_
  obtain ⟨v2, e3, h⟩ := wp_lt h
  refine rs_topi e3 ?_
  refine dl_istn wi_21_4 rfl (fun lv l2 t1 => ?_)
  have l0 := t1 _ _ (by decide) (Or.inl rfl) l0
  have l1 := t1 _ _ (by decide) (Or.inl rfl) l1
  refine rs_ildn wi_21_5 l1 ?_
  refine rs_pure wi_21_6 rfl ?_
  refine rs_topi (v := 100) (by decide) ?_
  refine dl_irem wi_21_8 (by decide) ?_
  obtain ⟨v5, e6, h⟩ := wp_lt h
  refine rs_topi e6 ?_
  refine dl_istn wi_21_9 rfl (fun lv l3 t4 => ?_)
  have l0 := t4 _ _ (by decide) (Or.inl rfl) l0
  have l1 := t4 _ _ (by decide) (Or.inl rfl) l1
  have l2 := t4 _ _ (by decide) (Or.inl rfl) l2
  refine rs_aldn wi_21_10 l0 ?_
  refine dq_gr wi_21_11 wf_21_67 tf_114_0 ?_
  refine dq_gi wi_21_14 wf_21_81 tf_7_0 ?_
  refine wp_jn (B := fun p7 : Unit => ∀ lv, rs (rt_P sc fm) 21 F Lo 35 lv [] (hq true c y w) Q) h (fun p7 h lv => ?_) (fun j35 hj35 h => ?_)
  ·
    refine rs_pure wi_21_35 rfl ?_
    refine rs_topi (v := (-1)) (by decide) ?_
    exact rs_iret wi_21_36 wr_21 rfl (hQ (-1) h)
  refine rs_ifeq (tg := 35) wi_21_17 ⟨by decide, by decide⟩ (fun q => ?_) (fun q => ?_)
  ·
    have h := wp_pos h q
    exact hj35 _ h _
  ·
    have h := wp_neg h q
    refine rs_ildn wi_21_20 l1 ?_
    refine rs_iflt (tg := 35) wi_21_21 ⟨by decide, by decide⟩ (fun q => ?_) (fun q => ?_)
    ·
      have h := wp_pos h q
      exact hj35 _ h _
    ·
      have h := wp_neg h q
      refine rs_ildn wi_21_24 l2 ?_
      refine rs_aldn wi_21_25 l0 ?_
      refine dq_gr wi_21_26 wf_21_67 tf_114_0 ?_
      refine dq_gi wi_21_29 wf_21_87 tf_7_10 ?_
      refine rs_iclt (tg := 37) wi_21_32 ⟨by decide, by decide⟩ (fun q => ?_) (fun q => ?_)
      ·
        have h := wp_pos h q
        refine rs_ildn wi_21_37 l3 ?_
        refine rs_ifne (tg := 43) wi_21_38 ⟨by decide, by decide⟩ (fun q => ?_) (fun q => ?_)
        ·
          have h := wp_neg h q
          refine rs_ildn wi_21_43 l3 ?_
          refine rs_pure wi_21_44 rfl ?_
          refine rs_topi (v := 20) (by decide) ?_
          refine rs_icge (tg := 68) wi_21_46 ⟨by decide, by decide⟩ (fun q => ?_) (fun q => ?_)
          ·
            have h := wp_pos h q
            refine rs_ildn wi_21_68 l3 ?_
            refine rs_pure wi_21_69 rfl ?_
            refine rs_topi (v := 20) (by decide) ?_
            refine rs_pure wi_21_71 rfl ?_
            refine rs_pure wi_21_72 rfl ?_
            refine rs_topi (v := 10) (by decide) ?_
            refine dl_idiv wi_21_74 (by decide) ?_
            refine rs_aldn wi_21_75 l0 ?_
            refine dq_gr wi_21_76 wf_21_67 tf_114_0 ?_
            refine dq_gr wi_21_79 wf_21_93 tf_7_14 ?_
            refine rs_ildn wi_21_82 l2 ?_
            obtain ⟨g8, h⟩ := wp_gd h
            refine dq_iald wi_21_83 t_17 g8 ?_
            refine wp_jn (B := fun p9 : Unit => ∀ lv, rs (rt_P sc fm) 21 F Lo 104 lv [] (hq true c y w) Q) h (fun p9 h lv => ?_) (fun j104 hj104 h => ?_)
            ·
              refine rs_pure wi_21_104 rfl ?_
              refine rs_topi (v := (-1)) (by decide) ?_
              exact rs_iret wi_21_105 wr_21 rfl (hQ (-1) h)
            refine rs_icge (tg := 104) wi_21_84 ⟨by decide, by decide⟩ (fun q => ?_) (fun q => ?_)
            ·
              have h := wp_pos h q
              exact hj104 _ h _
            ·
              have h := wp_neg h q
              refine rs_ildn wi_21_87 l3 ?_
              refine rs_pure wi_21_88 rfl ?_
              refine rs_topi (v := 10) (by decide) ?_
              refine dl_irem wi_21_90 (by decide) ?_
              refine rs_aldn wi_21_91 l0 ?_
              refine dq_gr wi_21_92 wf_21_15 tf_114_2 ?_
              refine rs_aldn wi_21_95 l0 ?_
              refine rs_ildn wi_21_96 l1 ?_
              refine rs_V wi_21_97 wc_21_96 rfl (dq_isa tf_114_0 wa_2_22) (Nat.le_trans (by decide) hF) (ml_le wm_22 (Nat.le_trans (by decide) hLo)) rfl (sp_22 (Nat.le_trans (by decide : 0 ≤ 1 - 1) (Nat.sub_le_sub_right hF 1)) (ml_sub wm_22 (Nat.le_trans (by decide : 0 ≤ 21 - 21) (Nat.sub_le_sub_right hLo 21))) (wp_bind h) (fun v10 h => rs_back1 ?_))
              obtain ⟨g11, h⟩ := wp_gd h
              refine dq_iald wi_21_100 t_116 g11 ?_
              refine rs_icle (tg := 106) wi_21_101 ⟨by decide, by decide⟩ (fun q => ?_) (fun q => ?_)
              ·
                have h := wp_pos h q
                refine rs_ildn wi_21_106 l3 ?_
                refine rs_pure wi_21_107 rfl ?_
                refine rs_topi (v := 10) (by decide) ?_
                refine dl_irem wi_21_109 (by decide) ?_
                refine wp_jn (B := fun p12 : Int32 => ∀ lv, rs (rt_P sc fm) 21 F Lo 118 lv [.int p12] (hq true c y w) Q) h (fun p12 h lv => ?_) (fun j118 hj118 h => ?_)
                ·
                  exact rs_iret wi_21_118 wr_21 rfl (hQ p12 h)
                refine rs_ifne (tg := 117) wi_21_110 ⟨by decide, by decide⟩ (fun q => ?_) (fun q => ?_)
                ·
                  have h := wp_neg h q
                  refine rs_pure wi_21_117 rfl ?_
                  refine rs_topi (v := 3) (by decide) ?_
                  exact hj118 _ h _
                ·
                  have h := wp_pos h q
                  refine rs_pure wi_21_113 rfl ?_
                  refine rs_topi (v := 2) (by decide) ?_
                  refine rs_goto (tg := 118) wi_21_114 ⟨by decide, by decide⟩ ?_
                  exact hj118 _ h _
              ·
                have h := wp_neg h q
                exact hj104 _ h _
          ·
            have h := wp_neg h q
            refine rs_ildn wi_21_49 l3 ?_
            refine rs_aldn wi_21_50 l0 ?_
            refine dq_gr wi_21_51 wf_21_67 tf_114_0 ?_
            refine dq_gr wi_21_54 wf_21_90 tf_7_11 ?_
            refine rs_ildn wi_21_57 l2 ?_
            obtain ⟨g13, h⟩ := wp_gd h
            refine dq_iald wi_21_58 t_14 g13 ?_
            refine wp_jn (B := fun p14 : Int32 => ∀ lv, rs (rt_P sc fm) 21 F Lo 67 lv [.int p14] (hq true c y w) Q) h (fun p14 h lv => ?_) (fun j67 hj67 h => ?_)
            ·
              exact rs_iret wi_21_67 wr_21 rfl (hQ p14 h)
            refine rs_icgt (tg := 66) wi_21_59 ⟨by decide, by decide⟩ (fun q => ?_) (fun q => ?_)
            ·
              have h := wp_pos h q
              refine rs_pure wi_21_66 rfl ?_
              refine rs_topi (v := (-1)) (by decide) ?_
              exact hj67 _ h _
            ·
              have h := wp_neg h q
              refine rs_pure wi_21_62 rfl ?_
              refine rs_topi (v := 1) (by decide) ?_
              refine rs_goto (tg := 67) wi_21_63 ⟨by decide, by decide⟩ ?_
              exact hj67 _ h _
        ·
          have h := wp_pos h q
          refine rs_pure wi_21_41 rfl ?_
          refine rs_topi (v := 0) (by decide) ?_
          exact rs_iret wi_21_42 wr_21 rfl (hQ 0 h)
      ·
        have h := wp_neg h q
        exact hj35 _ h _
theorem t_2 : ta true 2 2 4000 := ⟨rfl, by decide, by decide⟩
theorem tf_1_0 : fo true 1 3 0 (.ref 2) := ⟨_, rfl, rfl, by decide, by decide⟩
theorem tf_1_1 : fo true 1 3 1 (.int 0) := ⟨_, rfl, rfl, by decide, by decide⟩
theorem wf_24_41 : rx_ft (rt_P sc fm) 24 41 = some (3, 1) := (by decide +kernel : rt_ft 24 41 = some (3, 1))
theorem wf_24_9 : rx_ft (rt_P sc fm) 24 9 = some (3, 0) := (by decide +kernel : rt_ft 24 9 = some (3, 0))
theorem wi_24_0 : ri (rt_P sc fm) 24 0 (.bipush 24) (2) := ri_of (by decide +kernel) rfl
theorem wi_24_11 : ri (rt_P sc fm) 24 11 (.sipush 4000) (14) := ri_of (by decide +kernel) rfl
theorem wi_24_14 : ri (rt_P sc fm) 24 14 (.if_icmp .ge 29) (17) := ri_of (by decide +kernel) rfl
theorem wi_24_17 : ri (rt_P sc fm) 24 17 (.aload_n 0) (18) := ri_of (by decide +kernel) rfl
theorem wi_24_18 : ri (rt_P sc fm) 24 18 (.getfield 9) (21) := ri_of (by decide +kernel) rfl
theorem wi_24_2 : ri (rt_P sc fm) 24 2 (.istore_n 2) (3) := ri_of (by decide +kernel) rfl
theorem wi_24_21 : ri (rt_P sc fm) 24 21 (.aload_n 0) (22) := ri_of (by decide +kernel) rfl
theorem wi_24_22 : ri (rt_P sc fm) 24 22 (.dup) (23) := ri_of (by decide +kernel) rfl
theorem wi_24_23 : ri (rt_P sc fm) 24 23 (.getfield 41) (26) := ri_of (by decide +kernel) rfl
theorem wi_24_26 : ri (rt_P sc fm) 24 26 (.dup_x1) (27) := ri_of (by decide +kernel) rfl
theorem wi_24_27 : ri (rt_P sc fm) 24 27 (.iconst 1) (28) := ri_of (by decide +kernel) rfl
theorem wi_24_28 : ri (rt_P sc fm) 24 28 (.iadd) (29) := ri_of (by decide +kernel) rfl
theorem wi_24_29 : ri (rt_P sc fm) 24 29 (.putfield 41) (32) := ri_of (by decide +kernel) rfl
theorem wi_24_3 : ri (rt_P sc fm) 24 3 (.iload_n 2) (4) := ri_of (by decide +kernel) rfl
theorem wi_24_32 : ri (rt_P sc fm) 24 32 (.iload_n 1) (33) := ri_of (by decide +kernel) rfl
theorem wi_24_33 : ri (rt_P sc fm) 24 33 (.iload_n 2) (34) := ri_of (by decide +kernel) rfl
theorem wi_24_34 : ri (rt_P sc fm) 24 34 (.ishr) (35) := ri_of (by decide +kernel) rfl
theorem wi_24_35 : ri (rt_P sc fm) 24 35 (.i2b) (36) := ri_of (by decide +kernel) rfl
theorem wi_24_36 : ri (rt_P sc fm) 24 36 (.bastore) (37) := ri_of (by decide +kernel) rfl
theorem wi_24_37 : ri (rt_P sc fm) 24 37 (.iinc 2 (-8)) (40) := ri_of (by decide +kernel) rfl
theorem wi_24_4 : ri (rt_P sc fm) 24 4 (.ifCond .lt 39) (7) := ri_of (by decide +kernel) rfl
theorem wi_24_40 : ri (rt_P sc fm) 24 40 (.goto (-37)) (43) := ri_of (by decide +kernel) rfl
theorem wi_24_43 : ri (rt_P sc fm) 24 43 (.return_) (44) := ri_of (by decide +kernel) rfl
theorem wi_24_7 : ri (rt_P sc fm) 24 7 (.aload_n 0) (8) := ri_of (by decide +kernel) rfl
theorem wi_24_8 : ri (rt_P sc fm) 24 8 (.getfield 41) (11) := ri_of (by decide +kernel) rfl
theorem wp_24_41 : rx_pt (rt_P sc fm) 24 41 = some (3, 1, .int) := (by decide +kernel : rt_pt 24 41 = some (3, 1, .int))
theorem wr_24 : rx_rt (rt_P sc fm) 24 = none := (by decide +kernel : rt_rt 24 = none)
/-- MarkHouse$Cutter.addWord(I)V -/
def d_24 (n : Nat) (a1 : Int32) (c : cS) : Option (cS) :=
  Option.bind (whl (R := (cS)) (fun s2 : Int32 × cS =>
    if s2.1 < 0 then
      some (.inr s2.2)
    else
      if 4000 ≤ (s2.2.1 1 1) then
        some (.inr s2.2)
      else
        lt (pI s2.2 1 1 ((s2.2.1 1 1) + 1)) (fun c3 =>
        if ib (s2.2.1 1 1) 4000 then
        lt (pI c3 2 (ix (s2.2.1 1 1)) (vp_nar .byte (((a1 >>> (s2.1 &&& 31)) : Int32).toInt8.toInt32))) (fun c6 =>
        lt (s2.1 + (-8) : Int32) (fun v9 =>
        some (.inl (v9, c6))))
        else none)) n (24, c))
  (fun x11 : cS =>
    some x11)
theorem sp_24 {F Lo n : Nat} {a1 : Int32} {c y : cS} {w : cW} {K : cS → Prop} {Q : ((Option Value) ⊕ String) → List va_E → Prop} (hw : rOK fm w) (hF : 0 ≤ F) (hLo : 0 ≤ Lo)  (h : wp (d_24 n a1 c) K) (hQ : ∀ r, K r → Q (.inl none) (hq true r y w)) : rs (rt_P sc fm) 24 F Lo 0 [(0, .ref 1), (1, .int a1)] [] (hq true c y w) Q := by
  unfold d_24 at h
  obtain ⟨lv, elv⟩ : ∃ lv : rx_L, lv = [(0, .ref 1), (1, .int a1)] := ⟨_, rfl⟩
  rw [← elv]
  have l0 : rx_ld lv 0 = some (.ref 1) := by rw [elv]; rfl
  have l1 : rx_ld lv 1 = some (.int a1) := by rw [elv]; rfl
  refine rs_pure wi_24_0 rfl ?_
  refine rs_topi (v := 24) (by decide) ?_
  refine dl_istn wi_24_2 rfl (fun lv l2 t1 => ?_)
  have l0 := t1 _ _ (by decide) (Or.inl rfl) l0
  have l1 := t1 _ _ (by decide) (Or.inl rfl) l1
  refine whl_ex (A := fun s2 : Int32 × cS => ∀ lv, rx_ld lv 0 = some (.ref 1) → rx_ld lv 1 = some (.int a1) → rx_ld lv 2 = some (.int s2.1) → rs (rt_P sc fm) 24 F Lo 3 lv [] (hq true s2.2 y w) Q) (B := (fun x11 : cS => ∀ lv, rs (rt_P sc fm) 24 F Lo 43 lv [] (hq true x11 y w) Q)) ?_ ?_ _ _ (wp_bind h) _ l0 l1 l2
  · intro s2 h lv l0 l1 l2
    refine rs_ildn wi_24_3 l2 ?_
    refine rs_iflt (tg := 43) wi_24_4 ⟨by decide, by decide⟩ (fun q => ?_) (fun q => ?_)
    ·
      have h := wp_pos h q
      exact h _
    ·
      have h := wp_neg h q
      refine rs_aldn wi_24_7 l0 ?_
      refine dq_gi wi_24_8 wf_24_41 tf_1_1 ?_
      refine rs_pure wi_24_11 rfl ?_
      refine rs_topi (v := 4000) (by decide) ?_
      refine rs_icge (tg := 43) wi_24_14 ⟨by decide, by decide⟩ (fun q => ?_) (fun q => ?_)
      ·
        have h := wp_pos h q
        exact h _
      ·
        have h := wp_neg h q
        refine rs_aldn wi_24_17 l0 ?_
        refine dq_gr wi_24_18 wf_24_9 tf_1_0 ?_
        refine rs_aldn wi_24_21 l0 ?_
        refine rs_pure wi_24_22 rfl ?_
        refine dq_gi wi_24_23 wf_24_41 tf_1_1 ?_
        refine rs_pure wi_24_26 rfl ?_
        refine rs_pure wi_24_27 rfl ?_
        refine rs_topi (v := 1) (by decide) ?_
        refine rs_pure wi_24_28 rfl ?_
        obtain ⟨c3, e4, h⟩ := wp_lt h
        refine dq_pi wi_24_29 wp_24_41 tf_1_1 rfl rfl e4 ?_
        refine rs_ildn wi_24_32 l1 ?_
        refine rs_ildn wi_24_33 l2 ?_
        refine rs_pure wi_24_34 rfl ?_
        refine rs_pure wi_24_35 rfl ?_
        obtain ⟨g5, h⟩ := wp_gd h
        obtain ⟨c6, e7, h⟩ := wp_lt h
        refine dq_bast wi_24_36 t_2 g5 e7 ?_
        obtain ⟨v9, e10, h⟩ := wp_lt h
        refine dl_inc wi_24_37 l2 rfl e10 (fun lv l2 t8 => ?_)
        have l0 := t8 _ _ (by decide) (Or.inl rfl) l0
        have l1 := t8 _ _ (by decide) (Or.inl rfl) l1
        refine rs_goto (tg := 3) wi_24_40 ⟨by decide, by decide⟩ ?_
        exact h _ l0 l1 l2
  ·
    intro x11 h lv
    exact rs_vret wi_24_43 wr_24 (hQ x11 h)
theorem tf_1_7 : fo true 1 3 7 (.int 0) := ⟨_, rfl, rfl, by decide, by decide⟩
theorem wf_26_41 : rx_ft (rt_P sc fm) 26 41 = some (3, 1) := (by decide +kernel : rt_ft 26 41 = some (3, 1))
theorem wf_26_44 : rx_ft (rt_P sc fm) 26 44 = some (3, 7) := (by decide +kernel : rt_ft 26 44 = some (3, 7))
theorem wf_26_9 : rx_ft (rt_P sc fm) 26 9 = some (3, 0) := (by decide +kernel : rt_ft 26 9 = some (3, 0))
theorem wi_26_0 : ri (rt_P sc fm) 26 0 (.aload_n 0) (1) := ri_of (by decide +kernel) rfl
theorem wi_26_1 : ri (rt_P sc fm) 26 1 (.getfield 44) (4) := ri_of (by decide +kernel) rfl
theorem wi_26_11 : ri (rt_P sc fm) 26 11 (.aload_n 0) (12) := ri_of (by decide +kernel) rfl
theorem wi_26_12 : ri (rt_P sc fm) 26 12 (.getfield 9) (15) := ri_of (by decide +kernel) rfl
theorem wi_26_15 : ri (rt_P sc fm) 26 15 (.aload_n 0) (16) := ri_of (by decide +kernel) rfl
theorem wi_26_16 : ri (rt_P sc fm) 26 16 (.getfield 44) (19) := ri_of (by decide +kernel) rfl
theorem wi_26_19 : ri (rt_P sc fm) 26 19 (.baload) (20) := ri_of (by decide +kernel) rfl
theorem wi_26_20 : ri (rt_P sc fm) 26 20 (.bipush 32) (22) := ri_of (by decide +kernel) rfl
theorem wi_26_22 : ri (rt_P sc fm) 26 22 (.if_icmp .eq 17) (25) := ri_of (by decide +kernel) rfl
theorem wi_26_25 : ri (rt_P sc fm) 26 25 (.aload_n 0) (26) := ri_of (by decide +kernel) rfl
theorem wi_26_26 : ri (rt_P sc fm) 26 26 (.getfield 9) (29) := ri_of (by decide +kernel) rfl
theorem wi_26_29 : ri (rt_P sc fm) 26 29 (.aload_n 0) (30) := ri_of (by decide +kernel) rfl
theorem wi_26_30 : ri (rt_P sc fm) 26 30 (.getfield 44) (33) := ri_of (by decide +kernel) rfl
theorem wi_26_33 : ri (rt_P sc fm) 26 33 (.baload) (34) := ri_of (by decide +kernel) rfl
theorem wi_26_34 : ri (rt_P sc fm) 26 34 (.bipush 10) (36) := ri_of (by decide +kernel) rfl
theorem wi_26_36 : ri (rt_P sc fm) 26 36 (.if_icmp .ne 16) (39) := ri_of (by decide +kernel) rfl
theorem wi_26_39 : ri (rt_P sc fm) 26 39 (.aload_n 0) (40) := ri_of (by decide +kernel) rfl
theorem wi_26_4 : ri (rt_P sc fm) 26 4 (.aload_n 0) (5) := ri_of (by decide +kernel) rfl
theorem wi_26_40 : ri (rt_P sc fm) 26 40 (.dup) (41) := ri_of (by decide +kernel) rfl
theorem wi_26_41 : ri (rt_P sc fm) 26 41 (.getfield 44) (44) := ri_of (by decide +kernel) rfl
theorem wi_26_44 : ri (rt_P sc fm) 26 44 (.iconst 1) (45) := ri_of (by decide +kernel) rfl
theorem wi_26_45 : ri (rt_P sc fm) 26 45 (.iadd) (46) := ri_of (by decide +kernel) rfl
theorem wi_26_46 : ri (rt_P sc fm) 26 46 (.putfield 44) (49) := ri_of (by decide +kernel) rfl
theorem wi_26_49 : ri (rt_P sc fm) 26 49 (.goto (-49)) (52) := ri_of (by decide +kernel) rfl
theorem wi_26_5 : ri (rt_P sc fm) 26 5 (.getfield 41) (8) := ri_of (by decide +kernel) rfl
theorem wi_26_52 : ri (rt_P sc fm) 26 52 (.return_) (53) := ri_of (by decide +kernel) rfl
theorem wi_26_8 : ri (rt_P sc fm) 26 8 (.if_icmp .ge 44) (11) := ri_of (by decide +kernel) rfl
theorem wp_26_44 : rx_pt (rt_P sc fm) 26 44 = some (3, 7, .int) := (by decide +kernel : rt_pt 26 44 = some (3, 7, .int))
theorem wr_26 : rx_rt (rt_P sc fm) 26 = none := (by decide +kernel : rt_rt 26 = none)
/-- MarkHouse$Cutter.skipBlanks()V -/
def d_26 (n : Nat)  (c : cS) : Option (cS) :=
  Option.bind (whl (R := (cS)) (fun s1 : cS =>
    if (s1.1 1 1) ≤ (s1.1 1 7) then
      some (.inr s1)
    else
      if ib (s1.1 1 7) 4000 then
      jn (fun p3 : Unit =>
        lt (pI s1 1 7 ((s1.1 1 7) + 1)) (fun c4 =>
        some (.inl c4)))
      (fun j39 =>
      if (s1.1 2 (ix (s1.1 1 7))) = 32 then
        j39 ()
      else
        if ib (s1.1 1 7) 4000 then
        if (s1.1 2 (ix (s1.1 1 7))) = 10 then
          j39 ()
        else
          some (.inr s1)
        else none)
      else none) n c)
  (fun x7 : cS =>
    some x7)
theorem sp_26 {F Lo n : Nat}  {c y : cS} {w : cW} {K : cS → Prop} {Q : ((Option Value) ⊕ String) → List va_E → Prop} (hw : rOK fm w) (hF : 0 ≤ F) (hLo : 0 ≤ Lo)  (h : wp (d_26 n  c) K) (hQ : ∀ r, K r → Q (.inl none) (hq true r y w)) : rs (rt_P sc fm) 26 F Lo 0 [(0, .ref 1)] [] (hq true c y w) Q := by
  unfold d_26 at h
  obtain ⟨lv, elv⟩ : ∃ lv : rx_L, lv = [(0, .ref 1)] := ⟨_, rfl⟩
  rw [← elv]
  have l0 : rx_ld lv 0 = some (.ref 1) := by rw [elv]; rfl
  refine whl_ex (A := fun s1 : cS => ∀ lv, rx_ld lv 0 = some (.ref 1) → rs (rt_P sc fm) 26 F Lo 0 lv [] (hq true s1 y w) Q) (B := (fun x7 : cS => ∀ lv, rs (rt_P sc fm) 26 F Lo 52 lv [] (hq true x7 y w) Q)) ?_ ?_ _ _ (wp_bind h) _ l0
  · intro s1 h lv l0
    refine rs_aldn wi_26_0 l0 ?_
    refine dq_gi wi_26_1 wf_26_44 tf_1_7 ?_
    refine rs_aldn wi_26_4 l0 ?_
    refine dq_gi wi_26_5 wf_26_41 tf_1_1 ?_
    refine rs_icge (tg := 52) wi_26_8 ⟨by decide, by decide⟩ (fun q => ?_) (fun q => ?_)
    ·
      have h := wp_pos h q
      exact h _
    ·
      have h := wp_neg h q
      refine rs_aldn wi_26_11 l0 ?_
      refine dq_gr wi_26_12 wf_26_9 tf_1_0 ?_
      refine rs_aldn wi_26_15 l0 ?_
      refine dq_gi wi_26_16 wf_26_44 tf_1_7 ?_
      obtain ⟨g2, h⟩ := wp_gd h
      refine dq_bald wi_26_19 t_2 g2 ?_
      refine rs_pure wi_26_20 rfl ?_
      refine rs_topi (v := 32) (by decide) ?_
      refine wp_jn (B := fun p3 : Unit => ∀ lv, rx_ld lv 0 = some (.ref 1) → rs (rt_P sc fm) 26 F Lo 39 lv [] (hq true s1 y w) Q) h (fun p3 h lv l0 => ?_) (fun j39 hj39 h => ?_)
      ·
        refine rs_aldn wi_26_39 l0 ?_
        refine rs_pure wi_26_40 rfl ?_
        refine dq_gi wi_26_41 wf_26_44 tf_1_7 ?_
        refine rs_pure wi_26_44 rfl ?_
        refine rs_topi (v := 1) (by decide) ?_
        refine rs_pure wi_26_45 rfl ?_
        obtain ⟨c4, e5, h⟩ := wp_lt h
        refine dq_pi wi_26_46 wp_26_44 tf_1_7 rfl rfl e5 ?_
        refine rs_goto (tg := 0) wi_26_49 ⟨by decide, by decide⟩ ?_
        exact h _ l0
      refine rs_iceq (tg := 39) wi_26_22 ⟨by decide, by decide⟩ (fun q => ?_) (fun q => ?_)
      ·
        have h := wp_pos h q
        exact hj39 _ h _ l0
      ·
        have h := wp_neg h q
        refine rs_aldn wi_26_25 l0 ?_
        refine dq_gr wi_26_26 wf_26_9 tf_1_0 ?_
        refine rs_aldn wi_26_29 l0 ?_
        refine dq_gi wi_26_30 wf_26_44 tf_1_7 ?_
        obtain ⟨g6, h⟩ := wp_gd h
        refine dq_bald wi_26_33 t_2 g6 ?_
        refine rs_pure wi_26_34 rfl ?_
        refine rs_topi (v := 10) (by decide) ?_
        refine rs_icne (tg := 52) wi_26_36 ⟨by decide, by decide⟩ (fun q => ?_) (fun q => ?_)
        ·
          have h := wp_neg h q
          exact h _
        ·
          have h := wp_pos h q
          exact hj39 _ h _ l0
  ·
    intro x7 h lv
    exact rs_vret wi_26_52 wr_26 (hQ x7 h)
theorem wi_352_0 : ri (rt_P sc fm) 352 0 (.iload_n 0) (1) := ri_of (by decide +kernel) rfl
theorem wi_352_1 : ri (rt_P sc fm) 352 1 (.bipush 97) (3) := ri_of (by decide +kernel) rfl
theorem wi_352_12 : ri (rt_P sc fm) 352 12 (.iload_n 0) (13) := ri_of (by decide +kernel) rfl
theorem wi_352_13 : ri (rt_P sc fm) 352 13 (.bipush 65) (15) := ri_of (by decide +kernel) rfl
theorem wi_352_15 : ri (rt_P sc fm) 352 15 (.if_icmp .lt 13) (18) := ri_of (by decide +kernel) rfl
theorem wi_352_18 : ri (rt_P sc fm) 352 18 (.iload_n 0) (19) := ri_of (by decide +kernel) rfl
theorem wi_352_19 : ri (rt_P sc fm) 352 19 (.bipush 90) (21) := ri_of (by decide +kernel) rfl
theorem wi_352_21 : ri (rt_P sc fm) 352 21 (.if_icmp .gt 7) (24) := ri_of (by decide +kernel) rfl
theorem wi_352_24 : ri (rt_P sc fm) 352 24 (.iconst 1) (25) := ri_of (by decide +kernel) rfl
theorem wi_352_25 : ri (rt_P sc fm) 352 25 (.goto 4) (28) := ri_of (by decide +kernel) rfl
theorem wi_352_28 : ri (rt_P sc fm) 352 28 (.iconst 0) (29) := ri_of (by decide +kernel) rfl
theorem wi_352_29 : ri (rt_P sc fm) 352 29 (.ireturn) (30) := ri_of (by decide +kernel) rfl
theorem wi_352_3 : ri (rt_P sc fm) 352 3 (.if_icmp .lt 9) (6) := ri_of (by decide +kernel) rfl
theorem wi_352_6 : ri (rt_P sc fm) 352 6 (.iload_n 0) (7) := ri_of (by decide +kernel) rfl
theorem wi_352_7 : ri (rt_P sc fm) 352 7 (.bipush 122) (9) := ri_of (by decide +kernel) rfl
theorem wi_352_9 : ri (rt_P sc fm) 352 9 (.if_icmp .le 15) (12) := ri_of (by decide +kernel) rfl
theorem wr_352 : rx_rt (rt_P sc fm) 352 = (some FieldType.boolean) := (by decide +kernel : rt_rt 352 = (some FieldType.boolean))
/-- MarkHouse.isLetter(I)Z -/
def d_352 (n : Nat) (a0 : Int32) : Option (Int32) :=
  jn (fun p1 : Int32 =>
    if nb p1 then
    some p1
    else none)
  (fun j29 =>
  jn (fun p3 : Unit =>
    j29 1)
  (fun j24 =>
  jn (fun p4 : Unit =>
    jn (fun p5 : Unit =>
      j29 0)
    (fun j28 =>
    if a0 < 65 then
      j28 ()
    else
      if 90 < a0 then
        j28 ()
      else
        j24 ()))
  (fun j12 =>
  if a0 < 97 then
    j12 ()
  else
    if a0 ≤ 122 then
      j24 ()
    else
      j12 ())))
theorem sp_352 {F Lo n : Nat} {a0 : Int32} {L : List va_E} {K : Int32 → Prop} {Q : ((Option Value) ⊕ String) → List va_E → Prop} (hF : 0 ≤ F) (hLo : 0 ≤ Lo)  (h : wp (d_352 n a0) K) (hQ : ∀ r, K r → Q (.inl (some (.int r))) L) : rs (rt_P sc fm) 352 F Lo 0 [(0, .int a0)] [] L Q := by
  unfold d_352 at h
  obtain ⟨lv, elv⟩ : ∃ lv : rx_L, lv = [(0, .int a0)] := ⟨_, rfl⟩
  rw [← elv]
  have l0 : rx_ld lv 0 = some (.int a0) := by rw [elv]; rfl
  refine rs_ildn wi_352_0 l0 ?_
  refine rs_pure wi_352_1 rfl ?_
  refine rs_topi (v := 97) (by decide) ?_
  refine wp_jn (B := fun p1 : Int32 => ∀ lv, rs (rt_P sc fm) 352 F Lo 29 lv [.int p1] L Q) h (fun p1 h lv => ?_) (fun j29 hj29 h => ?_)
  ·
    obtain ⟨g2, h⟩ := wp_gd h
    exact rs_iret wi_352_29 wr_352 (nb_n g2) (hQ p1 h)
  refine wp_jn (B := fun p3 : Unit => ∀ lv, rs (rt_P sc fm) 352 F Lo 24 lv [] L Q) h (fun p3 h lv => ?_) (fun j24 hj24 h => ?_)
  ·
    refine rs_pure wi_352_24 rfl ?_
    refine rs_topi (v := 1) (by decide) ?_
    refine rs_goto (tg := 29) wi_352_25 ⟨by decide, by decide⟩ ?_
    exact hj29 _ h _
  refine wp_jn (B := fun p4 : Unit => ∀ lv, rx_ld lv 0 = some (.int a0) → rs (rt_P sc fm) 352 F Lo 12 lv [] L Q) h (fun p4 h lv l0 => ?_) (fun j12 hj12 h => ?_)
  ·
    refine rs_ildn wi_352_12 l0 ?_
    refine rs_pure wi_352_13 rfl ?_
    refine rs_topi (v := 65) (by decide) ?_
    refine wp_jn (B := fun p5 : Unit => ∀ lv, rs (rt_P sc fm) 352 F Lo 28 lv [] L Q) h (fun p5 h lv => ?_) (fun j28 hj28 h => ?_)
    ·
      refine rs_pure wi_352_28 rfl ?_
      refine rs_topi (v := 0) (by decide) ?_
      exact hj29 _ h _
    refine rs_iclt (tg := 28) wi_352_15 ⟨by decide, by decide⟩ (fun q => ?_) (fun q => ?_)
    ·
      have h := wp_pos h q
      exact hj28 _ h _
    ·
      have h := wp_neg h q
      refine rs_ildn wi_352_18 l0 ?_
      refine rs_pure wi_352_19 rfl ?_
      refine rs_topi (v := 90) (by decide) ?_
      refine rs_icgt (tg := 28) wi_352_21 ⟨by decide, by decide⟩ (fun q => ?_) (fun q => ?_)
      ·
        have h := wp_pos h q
        exact hj28 _ h _
      ·
        have h := wp_neg h q
        exact hj24 _ h _
  refine rs_iclt (tg := 12) wi_352_3 ⟨by decide, by decide⟩ (fun q => ?_) (fun q => ?_)
  ·
    have h := wp_pos h q
    exact hj12 _ h _ l0
  ·
    have h := wp_neg h q
    refine rs_ildn wi_352_6 l0 ?_
    refine rs_pure wi_352_7 rfl ?_
    refine rs_topi (v := 122) (by decide) ?_
    refine rs_icle (tg := 24) wi_352_9 ⟨by decide, by decide⟩ (fun q => ?_) (fun q => ?_)
    ·
      have h := wp_pos h q
      exact hj24 _ h _
    ·
      have h := wp_neg h q
      exact hj12 _ h _ l0
theorem wi_353_0 : ri (rt_P sc fm) 353 0 (.iload_n 0) (1) := ri_of (by decide +kernel) rfl
theorem wi_353_1 : ri (rt_P sc fm) 353 1 (.bipush 48) (3) := ri_of (by decide +kernel) rfl
theorem wi_353_12 : ri (rt_P sc fm) 353 12 (.iconst 1) (13) := ri_of (by decide +kernel) rfl
theorem wi_353_13 : ri (rt_P sc fm) 353 13 (.goto 4) (16) := ri_of (by decide +kernel) rfl
theorem wi_353_16 : ri (rt_P sc fm) 353 16 (.iconst 0) (17) := ri_of (by decide +kernel) rfl
theorem wi_353_17 : ri (rt_P sc fm) 353 17 (.ireturn) (18) := ri_of (by decide +kernel) rfl
theorem wi_353_3 : ri (rt_P sc fm) 353 3 (.if_icmp .lt 13) (6) := ri_of (by decide +kernel) rfl
theorem wi_353_6 : ri (rt_P sc fm) 353 6 (.iload_n 0) (7) := ri_of (by decide +kernel) rfl
theorem wi_353_7 : ri (rt_P sc fm) 353 7 (.bipush 57) (9) := ri_of (by decide +kernel) rfl
theorem wi_353_9 : ri (rt_P sc fm) 353 9 (.if_icmp .gt 7) (12) := ri_of (by decide +kernel) rfl
theorem wr_353 : rx_rt (rt_P sc fm) 353 = (some FieldType.boolean) := (by decide +kernel : rt_rt 353 = (some FieldType.boolean))
/-- MarkHouse.isDigit(I)Z -/
def d_353 (n : Nat) (a0 : Int32) : Option (Int32) :=
  jn (fun p1 : Int32 =>
    if nb p1 then
    some p1
    else none)
  (fun j17 =>
  jn (fun p3 : Unit =>
    j17 0)
  (fun j16 =>
  if a0 < 48 then
    j16 ()
  else
    if 57 < a0 then
      j16 ()
    else
      j17 1))
theorem sp_353 {F Lo n : Nat} {a0 : Int32} {L : List va_E} {K : Int32 → Prop} {Q : ((Option Value) ⊕ String) → List va_E → Prop} (hF : 0 ≤ F) (hLo : 0 ≤ Lo)  (h : wp (d_353 n a0) K) (hQ : ∀ r, K r → Q (.inl (some (.int r))) L) : rs (rt_P sc fm) 353 F Lo 0 [(0, .int a0)] [] L Q := by
  unfold d_353 at h
  obtain ⟨lv, elv⟩ : ∃ lv : rx_L, lv = [(0, .int a0)] := ⟨_, rfl⟩
  rw [← elv]
  have l0 : rx_ld lv 0 = some (.int a0) := by rw [elv]; rfl
  refine rs_ildn wi_353_0 l0 ?_
  refine rs_pure wi_353_1 rfl ?_
  refine rs_topi (v := 48) (by decide) ?_
  refine wp_jn (B := fun p1 : Int32 => ∀ lv, rs (rt_P sc fm) 353 F Lo 17 lv [.int p1] L Q) h (fun p1 h lv => ?_) (fun j17 hj17 h => ?_)
  ·
    obtain ⟨g2, h⟩ := wp_gd h
    exact rs_iret wi_353_17 wr_353 (nb_n g2) (hQ p1 h)
  refine wp_jn (B := fun p3 : Unit => ∀ lv, rs (rt_P sc fm) 353 F Lo 16 lv [] L Q) h (fun p3 h lv => ?_) (fun j16 hj16 h => ?_)
  ·
    refine rs_pure wi_353_16 rfl ?_
    refine rs_topi (v := 0) (by decide) ?_
    exact hj17 _ h _
  refine rs_iclt (tg := 16) wi_353_3 ⟨by decide, by decide⟩ (fun q => ?_) (fun q => ?_)
  ·
    have h := wp_pos h q
    exact hj16 _ h _
  ·
    have h := wp_neg h q
    refine rs_ildn wi_353_6 l0 ?_
    refine rs_pure wi_353_7 rfl ?_
    refine rs_topi (v := 57) (by decide) ?_
    refine rs_icgt (tg := 16) wi_353_9 ⟨by decide, by decide⟩ (fun q => ?_) (fun q => ?_)
    ·
      have h := wp_pos h q
      exact hj16 _ h _
    ·
      have h := wp_neg h q
      refine rs_pure wi_353_12 rfl ?_
      refine rs_topi (v := 1) (by decide) ?_
      refine rs_goto (tg := 17) wi_353_13 ⟨by decide, by decide⟩ ?_
      exact hj17 _ h _
theorem t_6 : ta true 6 1 31 := ⟨rfl, by decide, by decide⟩
theorem tf_1_5 : fo true 1 3 5 (.ref 6) := ⟨_, rfl, rfl, by decide, by decide⟩
theorem wf_173_26 : rx_ft (rt_P sc fm) 173 26 = some (3, 5) := (by decide +kernel : rt_ft 173 26 = some (3, 5))
theorem wi_173_0 : ri (rt_P sc fm) 173 0 (.iconst 0) (1) := ri_of (by decide +kernel) rfl
theorem wi_173_1 : ri (rt_P sc fm) 173 1 (.istore_n 3) (2) := ri_of (by decide +kernel) rfl
theorem wi_173_12 : ri (rt_P sc fm) 173 12 (.iload_n 3) (13) := ri_of (by decide +kernel) rfl
theorem wi_173_13 : ri (rt_P sc fm) 173 13 (.laload) (14) := ri_of (by decide +kernel) rfl
theorem wi_173_14 : ri (rt_P sc fm) 173 14 (.lload_n 1) (15) := ri_of (by decide +kernel) rfl
theorem wi_173_15 : ri (rt_P sc fm) 173 15 (.lcmp) (16) := ri_of (by decide +kernel) rfl
theorem wi_173_16 : ri (rt_P sc fm) 173 16 (.ifCond .ne 9) (19) := ri_of (by decide +kernel) rfl
theorem wi_173_19 : ri (rt_P sc fm) 173 19 (.sipush 200) (22) := ri_of (by decide +kernel) rfl
theorem wi_173_2 : ri (rt_P sc fm) 173 2 (.iload_n 3) (3) := ri_of (by decide +kernel) rfl
theorem wi_173_22 : ri (rt_P sc fm) 173 22 (.iload_n 3) (23) := ri_of (by decide +kernel) rfl
theorem wi_173_23 : ri (rt_P sc fm) 173 23 (.iadd) (24) := ri_of (by decide +kernel) rfl
theorem wi_173_24 : ri (rt_P sc fm) 173 24 (.ireturn) (25) := ri_of (by decide +kernel) rfl
theorem wi_173_25 : ri (rt_P sc fm) 173 25 (.iinc 3 1) (28) := ri_of (by decide +kernel) rfl
theorem wi_173_28 : ri (rt_P sc fm) 173 28 (.goto (-26)) (31) := ri_of (by decide +kernel) rfl
theorem wi_173_3 : ri (rt_P sc fm) 173 3 (.bipush 31) (5) := ri_of (by decide +kernel) rfl
theorem wi_173_31 : ri (rt_P sc fm) 173 31 (.iconst 1) (32) := ri_of (by decide +kernel) rfl
theorem wi_173_32 : ri (rt_P sc fm) 173 32 (.ireturn) (33) := ri_of (by decide +kernel) rfl
theorem wi_173_5 : ri (rt_P sc fm) 173 5 (.if_icmp .ge 26) (8) := ri_of (by decide +kernel) rfl
theorem wi_173_8 : ri (rt_P sc fm) 173 8 (.aload_n 0) (9) := ri_of (by decide +kernel) rfl
theorem wi_173_9 : ri (rt_P sc fm) 173 9 (.getfield 26) (12) := ri_of (by decide +kernel) rfl
theorem wr_173 : rx_rt (rt_P sc fm) 173 = (some FieldType.int) := (by decide +kernel : rt_rt 173 = (some FieldType.int))
/-- MarkHouse$Cutter.sortOfName(J)I -/
def d_173 (n : Nat) (a1 : Int64) (c : cS) : Option (Int32) :=
  Option.bind (whl (R := (Unit) ⊕ (Int32)) (fun s2 : Int32 =>
    if 31 ≤ s2 then
      some (.inr (.inl ()))
    else
      if ib s2 31 then
      if (lg_cmp (c.2 6 (ix s2)) a1) = 0 then
        some (.inr (.inr s2))
      else
        lt (s2 + 1 : Int32) (fun v5 =>
        some (.inl v5))
      else none) n 0)
  (Sum.elim (fun x7 : Unit =>
    some 1)
  (fun x8 : Int32 =>
    some (200 + x8)))
theorem sp_173 {F Lo n : Nat} {a1 : Int64} {c y : cS} {w : cW} {K : Int32 → Prop} {Q : ((Option Value) ⊕ String) → List va_E → Prop} (hw : rOK fm w) (hF : 0 ≤ F) (hLo : 0 ≤ Lo)  (h : wp (d_173 n a1 c) K) (hQ : ∀ r, K r → Q (.inl (some (.int r))) (hq true c y w)) : rs (rt_P sc fm) 173 F Lo 0 [(0, .ref 1), (1, .long a1)] [] (hq true c y w) Q := by
  unfold d_173 at h
  obtain ⟨lv, elv⟩ : ∃ lv : rx_L, lv = [(0, .ref 1), (1, .long a1)] := ⟨_, rfl⟩
  rw [← elv]
  have l0 : rx_ld lv 0 = some (.ref 1) := by rw [elv]; rfl
  have l1 : rx_ld lv 1 = some (.long a1) := by rw [elv]; rfl
  refine rs_pure wi_173_0 rfl ?_
  refine rs_topi (v := 0) (by decide) ?_
  refine dl_istn wi_173_1 rfl (fun lv l3 t1 => ?_)
  have l0 := t1 _ _ (by decide) (Or.inl rfl) l0
  have l1 := t1 _ _ (by decide) (Or.inr (by decide)) l1
  refine whl_ex (A := fun s2 : Int32 => ∀ lv, rx_ld lv 0 = some (.ref 1) → rx_ld lv 1 = some (.long a1) → rx_ld lv 3 = some (.int s2) → rs (rt_P sc fm) 173 F Lo 2 lv [] (hq true c y w) Q) (B := (Sum.elim (fun x7 : Unit => ∀ lv, rs (rt_P sc fm) 173 F Lo 31 lv [] (hq true c y w) Q) (fun x8 : Int32 => ∀ lv, rx_ld lv 3 = some (.int x8) → rs (rt_P sc fm) 173 F Lo 19 lv [] (hq true c y w) Q))) ?_ ?_ _ _ (wp_bind h) _ l0 l1 l3
  · intro s2 h lv l0 l1 l3
    refine rs_ildn wi_173_2 l3 ?_
    refine rs_pure wi_173_3 rfl ?_
    refine rs_topi (v := 31) (by decide) ?_
    refine rs_icge (tg := 31) wi_173_5 ⟨by decide, by decide⟩ (fun q => ?_) (fun q => ?_)
    ·
      have h := wp_pos h q
      exact h _
    ·
      have h := wp_neg h q
      refine rs_aldn wi_173_8 l0 ?_
      refine dq_gr wi_173_9 wf_173_26 tf_1_5 ?_
      refine rs_ildn wi_173_12 l3 ?_
      obtain ⟨g3, h⟩ := wp_gd h
      refine dq_lald wi_173_13 t_6 g3 ?_
      refine rs_lldn wi_173_14 l1 ?_
      refine rs_pure wi_173_15 rfl ?_
      refine rs_ifne (tg := 25) wi_173_16 ⟨by decide, by decide⟩ (fun q => ?_) (fun q => ?_)
      ·
        have h := wp_neg h q
        obtain ⟨v5, e6, h⟩ := wp_lt h
        refine dl_inc wi_173_25 l3 rfl e6 (fun lv l3 t4 => ?_)
        have l0 := t4 _ _ (by decide) (Or.inl rfl) l0
        have l1 := t4 _ _ (by decide) (Or.inr (by decide)) l1
        refine rs_goto (tg := 2) wi_173_28 ⟨by decide, by decide⟩ ?_
        exact h _ l0 l1 l3
      ·
        have h := wp_pos h q
        exact h _ l3
  ·
    refine sum_all ?_ ?_
    ·
      intro x7 h lv
      have h := wp_inl h
      refine rs_pure wi_173_31 rfl ?_
      refine rs_topi (v := 1) (by decide) ?_
      exact rs_iret wi_173_32 wr_173 rfl (hQ 1 h)
    ·
      intro x8 h lv l3
      have h := wp_inr h
      refine rs_pure wi_173_19 rfl ?_
      refine rs_topi (v := 200) (by decide) ?_
      refine rs_ildn wi_173_22 l3 ?_
      refine rs_pure wi_173_23 rfl ?_
      exact rs_iret wi_173_24 wr_173 rfl (hQ (200 + x8) h)
theorem t_3 : ta true 3 0 4001 := ⟨rfl, by decide, by decide⟩
theorem t_5 : ta true 5 1 4001 := ⟨rfl, by decide, by decide⟩
theorem tf_1_2 : fo true 1 3 2 (.ref 3) := ⟨_, rfl, rfl, by decide, by decide⟩
theorem tf_1_4 : fo true 1 3 4 (.ref 5) := ⟨_, rfl, rfl, by decide, by decide⟩
theorem tf_1_6 : fo true 1 3 6 (.int 0) := ⟨_, rfl, rfl, by decide, by decide⟩
theorem wa_3_173 : rz_cn 3 (rx_yn (rt_P sc fm) 173).cls = true := (by decide +kernel : rz_cn 3 (rt_yn 173).cls = true)
theorem wc_172_57 : rx_ct (rt_P sc fm) 172 57 = some (11, 352, 1) := (by decide +kernel : rt_ct 172 57 = some (11, 352, 1))
theorem wc_172_64 : rx_ct (rt_P sc fm) 172 64 = some (11, 353, 1) := (by decide +kernel : rt_ct 172 64 = some (11, 353, 1))
theorem wc_172_79 : rx_ct (rt_P sc fm) 172 79 = some (0, 173, 1) := (by decide +kernel : rt_ct 172 79 = some (0, 173, 1))
theorem wf_172_15 : rx_ft (rt_P sc fm) 172 15 = some (3, 2) := (by decide +kernel : rt_ft 172 15 = some (3, 2))
theorem wf_172_22 : rx_ft (rt_P sc fm) 172 22 = some (3, 4) := (by decide +kernel : rt_ft 172 22 = some (3, 4))
theorem wf_172_41 : rx_ft (rt_P sc fm) 172 41 = some (3, 1) := (by decide +kernel : rt_ft 172 41 = some (3, 1))
theorem wf_172_44 : rx_ft (rt_P sc fm) 172 44 = some (3, 7) := (by decide +kernel : rt_ft 172 44 = some (3, 7))
theorem wf_172_47 : rx_ft (rt_P sc fm) 172 47 = some (3, 6) := (by decide +kernel : rt_ft 172 47 = some (3, 6))
theorem wf_172_9 : rx_ft (rt_P sc fm) 172 9 = some (3, 0) := (by decide +kernel : rt_ft 172 9 = some (3, 0))
theorem wi_172_0 : ri (rt_P sc fm) 172 0 (.aload_n 0) (1) := ri_of (by decide +kernel) rfl
theorem wi_172_1 : ri (rt_P sc fm) 172 1 (.getfield 44) (4) := ri_of (by decide +kernel) rfl
theorem wi_172_100 : ri (rt_P sc fm) 172 100 (.iastore) (101) := ri_of (by decide +kernel) rfl
theorem wi_172_101 : ri (rt_P sc fm) 172 101 (.aload_n 0) (102) := ri_of (by decide +kernel) rfl
theorem wi_172_102 : ri (rt_P sc fm) 172 102 (.getfield 44) (105) := ri_of (by decide +kernel) rfl
theorem wi_172_105 : ri (rt_P sc fm) 172 105 (.iload_n 1) (106) := ri_of (by decide +kernel) rfl
theorem wi_172_106 : ri (rt_P sc fm) 172 106 (.isub) (107) := ri_of (by decide +kernel) rfl
theorem wi_172_107 : ri (rt_P sc fm) 172 107 (.bipush 8) (109) := ri_of (by decide +kernel) rfl
theorem wi_172_109 : ri (rt_P sc fm) 172 109 (.if_icmp .gt 7) (112) := ri_of (by decide +kernel) rfl
theorem wi_172_11 : ri (rt_P sc fm) 172 11 (.aload_n 0) (12) := ri_of (by decide +kernel) rfl
theorem wi_172_112 : ri (rt_P sc fm) 172 112 (.iconst 1) (113) := ri_of (by decide +kernel) rfl
theorem wi_172_113 : ri (rt_P sc fm) 172 113 (.goto 4) (116) := ri_of (by decide +kernel) rfl
theorem wi_172_116 : ri (rt_P sc fm) 172 116 (.iconst 0) (117) := ri_of (by decide +kernel) rfl
theorem wi_172_117 : ri (rt_P sc fm) 172 117 (.ireturn) (118) := ri_of (by decide +kernel) rfl
theorem wi_172_12 : ri (rt_P sc fm) 172 12 (.getfield 41) (15) := ri_of (by decide +kernel) rfl
theorem wi_172_15 : ri (rt_P sc fm) 172 15 (.if_icmp .ge 62) (18) := ri_of (by decide +kernel) rfl
theorem wi_172_18 : ri (rt_P sc fm) 172 18 (.aload_n 0) (19) := ri_of (by decide +kernel) rfl
theorem wi_172_19 : ri (rt_P sc fm) 172 19 (.getfield 9) (22) := ri_of (by decide +kernel) rfl
theorem wi_172_22 : ri (rt_P sc fm) 172 22 (.aload_n 0) (23) := ri_of (by decide +kernel) rfl
theorem wi_172_23 : ri (rt_P sc fm) 172 23 (.getfield 44) (26) := ri_of (by decide +kernel) rfl
theorem wi_172_26 : ri (rt_P sc fm) 172 26 (.baload) (27) := ri_of (by decide +kernel) rfl
theorem wi_172_27 : ri (rt_P sc fm) 172 27 (.invokestatic 57) (30) := ri_of (by decide +kernel) rfl
theorem wi_172_30 : ri (rt_P sc fm) 172 30 (.ifCond .ne 18) (33) := ri_of (by decide +kernel) rfl
theorem wi_172_33 : ri (rt_P sc fm) 172 33 (.aload_n 0) (34) := ri_of (by decide +kernel) rfl
theorem wi_172_34 : ri (rt_P sc fm) 172 34 (.getfield 9) (37) := ri_of (by decide +kernel) rfl
theorem wi_172_37 : ri (rt_P sc fm) 172 37 (.aload_n 0) (38) := ri_of (by decide +kernel) rfl
theorem wi_172_38 : ri (rt_P sc fm) 172 38 (.getfield 44) (41) := ri_of (by decide +kernel) rfl
theorem wi_172_4 : ri (rt_P sc fm) 172 4 (.istore_n 1) (5) := ri_of (by decide +kernel) rfl
theorem wi_172_41 : ri (rt_P sc fm) 172 41 (.baload) (42) := ri_of (by decide +kernel) rfl
theorem wi_172_42 : ri (rt_P sc fm) 172 42 (.invokestatic 64) (45) := ri_of (by decide +kernel) rfl
theorem wi_172_45 : ri (rt_P sc fm) 172 45 (.ifCond .eq 32) (48) := ri_of (by decide +kernel) rfl
theorem wi_172_48 : ri (rt_P sc fm) 172 48 (.lload_n 2) (49) := ri_of (by decide +kernel) rfl
theorem wi_172_49 : ri (rt_P sc fm) 172 49 (.bipush 8) (51) := ri_of (by decide +kernel) rfl
theorem wi_172_5 : ri (rt_P sc fm) 172 5 (.lconst 0) (6) := ri_of (by decide +kernel) rfl
theorem wi_172_51 : ri (rt_P sc fm) 172 51 (.lshl) (52) := ri_of (by decide +kernel) rfl
theorem wi_172_52 : ri (rt_P sc fm) 172 52 (.aload_n 0) (53) := ri_of (by decide +kernel) rfl
theorem wi_172_53 : ri (rt_P sc fm) 172 53 (.getfield 9) (56) := ri_of (by decide +kernel) rfl
theorem wi_172_56 : ri (rt_P sc fm) 172 56 (.aload_n 0) (57) := ri_of (by decide +kernel) rfl
theorem wi_172_57 : ri (rt_P sc fm) 172 57 (.getfield 44) (60) := ri_of (by decide +kernel) rfl
theorem wi_172_6 : ri (rt_P sc fm) 172 6 (.lstore_n 2) (7) := ri_of (by decide +kernel) rfl
theorem wi_172_60 : ri (rt_P sc fm) 172 60 (.baload) (61) := ri_of (by decide +kernel) rfl
theorem wi_172_61 : ri (rt_P sc fm) 172 61 (.i2l) (62) := ri_of (by decide +kernel) rfl
theorem wi_172_62 : ri (rt_P sc fm) 172 62 (.lor) (63) := ri_of (by decide +kernel) rfl
theorem wi_172_63 : ri (rt_P sc fm) 172 63 (.lstore_n 2) (64) := ri_of (by decide +kernel) rfl
theorem wi_172_64 : ri (rt_P sc fm) 172 64 (.aload_n 0) (65) := ri_of (by decide +kernel) rfl
theorem wi_172_65 : ri (rt_P sc fm) 172 65 (.dup) (66) := ri_of (by decide +kernel) rfl
theorem wi_172_66 : ri (rt_P sc fm) 172 66 (.getfield 44) (69) := ri_of (by decide +kernel) rfl
theorem wi_172_69 : ri (rt_P sc fm) 172 69 (.iconst 1) (70) := ri_of (by decide +kernel) rfl
theorem wi_172_7 : ri (rt_P sc fm) 172 7 (.aload_n 0) (8) := ri_of (by decide +kernel) rfl
theorem wi_172_70 : ri (rt_P sc fm) 172 70 (.iadd) (71) := ri_of (by decide +kernel) rfl
theorem wi_172_71 : ri (rt_P sc fm) 172 71 (.putfield 44) (74) := ri_of (by decide +kernel) rfl
theorem wi_172_74 : ri (rt_P sc fm) 172 74 (.goto (-67)) (77) := ri_of (by decide +kernel) rfl
theorem wi_172_77 : ri (rt_P sc fm) 172 77 (.aload_n 0) (78) := ri_of (by decide +kernel) rfl
theorem wi_172_78 : ri (rt_P sc fm) 172 78 (.getfield 22) (81) := ri_of (by decide +kernel) rfl
theorem wi_172_8 : ri (rt_P sc fm) 172 8 (.getfield 44) (11) := ri_of (by decide +kernel) rfl
theorem wi_172_81 : ri (rt_P sc fm) 172 81 (.aload_n 0) (82) := ri_of (by decide +kernel) rfl
theorem wi_172_82 : ri (rt_P sc fm) 172 82 (.getfield 47) (85) := ri_of (by decide +kernel) rfl
theorem wi_172_85 : ri (rt_P sc fm) 172 85 (.lload_n 2) (86) := ri_of (by decide +kernel) rfl
theorem wi_172_86 : ri (rt_P sc fm) 172 86 (.lastore) (87) := ri_of (by decide +kernel) rfl
theorem wi_172_87 : ri (rt_P sc fm) 172 87 (.aload_n 0) (88) := ri_of (by decide +kernel) rfl
theorem wi_172_88 : ri (rt_P sc fm) 172 88 (.getfield 15) (91) := ri_of (by decide +kernel) rfl
theorem wi_172_91 : ri (rt_P sc fm) 172 91 (.aload_n 0) (92) := ri_of (by decide +kernel) rfl
theorem wi_172_92 : ri (rt_P sc fm) 172 92 (.getfield 47) (95) := ri_of (by decide +kernel) rfl
theorem wi_172_95 : ri (rt_P sc fm) 172 95 (.aload_n 0) (96) := ri_of (by decide +kernel) rfl
theorem wi_172_96 : ri (rt_P sc fm) 172 96 (.lload_n 2) (97) := ri_of (by decide +kernel) rfl
theorem wi_172_97 : ri (rt_P sc fm) 172 97 (.invokevirtual 79) (100) := ri_of (by decide +kernel) rfl
theorem wm_173 : rx_ml (rt_P sc fm) 173 = 4 := (by decide +kernel : rt_ml 173 = 4)
theorem wm_352 : rx_ml (rt_P sc fm) 352 = 1 := (by decide +kernel : rt_ml 352 = 1)
theorem wm_353 : rx_ml (rt_P sc fm) 353 = 1 := (by decide +kernel : rt_ml 353 = 1)
theorem wp_172_44 : rx_pt (rt_P sc fm) 172 44 = some (3, 7, .int) := (by decide +kernel : rt_pt 172 44 = some (3, 7, .int))
theorem wr_172 : rx_rt (rt_P sc fm) 172 = (some FieldType.boolean) := (by decide +kernel : rt_rt 172 = (some FieldType.boolean))
/-- MarkHouse$Cutter.cutName()Z -/
def d_172 (n : Nat)  (c : cS) : Option (Int32 × cS) :=
  lt ((c.1 1 7) : Int32) (fun v2 =>
  Option.bind (whl (R := (Int64 × cS)) (fun s5 : Int64 × cS =>
    if (s5.2.1 1 1) ≤ (s5.2.1 1 7) then
      some (.inr (s5.1, s5.2))
    else
      if ib (s5.2.1 1 7) 4000 then
      Option.bind (d_352 n (s5.2.1 2 (ix (s5.2.1 1 7)))) (fun v7 =>
      jn (fun p8 : Unit =>
        if ib (s5.2.1 1 7) 4000 then
        lt (((s5.1 <<< ((8 : Int32).toInt64 &&& 63)) ||| ((s5.2.1 2 (ix (s5.2.1 1 7))) : Int32).toInt64) : Int64) (fun v11 =>
        lt (pI s5.2 1 7 ((s5.2.1 1 7) + 1)) (fun c13 =>
        some (.inl (v11, c13))))
        else none)
      (fun j48 =>
      if v7 = 0 then
        if ib (s5.2.1 1 7) 4000 then
        Option.bind (d_353 n (s5.2.1 2 (ix (s5.2.1 1 7)))) (fun v16 =>
        if v16 = 0 then
          some (.inr (s5.1, s5.2))
        else
          j48 ())
        else none
      else
        j48 ()))
      else none) n (0, c))
  (fun x17 : Int64 × cS =>
    if ib (x17.2.1 1 6) 4001 then
    lt (pL x17.2 5 (ix (x17.2.1 1 6)) x17.1) (fun c19 =>
    Option.bind (d_173 n x17.1 c19) (fun v21 =>
    if ib (c19.1 1 6) 4001 then
    lt (pI c19 3 (ix (c19.1 1 6)) v21) (fun c23 =>
    jn (fun p25 : Int32 =>
      if nb p25 then
      some (p25, c23)
      else none)
    (fun j117 =>
    if 8 < ((c23.1 1 7) - v2) then
      j117 0
    else
      j117 1))
    else none))
    else none))
theorem sp_172 {F Lo n : Nat}  {c y : cS} {w : cW} {K : Int32 × cS → Prop} {Q : ((Option Value) ⊕ String) → List va_E → Prop} (hw : rOK fm w) (hF : 1 ≤ F) (hLo : 23 ≤ Lo)  (h : wp (d_172 n  c) K) (hQ : ∀ r, K r → Q (.inl (some (.int r.1))) (hq true r.2 y w)) : rs (rt_P sc fm) 172 F Lo 0 [(0, .ref 1)] [] (hq true c y w) Q := by
  unfold d_172 at h
  obtain ⟨lv, elv⟩ : ∃ lv : rx_L, lv = [(0, .ref 1)] := ⟨_, rfl⟩
  rw [← elv]
  have l0 : rx_ld lv 0 = some (.ref 1) := by rw [elv]; rfl
  refine rs_aldn wi_172_0 l0 ?_
  refine dq_gi wi_172_1 wf_172_44 tf_1_7 ?_
  obtain ⟨v2, e3, h⟩ := wp_lt h
  refine rs_topi e3 ?_
  refine dl_istn wi_172_4 rfl (fun lv l1 t1 => ?_)
  have l0 := t1 _ _ (by decide) (Or.inl rfl) l0
  refine rs_pure wi_172_5 rfl ?_
  refine rs_topl (v := 0) (by decide) ?_
  refine dl_lstn wi_172_6 rfl (fun lv l2 t4 => ?_)
  have l0 := t4 _ _ (by decide) (by decide) (Or.inl rfl) l0
  have l1 := t4 _ _ (by decide) (by decide) (Or.inl rfl) l1
  refine whl_ex (A := fun s5 : Int64 × cS => ∀ lv, rx_ld lv 0 = some (.ref 1) → rx_ld lv 1 = some (.int v2) → rx_ld lv 2 = some (.long s5.1) → rs (rt_P sc fm) 172 F Lo 7 lv [] (hq true s5.2 y w) Q) (B := (fun x17 : Int64 × cS => ∀ lv, rx_ld lv 0 = some (.ref 1) → rx_ld lv 1 = some (.int v2) → rx_ld lv 2 = some (.long x17.1) → rs (rt_P sc fm) 172 F Lo 77 lv [] (hq true x17.2 y w) Q)) ?_ ?_ _ _ (wp_bind h) _ l0 l1 l2
  · intro s5 h lv l0 l1 l2
    refine rs_aldn wi_172_7 l0 ?_
    refine dq_gi wi_172_8 wf_172_44 tf_1_7 ?_
    refine rs_aldn wi_172_11 l0 ?_
    refine dq_gi wi_172_12 wf_172_41 tf_1_1 ?_
    refine rs_icge (tg := 77) wi_172_15 ⟨by decide, by decide⟩ (fun q => ?_) (fun q => ?_)
    ·
      have h := wp_pos h q
      exact h _ l0 l1 l2
    ·
      have h := wp_neg h q
      refine rs_aldn wi_172_18 l0 ?_
      refine dq_gr wi_172_19 wf_172_9 tf_1_0 ?_
      refine rs_aldn wi_172_22 l0 ?_
      refine dq_gi wi_172_23 wf_172_44 tf_1_7 ?_
      obtain ⟨g6, h⟩ := wp_gd h
      refine dq_bald wi_172_26 t_2 g6 ?_
      refine rs_SN wi_172_27 wc_172_57 rfl (Nat.le_trans (by decide) hF) (ml_le wm_352 (Nat.le_trans (by decide) hLo)) rfl (sp_352 (Nat.le_trans (by decide : 0 ≤ 1 - 1) (Nat.sub_le_sub_right hF 1)) (ml_sub wm_352 (Nat.le_trans (by decide : 0 ≤ 23 - 20) (Nat.sub_le_sub_right hLo 20))) (wp_bind h) (fun v7 h => rs_back1 ?_))
      refine wp_jn (B := fun p8 : Unit => ∀ lv, rx_ld lv 0 = some (.ref 1) → rx_ld lv 1 = some (.int v2) → rx_ld lv 2 = some (.long s5.1) → rs (rt_P sc fm) 172 F Lo 48 lv [] (hq true s5.2 y w) Q) h (fun p8 h lv l0 l1 l2 => ?_) (fun j48 hj48 h => ?_)
      ·
        refine rs_lldn wi_172_48 l2 ?_
        refine rs_pure wi_172_49 rfl ?_
        refine rs_topi (v := 8) (by decide) ?_
        refine rs_pure wi_172_51 rfl ?_
        refine rs_aldn wi_172_52 l0 ?_
        refine dq_gr wi_172_53 wf_172_9 tf_1_0 ?_
        refine rs_aldn wi_172_56 l0 ?_
        refine dq_gi wi_172_57 wf_172_44 tf_1_7 ?_
        obtain ⟨g9, h⟩ := wp_gd h
        refine dq_bald wi_172_60 t_2 g9 ?_
        refine rs_pure wi_172_61 rfl ?_
        refine rs_pure wi_172_62 rfl ?_
        obtain ⟨v11, e12, h⟩ := wp_lt h
        refine rs_topl e12 ?_
        refine dl_lstn wi_172_63 rfl (fun lv l2 t10 => ?_)
        have l0 := t10 _ _ (by decide) (by decide) (Or.inl rfl) l0
        have l1 := t10 _ _ (by decide) (by decide) (Or.inl rfl) l1
        refine rs_aldn wi_172_64 l0 ?_
        refine rs_pure wi_172_65 rfl ?_
        refine dq_gi wi_172_66 wf_172_44 tf_1_7 ?_
        refine rs_pure wi_172_69 rfl ?_
        refine rs_topi (v := 1) (by decide) ?_
        refine rs_pure wi_172_70 rfl ?_
        obtain ⟨c13, e14, h⟩ := wp_lt h
        refine dq_pi wi_172_71 wp_172_44 tf_1_7 rfl rfl e14 ?_
        refine rs_goto (tg := 7) wi_172_74 ⟨by decide, by decide⟩ ?_
        exact h _ l0 l1 l2
      refine rs_ifne (tg := 48) wi_172_30 ⟨by decide, by decide⟩ (fun q => ?_) (fun q => ?_)
      ·
        have h := wp_neg h q
        exact hj48 _ h _ l0 l1 l2
      ·
        have h := wp_pos h q
        refine rs_aldn wi_172_33 l0 ?_
        refine dq_gr wi_172_34 wf_172_9 tf_1_0 ?_
        refine rs_aldn wi_172_37 l0 ?_
        refine dq_gi wi_172_38 wf_172_44 tf_1_7 ?_
        obtain ⟨g15, h⟩ := wp_gd h
        refine dq_bald wi_172_41 t_2 g15 ?_
        refine rs_SN wi_172_42 wc_172_64 rfl (Nat.le_trans (by decide) hF) (ml_le wm_353 (Nat.le_trans (by decide) hLo)) rfl (sp_353 (Nat.le_trans (by decide : 0 ≤ 1 - 1) (Nat.sub_le_sub_right hF 1)) (ml_sub wm_353 (Nat.le_trans (by decide : 0 ≤ 23 - 20) (Nat.sub_le_sub_right hLo 20))) (wp_bind h) (fun v16 h => rs_back1 ?_))
        refine rs_ifeq (tg := 77) wi_172_45 ⟨by decide, by decide⟩ (fun q => ?_) (fun q => ?_)
        ·
          have h := wp_pos h q
          exact h _ l0 l1 l2
        ·
          have h := wp_neg h q
          exact hj48 _ h _ l0 l1 l2
  ·
    intro x17 h lv l0 l1 l2
    refine rs_aldn wi_172_77 l0 ?_
    refine dq_gr wi_172_78 wf_172_22 tf_1_4 ?_
    refine rs_aldn wi_172_81 l0 ?_
    refine dq_gi wi_172_82 wf_172_47 tf_1_6 ?_
    refine rs_lldn wi_172_85 l2 ?_
    obtain ⟨g18, h⟩ := wp_gd h
    obtain ⟨c19, e20, h⟩ := wp_lt h
    refine dq_last wi_172_86 t_5 g18 e20 ?_
    refine rs_aldn wi_172_87 l0 ?_
    refine dq_gr wi_172_88 wf_172_15 tf_1_2 ?_
    refine rs_aldn wi_172_91 l0 ?_
    refine dq_gi wi_172_92 wf_172_47 tf_1_6 ?_
    refine rs_aldn wi_172_95 l0 ?_
    refine rs_lldn wi_172_96 l2 ?_
    refine rs_V wi_172_97 wc_172_79 rfl (dq_isa tf_1_0 wa_3_173) (Nat.le_trans (by decide) hF) (ml_le wm_173 (Nat.le_trans (by decide) hLo)) rfl (sp_173 hw (Nat.le_trans (by decide : 0 ≤ 1 - 1) (Nat.sub_le_sub_right hF 1)) (ml_sub wm_173 (Nat.le_trans (by decide : 0 ≤ 23 - 23) (Nat.sub_le_sub_right hLo 23))) (wp_bind h) (fun v21 h => rs_back1 ?_))
    obtain ⟨g22, h⟩ := wp_gd h
    obtain ⟨c23, e24, h⟩ := wp_lt h
    refine dq_iast wi_172_100 t_3 g22 e24 ?_
    refine rs_aldn wi_172_101 l0 ?_
    refine dq_gi wi_172_102 wf_172_44 tf_1_7 ?_
    refine rs_ildn wi_172_105 l1 ?_
    refine rs_pure wi_172_106 rfl ?_
    refine rs_pure wi_172_107 rfl ?_
    refine rs_topi (v := 8) (by decide) ?_
    refine wp_jn (B := fun p25 : Int32 => ∀ lv, rs (rt_P sc fm) 172 F Lo 117 lv [.int p25] (hq true c23 y w) Q) h (fun p25 h lv => ?_) (fun j117 hj117 h => ?_)
    ·
      obtain ⟨g26, h⟩ := wp_gd h
      exact rs_iret wi_172_117 wr_172 (nb_n g26) (hQ (p25, c23) h)
    refine rs_icgt (tg := 116) wi_172_109 ⟨by decide, by decide⟩ (fun q => ?_) (fun q => ?_)
    ·
      have h := wp_pos h q
      refine rs_pure wi_172_116 rfl ?_
      refine rs_topi (v := 0) (by decide) ?_
      exact hj117 _ h _
    ·
      have h := wp_neg h q
      refine rs_pure wi_172_112 rfl ?_
      refine rs_topi (v := 1) (by decide) ?_
      refine rs_goto (tg := 117) wi_172_113 ⟨by decide, by decide⟩ ?_
      exact hj117 _ h _
theorem wc_174_64 : rx_ct (rt_P sc fm) 174 64 = some (11, 353, 1) := (by decide +kernel : rt_ct 174 64 = some (11, 353, 1))
theorem wf_174_15 : rx_ft (rt_P sc fm) 174 15 = some (3, 2) := (by decide +kernel : rt_ft 174 15 = some (3, 2))
theorem wf_174_22 : rx_ft (rt_P sc fm) 174 22 = some (3, 4) := (by decide +kernel : rt_ft 174 22 = some (3, 4))
theorem wf_174_41 : rx_ft (rt_P sc fm) 174 41 = some (3, 1) := (by decide +kernel : rt_ft 174 41 = some (3, 1))
theorem wf_174_44 : rx_ft (rt_P sc fm) 174 44 = some (3, 7) := (by decide +kernel : rt_ft 174 44 = some (3, 7))
theorem wf_174_47 : rx_ft (rt_P sc fm) 174 47 = some (3, 6) := (by decide +kernel : rt_ft 174 47 = some (3, 6))
theorem wf_174_9 : rx_ft (rt_P sc fm) 174 9 = some (3, 0) := (by decide +kernel : rt_ft 174 9 = some (3, 0))
theorem wi_174_0 : ri (rt_P sc fm) 174 0 (.aload_n 0) (1) := ri_of (by decide +kernel) rfl
theorem wi_174_1 : ri (rt_P sc fm) 174 1 (.getfield 44) (4) := ri_of (by decide +kernel) rfl
theorem wi_174_102 : ri (rt_P sc fm) 174 102 (.iconst 0) (103) := ri_of (by decide +kernel) rfl
theorem wi_174_103 : ri (rt_P sc fm) 174 103 (.ireturn) (104) := ri_of (by decide +kernel) rfl
theorem wi_174_11 : ri (rt_P sc fm) 174 11 (.aload_n 0) (12) := ri_of (by decide +kernel) rfl
theorem wi_174_12 : ri (rt_P sc fm) 174 12 (.getfield 41) (15) := ri_of (by decide +kernel) rfl
theorem wi_174_15 : ri (rt_P sc fm) 174 15 (.if_icmp .ge 52) (18) := ri_of (by decide +kernel) rfl
theorem wi_174_18 : ri (rt_P sc fm) 174 18 (.aload_n 0) (19) := ri_of (by decide +kernel) rfl
theorem wi_174_19 : ri (rt_P sc fm) 174 19 (.getfield 9) (22) := ri_of (by decide +kernel) rfl
theorem wi_174_22 : ri (rt_P sc fm) 174 22 (.aload_n 0) (23) := ri_of (by decide +kernel) rfl
theorem wi_174_23 : ri (rt_P sc fm) 174 23 (.getfield 44) (26) := ri_of (by decide +kernel) rfl
theorem wi_174_26 : ri (rt_P sc fm) 174 26 (.baload) (27) := ri_of (by decide +kernel) rfl
theorem wi_174_27 : ri (rt_P sc fm) 174 27 (.invokestatic 64) (30) := ri_of (by decide +kernel) rfl
theorem wi_174_30 : ri (rt_P sc fm) 174 30 (.ifCond .eq 37) (33) := ri_of (by decide +kernel) rfl
theorem wi_174_33 : ri (rt_P sc fm) 174 33 (.lload_n 2) (34) := ri_of (by decide +kernel) rfl
theorem wi_174_34 : ri (rt_P sc fm) 174 34 (.ldc2_w 83) (37) := ri_of (by decide +kernel) rfl
theorem wi_174_37 : ri (rt_P sc fm) 174 37 (.lmul) (38) := ri_of (by decide +kernel) rfl
theorem wi_174_38 : ri (rt_P sc fm) 174 38 (.aload_n 0) (39) := ri_of (by decide +kernel) rfl
theorem wi_174_39 : ri (rt_P sc fm) 174 39 (.getfield 9) (42) := ri_of (by decide +kernel) rfl
theorem wi_174_4 : ri (rt_P sc fm) 174 4 (.istore_n 1) (5) := ri_of (by decide +kernel) rfl
theorem wi_174_42 : ri (rt_P sc fm) 174 42 (.aload_n 0) (43) := ri_of (by decide +kernel) rfl
theorem wi_174_43 : ri (rt_P sc fm) 174 43 (.getfield 44) (46) := ri_of (by decide +kernel) rfl
theorem wi_174_46 : ri (rt_P sc fm) 174 46 (.baload) (47) := ri_of (by decide +kernel) rfl
theorem wi_174_47 : ri (rt_P sc fm) 174 47 (.i2l) (48) := ri_of (by decide +kernel) rfl
theorem wi_174_48 : ri (rt_P sc fm) 174 48 (.ladd) (49) := ri_of (by decide +kernel) rfl
theorem wi_174_49 : ri (rt_P sc fm) 174 49 (.ldc2_w 85) (52) := ri_of (by decide +kernel) rfl
theorem wi_174_5 : ri (rt_P sc fm) 174 5 (.lconst 0) (6) := ri_of (by decide +kernel) rfl
theorem wi_174_52 : ri (rt_P sc fm) 174 52 (.lsub) (53) := ri_of (by decide +kernel) rfl
theorem wi_174_53 : ri (rt_P sc fm) 174 53 (.lstore_n 2) (54) := ri_of (by decide +kernel) rfl
theorem wi_174_54 : ri (rt_P sc fm) 174 54 (.aload_n 0) (55) := ri_of (by decide +kernel) rfl
theorem wi_174_55 : ri (rt_P sc fm) 174 55 (.dup) (56) := ri_of (by decide +kernel) rfl
theorem wi_174_56 : ri (rt_P sc fm) 174 56 (.getfield 44) (59) := ri_of (by decide +kernel) rfl
theorem wi_174_59 : ri (rt_P sc fm) 174 59 (.iconst 1) (60) := ri_of (by decide +kernel) rfl
theorem wi_174_6 : ri (rt_P sc fm) 174 6 (.lstore_n 2) (7) := ri_of (by decide +kernel) rfl
theorem wi_174_60 : ri (rt_P sc fm) 174 60 (.iadd) (61) := ri_of (by decide +kernel) rfl
theorem wi_174_61 : ri (rt_P sc fm) 174 61 (.putfield 44) (64) := ri_of (by decide +kernel) rfl
theorem wi_174_64 : ri (rt_P sc fm) 174 64 (.goto (-57)) (67) := ri_of (by decide +kernel) rfl
theorem wi_174_67 : ri (rt_P sc fm) 174 67 (.aload_n 0) (68) := ri_of (by decide +kernel) rfl
theorem wi_174_68 : ri (rt_P sc fm) 174 68 (.getfield 22) (71) := ri_of (by decide +kernel) rfl
theorem wi_174_7 : ri (rt_P sc fm) 174 7 (.aload_n 0) (8) := ri_of (by decide +kernel) rfl
theorem wi_174_71 : ri (rt_P sc fm) 174 71 (.aload_n 0) (72) := ri_of (by decide +kernel) rfl
theorem wi_174_72 : ri (rt_P sc fm) 174 72 (.getfield 47) (75) := ri_of (by decide +kernel) rfl
theorem wi_174_75 : ri (rt_P sc fm) 174 75 (.lload_n 2) (76) := ri_of (by decide +kernel) rfl
theorem wi_174_76 : ri (rt_P sc fm) 174 76 (.lastore) (77) := ri_of (by decide +kernel) rfl
theorem wi_174_77 : ri (rt_P sc fm) 174 77 (.aload_n 0) (78) := ri_of (by decide +kernel) rfl
theorem wi_174_78 : ri (rt_P sc fm) 174 78 (.getfield 15) (81) := ri_of (by decide +kernel) rfl
theorem wi_174_8 : ri (rt_P sc fm) 174 8 (.getfield 44) (11) := ri_of (by decide +kernel) rfl
theorem wi_174_81 : ri (rt_P sc fm) 174 81 (.aload_n 0) (82) := ri_of (by decide +kernel) rfl
theorem wi_174_82 : ri (rt_P sc fm) 174 82 (.getfield 47) (85) := ri_of (by decide +kernel) rfl
theorem wi_174_85 : ri (rt_P sc fm) 174 85 (.iconst 2) (86) := ri_of (by decide +kernel) rfl
theorem wi_174_86 : ri (rt_P sc fm) 174 86 (.iastore) (87) := ri_of (by decide +kernel) rfl
theorem wi_174_87 : ri (rt_P sc fm) 174 87 (.aload_n 0) (88) := ri_of (by decide +kernel) rfl
theorem wi_174_88 : ri (rt_P sc fm) 174 88 (.getfield 44) (91) := ri_of (by decide +kernel) rfl
theorem wi_174_91 : ri (rt_P sc fm) 174 91 (.iload_n 1) (92) := ri_of (by decide +kernel) rfl
theorem wi_174_92 : ri (rt_P sc fm) 174 92 (.isub) (93) := ri_of (by decide +kernel) rfl
theorem wi_174_93 : ri (rt_P sc fm) 174 93 (.bipush 9) (95) := ri_of (by decide +kernel) rfl
theorem wi_174_95 : ri (rt_P sc fm) 174 95 (.if_icmp .gt 7) (98) := ri_of (by decide +kernel) rfl
theorem wi_174_98 : ri (rt_P sc fm) 174 98 (.iconst 1) (99) := ri_of (by decide +kernel) rfl
theorem wi_174_99 : ri (rt_P sc fm) 174 99 (.goto 4) (102) := ri_of (by decide +kernel) rfl
theorem wk_174_83 : rx_kt (rt_P sc fm) 174 83 = some (.long (10)) := (by decide +kernel : rt_kt 174 83 = some (.long (10)))
theorem wk_174_85 : rx_kt (rt_P sc fm) 174 85 = some (.long (48)) := (by decide +kernel : rt_kt 174 85 = some (.long (48)))
theorem wp_174_44 : rx_pt (rt_P sc fm) 174 44 = some (3, 7, .int) := (by decide +kernel : rt_pt 174 44 = some (3, 7, .int))
theorem wr_174 : rx_rt (rt_P sc fm) 174 = (some FieldType.boolean) := (by decide +kernel : rt_rt 174 = (some FieldType.boolean))
/-- MarkHouse$Cutter.cutNumber()Z -/
def d_174 (n : Nat)  (c : cS) : Option (Int32 × cS) :=
  lt ((c.1 1 7) : Int32) (fun v2 =>
  Option.bind (whl (R := (Int64 × cS)) (fun s5 : Int64 × cS =>
    if (s5.2.1 1 1) ≤ (s5.2.1 1 7) then
      some (.inr (s5.1, s5.2))
    else
      if ib (s5.2.1 1 7) 4000 then
      Option.bind (d_353 n (s5.2.1 2 (ix (s5.2.1 1 7)))) (fun v7 =>
      if v7 = 0 then
        some (.inr (s5.1, s5.2))
      else
        if ib (s5.2.1 1 7) 4000 then
        lt ((((s5.1 * 10) + ((s5.2.1 2 (ix (s5.2.1 1 7))) : Int32).toInt64) - 48) : Int64) (fun v10 =>
        lt (pI s5.2 1 7 ((s5.2.1 1 7) + 1)) (fun c12 =>
        some (.inl (v10, c12))))
        else none)
      else none) n (0, c))
  (fun x14 : Int64 × cS =>
    if ib (x14.2.1 1 6) 4001 then
    lt (pL x14.2 5 (ix (x14.2.1 1 6)) x14.1) (fun c16 =>
    if ib (c16.1 1 6) 4001 then
    lt (pI c16 3 (ix (c16.1 1 6)) 2) (fun c19 =>
    jn (fun p21 : Int32 =>
      if nb p21 then
      some (p21, c19)
      else none)
    (fun j103 =>
    if 9 < ((c19.1 1 7) - v2) then
      j103 0
    else
      j103 1))
    else none)
    else none))
theorem sp_174 {F Lo n : Nat}  {c y : cS} {w : cW} {K : Int32 × cS → Prop} {Q : ((Option Value) ⊕ String) → List va_E → Prop} (hw : rOK fm w) (hF : 1 ≤ F) (hLo : 20 ≤ Lo)  (h : wp (d_174 n  c) K) (hQ : ∀ r, K r → Q (.inl (some (.int r.1))) (hq true r.2 y w)) : rs (rt_P sc fm) 174 F Lo 0 [(0, .ref 1)] [] (hq true c y w) Q := by
  unfold d_174 at h
  obtain ⟨lv, elv⟩ : ∃ lv : rx_L, lv = [(0, .ref 1)] := ⟨_, rfl⟩
  rw [← elv]
  have l0 : rx_ld lv 0 = some (.ref 1) := by rw [elv]; rfl
  refine rs_aldn wi_174_0 l0 ?_
  refine dq_gi wi_174_1 wf_174_44 tf_1_7 ?_
  obtain ⟨v2, e3, h⟩ := wp_lt h
  refine rs_topi e3 ?_
  refine dl_istn wi_174_4 rfl (fun lv l1 t1 => ?_)
  have l0 := t1 _ _ (by decide) (Or.inl rfl) l0
  refine rs_pure wi_174_5 rfl ?_
  refine rs_topl (v := 0) (by decide) ?_
  refine dl_lstn wi_174_6 rfl (fun lv l2 t4 => ?_)
  have l0 := t4 _ _ (by decide) (by decide) (Or.inl rfl) l0
  have l1 := t4 _ _ (by decide) (by decide) (Or.inl rfl) l1
  refine whl_ex (A := fun s5 : Int64 × cS => ∀ lv, rx_ld lv 0 = some (.ref 1) → rx_ld lv 1 = some (.int v2) → rx_ld lv 2 = some (.long s5.1) → rs (rt_P sc fm) 174 F Lo 7 lv [] (hq true s5.2 y w) Q) (B := (fun x14 : Int64 × cS => ∀ lv, rx_ld lv 0 = some (.ref 1) → rx_ld lv 1 = some (.int v2) → rx_ld lv 2 = some (.long x14.1) → rs (rt_P sc fm) 174 F Lo 67 lv [] (hq true x14.2 y w) Q)) ?_ ?_ _ _ (wp_bind h) _ l0 l1 l2
  · intro s5 h lv l0 l1 l2
    refine rs_aldn wi_174_7 l0 ?_
    refine dq_gi wi_174_8 wf_174_44 tf_1_7 ?_
    refine rs_aldn wi_174_11 l0 ?_
    refine dq_gi wi_174_12 wf_174_41 tf_1_1 ?_
    refine rs_icge (tg := 67) wi_174_15 ⟨by decide, by decide⟩ (fun q => ?_) (fun q => ?_)
    ·
      have h := wp_pos h q
      exact h _ l0 l1 l2
    ·
      have h := wp_neg h q
      refine rs_aldn wi_174_18 l0 ?_
      refine dq_gr wi_174_19 wf_174_9 tf_1_0 ?_
      refine rs_aldn wi_174_22 l0 ?_
      refine dq_gi wi_174_23 wf_174_44 tf_1_7 ?_
      obtain ⟨g6, h⟩ := wp_gd h
      refine dq_bald wi_174_26 t_2 g6 ?_
      refine rs_SN wi_174_27 wc_174_64 rfl (Nat.le_trans (by decide) hF) (ml_le wm_353 (Nat.le_trans (by decide) hLo)) rfl (sp_353 (Nat.le_trans (by decide : 0 ≤ 1 - 1) (Nat.sub_le_sub_right hF 1)) (ml_sub wm_353 (Nat.le_trans (by decide : 0 ≤ 20 - 20) (Nat.sub_le_sub_right hLo 20))) (wp_bind h) (fun v7 h => rs_back1 ?_))
      refine rs_ifeq (tg := 67) wi_174_30 ⟨by decide, by decide⟩ (fun q => ?_) (fun q => ?_)
      ·
        have h := wp_pos h q
        exact h _ l0 l1 l2
      ·
        have h := wp_neg h q
        refine rs_lldn wi_174_33 l2 ?_
        refine rs_ldcl wi_174_34 wk_174_83 ?_
        refine rs_pure wi_174_37 rfl ?_
        refine rs_aldn wi_174_38 l0 ?_
        refine dq_gr wi_174_39 wf_174_9 tf_1_0 ?_
        refine rs_aldn wi_174_42 l0 ?_
        refine dq_gi wi_174_43 wf_174_44 tf_1_7 ?_
        obtain ⟨g8, h⟩ := wp_gd h
        refine dq_bald wi_174_46 t_2 g8 ?_
        refine rs_pure wi_174_47 rfl ?_
        refine rs_pure wi_174_48 rfl ?_
        refine rs_ldcl wi_174_49 wk_174_85 ?_
        refine rs_pure wi_174_52 rfl ?_
        obtain ⟨v10, e11, h⟩ := wp_lt h
        refine rs_topl e11 ?_
        refine dl_lstn wi_174_53 rfl (fun lv l2 t9 => ?_)
        have l0 := t9 _ _ (by decide) (by decide) (Or.inl rfl) l0
        have l1 := t9 _ _ (by decide) (by decide) (Or.inl rfl) l1
        refine rs_aldn wi_174_54 l0 ?_
        refine rs_pure wi_174_55 rfl ?_
        refine dq_gi wi_174_56 wf_174_44 tf_1_7 ?_
        refine rs_pure wi_174_59 rfl ?_
        refine rs_topi (v := 1) (by decide) ?_
        refine rs_pure wi_174_60 rfl ?_
        obtain ⟨c12, e13, h⟩ := wp_lt h
        refine dq_pi wi_174_61 wp_174_44 tf_1_7 rfl rfl e13 ?_
        refine rs_goto (tg := 7) wi_174_64 ⟨by decide, by decide⟩ ?_
        exact h _ l0 l1 l2
  ·
    intro x14 h lv l0 l1 l2
    refine rs_aldn wi_174_67 l0 ?_
    refine dq_gr wi_174_68 wf_174_22 tf_1_4 ?_
    refine rs_aldn wi_174_71 l0 ?_
    refine dq_gi wi_174_72 wf_174_47 tf_1_6 ?_
    refine rs_lldn wi_174_75 l2 ?_
    obtain ⟨g15, h⟩ := wp_gd h
    obtain ⟨c16, e17, h⟩ := wp_lt h
    refine dq_last wi_174_76 t_5 g15 e17 ?_
    refine rs_aldn wi_174_77 l0 ?_
    refine dq_gr wi_174_78 wf_174_15 tf_1_2 ?_
    refine rs_aldn wi_174_81 l0 ?_
    refine dq_gi wi_174_82 wf_174_47 tf_1_6 ?_
    refine rs_pure wi_174_85 rfl ?_
    refine rs_topi (v := 2) (by decide) ?_
    obtain ⟨g18, h⟩ := wp_gd h
    obtain ⟨c19, e20, h⟩ := wp_lt h
    refine dq_iast wi_174_86 t_3 g18 e20 ?_
    refine rs_aldn wi_174_87 l0 ?_
    refine dq_gi wi_174_88 wf_174_44 tf_1_7 ?_
    refine rs_ildn wi_174_91 l1 ?_
    refine rs_pure wi_174_92 rfl ?_
    refine rs_pure wi_174_93 rfl ?_
    refine rs_topi (v := 9) (by decide) ?_
    refine wp_jn (B := fun p21 : Int32 => ∀ lv, rs (rt_P sc fm) 174 F Lo 103 lv [.int p21] (hq true c19 y w) Q) h (fun p21 h lv => ?_) (fun j103 hj103 h => ?_)
    ·
      obtain ⟨g22, h⟩ := wp_gd h
      exact rs_iret wi_174_103 wr_174 (nb_n g22) (hQ (p21, c19) h)
    refine rs_icgt (tg := 102) wi_174_95 ⟨by decide, by decide⟩ (fun q => ?_) (fun q => ?_)
    ·
      have h := wp_pos h q
      refine rs_pure wi_174_102 rfl ?_
      refine rs_topi (v := 0) (by decide) ?_
      exact hj103 _ h _
    ·
      have h := wp_neg h q
      refine rs_pure wi_174_98 rfl ?_
      refine rs_topi (v := 1) (by decide) ?_
      refine rs_goto (tg := 103) wi_174_99 ⟨by decide, by decide⟩ ?_
      exact hj103 _ h _
theorem wi_354_0 : ri (rt_P sc fm) 354 0 (.iload_n 0) (1) := ri_of (by decide +kernel) rfl
theorem wi_354_1 : ri (rt_P sc fm) 354 1 (.bipush 32) (3) := ri_of (by decide +kernel) rfl
theorem wi_354_12 : ri (rt_P sc fm) 354 12 (.iload_n 0) (13) := ri_of (by decide +kernel) rfl
theorem wi_354_13 : ri (rt_P sc fm) 354 13 (.bipush 39) (15) := ri_of (by decide +kernel) rfl
theorem wi_354_15 : ri (rt_P sc fm) 354 15 (.if_icmp .eq 7) (18) := ri_of (by decide +kernel) rfl
theorem wi_354_18 : ri (rt_P sc fm) 354 18 (.iconst 1) (19) := ri_of (by decide +kernel) rfl
theorem wi_354_19 : ri (rt_P sc fm) 354 19 (.goto 4) (22) := ri_of (by decide +kernel) rfl
theorem wi_354_22 : ri (rt_P sc fm) 354 22 (.iconst 0) (23) := ri_of (by decide +kernel) rfl
theorem wi_354_23 : ri (rt_P sc fm) 354 23 (.ireturn) (24) := ri_of (by decide +kernel) rfl
theorem wi_354_3 : ri (rt_P sc fm) 354 3 (.if_icmp .lt 19) (6) := ri_of (by decide +kernel) rfl
theorem wi_354_6 : ri (rt_P sc fm) 354 6 (.iload_n 0) (7) := ri_of (by decide +kernel) rfl
theorem wi_354_7 : ri (rt_P sc fm) 354 7 (.bipush 126) (9) := ri_of (by decide +kernel) rfl
theorem wi_354_9 : ri (rt_P sc fm) 354 9 (.if_icmp .gt 13) (12) := ri_of (by decide +kernel) rfl
theorem wr_354 : rx_rt (rt_P sc fm) 354 = (some FieldType.boolean) := (by decide +kernel : rt_rt 354 = (some FieldType.boolean))
/-- MarkHouse.isTextSign(I)Z -/
def d_354 (n : Nat) (a0 : Int32) : Option (Int32) :=
  jn (fun p1 : Int32 =>
    if nb p1 then
    some p1
    else none)
  (fun j23 =>
  jn (fun p3 : Unit =>
    j23 0)
  (fun j22 =>
  if a0 < 32 then
    j22 ()
  else
    if 126 < a0 then
      j22 ()
    else
      if a0 = 39 then
        j22 ()
      else
        j23 1))
theorem sp_354 {F Lo n : Nat} {a0 : Int32} {L : List va_E} {K : Int32 → Prop} {Q : ((Option Value) ⊕ String) → List va_E → Prop} (hF : 0 ≤ F) (hLo : 0 ≤ Lo)  (h : wp (d_354 n a0) K) (hQ : ∀ r, K r → Q (.inl (some (.int r))) L) : rs (rt_P sc fm) 354 F Lo 0 [(0, .int a0)] [] L Q := by
  unfold d_354 at h
  obtain ⟨lv, elv⟩ : ∃ lv : rx_L, lv = [(0, .int a0)] := ⟨_, rfl⟩
  rw [← elv]
  have l0 : rx_ld lv 0 = some (.int a0) := by rw [elv]; rfl
  refine rs_ildn wi_354_0 l0 ?_
  refine rs_pure wi_354_1 rfl ?_
  refine rs_topi (v := 32) (by decide) ?_
  refine wp_jn (B := fun p1 : Int32 => ∀ lv, rs (rt_P sc fm) 354 F Lo 23 lv [.int p1] L Q) h (fun p1 h lv => ?_) (fun j23 hj23 h => ?_)
  ·
    obtain ⟨g2, h⟩ := wp_gd h
    exact rs_iret wi_354_23 wr_354 (nb_n g2) (hQ p1 h)
  refine wp_jn (B := fun p3 : Unit => ∀ lv, rs (rt_P sc fm) 354 F Lo 22 lv [] L Q) h (fun p3 h lv => ?_) (fun j22 hj22 h => ?_)
  ·
    refine rs_pure wi_354_22 rfl ?_
    refine rs_topi (v := 0) (by decide) ?_
    exact hj23 _ h _
  refine rs_iclt (tg := 22) wi_354_3 ⟨by decide, by decide⟩ (fun q => ?_) (fun q => ?_)
  ·
    have h := wp_pos h q
    exact hj22 _ h _
  ·
    have h := wp_neg h q
    refine rs_ildn wi_354_6 l0 ?_
    refine rs_pure wi_354_7 rfl ?_
    refine rs_topi (v := 126) (by decide) ?_
    refine rs_icgt (tg := 22) wi_354_9 ⟨by decide, by decide⟩ (fun q => ?_) (fun q => ?_)
    ·
      have h := wp_pos h q
      exact hj22 _ h _
    ·
      have h := wp_neg h q
      refine rs_ildn wi_354_12 l0 ?_
      refine rs_pure wi_354_13 rfl ?_
      refine rs_topi (v := 39) (by decide) ?_
      refine rs_iceq (tg := 22) wi_354_15 ⟨by decide, by decide⟩ (fun q => ?_) (fun q => ?_)
      ·
        have h := wp_pos h q
        exact hj22 _ h _
      ·
        have h := wp_neg h q
        refine rs_pure wi_354_18 rfl ?_
        refine rs_topi (v := 1) (by decide) ?_
        refine rs_goto (tg := 23) wi_354_19 ⟨by decide, by decide⟩ ?_
        exact hj23 _ h _
theorem wc_175_87 : rx_ct (rt_P sc fm) 175 87 = some (11, 354, 1) := (by decide +kernel : rt_ct 175 87 = some (11, 354, 1))
theorem wf_175_15 : rx_ft (rt_P sc fm) 175 15 = some (3, 2) := (by decide +kernel : rt_ft 175 15 = some (3, 2))
theorem wf_175_22 : rx_ft (rt_P sc fm) 175 22 = some (3, 4) := (by decide +kernel : rt_ft 175 22 = some (3, 4))
theorem wf_175_41 : rx_ft (rt_P sc fm) 175 41 = some (3, 1) := (by decide +kernel : rt_ft 175 41 = some (3, 1))
theorem wf_175_44 : rx_ft (rt_P sc fm) 175 44 = some (3, 7) := (by decide +kernel : rt_ft 175 44 = some (3, 7))
theorem wf_175_47 : rx_ft (rt_P sc fm) 175 47 = some (3, 6) := (by decide +kernel : rt_ft 175 47 = some (3, 6))
theorem wf_175_9 : rx_ft (rt_P sc fm) 175 9 = some (3, 0) := (by decide +kernel : rt_ft 175 9 = some (3, 0))
theorem wi_175_0 : ri (rt_P sc fm) 175 0 (.aload_n 0) (1) := ri_of (by decide +kernel) rfl
theorem wi_175_1 : ri (rt_P sc fm) 175 1 (.dup) (2) := ri_of (by decide +kernel) rfl
theorem wi_175_100 : ri (rt_P sc fm) 175 100 (.aload_n 0) (101) := ri_of (by decide +kernel) rfl
theorem wi_175_101 : ri (rt_P sc fm) 175 101 (.getfield 9) (104) := ri_of (by decide +kernel) rfl
theorem wi_175_104 : ri (rt_P sc fm) 175 104 (.aload_n 0) (105) := ri_of (by decide +kernel) rfl
theorem wi_175_105 : ri (rt_P sc fm) 175 105 (.getfield 44) (108) := ri_of (by decide +kernel) rfl
theorem wi_175_108 : ri (rt_P sc fm) 175 108 (.baload) (109) := ri_of (by decide +kernel) rfl
theorem wi_175_109 : ri (rt_P sc fm) 175 109 (.bipush 39) (111) := ri_of (by decide +kernel) rfl
theorem wi_175_11 : ri (rt_P sc fm) 175 11 (.istore_n 1) (12) := ri_of (by decide +kernel) rfl
theorem wi_175_111 : ri (rt_P sc fm) 175 111 (.if_icmp .ne 18) (114) := ri_of (by decide +kernel) rfl
theorem wi_175_114 : ri (rt_P sc fm) 175 114 (.aload_n 0) (115) := ri_of (by decide +kernel) rfl
theorem wi_175_115 : ri (rt_P sc fm) 175 115 (.getfield 44) (118) := ri_of (by decide +kernel) rfl
theorem wi_175_118 : ri (rt_P sc fm) 175 118 (.iload_n 1) (119) := ri_of (by decide +kernel) rfl
theorem wi_175_119 : ri (rt_P sc fm) 175 119 (.isub) (120) := ri_of (by decide +kernel) rfl
theorem wi_175_12 : ri (rt_P sc fm) 175 12 (.lconst 0) (13) := ri_of (by decide +kernel) rfl
theorem wi_175_120 : ri (rt_P sc fm) 175 120 (.bipush 8) (122) := ri_of (by decide +kernel) rfl
theorem wi_175_122 : ri (rt_P sc fm) 175 122 (.if_icmp .gt 7) (125) := ri_of (by decide +kernel) rfl
theorem wi_175_125 : ri (rt_P sc fm) 175 125 (.iconst 1) (126) := ri_of (by decide +kernel) rfl
theorem wi_175_126 : ri (rt_P sc fm) 175 126 (.goto 4) (129) := ri_of (by decide +kernel) rfl
theorem wi_175_129 : ri (rt_P sc fm) 175 129 (.iconst 0) (130) := ri_of (by decide +kernel) rfl
theorem wi_175_13 : ri (rt_P sc fm) 175 13 (.lstore_n 2) (14) := ri_of (by decide +kernel) rfl
theorem wi_175_130 : ri (rt_P sc fm) 175 130 (.istore 4) (132) := ri_of (by decide +kernel) rfl
theorem wi_175_132 : ri (rt_P sc fm) 175 132 (.aload_n 0) (133) := ri_of (by decide +kernel) rfl
theorem wi_175_133 : ri (rt_P sc fm) 175 133 (.dup) (134) := ri_of (by decide +kernel) rfl
theorem wi_175_134 : ri (rt_P sc fm) 175 134 (.getfield 44) (137) := ri_of (by decide +kernel) rfl
theorem wi_175_137 : ri (rt_P sc fm) 175 137 (.iconst 1) (138) := ri_of (by decide +kernel) rfl
theorem wi_175_138 : ri (rt_P sc fm) 175 138 (.iadd) (139) := ri_of (by decide +kernel) rfl
theorem wi_175_139 : ri (rt_P sc fm) 175 139 (.putfield 44) (142) := ri_of (by decide +kernel) rfl
theorem wi_175_14 : ri (rt_P sc fm) 175 14 (.aload_n 0) (15) := ri_of (by decide +kernel) rfl
theorem wi_175_142 : ri (rt_P sc fm) 175 142 (.iload 4) (144) := ri_of (by decide +kernel) rfl
theorem wi_175_144 : ri (rt_P sc fm) 175 144 (.ireturn) (145) := ri_of (by decide +kernel) rfl
theorem wi_175_15 : ri (rt_P sc fm) 175 15 (.getfield 44) (18) := ri_of (by decide +kernel) rfl
theorem wi_175_18 : ri (rt_P sc fm) 175 18 (.aload_n 0) (19) := ri_of (by decide +kernel) rfl
theorem wi_175_19 : ri (rt_P sc fm) 175 19 (.getfield 41) (22) := ri_of (by decide +kernel) rfl
theorem wi_175_2 : ri (rt_P sc fm) 175 2 (.getfield 44) (5) := ri_of (by decide +kernel) rfl
theorem wi_175_22 : ri (rt_P sc fm) 175 22 (.if_icmp .ge 47) (25) := ri_of (by decide +kernel) rfl
theorem wi_175_25 : ri (rt_P sc fm) 175 25 (.aload_n 0) (26) := ri_of (by decide +kernel) rfl
theorem wi_175_26 : ri (rt_P sc fm) 175 26 (.getfield 9) (29) := ri_of (by decide +kernel) rfl
theorem wi_175_29 : ri (rt_P sc fm) 175 29 (.aload_n 0) (30) := ri_of (by decide +kernel) rfl
theorem wi_175_30 : ri (rt_P sc fm) 175 30 (.getfield 44) (33) := ri_of (by decide +kernel) rfl
theorem wi_175_33 : ri (rt_P sc fm) 175 33 (.baload) (34) := ri_of (by decide +kernel) rfl
theorem wi_175_34 : ri (rt_P sc fm) 175 34 (.invokestatic 87) (37) := ri_of (by decide +kernel) rfl
theorem wi_175_37 : ri (rt_P sc fm) 175 37 (.ifCond .eq 32) (40) := ri_of (by decide +kernel) rfl
theorem wi_175_40 : ri (rt_P sc fm) 175 40 (.lload_n 2) (41) := ri_of (by decide +kernel) rfl
theorem wi_175_41 : ri (rt_P sc fm) 175 41 (.bipush 8) (43) := ri_of (by decide +kernel) rfl
theorem wi_175_43 : ri (rt_P sc fm) 175 43 (.lshl) (44) := ri_of (by decide +kernel) rfl
theorem wi_175_44 : ri (rt_P sc fm) 175 44 (.aload_n 0) (45) := ri_of (by decide +kernel) rfl
theorem wi_175_45 : ri (rt_P sc fm) 175 45 (.getfield 9) (48) := ri_of (by decide +kernel) rfl
theorem wi_175_48 : ri (rt_P sc fm) 175 48 (.aload_n 0) (49) := ri_of (by decide +kernel) rfl
theorem wi_175_49 : ri (rt_P sc fm) 175 49 (.getfield 44) (52) := ri_of (by decide +kernel) rfl
theorem wi_175_5 : ri (rt_P sc fm) 175 5 (.iconst 1) (6) := ri_of (by decide +kernel) rfl
theorem wi_175_52 : ri (rt_P sc fm) 175 52 (.baload) (53) := ri_of (by decide +kernel) rfl
theorem wi_175_53 : ri (rt_P sc fm) 175 53 (.i2l) (54) := ri_of (by decide +kernel) rfl
theorem wi_175_54 : ri (rt_P sc fm) 175 54 (.lor) (55) := ri_of (by decide +kernel) rfl
theorem wi_175_55 : ri (rt_P sc fm) 175 55 (.lstore_n 2) (56) := ri_of (by decide +kernel) rfl
theorem wi_175_56 : ri (rt_P sc fm) 175 56 (.aload_n 0) (57) := ri_of (by decide +kernel) rfl
theorem wi_175_57 : ri (rt_P sc fm) 175 57 (.dup) (58) := ri_of (by decide +kernel) rfl
theorem wi_175_58 : ri (rt_P sc fm) 175 58 (.getfield 44) (61) := ri_of (by decide +kernel) rfl
theorem wi_175_6 : ri (rt_P sc fm) 175 6 (.iadd) (7) := ri_of (by decide +kernel) rfl
theorem wi_175_61 : ri (rt_P sc fm) 175 61 (.iconst 1) (62) := ri_of (by decide +kernel) rfl
theorem wi_175_62 : ri (rt_P sc fm) 175 62 (.iadd) (63) := ri_of (by decide +kernel) rfl
theorem wi_175_63 : ri (rt_P sc fm) 175 63 (.putfield 44) (66) := ri_of (by decide +kernel) rfl
theorem wi_175_66 : ri (rt_P sc fm) 175 66 (.goto (-52)) (69) := ri_of (by decide +kernel) rfl
theorem wi_175_69 : ri (rt_P sc fm) 175 69 (.aload_n 0) (70) := ri_of (by decide +kernel) rfl
theorem wi_175_7 : ri (rt_P sc fm) 175 7 (.dup_x1) (8) := ri_of (by decide +kernel) rfl
theorem wi_175_70 : ri (rt_P sc fm) 175 70 (.getfield 22) (73) := ri_of (by decide +kernel) rfl
theorem wi_175_73 : ri (rt_P sc fm) 175 73 (.aload_n 0) (74) := ri_of (by decide +kernel) rfl
theorem wi_175_74 : ri (rt_P sc fm) 175 74 (.getfield 47) (77) := ri_of (by decide +kernel) rfl
theorem wi_175_77 : ri (rt_P sc fm) 175 77 (.lload_n 2) (78) := ri_of (by decide +kernel) rfl
theorem wi_175_78 : ri (rt_P sc fm) 175 78 (.lastore) (79) := ri_of (by decide +kernel) rfl
theorem wi_175_79 : ri (rt_P sc fm) 175 79 (.aload_n 0) (80) := ri_of (by decide +kernel) rfl
theorem wi_175_8 : ri (rt_P sc fm) 175 8 (.putfield 44) (11) := ri_of (by decide +kernel) rfl
theorem wi_175_80 : ri (rt_P sc fm) 175 80 (.getfield 15) (83) := ri_of (by decide +kernel) rfl
theorem wi_175_83 : ri (rt_P sc fm) 175 83 (.aload_n 0) (84) := ri_of (by decide +kernel) rfl
theorem wi_175_84 : ri (rt_P sc fm) 175 84 (.getfield 47) (87) := ri_of (by decide +kernel) rfl
theorem wi_175_87 : ri (rt_P sc fm) 175 87 (.iconst 3) (88) := ri_of (by decide +kernel) rfl
theorem wi_175_88 : ri (rt_P sc fm) 175 88 (.iastore) (89) := ri_of (by decide +kernel) rfl
theorem wi_175_89 : ri (rt_P sc fm) 175 89 (.aload_n 0) (90) := ri_of (by decide +kernel) rfl
theorem wi_175_90 : ri (rt_P sc fm) 175 90 (.getfield 44) (93) := ri_of (by decide +kernel) rfl
theorem wi_175_93 : ri (rt_P sc fm) 175 93 (.aload_n 0) (94) := ri_of (by decide +kernel) rfl
theorem wi_175_94 : ri (rt_P sc fm) 175 94 (.getfield 41) (97) := ri_of (by decide +kernel) rfl
theorem wi_175_97 : ri (rt_P sc fm) 175 97 (.if_icmp .ge 32) (100) := ri_of (by decide +kernel) rfl
theorem wm_354 : rx_ml (rt_P sc fm) 354 = 1 := (by decide +kernel : rt_ml 354 = 1)
theorem wp_175_44 : rx_pt (rt_P sc fm) 175 44 = some (3, 7, .int) := (by decide +kernel : rt_pt 175 44 = some (3, 7, .int))
theorem wr_175 : rx_rt (rt_P sc fm) 175 = (some FieldType.boolean) := (by decide +kernel : rt_rt 175 = (some FieldType.boolean))
/-- MarkHouse$Cutter.cutText()Z -/
def d_175 (n : Nat)  (c : cS) : Option (Int32 × cS) :=
  lt (pI c 1 7 ((c.1 1 7) + 1)) (fun c1 =>
  lt (((c.1 1 7) + 1) : Int32) (fun v4 =>
  Option.bind (whl (R := (Int64 × cS)) (fun s7 : Int64 × cS =>
    if (s7.2.1 1 1) ≤ (s7.2.1 1 7) then
      some (.inr (s7.1, s7.2))
    else
      if ib (s7.2.1 1 7) 4000 then
      Option.bind (d_354 n (s7.2.1 2 (ix (s7.2.1 1 7)))) (fun v9 =>
      if v9 = 0 then
        some (.inr (s7.1, s7.2))
      else
        if ib (s7.2.1 1 7) 4000 then
        lt (((s7.1 <<< ((8 : Int32).toInt64 &&& 63)) ||| ((s7.2.1 2 (ix (s7.2.1 1 7))) : Int32).toInt64) : Int64) (fun v12 =>
        lt (pI s7.2 1 7 ((s7.2.1 1 7) + 1)) (fun c14 =>
        some (.inl (v12, c14))))
        else none)
      else none) n (0, c1))
  (fun x16 : Int64 × cS =>
    if ib (x16.2.1 1 6) 4001 then
    lt (pL x16.2 5 (ix (x16.2.1 1 6)) x16.1) (fun c18 =>
    if ib (c18.1 1 6) 4001 then
    lt (pI c18 3 (ix (c18.1 1 6)) 3) (fun c21 =>
    jn (fun p23 : Int32 =>
      lt (pI c21 1 7 ((c21.1 1 7) + 1)) (fun c25 =>
      if nb p23 then
      some (p23, c25)
      else none))
    (fun j130 =>
    jn (fun p28 : Unit =>
      j130 0)
    (fun j129 =>
    if (c21.1 1 1) ≤ (c21.1 1 7) then
      j129 ()
    else
      if ib (c21.1 1 7) 4000 then
      if (c21.1 2 (ix (c21.1 1 7))) = 39 then
        if 8 < ((c21.1 1 7) - v4) then
          j129 ()
        else
          j130 1
      else
        j129 ()
      else none)))
    else none)
    else none)))
theorem sp_175 {F Lo n : Nat}  {c y : cS} {w : cW} {K : Int32 × cS → Prop} {Q : ((Option Value) ⊕ String) → List va_E → Prop} (hw : rOK fm w) (hF : 1 ≤ F) (hLo : 20 ≤ Lo)  (h : wp (d_175 n  c) K) (hQ : ∀ r, K r → Q (.inl (some (.int r.1))) (hq true r.2 y w)) : rs (rt_P sc fm) 175 F Lo 0 [(0, .ref 1)] [] (hq true c y w) Q := by
  unfold d_175 at h
  obtain ⟨lv, elv⟩ : ∃ lv : rx_L, lv = [(0, .ref 1)] := ⟨_, rfl⟩
  rw [← elv]
  have l0 : rx_ld lv 0 = some (.ref 1) := by rw [elv]; rfl
  refine rs_aldn wi_175_0 l0 ?_
  refine rs_pure wi_175_1 rfl ?_
  refine dq_gi wi_175_2 wf_175_44 tf_1_7 ?_
  refine rs_pure wi_175_5 rfl ?_
  refine rs_topi (v := 1) (by decide) ?_
  refine rs_pure wi_175_6 rfl ?_
  refine rs_pure wi_175_7 rfl ?_
  obtain ⟨c1, e2, h⟩ := wp_lt h
  refine dq_pi wi_175_8 wp_175_44 tf_1_7 rfl rfl e2 ?_
  obtain ⟨v4, e5, h⟩ := wp_lt h
  refine rs_topi e5 ?_
  refine dl_istn wi_175_11 rfl (fun lv l1 t3 => ?_)
  have l0 := t3 _ _ (by decide) (Or.inl rfl) l0
  refine rs_pure wi_175_12 rfl ?_
  refine rs_topl (v := 0) (by decide) ?_
  refine dl_lstn wi_175_13 rfl (fun lv l2 t6 => ?_)
  have l0 := t6 _ _ (by decide) (by decide) (Or.inl rfl) l0
  have l1 := t6 _ _ (by decide) (by decide) (Or.inl rfl) l1
  refine whl_ex (A := fun s7 : Int64 × cS => ∀ lv, rx_ld lv 0 = some (.ref 1) → rx_ld lv 1 = some (.int v4) → rx_ld lv 2 = some (.long s7.1) → rs (rt_P sc fm) 175 F Lo 14 lv [] (hq true s7.2 y w) Q) (B := (fun x16 : Int64 × cS => ∀ lv, rx_ld lv 0 = some (.ref 1) → rx_ld lv 1 = some (.int v4) → rx_ld lv 2 = some (.long x16.1) → rs (rt_P sc fm) 175 F Lo 69 lv [] (hq true x16.2 y w) Q)) ?_ ?_ _ _ (wp_bind h) _ l0 l1 l2
  · intro s7 h lv l0 l1 l2
    refine rs_aldn wi_175_14 l0 ?_
    refine dq_gi wi_175_15 wf_175_44 tf_1_7 ?_
    refine rs_aldn wi_175_18 l0 ?_
    refine dq_gi wi_175_19 wf_175_41 tf_1_1 ?_
    refine rs_icge (tg := 69) wi_175_22 ⟨by decide, by decide⟩ (fun q => ?_) (fun q => ?_)
    ·
      have h := wp_pos h q
      exact h _ l0 l1 l2
    ·
      have h := wp_neg h q
      refine rs_aldn wi_175_25 l0 ?_
      refine dq_gr wi_175_26 wf_175_9 tf_1_0 ?_
      refine rs_aldn wi_175_29 l0 ?_
      refine dq_gi wi_175_30 wf_175_44 tf_1_7 ?_
      obtain ⟨g8, h⟩ := wp_gd h
      refine dq_bald wi_175_33 t_2 g8 ?_
      refine rs_SN wi_175_34 wc_175_87 rfl (Nat.le_trans (by decide) hF) (ml_le wm_354 (Nat.le_trans (by decide) hLo)) rfl (sp_354 (Nat.le_trans (by decide : 0 ≤ 1 - 1) (Nat.sub_le_sub_right hF 1)) (ml_sub wm_354 (Nat.le_trans (by decide : 0 ≤ 20 - 20) (Nat.sub_le_sub_right hLo 20))) (wp_bind h) (fun v9 h => rs_back1 ?_))
      refine rs_ifeq (tg := 69) wi_175_37 ⟨by decide, by decide⟩ (fun q => ?_) (fun q => ?_)
      ·
        have h := wp_pos h q
        exact h _ l0 l1 l2
      ·
        have h := wp_neg h q
        refine rs_lldn wi_175_40 l2 ?_
        refine rs_pure wi_175_41 rfl ?_
        refine rs_topi (v := 8) (by decide) ?_
        refine rs_pure wi_175_43 rfl ?_
        refine rs_aldn wi_175_44 l0 ?_
        refine dq_gr wi_175_45 wf_175_9 tf_1_0 ?_
        refine rs_aldn wi_175_48 l0 ?_
        refine dq_gi wi_175_49 wf_175_44 tf_1_7 ?_
        obtain ⟨g10, h⟩ := wp_gd h
        refine dq_bald wi_175_52 t_2 g10 ?_
        refine rs_pure wi_175_53 rfl ?_
        refine rs_pure wi_175_54 rfl ?_
        obtain ⟨v12, e13, h⟩ := wp_lt h
        refine rs_topl e13 ?_
        refine dl_lstn wi_175_55 rfl (fun lv l2 t11 => ?_)
        have l0 := t11 _ _ (by decide) (by decide) (Or.inl rfl) l0
        have l1 := t11 _ _ (by decide) (by decide) (Or.inl rfl) l1
        refine rs_aldn wi_175_56 l0 ?_
        refine rs_pure wi_175_57 rfl ?_
        refine dq_gi wi_175_58 wf_175_44 tf_1_7 ?_
        refine rs_pure wi_175_61 rfl ?_
        refine rs_topi (v := 1) (by decide) ?_
        refine rs_pure wi_175_62 rfl ?_
        obtain ⟨c14, e15, h⟩ := wp_lt h
        refine dq_pi wi_175_63 wp_175_44 tf_1_7 rfl rfl e15 ?_
        refine rs_goto (tg := 14) wi_175_66 ⟨by decide, by decide⟩ ?_
        exact h _ l0 l1 l2
  ·
    intro x16 h lv l0 l1 l2
    refine rs_aldn wi_175_69 l0 ?_
    refine dq_gr wi_175_70 wf_175_22 tf_1_4 ?_
    refine rs_aldn wi_175_73 l0 ?_
    refine dq_gi wi_175_74 wf_175_47 tf_1_6 ?_
    refine rs_lldn wi_175_77 l2 ?_
    obtain ⟨g17, h⟩ := wp_gd h
    obtain ⟨c18, e19, h⟩ := wp_lt h
    refine dq_last wi_175_78 t_5 g17 e19 ?_
    refine rs_aldn wi_175_79 l0 ?_
    refine dq_gr wi_175_80 wf_175_15 tf_1_2 ?_
    refine rs_aldn wi_175_83 l0 ?_
    refine dq_gi wi_175_84 wf_175_47 tf_1_6 ?_
    refine rs_pure wi_175_87 rfl ?_
    refine rs_topi (v := 3) (by decide) ?_
    obtain ⟨g20, h⟩ := wp_gd h
    obtain ⟨c21, e22, h⟩ := wp_lt h
    refine dq_iast wi_175_88 t_3 g20 e22 ?_
    refine rs_aldn wi_175_89 l0 ?_
    refine dq_gi wi_175_90 wf_175_44 tf_1_7 ?_
    refine rs_aldn wi_175_93 l0 ?_
    refine dq_gi wi_175_94 wf_175_41 tf_1_1 ?_
    refine wp_jn (B := fun p23 : Int32 => ∀ lv, rx_ld lv 0 = some (.ref 1) → rs (rt_P sc fm) 175 F Lo 130 lv [.int p23] (hq true c21 y w) Q) h (fun p23 h lv l0 => ?_) (fun j130 hj130 h => ?_)
    ·
      refine dl_ist wi_175_130 rfl (fun lv l4 t24 => ?_)
      have l0 := t24 _ _ (by decide) (Or.inl rfl) l0
      refine rs_aldn wi_175_132 l0 ?_
      refine rs_pure wi_175_133 rfl ?_
      refine dq_gi wi_175_134 wf_175_44 tf_1_7 ?_
      refine rs_pure wi_175_137 rfl ?_
      refine rs_topi (v := 1) (by decide) ?_
      refine rs_pure wi_175_138 rfl ?_
      obtain ⟨c25, e26, h⟩ := wp_lt h
      refine dq_pi wi_175_139 wp_175_44 tf_1_7 rfl rfl e26 ?_
      refine rs_ild wi_175_142 l4 ?_
      obtain ⟨g27, h⟩ := wp_gd h
      exact rs_iret wi_175_144 wr_175 (nb_n g27) (hQ (p23, c25) h)
    refine wp_jn (B := fun p28 : Unit => ∀ lv, rx_ld lv 0 = some (.ref 1) → rs (rt_P sc fm) 175 F Lo 129 lv [] (hq true c21 y w) Q) h (fun p28 h lv l0 => ?_) (fun j129 hj129 h => ?_)
    ·
      refine rs_pure wi_175_129 rfl ?_
      refine rs_topi (v := 0) (by decide) ?_
      exact hj130 _ h _ l0
    refine rs_icge (tg := 129) wi_175_97 ⟨by decide, by decide⟩ (fun q => ?_) (fun q => ?_)
    ·
      have h := wp_pos h q
      exact hj129 _ h _ l0
    ·
      have h := wp_neg h q
      refine rs_aldn wi_175_100 l0 ?_
      refine dq_gr wi_175_101 wf_175_9 tf_1_0 ?_
      refine rs_aldn wi_175_104 l0 ?_
      refine dq_gi wi_175_105 wf_175_44 tf_1_7 ?_
      obtain ⟨g29, h⟩ := wp_gd h
      refine dq_bald wi_175_108 t_2 g29 ?_
      refine rs_pure wi_175_109 rfl ?_
      refine rs_topi (v := 39) (by decide) ?_
      refine rs_icne (tg := 129) wi_175_111 ⟨by decide, by decide⟩ (fun q => ?_) (fun q => ?_)
      ·
        have h := wp_neg h q
        exact hj129 _ h _ l0
      ·
        have h := wp_pos h q
        refine rs_aldn wi_175_114 l0 ?_
        refine dq_gi wi_175_115 wf_175_44 tf_1_7 ?_
        refine rs_ildn wi_175_118 l1 ?_
        refine rs_pure wi_175_119 rfl ?_
        refine rs_pure wi_175_120 rfl ?_
        refine rs_topi (v := 8) (by decide) ?_
        refine rs_icgt (tg := 129) wi_175_122 ⟨by decide, by decide⟩ (fun q => ?_) (fun q => ?_)
        ·
          have h := wp_pos h q
          exact hj129 _ h _ l0
        ·
          have h := wp_neg h q
          refine rs_pure wi_175_125 rfl ?_
          refine rs_topi (v := 1) (by decide) ?_
          refine rs_goto (tg := 130) wi_175_126 ⟨by decide, by decide⟩ ?_
          exact hj130 _ h _ l0
theorem wf_148_15 : rx_ft (rt_P sc fm) 148 15 = some (0, 1) := (by decide +kernel : rt_ft 148 15 = some (0, 1))
theorem wg_148_38 : rx_gt (rt_P sc fm) 148 38 = some (.int 1) := (by decide +kernel : rt_gt (.int 0) 148 38 = some (.int 1))
theorem wi_148_0 : ri (rt_P sc fm) 148 0 (.getstatic 38) (3) := ri_of (by decide +kernel) rfl
theorem wi_148_10 : ri (rt_P sc fm) 148 10 (.ifCond .ne 7) (13) := ri_of (by decide +kernel) rfl
theorem wi_148_13 : ri (rt_P sc fm) 148 13 (.iconst 1) (14) := ri_of (by decide +kernel) rfl
theorem wi_148_14 : ri (rt_P sc fm) 148 14 (.goto 4) (17) := ri_of (by decide +kernel) rfl
theorem wi_148_17 : ri (rt_P sc fm) 148 17 (.iconst 0) (18) := ri_of (by decide +kernel) rfl
theorem wi_148_18 : ri (rt_P sc fm) 148 18 (.ireturn) (19) := ri_of (by decide +kernel) rfl
theorem wi_148_3 : ri (rt_P sc fm) 148 3 (.ifCond .eq 14) (6) := ri_of (by decide +kernel) rfl
theorem wi_148_6 : ri (rt_P sc fm) 148 6 (.aload_n 0) (7) := ri_of (by decide +kernel) rfl
theorem wi_148_7 : ri (rt_P sc fm) 148 7 (.getfield 15) (10) := ri_of (by decide +kernel) rfl
theorem wr_148 : rx_rt (rt_P sc fm) 148 = (some FieldType.boolean) := (by decide +kernel : rt_rt 148 = (some FieldType.boolean))
/-- java/lang/String.isLatin1()Z -/
def d_148 (n : Nat) (j0 : Nat) : Option (Int32) :=
  jn (fun p1 : Int32 =>
    if nb p1 then
    some p1
    else none)
  (fun j18 =>
  jn (fun p3 : Unit =>
    j18 0)
  (fun j17 =>
  if (1 : Int32) = 0 then
    j17 ()
  else
    if (0 : Int32) = 0 then
      j18 1
    else
      j17 ()))
theorem sp_148 {F Lo n : Nat} {j0 : Nat} {L : List va_E} {K : Int32 → Prop} {Q : ((Option Value) ⊕ String) → List va_E → Prop} (hL : L.length ≤ rx_B) (hfm : fm = .null ∨ fm = .ref rx_Fm) (hF : 0 ≤ F) (hLo : 0 ≤ Lo) (hj0 : (rt_sb j0).isSome = true) (h : wp (d_148 n j0) K) (hQ : ∀ r, K r → Q (.inl (some (.int r))) L) : rs (rt_P sc fm) 148 F Lo 0 [(0, .ref (rx_K j0))] [] L Q := by
  unfold d_148 at h
  obtain ⟨lv, elv⟩ : ∃ lv : rx_L, lv = [(0, .ref (rx_K j0))] := ⟨_, rfl⟩
  rw [← elv]
  have l0 : rx_ld lv 0 = some (.ref (rx_K j0)) := by rw [elv]; rfl
  refine dq_gs wi_148_0 wg_148_38 ?_
  refine wp_jn (B := fun p1 : Int32 => ∀ lv, rs (rt_P sc fm) 148 F Lo 18 lv [.int p1] L Q) h (fun p1 h lv => ?_) (fun j18 hj18 h => ?_)
  ·
    obtain ⟨g2, h⟩ := wp_gd h
    exact rs_iret wi_148_18 wr_148 (nb_n g2) (hQ p1 h)
  refine wp_jn (B := fun p3 : Unit => ∀ lv, rs (rt_P sc fm) 148 F Lo 17 lv [] L Q) h (fun p3 h lv => ?_) (fun j17 hj17 h => ?_)
  ·
    refine rs_pure wi_148_17 rfl ?_
    refine rs_topi (v := 0) (by decide) ?_
    exact hj18 _ h _
  refine rs_ifeq (tg := 17) wi_148_3 ⟨by decide, by decide⟩ (fun q => ?_) (fun q => ?_)
  ·
    have h := wp_pos h q
    exact hj17 _ h _
  ·
    have h := wp_neg h q
    refine rs_aldn wi_148_6 l0 ?_
    refine dq_sc wi_148_7 wf_148_15 hL hj0 ?_
    refine rs_ifne (tg := 17) wi_148_10 ⟨by decide, by decide⟩ (fun q => ?_) (fun q => ?_)
    ·
      have h := wp_neg h q
      exact hj17 _ h _
    ·
      have h := wp_pos h q
      refine rs_pure wi_148_13 rfl ?_
      refine rs_topi (v := 1) (by decide) ?_
      refine rs_goto (tg := 18) wi_148_14 ⟨by decide, by decide⟩ ?_
      exact hj18 _ h _
theorem wf_147_15 : rx_ft (rt_P sc fm) 147 15 = some (0, 1) := (by decide +kernel : rt_ft 147 15 = some (0, 1))
theorem wg_147_38 : rx_gt (rt_P sc fm) 147 38 = some (.int 1) := (by decide +kernel : rt_gt (.int 0) 147 38 = some (.int 1))
theorem wi_147_0 : ri (rt_P sc fm) 147 0 (.getstatic 38) (3) := ri_of (by decide +kernel) rfl
theorem wi_147_10 : ri (rt_P sc fm) 147 10 (.goto 4) (13) := ri_of (by decide +kernel) rfl
theorem wi_147_13 : ri (rt_P sc fm) 147 13 (.iconst 1) (14) := ri_of (by decide +kernel) rfl
theorem wi_147_14 : ri (rt_P sc fm) 147 14 (.ireturn) (15) := ri_of (by decide +kernel) rfl
theorem wi_147_3 : ri (rt_P sc fm) 147 3 (.ifCond .eq 10) (6) := ri_of (by decide +kernel) rfl
theorem wi_147_6 : ri (rt_P sc fm) 147 6 (.aload_n 0) (7) := ri_of (by decide +kernel) rfl
theorem wi_147_7 : ri (rt_P sc fm) 147 7 (.getfield 15) (10) := ri_of (by decide +kernel) rfl
theorem wr_147 : rx_rt (rt_P sc fm) 147 = (some FieldType.byte) := (by decide +kernel : rt_rt 147 = (some FieldType.byte))
/-- java/lang/String.coder()B -/
def d_147 (n : Nat) (j0 : Nat) : Option (Int32) :=
  jn (fun p1 : Int32 =>
    if nby p1 then
    some p1
    else none)
  (fun j14 =>
  if (1 : Int32) = 0 then
    j14 1
  else
    j14 0)
theorem sp_147 {F Lo n : Nat} {j0 : Nat} {L : List va_E} {K : Int32 → Prop} {Q : ((Option Value) ⊕ String) → List va_E → Prop} (hL : L.length ≤ rx_B) (hfm : fm = .null ∨ fm = .ref rx_Fm) (hF : 0 ≤ F) (hLo : 0 ≤ Lo) (hj0 : (rt_sb j0).isSome = true) (h : wp (d_147 n j0) K) (hQ : ∀ r, K r → Q (.inl (some (.int r))) L) : rs (rt_P sc fm) 147 F Lo 0 [(0, .ref (rx_K j0))] [] L Q := by
  unfold d_147 at h
  obtain ⟨lv, elv⟩ : ∃ lv : rx_L, lv = [(0, .ref (rx_K j0))] := ⟨_, rfl⟩
  rw [← elv]
  have l0 : rx_ld lv 0 = some (.ref (rx_K j0)) := by rw [elv]; rfl
  refine dq_gs wi_147_0 wg_147_38 ?_
  refine wp_jn (B := fun p1 : Int32 => ∀ lv, rs (rt_P sc fm) 147 F Lo 14 lv [.int p1] L Q) h (fun p1 h lv => ?_) (fun j14 hj14 h => ?_)
  ·
    obtain ⟨g2, h⟩ := wp_gd h
    exact rs_iret wi_147_14 wr_147 (nby_n g2) (hQ p1 h)
  refine rs_ifeq (tg := 13) wi_147_3 ⟨by decide, by decide⟩ (fun q => ?_) (fun q => ?_)
  ·
    have h := wp_pos h q
    refine rs_pure wi_147_13 rfl ?_
    refine rs_topi (v := 1) (by decide) ?_
    exact hj14 _ h _
  ·
    have h := wp_neg h q
    refine rs_aldn wi_147_6 l0 ?_
    refine dq_sc wi_147_7 wf_147_15 hL hj0 ?_
    refine rs_goto (tg := 14) wi_147_10 ⟨by decide, by decide⟩ ?_
    exact hj14 _ h _
theorem was_147 : (rx_yn (rt_P sc fm) 147).cls = "java/lang/String" := (by decide +kernel : (rt_yn 147).cls = "java/lang/String")
theorem wc_145_335 : rx_ct (rt_P sc fm) 145 335 = some (0, 147, 0) := (by decide +kernel : rt_ct 145 335 = some (0, 147, 0))
theorem wf_145_9 : rx_ft (rt_P sc fm) 145 9 = some (0, 0) := (by decide +kernel : rt_ft 145 9 = some (0, 0))
theorem wi_145_0 : ri (rt_P sc fm) 145 0 (.aload_n 0) (1) := ri_of (by decide +kernel) rfl
theorem wi_145_1 : ri (rt_P sc fm) 145 1 (.getfield 9) (4) := ri_of (by decide +kernel) rfl
theorem wi_145_10 : ri (rt_P sc fm) 145 10 (.ireturn) (11) := ri_of (by decide +kernel) rfl
theorem wi_145_4 : ri (rt_P sc fm) 145 4 (.arraylength) (5) := ri_of (by decide +kernel) rfl
theorem wi_145_5 : ri (rt_P sc fm) 145 5 (.aload_n 0) (6) := ri_of (by decide +kernel) rfl
theorem wi_145_6 : ri (rt_P sc fm) 145 6 (.invokevirtual 335) (9) := ri_of (by decide +kernel) rfl
theorem wi_145_9 : ri (rt_P sc fm) 145 9 (.ishr) (10) := ri_of (by decide +kernel) rfl
theorem wm_147 : rx_ml (rt_P sc fm) 147 = 1 := (by decide +kernel : rt_ml 147 = 1)
theorem wr_145 : rx_rt (rt_P sc fm) 145 = (some FieldType.int) := (by decide +kernel : rt_rt 145 = (some FieldType.int))
/-- java/lang/String.length()I -/
def d_145 (n : Nat) (j0 : Nat) : Option (Int32) :=
  Option.bind (d_147 n j0) (fun v1 =>
  some ((Int32.ofNat (sB j0).length) >>> (v1 &&& 31)))
theorem sp_145 {F Lo n : Nat} {j0 : Nat} {L : List va_E} {K : Int32 → Prop} {Q : ((Option Value) ⊕ String) → List va_E → Prop} (hL : L.length ≤ rx_B) (hfm : fm = .null ∨ fm = .ref rx_Fm) (hF : 1 ≤ F) (hLo : 20 ≤ Lo) (hj0 : (rt_sb j0).isSome = true) (h : wp (d_145 n j0) K) (hQ : ∀ r, K r → Q (.inl (some (.int r))) L) : rs (rt_P sc fm) 145 F Lo 0 [(0, .ref (rx_K j0))] [] L Q := by
  unfold d_145 at h
  obtain ⟨lv, elv⟩ : ∃ lv : rx_L, lv = [(0, .ref (rx_K j0))] := ⟨_, rfl⟩
  rw [← elv]
  have l0 : rx_ld lv 0 = some (.ref (rx_K j0)) := by rw [elv]; rfl
  refine rs_aldn wi_145_0 l0 ?_
  refine dq_sv wi_145_1 wf_145_9 hL hj0 ?_
  refine dq_svl wi_145_4 hL hj0 ?_
  refine rs_aldn wi_145_5 l0 ?_
  refine rs_V wi_145_6 wc_145_335 rfl (dq_isaS hL hj0 was_147) (Nat.le_trans (by decide) hF) (ml_le wm_147 (Nat.le_trans (by decide) hLo)) rfl (sp_147 hL hfm (Nat.le_trans (by decide : 0 ≤ 1 - 1) (Nat.sub_le_sub_right hF 1)) (ml_sub wm_147 (Nat.le_trans (by decide : 0 ≤ 20 - 20) (Nat.sub_le_sub_right hLo 20))) hj0 (wp_bind h) (fun v1 h => rs_back1 ?_))
  refine rs_pure wi_145_9 rfl ?_
  exact rs_iret wi_145_10 wr_145 rfl (hQ ((Int32.ofNat (sB j0).length) >>> (v1 &&& 31)) h)
theorem wi_487_0 : ri (rt_P sc fm) 487 0 (.iload_n 0) (1) := ri_of (by decide +kernel) rfl
theorem wi_487_1 : ri (rt_P sc fm) 487 1 (.ifCond .lt 14) (4) := ri_of (by decide +kernel) rfl
theorem wi_487_11 : ri (rt_P sc fm) 487 11 (.iconst 1) (12) := ri_of (by decide +kernel) rfl
theorem wi_487_12 : ri (rt_P sc fm) 487 12 (.goto 4) (15) := ri_of (by decide +kernel) rfl
theorem wi_487_15 : ri (rt_P sc fm) 487 15 (.iconst 0) (16) := ri_of (by decide +kernel) rfl
theorem wi_487_16 : ri (rt_P sc fm) 487 16 (.ireturn) (17) := ri_of (by decide +kernel) rfl
theorem wi_487_4 : ri (rt_P sc fm) 487 4 (.iload_n 0) (5) := ri_of (by decide +kernel) rfl
theorem wi_487_5 : ri (rt_P sc fm) 487 5 (.sipush 255) (8) := ri_of (by decide +kernel) rfl
theorem wi_487_8 : ri (rt_P sc fm) 487 8 (.if_icmp .gt 7) (11) := ri_of (by decide +kernel) rfl
theorem wr_487 : rx_rt (rt_P sc fm) 487 = (some FieldType.boolean) := (by decide +kernel : rt_rt 487 = (some FieldType.boolean))
/-- java/lang/StringLatin1.canEncode(I)Z -/
def d_487 (n : Nat) (a0 : Int32) : Option (Int32) :=
  jn (fun p1 : Int32 =>
    if nb p1 then
    some p1
    else none)
  (fun j16 =>
  jn (fun p3 : Unit =>
    j16 0)
  (fun j15 =>
  if a0 < 0 then
    j15 ()
  else
    if 255 < a0 then
      j15 ()
    else
      j16 1))
theorem sp_487 {F Lo n : Nat} {a0 : Int32} {L : List va_E} {K : Int32 → Prop} {Q : ((Option Value) ⊕ String) → List va_E → Prop} (hF : 0 ≤ F) (hLo : 0 ≤ Lo)  (h : wp (d_487 n a0) K) (hQ : ∀ r, K r → Q (.inl (some (.int r))) L) : rs (rt_P sc fm) 487 F Lo 0 [(0, .int a0)] [] L Q := by
  unfold d_487 at h
  obtain ⟨lv, elv⟩ : ∃ lv : rx_L, lv = [(0, .int a0)] := ⟨_, rfl⟩
  rw [← elv]
  have l0 : rx_ld lv 0 = some (.int a0) := by rw [elv]; rfl
  refine rs_ildn wi_487_0 l0 ?_
  refine wp_jn (B := fun p1 : Int32 => ∀ lv, rs (rt_P sc fm) 487 F Lo 16 lv [.int p1] L Q) h (fun p1 h lv => ?_) (fun j16 hj16 h => ?_)
  ·
    obtain ⟨g2, h⟩ := wp_gd h
    exact rs_iret wi_487_16 wr_487 (nb_n g2) (hQ p1 h)
  refine wp_jn (B := fun p3 : Unit => ∀ lv, rs (rt_P sc fm) 487 F Lo 15 lv [] L Q) h (fun p3 h lv => ?_) (fun j15 hj15 h => ?_)
  ·
    refine rs_pure wi_487_15 rfl ?_
    refine rs_topi (v := 0) (by decide) ?_
    exact hj16 _ h _
  refine rs_iflt (tg := 15) wi_487_1 ⟨by decide, by decide⟩ (fun q => ?_) (fun q => ?_)
  ·
    have h := wp_pos h q
    exact hj15 _ h _
  ·
    have h := wp_neg h q
    refine rs_ildn wi_487_4 l0 ?_
    refine rs_pure wi_487_5 rfl ?_
    refine rs_topi (v := 255) (by decide) ?_
    refine rs_icgt (tg := 15) wi_487_8 ⟨by decide, by decide⟩ (fun q => ?_) (fun q => ?_)
    ·
      have h := wp_pos h q
      exact hj15 _ h _
    ·
      have h := wp_neg h q
      refine rs_pure wi_487_11 rfl ?_
      refine rs_topi (v := 1) (by decide) ?_
      refine rs_goto (tg := 16) wi_487_12 ⟨by decide, by decide⟩ ?_
      exact hj16 _ h _
theorem wi_488_0 : ri (rt_P sc fm) 488 0 (.iload_n 1) (1) := ri_of (by decide +kernel) rfl
theorem wi_488_1 : ri (rt_P sc fm) 488 1 (.i2b) (2) := ri_of (by decide +kernel) rfl
theorem wi_488_10 : ri (rt_P sc fm) 488 10 (.if_icmp .ge 21) (13) := ri_of (by decide +kernel) rfl
theorem wi_488_13 : ri (rt_P sc fm) 488 13 (.aload_n 0) (14) := ri_of (by decide +kernel) rfl
theorem wi_488_14 : ri (rt_P sc fm) 488 14 (.iload 5) (16) := ri_of (by decide +kernel) rfl
theorem wi_488_16 : ri (rt_P sc fm) 488 16 (.baload) (17) := ri_of (by decide +kernel) rfl
theorem wi_488_17 : ri (rt_P sc fm) 488 17 (.iload 4) (19) := ri_of (by decide +kernel) rfl
theorem wi_488_19 : ri (rt_P sc fm) 488 19 (.if_icmp .ne 6) (22) := ri_of (by decide +kernel) rfl
theorem wi_488_2 : ri (rt_P sc fm) 488 2 (.istore 4) (4) := ri_of (by decide +kernel) rfl
theorem wi_488_22 : ri (rt_P sc fm) 488 22 (.iload 5) (24) := ri_of (by decide +kernel) rfl
theorem wi_488_24 : ri (rt_P sc fm) 488 24 (.ireturn) (25) := ri_of (by decide +kernel) rfl
theorem wi_488_25 : ri (rt_P sc fm) 488 25 (.iinc 5 1) (28) := ri_of (by decide +kernel) rfl
theorem wi_488_28 : ri (rt_P sc fm) 488 28 (.goto (-21)) (31) := ri_of (by decide +kernel) rfl
theorem wi_488_31 : ri (rt_P sc fm) 488 31 (.iconst (-1)) (32) := ri_of (by decide +kernel) rfl
theorem wi_488_32 : ri (rt_P sc fm) 488 32 (.ireturn) (33) := ri_of (by decide +kernel) rfl
theorem wi_488_4 : ri (rt_P sc fm) 488 4 (.iload_n 2) (5) := ri_of (by decide +kernel) rfl
theorem wi_488_5 : ri (rt_P sc fm) 488 5 (.istore 5) (7) := ri_of (by decide +kernel) rfl
theorem wi_488_7 : ri (rt_P sc fm) 488 7 (.iload 5) (9) := ri_of (by decide +kernel) rfl
theorem wi_488_9 : ri (rt_P sc fm) 488 9 (.iload_n 3) (10) := ri_of (by decide +kernel) rfl
theorem wr_488 : rx_rt (rt_P sc fm) 488 = (some FieldType.int) := (by decide +kernel : rt_rt 488 = (some FieldType.int))
/-- java/lang/StringLatin1.indexOfChar([BIII)I -/
def d_488 (n : Nat) (j0 : Nat) (a1 : Int32) (a2 : Int32) (a3 : Int32) : Option (Int32) :=
  lt ((a1 : Int32).toInt8.toInt32 : Int32) (fun v2 =>
  Option.bind (whl (R := (Unit) ⊕ (Int32)) (fun s5 : Int32 =>
    if a3 ≤ s5 then
      some (.inr (.inl ()))
    else
      if ib s5 (sB j0).length then
      if ((sB j0).getD (ix s5) 0) = v2 then
        some (.inr (.inr s5))
      else
        lt (s5 + 1 : Int32) (fun v8 =>
        some (.inl v8))
      else none) n a2)
  (Sum.elim (fun x10 : Unit =>
    some (-1))
  (fun x11 : Int32 =>
    some x11)))
theorem sp_488 {F Lo n : Nat} {j0 : Nat} {a1 : Int32} {a2 : Int32} {a3 : Int32} {L : List va_E} {K : Int32 → Prop} {Q : ((Option Value) ⊕ String) → List va_E → Prop} (hL : L.length ≤ rx_B) (hfm : fm = .null ∨ fm = .ref rx_Fm) (hF : 0 ≤ F) (hLo : 0 ≤ Lo) (hj0 : (rt_sb j0).isSome = true) (h : wp (d_488 n j0 a1 a2 a3) K) (hQ : ∀ r, K r → Q (.inl (some (.int r))) L) : rs (rt_P sc fm) 488 F Lo 0 [(0, .ref (rx_V j0)), (1, .int a1), (2, .int a2), (3, .int a3)] [] L Q := by
  unfold d_488 at h
  obtain ⟨lv, elv⟩ : ∃ lv : rx_L, lv = [(0, .ref (rx_V j0)), (1, .int a1), (2, .int a2), (3, .int a3)] := ⟨_, rfl⟩
  rw [← elv]
  have l0 : rx_ld lv 0 = some (.ref (rx_V j0)) := by rw [elv]; rfl
  have l1 : rx_ld lv 1 = some (.int a1) := by rw [elv]; rfl
  have l2 : rx_ld lv 2 = some (.int a2) := by rw [elv]; rfl
  have l3 : rx_ld lv 3 = some (.int a3) := by rw [elv]; rfl
  refine rs_ildn wi_488_0 l1 ?_
  refine rs_pure wi_488_1 rfl ?_
  obtain ⟨v2, e3, h⟩ := wp_lt h
  refine rs_topi e3 ?_
  refine dl_ist wi_488_2 rfl (fun lv l4 t1 => ?_)
  have l0 := t1 _ _ (by decide) (Or.inl rfl) l0
  have l2 := t1 _ _ (by decide) (Or.inl rfl) l2
  have l3 := t1 _ _ (by decide) (Or.inl rfl) l3
  refine rs_ildn wi_488_4 l2 ?_
  refine dl_ist wi_488_5 rfl (fun lv l5 t4 => ?_)
  have l0 := t4 _ _ (by decide) (Or.inl rfl) l0
  have l3 := t4 _ _ (by decide) (Or.inl rfl) l3
  have l4 := t4 _ _ (by decide) (Or.inl rfl) l4
  refine whl_ex (A := fun s5 : Int32 => ∀ lv, rx_ld lv 0 = some (.ref (rx_V j0)) → rx_ld lv 3 = some (.int a3) → rx_ld lv 4 = some (.int v2) → rx_ld lv 5 = some (.int s5) → rs (rt_P sc fm) 488 F Lo 7 lv [] L Q) (B := (Sum.elim (fun x10 : Unit => ∀ lv, rs (rt_P sc fm) 488 F Lo 31 lv [] L Q) (fun x11 : Int32 => ∀ lv, rx_ld lv 5 = some (.int x11) → rs (rt_P sc fm) 488 F Lo 22 lv [] L Q))) ?_ ?_ _ _ (wp_bind h) _ l0 l3 l4 l5
  · intro s5 h lv l0 l3 l4 l5
    refine rs_ild wi_488_7 l5 ?_
    refine rs_ildn wi_488_9 l3 ?_
    refine rs_icge (tg := 31) wi_488_10 ⟨by decide, by decide⟩ (fun q => ?_) (fun q => ?_)
    ·
      have h := wp_pos h q
      exact h _
    ·
      have h := wp_neg h q
      refine rs_aldn wi_488_13 l0 ?_
      refine rs_ild wi_488_14 l5 ?_
      obtain ⟨g6, h⟩ := wp_gd h
      refine dq_svb wi_488_16 hL hj0 g6 ?_
      refine rs_ild wi_488_17 l4 ?_
      refine rs_icne (tg := 25) wi_488_19 ⟨by decide, by decide⟩ (fun q => ?_) (fun q => ?_)
      ·
        have h := wp_neg h q
        obtain ⟨v8, e9, h⟩ := wp_lt h
        refine dl_inc wi_488_25 l5 rfl e9 (fun lv l5 t7 => ?_)
        have l0 := t7 _ _ (by decide) (Or.inl rfl) l0
        have l3 := t7 _ _ (by decide) (Or.inl rfl) l3
        have l4 := t7 _ _ (by decide) (Or.inl rfl) l4
        refine rs_goto (tg := 7) wi_488_28 ⟨by decide, by decide⟩ ?_
        exact h _ l0 l3 l4 l5
      ·
        have h := wp_pos h q
        exact h _ l5
  ·
    refine sum_all ?_ ?_
    ·
      intro x10 h lv
      have h := wp_inl h
      refine rs_pure wi_488_31 rfl ?_
      refine rs_topi (v := (-1)) (by decide) ?_
      exact rs_iret wi_488_32 wr_488 rfl (hQ (-1) h)
    ·
      intro x11 h lv l5
      have h := wp_inr h
      refine rs_ild wi_488_22 l5 ?_
      exact rs_iret wi_488_24 wr_488 rfl (hQ x11 h)
theorem wc_486_88 : rx_ct (rt_P sc fm) 486 88 = some (1, 487, 1) := (by decide +kernel : rt_ct 486 88 = some (1, 487, 1))
theorem wc_486_95 : rx_ct (rt_P sc fm) 486 95 = some (1, 488, 4) := (by decide +kernel : rt_ct 486 95 = some (1, 488, 4))
theorem wcn_486_38 : rx_ct (rt_P sc fm) 486 38 = none := (by decide +kernel : rt_ct 486 38 = none)
theorem wcn_486_92 : rx_ct (rt_P sc fm) 486 92 = none := (by decide +kernel : rt_ct 486 92 = none)
theorem wi_486_0 : ri (rt_P sc fm) 486 0 (.iload_n 1) (1) := ri_of (by decide +kernel) rfl
theorem wi_486_1 : ri (rt_P sc fm) 486 1 (.invokestatic 88) (4) := ri_of (by decide +kernel) rfl
theorem wi_486_10 : ri (rt_P sc fm) 486 10 (.iconst 0) (11) := ri_of (by decide +kernel) rfl
theorem wi_486_11 : ri (rt_P sc fm) 486 11 (.invokestatic 92) (14) := ri_of (by decide +kernel) rfl
theorem wi_486_14 : ri (rt_P sc fm) 486 14 (.istore_n 2) (15) := ri_of (by decide +kernel) rfl
theorem wi_486_15 : ri (rt_P sc fm) 486 15 (.iload_n 3) (16) := ri_of (by decide +kernel) rfl
theorem wi_486_16 : ri (rt_P sc fm) 486 16 (.aload_n 0) (17) := ri_of (by decide +kernel) rfl
theorem wi_486_17 : ri (rt_P sc fm) 486 17 (.arraylength) (18) := ri_of (by decide +kernel) rfl
theorem wi_486_18 : ri (rt_P sc fm) 486 18 (.invokestatic 38) (21) := ri_of (by decide +kernel) rfl
theorem wi_486_21 : ri (rt_P sc fm) 486 21 (.istore_n 3) (22) := ri_of (by decide +kernel) rfl
theorem wi_486_22 : ri (rt_P sc fm) 486 22 (.iload_n 2) (23) := ri_of (by decide +kernel) rfl
theorem wi_486_23 : ri (rt_P sc fm) 486 23 (.iload_n 3) (24) := ri_of (by decide +kernel) rfl
theorem wi_486_24 : ri (rt_P sc fm) 486 24 (.if_icmp .lt 5) (27) := ri_of (by decide +kernel) rfl
theorem wi_486_27 : ri (rt_P sc fm) 486 27 (.iconst (-1)) (28) := ri_of (by decide +kernel) rfl
theorem wi_486_28 : ri (rt_P sc fm) 486 28 (.ireturn) (29) := ri_of (by decide +kernel) rfl
theorem wi_486_29 : ri (rt_P sc fm) 486 29 (.aload_n 0) (30) := ri_of (by decide +kernel) rfl
theorem wi_486_30 : ri (rt_P sc fm) 486 30 (.iload_n 1) (31) := ri_of (by decide +kernel) rfl
theorem wi_486_31 : ri (rt_P sc fm) 486 31 (.iload_n 2) (32) := ri_of (by decide +kernel) rfl
theorem wi_486_32 : ri (rt_P sc fm) 486 32 (.iload_n 3) (33) := ri_of (by decide +kernel) rfl
theorem wi_486_33 : ri (rt_P sc fm) 486 33 (.invokestatic 95) (36) := ri_of (by decide +kernel) rfl
theorem wi_486_36 : ri (rt_P sc fm) 486 36 (.ireturn) (37) := ri_of (by decide +kernel) rfl
theorem wi_486_4 : ri (rt_P sc fm) 486 4 (.ifCond .ne 5) (7) := ri_of (by decide +kernel) rfl
theorem wi_486_7 : ri (rt_P sc fm) 486 7 (.iconst (-1)) (8) := ri_of (by decide +kernel) rfl
theorem wi_486_8 : ri (rt_P sc fm) 486 8 (.ireturn) (9) := ri_of (by decide +kernel) rfl
theorem wi_486_9 : ri (rt_P sc fm) 486 9 (.iload_n 2) (10) := ri_of (by decide +kernel) rfl
theorem wm_487 : rx_ml (rt_P sc fm) 487 = 1 := (by decide +kernel : rt_ml 487 = 1)
theorem wm_488 : rx_ml (rt_P sc fm) 488 = 6 := (by decide +kernel : rt_ml 488 = 6)
theorem wq8_486_92 : rx_qt (rt_P sc fm) 486 92 = some 8 := (by decide +kernel : rt_qt 486 92 = some 8)
theorem wq9_486_38 : rx_qt (rt_P sc fm) 486 38 = some 9 := (by decide +kernel : rt_qt 486 38 = some 9)
theorem wr_486 : rx_rt (rt_P sc fm) 486 = (some FieldType.int) := (by decide +kernel : rt_rt 486 = (some FieldType.int))
/-- java/lang/StringLatin1.indexOf([BIII)I -/
def d_486 (n : Nat) (j0 : Nat) (a1 : Int32) (a2 : Int32) (a3 : Int32) : Option (Int32) :=
  Option.bind (d_487 n a1) (fun v1 =>
  if v1 = 0 then
    some (-1)
  else
    lt ((if a2 < 0 then 0 else a2) : Int32) (fun v3 =>
    lt ((if (Int32.ofNat (sB j0).length) < a3 then (Int32.ofNat (sB j0).length) else a3) : Int32) (fun v6 =>
    if v3 < v6 then
      Option.bind (d_488 n j0 a1 v3 v6) (fun v8 =>
      some v8)
    else
      some (-1))))
theorem sp_486 {F Lo n : Nat} {j0 : Nat} {a1 : Int32} {a2 : Int32} {a3 : Int32} {L : List va_E} {K : Int32 → Prop} {Q : ((Option Value) ⊕ String) → List va_E → Prop} (hL : L.length ≤ rx_B) (hfm : fm = .null ∨ fm = .ref rx_Fm) (hF : 1 ≤ F) (hLo : 26 ≤ Lo) (hj0 : (rt_sb j0).isSome = true) (h : wp (d_486 n j0 a1 a2 a3) K) (hQ : ∀ r, K r → Q (.inl (some (.int r))) L) : rs (rt_P sc fm) 486 F Lo 0 [(0, .ref (rx_V j0)), (1, .int a1), (2, .int a2), (3, .int a3)] [] L Q := by
  unfold d_486 at h
  obtain ⟨lv, elv⟩ : ∃ lv : rx_L, lv = [(0, .ref (rx_V j0)), (1, .int a1), (2, .int a2), (3, .int a3)] := ⟨_, rfl⟩
  rw [← elv]
  have l0 : rx_ld lv 0 = some (.ref (rx_V j0)) := by rw [elv]; rfl
  have l1 : rx_ld lv 1 = some (.int a1) := by rw [elv]; rfl
  have l2 : rx_ld lv 2 = some (.int a2) := by rw [elv]; rfl
  have l3 : rx_ld lv 3 = some (.int a3) := by rw [elv]; rfl
  refine rs_ildn wi_486_0 l1 ?_
  refine rs_S wi_486_1 wc_486_88 (Or.inl rfl) rfl (Nat.le_trans (by decide) hF) (ml_le wm_487 (Nat.le_trans (by decide) hLo)) rfl (sp_487 (Nat.le_trans (by decide : 0 ≤ 1 - 1) (Nat.sub_le_sub_right hF 1)) (ml_sub wm_487 (Nat.le_trans (by decide : 0 ≤ 26 - 20) (Nat.sub_le_sub_right hLo 20))) (wp_bind h) (fun v1 h => rs_back1 ?_))
  refine rs_ifne (tg := 9) wi_486_4 ⟨by decide, by decide⟩ (fun q => ?_) (fun q => ?_)
  ·
    have h := wp_neg h q
    refine rs_ildn wi_486_9 l2 ?_
    refine rs_pure wi_486_10 rfl ?_
    refine rs_topi (v := 0) (by decide) ?_
    refine dq_mx wi_486_11 wcn_486_92 wq8_486_92 (Nat.le_trans (by decide) hF) (Nat.le_trans (by show rx_words [] + 13 ≤ _; decide) hLo) ?_
    obtain ⟨v3, e4, h⟩ := wp_lt h
    refine rs_topi e4 ?_
    refine dl_istn wi_486_14 rfl (fun lv l2 t2 => ?_)
    have l0 := t2 _ _ (by decide) (Or.inl rfl) l0
    have l1 := t2 _ _ (by decide) (Or.inl rfl) l1
    have l3 := t2 _ _ (by decide) (Or.inl rfl) l3
    refine rs_ildn wi_486_15 l3 ?_
    refine rs_aldn wi_486_16 l0 ?_
    refine dq_svl wi_486_17 hL hj0 ?_
    refine dq_mn wi_486_18 wcn_486_38 wq9_486_38 (Nat.le_trans (by decide) hF) (Nat.le_trans (by show rx_words [] + 13 ≤ _; decide) hLo) ?_
    obtain ⟨v6, e7, h⟩ := wp_lt h
    refine rs_topi e7 ?_
    refine dl_istn wi_486_21 rfl (fun lv l3 t5 => ?_)
    have l0 := t5 _ _ (by decide) (Or.inl rfl) l0
    have l1 := t5 _ _ (by decide) (Or.inl rfl) l1
    have l2 := t5 _ _ (by decide) (Or.inl rfl) l2
    refine rs_ildn wi_486_22 l2 ?_
    refine rs_ildn wi_486_23 l3 ?_
    refine rs_iclt (tg := 29) wi_486_24 ⟨by decide, by decide⟩ (fun q => ?_) (fun q => ?_)
    ·
      have h := wp_pos h q
      refine rs_aldn wi_486_29 l0 ?_
      refine rs_ildn wi_486_30 l1 ?_
      refine rs_ildn wi_486_31 l2 ?_
      refine rs_ildn wi_486_32 l3 ?_
      refine rs_S wi_486_33 wc_486_95 (Or.inl rfl) rfl (Nat.le_trans (by decide) hF) (ml_le wm_488 (Nat.le_trans (by decide) hLo)) rfl (sp_488 hL hfm (Nat.le_trans (by decide : 0 ≤ 1 - 1) (Nat.sub_le_sub_right hF 1)) (ml_sub wm_488 (Nat.le_trans (by decide : 0 ≤ 26 - 25) (Nat.sub_le_sub_right hLo 25))) hj0 (wp_bind h) (fun v8 h => rs_back1 ?_))
      exact rs_iret wi_486_36 wr_486 rfl (hQ v8 h)
    ·
      have h := wp_neg h q
      refine rs_pure wi_486_27 rfl ?_
      refine rs_topi (v := (-1)) (by decide) ?_
      exact rs_iret wi_486_28 wr_486 rfl (hQ (-1) h)
  ·
    have h := wp_pos h q
    refine rs_pure wi_486_7 rfl ?_
    refine rs_topi (v := (-1)) (by decide) ?_
    exact rs_iret wi_486_8 wr_486 rfl (hQ (-1) h)
theorem was_145 : (rx_yn (rt_P sc fm) 145).cls = "java/lang/String" := (by decide +kernel : (rt_yn 145).cls = "java/lang/String")
theorem was_148 : (rx_yn (rt_P sc fm) 148).cls = "java/lang/String" := (by decide +kernel : (rt_yn 148).cls = "java/lang/String")
theorem wc_485_492 : rx_ct (rt_P sc fm) 485 492 = some (0, 148, 0) := (by decide +kernel : rt_ct 485 492 = some (0, 148, 0))
theorem wc_485_505 : rx_ct (rt_P sc fm) 485 505 = some (0, 145, 0) := (by decide +kernel : rt_ct 485 505 = some (0, 145, 0))
theorem wc_485_637 : rx_ct (rt_P sc fm) 485 637 = some (1, 486, 4) := (by decide +kernel : rt_ct 485 637 = some (1, 486, 4))
theorem wf_485_9 : rx_ft (rt_P sc fm) 485 9 = some (0, 0) := (by decide +kernel : rt_ft 485 9 = some (0, 0))
theorem wi_485_0 : ri (rt_P sc fm) 485 0 (.aload_n 0) (1) := ri_of (by decide +kernel) rfl
theorem wi_485_1 : ri (rt_P sc fm) 485 1 (.invokevirtual 492) (4) := ri_of (by decide +kernel) rfl
theorem wi_485_11 : ri (rt_P sc fm) 485 11 (.iload_n 1) (12) := ri_of (by decide +kernel) rfl
theorem wi_485_12 : ri (rt_P sc fm) 485 12 (.iload_n 2) (13) := ri_of (by decide +kernel) rfl
theorem wi_485_13 : ri (rt_P sc fm) 485 13 (.aload_n 0) (14) := ri_of (by decide +kernel) rfl
theorem wi_485_14 : ri (rt_P sc fm) 485 14 (.invokevirtual 505) (17) := ri_of (by decide +kernel) rfl
theorem wi_485_17 : ri (rt_P sc fm) 485 17 (.invokestatic 637) (20) := ri_of (by decide +kernel) rfl
theorem wi_485_20 : ri (rt_P sc fm) 485 20 (.goto 16) (23) := ri_of (by decide +kernel) rfl
theorem wi_485_36 : ri (rt_P sc fm) 485 36 (.ireturn) (37) := ri_of (by decide +kernel) rfl
theorem wi_485_4 : ri (rt_P sc fm) 485 4 (.ifCond .eq 19) (7) := ri_of (by decide +kernel) rfl
theorem wi_485_7 : ri (rt_P sc fm) 485 7 (.aload_n 0) (8) := ri_of (by decide +kernel) rfl
theorem wi_485_8 : ri (rt_P sc fm) 485 8 (.getfield 9) (11) := ri_of (by decide +kernel) rfl
theorem wm_145 : rx_ml (rt_P sc fm) 145 = 1 := (by decide +kernel : rt_ml 145 = 1)
theorem wm_148 : rx_ml (rt_P sc fm) 148 = 1 := (by decide +kernel : rt_ml 148 = 1)
theorem wm_486 : rx_ml (rt_P sc fm) 486 = 4 := (by decide +kernel : rt_ml 486 = 4)
theorem wr_485 : rx_rt (rt_P sc fm) 485 = (some FieldType.int) := (by decide +kernel : rt_rt 485 = (some FieldType.int))
/-- java/lang/String.indexOf(II)I -/
def d_485 (n : Nat) (j0 : Nat) (a1 : Int32) (a2 : Int32) : Option (Int32) :=
  Option.bind (d_148 n j0) (fun v1 =>
  if v1 = 0 then
    none
  else
    Option.bind (d_145 n j0) (fun v2 =>
    Option.bind (d_486 n j0 a1 a2 v2) (fun v3 =>
    some v3)))
theorem sp_485 {F Lo n : Nat} {j0 : Nat} {a1 : Int32} {a2 : Int32} {L : List va_E} {K : Int32 → Prop} {Q : ((Option Value) ⊕ String) → List va_E → Prop} (hL : L.length ≤ rx_B) (hfm : fm = .null ∨ fm = .ref rx_Fm) (hF : 2 ≤ F) (hLo : 49 ≤ Lo) (hj0 : (rt_sb j0).isSome = true) (h : wp (d_485 n j0 a1 a2) K) (hQ : ∀ r, K r → Q (.inl (some (.int r))) L) : rs (rt_P sc fm) 485 F Lo 0 [(0, .ref (rx_K j0)), (1, .int a1), (2, .int a2)] [] L Q := by
  unfold d_485 at h
  obtain ⟨lv, elv⟩ : ∃ lv : rx_L, lv = [(0, .ref (rx_K j0)), (1, .int a1), (2, .int a2)] := ⟨_, rfl⟩
  rw [← elv]
  have l0 : rx_ld lv 0 = some (.ref (rx_K j0)) := by rw [elv]; rfl
  have l1 : rx_ld lv 1 = some (.int a1) := by rw [elv]; rfl
  have l2 : rx_ld lv 2 = some (.int a2) := by rw [elv]; rfl
  refine rs_aldn wi_485_0 l0 ?_
  refine rs_V wi_485_1 wc_485_492 rfl (dq_isaS hL hj0 was_148) (Nat.le_trans (by decide) hF) (ml_le wm_148 (Nat.le_trans (by decide) hLo)) rfl (sp_148 hL hfm (Nat.le_trans (by decide : 0 ≤ 2 - 1) (Nat.sub_le_sub_right hF 1)) (ml_sub wm_148 (Nat.le_trans (by decide : 0 ≤ 49 - 20) (Nat.sub_le_sub_right hLo 20))) hj0 (wp_bind h) (fun v1 h => rs_back1 ?_))
  refine rs_ifeq (tg := 23) wi_485_4 ⟨by decide, by decide⟩ (fun q => ?_) (fun q => ?_)
  ·
    have h := wp_pos h q
    exact h.elim
  ·
    have h := wp_neg h q
    refine rs_aldn wi_485_7 l0 ?_
    refine dq_sv wi_485_8 wf_485_9 hL hj0 ?_
    refine rs_ildn wi_485_11 l1 ?_
    refine rs_ildn wi_485_12 l2 ?_
    refine rs_aldn wi_485_13 l0 ?_
    refine rs_V wi_485_14 wc_485_505 rfl (dq_isaS hL hj0 was_145) (Nat.le_trans (by decide) hF) (ml_le wm_145 (Nat.le_trans (by decide) hLo)) rfl (sp_145 hL hfm (Nat.le_trans (by decide : 1 ≤ 2 - 1) (Nat.sub_le_sub_right hF 1)) (ml_sub wm_145 (Nat.le_trans (by decide : 20 ≤ 49 - 20) (Nat.sub_le_sub_right hLo 20))) hj0 (wp_bind h) (fun v2 h => rs_back1 ?_))
    refine rs_S wi_485_17 wc_485_637 (Or.inl rfl) rfl (Nat.le_trans (by decide) hF) (ml_le wm_486 (Nat.le_trans (by decide) hLo)) rfl (sp_486 hL hfm (Nat.le_trans (by decide : 1 ≤ 2 - 1) (Nat.sub_le_sub_right hF 1)) (ml_sub wm_486 (Nat.le_trans (by decide : 26 ≤ 49 - 23) (Nat.sub_le_sub_right hLo 23))) hj0 (wp_bind h) (fun v3 h => rs_back1 ?_))
    refine rs_goto (tg := 36) wi_485_20 ⟨by decide, by decide⟩ ?_
    exact rs_iret wi_485_36 wr_485 rfl (hQ v3 h)
theorem was_485 : (rx_yn (rt_P sc fm) 485).cls = "java/lang/String" := (by decide +kernel : (rt_yn 485).cls = "java/lang/String")
theorem wc_484_633 : rx_ct (rt_P sc fm) 484 633 = some (0, 485, 2) := (by decide +kernel : rt_ct 484 633 = some (0, 485, 2))
theorem wi_484_0 : ri (rt_P sc fm) 484 0 (.aload_n 0) (1) := ri_of (by decide +kernel) rfl
theorem wi_484_1 : ri (rt_P sc fm) 484 1 (.iload_n 1) (2) := ri_of (by decide +kernel) rfl
theorem wi_484_2 : ri (rt_P sc fm) 484 2 (.iconst 0) (3) := ri_of (by decide +kernel) rfl
theorem wi_484_3 : ri (rt_P sc fm) 484 3 (.invokevirtual 633) (6) := ri_of (by decide +kernel) rfl
theorem wi_484_6 : ri (rt_P sc fm) 484 6 (.ireturn) (7) := ri_of (by decide +kernel) rfl
theorem wm_485 : rx_ml (rt_P sc fm) 485 = 3 := (by decide +kernel : rt_ml 485 = 3)
theorem wr_484 : rx_rt (rt_P sc fm) 484 = (some FieldType.int) := (by decide +kernel : rt_rt 484 = (some FieldType.int))
/-- java/lang/String.indexOf(I)I -/
def d_484 (n : Nat) (j0 : Nat) (a1 : Int32) : Option (Int32) :=
  Option.bind (d_485 n j0 a1 0) (fun v1 =>
  some v1)
theorem sp_484 {F Lo n : Nat} {j0 : Nat} {a1 : Int32} {L : List va_E} {K : Int32 → Prop} {Q : ((Option Value) ⊕ String) → List va_E → Prop} (hL : L.length ≤ rx_B) (hfm : fm = .null ∨ fm = .ref rx_Fm) (hF : 3 ≤ F) (hLo : 71 ≤ Lo) (hj0 : (rt_sb j0).isSome = true) (h : wp (d_484 n j0 a1) K) (hQ : ∀ r, K r → Q (.inl (some (.int r))) L) : rs (rt_P sc fm) 484 F Lo 0 [(0, .ref (rx_K j0)), (1, .int a1)] [] L Q := by
  unfold d_484 at h
  obtain ⟨lv, elv⟩ : ∃ lv : rx_L, lv = [(0, .ref (rx_K j0)), (1, .int a1)] := ⟨_, rfl⟩
  rw [← elv]
  have l0 : rx_ld lv 0 = some (.ref (rx_K j0)) := by rw [elv]; rfl
  have l1 : rx_ld lv 1 = some (.int a1) := by rw [elv]; rfl
  refine rs_aldn wi_484_0 l0 ?_
  refine rs_ildn wi_484_1 l1 ?_
  refine rs_pure wi_484_2 rfl ?_
  refine rs_topi (v := 0) (by decide) ?_
  refine rs_V wi_484_3 wc_484_633 rfl (dq_isaS hL hj0 was_485) (Nat.le_trans (by decide) hF) (ml_le wm_485 (Nat.le_trans (by decide) hLo)) rfl (sp_485 hL hfm (Nat.le_trans (by decide : 2 ≤ 3 - 1) (Nat.sub_le_sub_right hF 1)) (ml_sub wm_485 (Nat.le_trans (by decide : 49 ≤ 71 - 22) (Nat.sub_le_sub_right hLo 22))) hj0 (wp_bind h) (fun v1 h => rs_back1 ?_))
  exact rs_iret wi_484_6 wr_484 rfl (hQ v1 h)
theorem wsb_39 : (rt_sb 39).isSome = true := by decide +kernel
theorem wa_3_172 : rz_cn 3 (rx_yn (rt_P sc fm) 172).cls = true := (by decide +kernel : rz_cn 3 (rt_yn 172).cls = true)
theorem wa_3_174 : rz_cn 3 (rx_yn (rt_P sc fm) 174).cls = true := (by decide +kernel : rz_cn 3 (rt_yn 174).cls = true)
theorem wa_3_175 : rz_cn 3 (rx_yn (rt_P sc fm) 175).cls = true := (by decide +kernel : rz_cn 3 (rt_yn 175).cls = true)
theorem was_484 : (rx_yn (rt_P sc fm) 484).cls = "java/lang/String" := (by decide +kernel : (rt_yn 484).cls = "java/lang/String")
theorem wc_171_57 : rx_ct (rt_P sc fm) 171 57 = some (11, 352, 1) := (by decide +kernel : rt_ct 171 57 = some (11, 352, 1))
theorem wc_171_61 : rx_ct (rt_P sc fm) 171 61 = some (0, 172, 0) := (by decide +kernel : rt_ct 171 61 = some (0, 172, 0))
theorem wc_171_64 : rx_ct (rt_P sc fm) 171 64 = some (11, 353, 1) := (by decide +kernel : rt_ct 171 64 = some (11, 353, 1))
theorem wc_171_67 : rx_ct (rt_P sc fm) 171 67 = some (0, 174, 0) := (by decide +kernel : rt_ct 171 67 = some (0, 174, 0))
theorem wc_171_70 : rx_ct (rt_P sc fm) 171 70 = some (0, 175, 0) := (by decide +kernel : rt_ct 171 70 = some (0, 175, 0))
theorem wc_171_75 : rx_ct (rt_P sc fm) 171 75 = some (0, 484, 1) := (by decide +kernel : rt_ct 171 75 = some (0, 484, 1))
theorem wf_171_15 : rx_ft (rt_P sc fm) 171 15 = some (3, 2) := (by decide +kernel : rt_ft 171 15 = some (3, 2))
theorem wf_171_44 : rx_ft (rt_P sc fm) 171 44 = some (3, 7) := (by decide +kernel : rt_ft 171 44 = some (3, 7))
theorem wf_171_47 : rx_ft (rt_P sc fm) 171 47 = some (3, 6) := (by decide +kernel : rt_ft 171 47 = some (3, 6))
theorem wf_171_9 : rx_ft (rt_P sc fm) 171 9 = some (3, 0) := (by decide +kernel : rt_ft 171 9 = some (3, 0))
theorem wi_171_0 : ri (rt_P sc fm) 171 0 (.aload_n 0) (1) := ri_of (by decide +kernel) rfl
theorem wi_171_1 : ri (rt_P sc fm) 171 1 (.getfield 9) (4) := ri_of (by decide +kernel) rfl
theorem wi_171_12 : ri (rt_P sc fm) 171 12 (.iand) (13) := ri_of (by decide +kernel) rfl
theorem wi_171_13 : ri (rt_P sc fm) 171 13 (.istore_n 1) (14) := ri_of (by decide +kernel) rfl
theorem wi_171_14 : ri (rt_P sc fm) 171 14 (.iload_n 1) (15) := ri_of (by decide +kernel) rfl
theorem wi_171_15 : ri (rt_P sc fm) 171 15 (.invokestatic 57) (18) := ri_of (by decide +kernel) rfl
theorem wi_171_18 : ri (rt_P sc fm) 171 18 (.ifCond .eq 8) (21) := ri_of (by decide +kernel) rfl
theorem wi_171_21 : ri (rt_P sc fm) 171 21 (.aload_n 0) (22) := ri_of (by decide +kernel) rfl
theorem wi_171_22 : ri (rt_P sc fm) 171 22 (.invokevirtual 61) (25) := ri_of (by decide +kernel) rfl
theorem wi_171_25 : ri (rt_P sc fm) 171 25 (.ireturn) (26) := ri_of (by decide +kernel) rfl
theorem wi_171_26 : ri (rt_P sc fm) 171 26 (.iload_n 1) (27) := ri_of (by decide +kernel) rfl
theorem wi_171_27 : ri (rt_P sc fm) 171 27 (.invokestatic 64) (30) := ri_of (by decide +kernel) rfl
theorem wi_171_30 : ri (rt_P sc fm) 171 30 (.ifCond .eq 8) (33) := ri_of (by decide +kernel) rfl
theorem wi_171_33 : ri (rt_P sc fm) 171 33 (.aload_n 0) (34) := ri_of (by decide +kernel) rfl
theorem wi_171_34 : ri (rt_P sc fm) 171 34 (.invokevirtual 67) (37) := ri_of (by decide +kernel) rfl
theorem wi_171_37 : ri (rt_P sc fm) 171 37 (.ireturn) (38) := ri_of (by decide +kernel) rfl
theorem wi_171_38 : ri (rt_P sc fm) 171 38 (.iload_n 1) (39) := ri_of (by decide +kernel) rfl
theorem wi_171_39 : ri (rt_P sc fm) 171 39 (.bipush 39) (41) := ri_of (by decide +kernel) rfl
theorem wi_171_4 : ri (rt_P sc fm) 171 4 (.aload_n 0) (5) := ri_of (by decide +kernel) rfl
theorem wi_171_41 : ri (rt_P sc fm) 171 41 (.if_icmp .ne 8) (44) := ri_of (by decide +kernel) rfl
theorem wi_171_44 : ri (rt_P sc fm) 171 44 (.aload_n 0) (45) := ri_of (by decide +kernel) rfl
theorem wi_171_45 : ri (rt_P sc fm) 171 45 (.invokevirtual 70) (48) := ri_of (by decide +kernel) rfl
theorem wi_171_48 : ri (rt_P sc fm) 171 48 (.ireturn) (49) := ri_of (by decide +kernel) rfl
theorem wi_171_49 : ri (rt_P sc fm) 171 49 (.aload_n 0) (50) := ri_of (by decide +kernel) rfl
theorem wi_171_5 : ri (rt_P sc fm) 171 5 (.getfield 44) (8) := ri_of (by decide +kernel) rfl
theorem wi_171_50 : ri (rt_P sc fm) 171 50 (.getfield 15) (53) := ri_of (by decide +kernel) rfl
theorem wi_171_53 : ri (rt_P sc fm) 171 53 (.aload_n 0) (54) := ri_of (by decide +kernel) rfl
theorem wi_171_54 : ri (rt_P sc fm) 171 54 (.getfield 47) (57) := ri_of (by decide +kernel) rfl
theorem wi_171_57 : ri (rt_P sc fm) 171 57 (.iload_n 1) (58) := ri_of (by decide +kernel) rfl
theorem wi_171_58 : ri (rt_P sc fm) 171 58 (.iastore) (59) := ri_of (by decide +kernel) rfl
theorem wi_171_59 : ri (rt_P sc fm) 171 59 (.aload_n 0) (60) := ri_of (by decide +kernel) rfl
theorem wi_171_60 : ri (rt_P sc fm) 171 60 (.dup) (61) := ri_of (by decide +kernel) rfl
theorem wi_171_61 : ri (rt_P sc fm) 171 61 (.getfield 44) (64) := ri_of (by decide +kernel) rfl
theorem wi_171_64 : ri (rt_P sc fm) 171 64 (.iconst 1) (65) := ri_of (by decide +kernel) rfl
theorem wi_171_65 : ri (rt_P sc fm) 171 65 (.iadd) (66) := ri_of (by decide +kernel) rfl
theorem wi_171_66 : ri (rt_P sc fm) 171 66 (.putfield 44) (69) := ri_of (by decide +kernel) rfl
theorem wi_171_69 : ri (rt_P sc fm) 171 69 (.ldc 73) (71) := ri_of (by decide +kernel) rfl
theorem wi_171_71 : ri (rt_P sc fm) 171 71 (.iload_n 1) (72) := ri_of (by decide +kernel) rfl
theorem wi_171_72 : ri (rt_P sc fm) 171 72 (.i2c) (73) := ri_of (by decide +kernel) rfl
theorem wi_171_73 : ri (rt_P sc fm) 171 73 (.invokevirtual 75) (76) := ri_of (by decide +kernel) rfl
theorem wi_171_76 : ri (rt_P sc fm) 171 76 (.ifCond .lt 7) (79) := ri_of (by decide +kernel) rfl
theorem wi_171_79 : ri (rt_P sc fm) 171 79 (.iconst 1) (80) := ri_of (by decide +kernel) rfl
theorem wi_171_8 : ri (rt_P sc fm) 171 8 (.baload) (9) := ri_of (by decide +kernel) rfl
theorem wi_171_80 : ri (rt_P sc fm) 171 80 (.goto 4) (83) := ri_of (by decide +kernel) rfl
theorem wi_171_83 : ri (rt_P sc fm) 171 83 (.iconst 0) (84) := ri_of (by decide +kernel) rfl
theorem wi_171_84 : ri (rt_P sc fm) 171 84 (.ireturn) (85) := ri_of (by decide +kernel) rfl
theorem wi_171_9 : ri (rt_P sc fm) 171 9 (.sipush 255) (12) := ri_of (by decide +kernel) rfl
theorem wk_171_73 : rx_kt (rt_P sc fm) 171 73 = some (.ref (rx_K 39)) := (by decide +kernel : rt_kt 171 73 = some (.ref (rx_K 39)))
theorem wm_172 : rx_ml (rt_P sc fm) 172 = 4 := (by decide +kernel : rt_ml 172 = 4)
theorem wm_174 : rx_ml (rt_P sc fm) 174 = 4 := (by decide +kernel : rt_ml 174 = 4)
theorem wm_175 : rx_ml (rt_P sc fm) 175 = 5 := (by decide +kernel : rt_ml 175 = 5)
theorem wm_484 : rx_ml (rt_P sc fm) 484 = 2 := (by decide +kernel : rt_ml 484 = 2)
theorem wp_171_44 : rx_pt (rt_P sc fm) 171 44 = some (3, 7, .int) := (by decide +kernel : rt_pt 171 44 = some (3, 7, .int))
theorem wr_171 : rx_rt (rt_P sc fm) 171 = (some FieldType.boolean) := (by decide +kernel : rt_rt 171 = (some FieldType.boolean))
/-- MarkHouse$Cutter.cutOne()Z -/
def d_171 (n : Nat)  (c : cS) : Option (Int32 × cS) :=
  if ib (c.1 1 7) 4000 then
  lt (((c.1 2 (ix (c.1 1 7))) &&& 255) : Int32) (fun v3 =>
  Option.bind (d_352 n v3) (fun v5 =>
  if v5 = 0 then
    Option.bind (d_353 n v3) (fun v6 =>
    if v6 = 0 then
      if v3 = 39 then
        Option.bind (d_175 n c) (fun r15 =>
        if nb r15.1 then
        some (r15.1, r15.2)
        else none)
      else
        if ib (c.1 1 6) 4001 then
        lt (pI c 3 (ix (c.1 1 6)) v3) (fun c8 =>
        lt (pI c8 1 7 ((c8.1 1 7) + 1)) (fun c10 =>
        Option.bind (d_484 n 39 (((v3 : Int32).toUInt32 % 65536).toInt32)) (fun v12 =>
        jn (fun p13 : Int32 =>
          if nb p13 then
          some (p13, c10)
          else none)
        (fun j84 =>
        if v12 < 0 then
          j84 0
        else
          j84 1))))
        else none
    else
      Option.bind (d_174 n c) (fun r17 =>
      if nb r17.1 then
      some (r17.1, r17.2)
      else none))
  else
    Option.bind (d_172 n c) (fun r19 =>
    if nb r19.1 then
    some (r19.1, r19.2)
    else none)))
  else none
theorem sp_171 {F Lo n : Nat}  {c y : cS} {w : cW} {K : Int32 × cS → Prop} {Q : ((Option Value) ⊕ String) → List va_E → Prop} (hw : rOK fm w) (hF : 4 ≤ F) (hLo : 92 ≤ Lo)  (h : wp (d_171 n  c) K) (hQ : ∀ r, K r → Q (.inl (some (.int r.1))) (hq true r.2 y w)) : rs (rt_P sc fm) 171 F Lo 0 [(0, .ref 1)] [] (hq true c y w) Q := by
  unfold d_171 at h
  obtain ⟨lv, elv⟩ : ∃ lv : rx_L, lv = [(0, .ref 1)] := ⟨_, rfl⟩
  rw [← elv]
  have l0 : rx_ld lv 0 = some (.ref 1) := by rw [elv]; rfl
  refine rs_aldn wi_171_0 l0 ?_
  refine dq_gr wi_171_1 wf_171_9 tf_1_0 ?_
  refine rs_aldn wi_171_4 l0 ?_
  refine dq_gi wi_171_5 wf_171_44 tf_1_7 ?_
  obtain ⟨g1, h⟩ := wp_gd h
  refine dq_bald wi_171_8 t_2 g1 ?_
  refine rs_pure wi_171_9 rfl ?_
  refine rs_topi (v := 255) (by decide) ?_
  refine rs_pure wi_171_12 rfl ?_
  obtain ⟨v3, e4, h⟩ := wp_lt h
  refine rs_topi e4 ?_
  refine dl_istn wi_171_13 rfl (fun lv l1 t2 => ?_)
  have l0 := t2 _ _ (by decide) (Or.inl rfl) l0
  refine rs_ildn wi_171_14 l1 ?_
  refine rs_SN wi_171_15 wc_171_57 rfl (Nat.le_trans (by decide) hF) (ml_le wm_352 (Nat.le_trans (by decide) hLo)) rfl (sp_352 (Nat.le_trans (by decide : 0 ≤ 4 - 1) (Nat.sub_le_sub_right hF 1)) (ml_sub wm_352 (Nat.le_trans (by decide : 0 ≤ 92 - 20) (Nat.sub_le_sub_right hLo 20))) (wp_bind h) (fun v5 h => rs_back1 ?_))
  refine rs_ifeq (tg := 26) wi_171_18 ⟨by decide, by decide⟩ (fun q => ?_) (fun q => ?_)
  ·
    have h := wp_pos h q
    refine rs_ildn wi_171_26 l1 ?_
    refine rs_SN wi_171_27 wc_171_64 rfl (Nat.le_trans (by decide) hF) (ml_le wm_353 (Nat.le_trans (by decide) hLo)) rfl (sp_353 (Nat.le_trans (by decide : 0 ≤ 4 - 1) (Nat.sub_le_sub_right hF 1)) (ml_sub wm_353 (Nat.le_trans (by decide : 0 ≤ 92 - 20) (Nat.sub_le_sub_right hLo 20))) (wp_bind h) (fun v6 h => rs_back1 ?_))
    refine rs_ifeq (tg := 38) wi_171_30 ⟨by decide, by decide⟩ (fun q => ?_) (fun q => ?_)
    ·
      have h := wp_pos h q
      refine rs_ildn wi_171_38 l1 ?_
      refine rs_pure wi_171_39 rfl ?_
      refine rs_topi (v := 39) (by decide) ?_
      refine rs_icne (tg := 49) wi_171_41 ⟨by decide, by decide⟩ (fun q => ?_) (fun q => ?_)
      ·
        have h := wp_neg h q
        refine rs_aldn wi_171_49 l0 ?_
        refine dq_gr wi_171_50 wf_171_15 tf_1_2 ?_
        refine rs_aldn wi_171_53 l0 ?_
        refine dq_gi wi_171_54 wf_171_47 tf_1_6 ?_
        refine rs_ildn wi_171_57 l1 ?_
        obtain ⟨g7, h⟩ := wp_gd h
        obtain ⟨c8, e9, h⟩ := wp_lt h
        refine dq_iast wi_171_58 t_3 g7 e9 ?_
        refine rs_aldn wi_171_59 l0 ?_
        refine rs_pure wi_171_60 rfl ?_
        refine dq_gi wi_171_61 wf_171_44 tf_1_7 ?_
        refine rs_pure wi_171_64 rfl ?_
        refine rs_topi (v := 1) (by decide) ?_
        refine rs_pure wi_171_65 rfl ?_
        obtain ⟨c10, e11, h⟩ := wp_lt h
        refine dq_pi wi_171_66 wp_171_44 tf_1_7 rfl rfl e11 ?_
        refine rs_ldcS wi_171_69 wk_171_73 ?_
        refine rs_ildn wi_171_71 l1 ?_
        refine rs_pure wi_171_72 rfl ?_
        refine rs_V wi_171_73 wc_171_75 rfl (dq_isaS hq_len wsb_39 was_484) (Nat.le_trans (by decide) hF) (ml_le wm_484 (Nat.le_trans (by decide) hLo)) rfl (sp_484 hq_len hw.2.2.2 (Nat.le_trans (by decide : 3 ≤ 4 - 1) (Nat.sub_le_sub_right hF 1)) (ml_sub wm_484 (Nat.le_trans (by decide : 71 ≤ 92 - 21) (Nat.sub_le_sub_right hLo 21))) wsb_39 (wp_bind h) (fun v12 h => rs_back1 ?_))
        refine wp_jn (B := fun p13 : Int32 => ∀ lv, rs (rt_P sc fm) 171 F Lo 84 lv [.int p13] (hq true c10 y w) Q) h (fun p13 h lv => ?_) (fun j84 hj84 h => ?_)
        ·
          obtain ⟨g14, h⟩ := wp_gd h
          exact rs_iret wi_171_84 wr_171 (nb_n g14) (hQ (p13, c10) h)
        refine rs_iflt (tg := 83) wi_171_76 ⟨by decide, by decide⟩ (fun q => ?_) (fun q => ?_)
        ·
          have h := wp_pos h q
          refine rs_pure wi_171_83 rfl ?_
          refine rs_topi (v := 0) (by decide) ?_
          exact hj84 _ h _
        ·
          have h := wp_neg h q
          refine rs_pure wi_171_79 rfl ?_
          refine rs_topi (v := 1) (by decide) ?_
          refine rs_goto (tg := 84) wi_171_80 ⟨by decide, by decide⟩ ?_
          exact hj84 _ h _
      ·
        have h := wp_pos h q
        refine rs_aldn wi_171_44 l0 ?_
        refine rs_V wi_171_45 wc_171_70 rfl (dq_isa tf_1_0 wa_3_175) (Nat.le_trans (by decide) hF) (ml_le wm_175 (Nat.le_trans (by decide) hLo)) rfl (sp_175 hw (Nat.le_trans (by decide : 1 ≤ 4 - 1) (Nat.sub_le_sub_right hF 1)) (ml_sub wm_175 (Nat.le_trans (by decide : 20 ≤ 92 - 24) (Nat.sub_le_sub_right hLo 24))) (wp_bind h) (fun r15 h => rs_back1 ?_))
        obtain ⟨g16, h⟩ := wp_gd h
        exact rs_iret wi_171_48 wr_171 (nb_n g16) (hQ (r15.1, r15.2) h)
    ·
      have h := wp_neg h q
      refine rs_aldn wi_171_33 l0 ?_
      refine rs_V wi_171_34 wc_171_67 rfl (dq_isa tf_1_0 wa_3_174) (Nat.le_trans (by decide) hF) (ml_le wm_174 (Nat.le_trans (by decide) hLo)) rfl (sp_174 hw (Nat.le_trans (by decide : 1 ≤ 4 - 1) (Nat.sub_le_sub_right hF 1)) (ml_sub wm_174 (Nat.le_trans (by decide : 20 ≤ 92 - 23) (Nat.sub_le_sub_right hLo 23))) (wp_bind h) (fun r17 h => rs_back1 ?_))
      obtain ⟨g18, h⟩ := wp_gd h
      exact rs_iret wi_171_37 wr_171 (nb_n g18) (hQ (r17.1, r17.2) h)
  ·
    have h := wp_neg h q
    refine rs_aldn wi_171_21 l0 ?_
    refine rs_V wi_171_22 wc_171_61 rfl (dq_isa tf_1_0 wa_3_172) (Nat.le_trans (by decide) hF) (ml_le wm_172 (Nat.le_trans (by decide) hLo)) rfl (sp_172 hw (Nat.le_trans (by decide : 1 ≤ 4 - 1) (Nat.sub_le_sub_right hF 1)) (ml_sub wm_172 (Nat.le_trans (by decide : 23 ≤ 92 - 23) (Nat.sub_le_sub_right hLo 23))) (wp_bind h) (fun r19 h => rs_back1 ?_))
    obtain ⟨g20, h⟩ := wp_gd h
    exact rs_iret wi_171_25 wr_171 (nb_n g20) (hQ (r19.1, r19.2) h)
theorem t_4 : ta true 4 0 4001 := ⟨rfl, by decide, by decide⟩
theorem tf_1_3 : fo true 1 3 3 (.ref 4) := ⟨_, rfl, rfl, by decide, by decide⟩
theorem wa_3_171 : rz_cn 3 (rx_yn (rt_P sc fm) 171).cls = true := (by decide +kernel : rz_cn 3 (rt_yn 171).cls = true)
theorem wa_3_26 : rz_cn 3 (rx_yn (rt_P sc fm) 26).cls = true := (by decide +kernel : rz_cn 3 (rt_yn 26).cls = true)
theorem wc_25_50 : rx_ct (rt_P sc fm) 25 50 = some (0, 26, 0) := (by decide +kernel : rt_ct 25 50 = some (0, 26, 0))
theorem wc_25_53 : rx_ct (rt_P sc fm) 25 53 = some (0, 171, 0) := (by decide +kernel : rt_ct 25 53 = some (0, 171, 0))
theorem wf_25_15 : rx_ft (rt_P sc fm) 25 15 = some (3, 2) := (by decide +kernel : rt_ft 25 15 = some (3, 2))
theorem wf_25_19 : rx_ft (rt_P sc fm) 25 19 = some (3, 3) := (by decide +kernel : rt_ft 25 19 = some (3, 3))
theorem wf_25_41 : rx_ft (rt_P sc fm) 25 41 = some (3, 1) := (by decide +kernel : rt_ft 25 41 = some (3, 1))
theorem wf_25_44 : rx_ft (rt_P sc fm) 25 44 = some (3, 7) := (by decide +kernel : rt_ft 25 44 = some (3, 7))
theorem wf_25_47 : rx_ft (rt_P sc fm) 25 47 = some (3, 6) := (by decide +kernel : rt_ft 25 47 = some (3, 6))
theorem wi_25_0 : ri (rt_P sc fm) 25 0 (.aload_n 0) (1) := ri_of (by decide +kernel) rfl
theorem wi_25_1 : ri (rt_P sc fm) 25 1 (.iconst 0) (2) := ri_of (by decide +kernel) rfl
theorem wi_25_10 : ri (rt_P sc fm) 25 10 (.iconst 0) (11) := ri_of (by decide +kernel) rfl
theorem wi_25_11 : ri (rt_P sc fm) 25 11 (.istore_n 1) (12) := ri_of (by decide +kernel) rfl
theorem wi_25_12 : ri (rt_P sc fm) 25 12 (.iload_n 1) (13) := ri_of (by decide +kernel) rfl
theorem wi_25_13 : ri (rt_P sc fm) 25 13 (.sipush 4000) (16) := ri_of (by decide +kernel) rfl
theorem wi_25_16 : ri (rt_P sc fm) 25 16 (.if_icmp .gt 76) (19) := ri_of (by decide +kernel) rfl
theorem wi_25_19 : ri (rt_P sc fm) 25 19 (.aload_n 0) (20) := ri_of (by decide +kernel) rfl
theorem wi_25_2 : ri (rt_P sc fm) 25 2 (.putfield 44) (5) := ri_of (by decide +kernel) rfl
theorem wi_25_20 : ri (rt_P sc fm) 25 20 (.invokevirtual 50) (23) := ri_of (by decide +kernel) rfl
theorem wi_25_23 : ri (rt_P sc fm) 25 23 (.aload_n 0) (24) := ri_of (by decide +kernel) rfl
theorem wi_25_24 : ri (rt_P sc fm) 25 24 (.getfield 19) (27) := ri_of (by decide +kernel) rfl
theorem wi_25_27 : ri (rt_P sc fm) 25 27 (.aload_n 0) (28) := ri_of (by decide +kernel) rfl
theorem wi_25_28 : ri (rt_P sc fm) 25 28 (.getfield 47) (31) := ri_of (by decide +kernel) rfl
theorem wi_25_31 : ri (rt_P sc fm) 25 31 (.aload_n 0) (32) := ri_of (by decide +kernel) rfl
theorem wi_25_32 : ri (rt_P sc fm) 25 32 (.getfield 44) (35) := ri_of (by decide +kernel) rfl
theorem wi_25_35 : ri (rt_P sc fm) 25 35 (.iastore) (36) := ri_of (by decide +kernel) rfl
theorem wi_25_36 : ri (rt_P sc fm) 25 36 (.aload_n 0) (37) := ri_of (by decide +kernel) rfl
theorem wi_25_37 : ri (rt_P sc fm) 25 37 (.getfield 44) (40) := ri_of (by decide +kernel) rfl
theorem wi_25_40 : ri (rt_P sc fm) 25 40 (.aload_n 0) (41) := ri_of (by decide +kernel) rfl
theorem wi_25_41 : ri (rt_P sc fm) 25 41 (.getfield 41) (44) := ri_of (by decide +kernel) rfl
theorem wi_25_44 : ri (rt_P sc fm) 25 44 (.if_icmp .lt 15) (47) := ri_of (by decide +kernel) rfl
theorem wi_25_47 : ri (rt_P sc fm) 25 47 (.aload_n 0) (48) := ri_of (by decide +kernel) rfl
theorem wi_25_48 : ri (rt_P sc fm) 25 48 (.getfield 15) (51) := ri_of (by decide +kernel) rfl
theorem wi_25_5 : ri (rt_P sc fm) 25 5 (.aload_n 0) (6) := ri_of (by decide +kernel) rfl
theorem wi_25_51 : ri (rt_P sc fm) 25 51 (.aload_n 0) (52) := ri_of (by decide +kernel) rfl
theorem wi_25_52 : ri (rt_P sc fm) 25 52 (.getfield 47) (55) := ri_of (by decide +kernel) rfl
theorem wi_25_55 : ri (rt_P sc fm) 25 55 (.iconst 0) (56) := ri_of (by decide +kernel) rfl
theorem wi_25_56 : ri (rt_P sc fm) 25 56 (.iastore) (57) := ri_of (by decide +kernel) rfl
theorem wi_25_57 : ri (rt_P sc fm) 25 57 (.iconst (-1)) (58) := ri_of (by decide +kernel) rfl
theorem wi_25_58 : ri (rt_P sc fm) 25 58 (.ireturn) (59) := ri_of (by decide +kernel) rfl
theorem wi_25_59 : ri (rt_P sc fm) 25 59 (.aload_n 0) (60) := ri_of (by decide +kernel) rfl
theorem wi_25_6 : ri (rt_P sc fm) 25 6 (.iconst 0) (7) := ri_of (by decide +kernel) rfl
theorem wi_25_60 : ri (rt_P sc fm) 25 60 (.invokevirtual 53) (63) := ri_of (by decide +kernel) rfl
theorem wi_25_63 : ri (rt_P sc fm) 25 63 (.ifCond .ne 13) (66) := ri_of (by decide +kernel) rfl
theorem wi_25_66 : ri (rt_P sc fm) 25 66 (.aload_n 0) (67) := ri_of (by decide +kernel) rfl
theorem wi_25_67 : ri (rt_P sc fm) 25 67 (.getfield 19) (70) := ri_of (by decide +kernel) rfl
theorem wi_25_7 : ri (rt_P sc fm) 25 7 (.putfield 47) (10) := ri_of (by decide +kernel) rfl
theorem wi_25_70 : ri (rt_P sc fm) 25 70 (.aload_n 0) (71) := ri_of (by decide +kernel) rfl
theorem wi_25_71 : ri (rt_P sc fm) 25 71 (.getfield 47) (74) := ri_of (by decide +kernel) rfl
theorem wi_25_74 : ri (rt_P sc fm) 25 74 (.iaload) (75) := ri_of (by decide +kernel) rfl
theorem wi_25_75 : ri (rt_P sc fm) 25 75 (.ireturn) (76) := ri_of (by decide +kernel) rfl
theorem wi_25_76 : ri (rt_P sc fm) 25 76 (.aload_n 0) (77) := ri_of (by decide +kernel) rfl
theorem wi_25_77 : ri (rt_P sc fm) 25 77 (.dup) (78) := ri_of (by decide +kernel) rfl
theorem wi_25_78 : ri (rt_P sc fm) 25 78 (.getfield 47) (81) := ri_of (by decide +kernel) rfl
theorem wi_25_81 : ri (rt_P sc fm) 25 81 (.iconst 1) (82) := ri_of (by decide +kernel) rfl
theorem wi_25_82 : ri (rt_P sc fm) 25 82 (.iadd) (83) := ri_of (by decide +kernel) rfl
theorem wi_25_83 : ri (rt_P sc fm) 25 83 (.putfield 47) (86) := ri_of (by decide +kernel) rfl
theorem wi_25_86 : ri (rt_P sc fm) 25 86 (.iinc 1 1) (89) := ri_of (by decide +kernel) rfl
theorem wi_25_89 : ri (rt_P sc fm) 25 89 (.goto (-77)) (92) := ri_of (by decide +kernel) rfl
theorem wi_25_92 : ri (rt_P sc fm) 25 92 (.iconst (-1)) (93) := ri_of (by decide +kernel) rfl
theorem wi_25_93 : ri (rt_P sc fm) 25 93 (.ireturn) (94) := ri_of (by decide +kernel) rfl
theorem wm_171 : rx_ml (rt_P sc fm) 171 = 2 := (by decide +kernel : rt_ml 171 = 2)
theorem wm_26 : rx_ml (rt_P sc fm) 26 = 1 := (by decide +kernel : rt_ml 26 = 1)
theorem wp_25_44 : rx_pt (rt_P sc fm) 25 44 = some (3, 7, .int) := (by decide +kernel : rt_pt 25 44 = some (3, 7, .int))
theorem wp_25_47 : rx_pt (rt_P sc fm) 25 47 = some (3, 6, .int) := (by decide +kernel : rt_pt 25 47 = some (3, 6, .int))
theorem wr_25 : rx_rt (rt_P sc fm) 25 = (some FieldType.int) := (by decide +kernel : rt_rt 25 = (some FieldType.int))
/-- MarkHouse$Cutter.cutAll()I -/
def d_25 (n : Nat)  (c : cS) : Option (Int32 × cS) :=
  lt (pI c 1 7 0) (fun c1 =>
  lt (pI c1 1 6 0) (fun c3 =>
  Option.bind (whl (R := (cS) ⊕ (cS) ⊕ (cS)) (fun s6 : Int32 × cS =>
    if 4000 < s6.1 then
      some (.inr (.inl s6.2))
    else
      Option.bind (d_26 n s6.2) (fun r7 =>
      if ib (r7.1 1 6) 4001 then
      lt (pI r7 4 (ix (r7.1 1 6)) (r7.1 1 7)) (fun c9 =>
      if (c9.1 1 7) < (c9.1 1 1) then
        Option.bind (d_171 n c9) (fun r11 =>
        if r11.1 = 0 then
          some (.inr (.inr (.inr r11.2)))
        else
          lt (pI r11.2 1 6 ((r11.2.1 1 6) + 1)) (fun c12 =>
          lt (s6.1 + 1 : Int32) (fun v15 =>
          some (.inl (v15, c12)))))
      else
        some (.inr (.inr (.inl c9))))
      else none)) n (0, c3))
  (Sum.elim (fun x17 : cS =>
    some ((-1), x17))
  (Sum.elim (fun x18 : cS =>
    if ib (x18.1 1 6) 4001 then
    lt (pI x18 3 (ix (x18.1 1 6)) 0) (fun c20 =>
    some ((-1), c20))
    else none)
  (fun x22 : cS =>
    if ib (x22.1 1 6) 4001 then
    some ((x22.1 4 (ix (x22.1 1 6))), x22)
    else none)))))
theorem sp_25 {F Lo n : Nat}  {c y : cS} {w : cW} {K : Int32 × cS → Prop} {Q : ((Option Value) ⊕ String) → List va_E → Prop} (hw : rOK fm w) (hF : 5 ≤ F) (hLo : 113 ≤ Lo)  (h : wp (d_25 n  c) K) (hQ : ∀ r, K r → Q (.inl (some (.int r.1))) (hq true r.2 y w)) : rs (rt_P sc fm) 25 F Lo 0 [(0, .ref 1)] [] (hq true c y w) Q := by
  unfold d_25 at h
  obtain ⟨lv, elv⟩ : ∃ lv : rx_L, lv = [(0, .ref 1)] := ⟨_, rfl⟩
  rw [← elv]
  have l0 : rx_ld lv 0 = some (.ref 1) := by rw [elv]; rfl
  refine rs_aldn wi_25_0 l0 ?_
  refine rs_pure wi_25_1 rfl ?_
  refine rs_topi (v := 0) (by decide) ?_
  obtain ⟨c1, e2, h⟩ := wp_lt h
  refine dq_pi wi_25_2 wp_25_44 tf_1_7 rfl rfl e2 ?_
  refine rs_aldn wi_25_5 l0 ?_
  refine rs_pure wi_25_6 rfl ?_
  refine rs_topi (v := 0) (by decide) ?_
  obtain ⟨c3, e4, h⟩ := wp_lt h
  refine dq_pi wi_25_7 wp_25_47 tf_1_6 rfl rfl e4 ?_
  refine rs_pure wi_25_10 rfl ?_
  refine rs_topi (v := 0) (by decide) ?_
  refine dl_istn wi_25_11 rfl (fun lv l1 t5 => ?_)
  have l0 := t5 _ _ (by decide) (Or.inl rfl) l0
  refine whl_ex (A := fun s6 : Int32 × cS => ∀ lv, rx_ld lv 0 = some (.ref 1) → rx_ld lv 1 = some (.int s6.1) → rs (rt_P sc fm) 25 F Lo 12 lv [] (hq true s6.2 y w) Q) (B := (Sum.elim (fun x17 : cS => ∀ lv, rs (rt_P sc fm) 25 F Lo 92 lv [] (hq true x17 y w) Q) (Sum.elim (fun x18 : cS => ∀ lv, rx_ld lv 0 = some (.ref 1) → rs (rt_P sc fm) 25 F Lo 47 lv [] (hq true x18 y w) Q) (fun x22 : cS => ∀ lv, rx_ld lv 0 = some (.ref 1) → rs (rt_P sc fm) 25 F Lo 66 lv [] (hq true x22 y w) Q)))) ?_ ?_ _ _ (wp_bind h) _ l0 l1
  · intro s6 h lv l0 l1
    refine rs_ildn wi_25_12 l1 ?_
    refine rs_pure wi_25_13 rfl ?_
    refine rs_topi (v := 4000) (by decide) ?_
    refine rs_icgt (tg := 92) wi_25_16 ⟨by decide, by decide⟩ (fun q => ?_) (fun q => ?_)
    ·
      have h := wp_pos h q
      exact h _
    ·
      have h := wp_neg h q
      refine rs_aldn wi_25_19 l0 ?_
      refine rs_V wi_25_20 wc_25_50 rfl (dq_isa tf_1_0 wa_3_26) (Nat.le_trans (by decide) hF) (ml_le wm_26 (Nat.le_trans (by decide) hLo)) rfl (sp_26 hw (Nat.le_trans (by decide : 0 ≤ 5 - 1) (Nat.sub_le_sub_right hF 1)) (ml_sub wm_26 (Nat.le_trans (by decide : 0 ≤ 113 - 20) (Nat.sub_le_sub_right hLo 20))) (wp_bind h) (fun r7 h => rs_back0 ?_))
      refine rs_aldn wi_25_23 l0 ?_
      refine dq_gr wi_25_24 wf_25_19 tf_1_3 ?_
      refine rs_aldn wi_25_27 l0 ?_
      refine dq_gi wi_25_28 wf_25_47 tf_1_6 ?_
      refine rs_aldn wi_25_31 l0 ?_
      refine dq_gi wi_25_32 wf_25_44 tf_1_7 ?_
      obtain ⟨g8, h⟩ := wp_gd h
      obtain ⟨c9, e10, h⟩ := wp_lt h
      refine dq_iast wi_25_35 t_4 g8 e10 ?_
      refine rs_aldn wi_25_36 l0 ?_
      refine dq_gi wi_25_37 wf_25_44 tf_1_7 ?_
      refine rs_aldn wi_25_40 l0 ?_
      refine dq_gi wi_25_41 wf_25_41 tf_1_1 ?_
      refine rs_iclt (tg := 59) wi_25_44 ⟨by decide, by decide⟩ (fun q => ?_) (fun q => ?_)
      ·
        have h := wp_pos h q
        refine rs_aldn wi_25_59 l0 ?_
        refine rs_V wi_25_60 wc_25_53 rfl (dq_isa tf_1_0 wa_3_171) (Nat.le_trans (by decide) hF) (ml_le wm_171 (Nat.le_trans (by decide) hLo)) rfl (sp_171 hw (Nat.le_trans (by decide : 4 ≤ 5 - 1) (Nat.sub_le_sub_right hF 1)) (ml_sub wm_171 (Nat.le_trans (by decide : 92 ≤ 113 - 21) (Nat.sub_le_sub_right hLo 21))) (wp_bind h) (fun r11 h => rs_back1 ?_))
        refine rs_ifne (tg := 76) wi_25_63 ⟨by decide, by decide⟩ (fun q => ?_) (fun q => ?_)
        ·
          have h := wp_neg h q
          refine rs_aldn wi_25_76 l0 ?_
          refine rs_pure wi_25_77 rfl ?_
          refine dq_gi wi_25_78 wf_25_47 tf_1_6 ?_
          refine rs_pure wi_25_81 rfl ?_
          refine rs_topi (v := 1) (by decide) ?_
          refine rs_pure wi_25_82 rfl ?_
          obtain ⟨c12, e13, h⟩ := wp_lt h
          refine dq_pi wi_25_83 wp_25_47 tf_1_6 rfl rfl e13 ?_
          obtain ⟨v15, e16, h⟩ := wp_lt h
          refine dl_inc wi_25_86 l1 rfl e16 (fun lv l1 t14 => ?_)
          have l0 := t14 _ _ (by decide) (Or.inl rfl) l0
          refine rs_goto (tg := 12) wi_25_89 ⟨by decide, by decide⟩ ?_
          exact h _ l0 l1
        ·
          have h := wp_pos h q
          exact h _ l0
      ·
        have h := wp_neg h q
        exact h _ l0
  ·
    refine sum_all ?_ ?_
    ·
      intro x17 h lv
      have h := wp_inl h
      refine rs_pure wi_25_92 rfl ?_
      refine rs_topi (v := (-1)) (by decide) ?_
      exact rs_iret wi_25_93 wr_25 rfl (hQ ((-1), x17) h)
    refine sum_all ?_ ?_
    ·
      intro x18 h lv l0
      have h := wp_inr h
      have h := wp_inl h
      refine rs_aldn wi_25_47 l0 ?_
      refine dq_gr wi_25_48 wf_25_15 tf_1_2 ?_
      refine rs_aldn wi_25_51 l0 ?_
      refine dq_gi wi_25_52 wf_25_47 tf_1_6 ?_
      refine rs_pure wi_25_55 rfl ?_
      refine rs_topi (v := 0) (by decide) ?_
      obtain ⟨g19, h⟩ := wp_gd h
      obtain ⟨c20, e21, h⟩ := wp_lt h
      refine dq_iast wi_25_56 t_3 g19 e21 ?_
      refine rs_pure wi_25_57 rfl ?_
      refine rs_topi (v := (-1)) (by decide) ?_
      exact rs_iret wi_25_58 wr_25 rfl (hQ ((-1), c20) h)
    ·
      intro x22 h lv l0
      have h := wp_inr h
      have h := wp_inr h
      refine rs_aldn wi_25_66 l0 ?_
      refine dq_gr wi_25_67 wf_25_19 tf_1_3 ?_
      refine rs_aldn wi_25_70 l0 ?_
      refine dq_gi wi_25_71 wf_25_47 tf_1_6 ?_
      obtain ⟨g23, h⟩ := wp_gd h
      refine dq_iald wi_25_74 t_4 g23 ?_
      exact rs_iret wi_25_75 wr_25 rfl (hQ ((x22.1 4 (ix (x22.1 1 6))), x22) h)
theorem tf_150_16 : fo true 150 5 16 (.int 0) := ⟨_, rfl, rfl, by decide, by decide⟩
theorem tf_150_3 : fo true 150 5 3 (.int (-1)) := ⟨_, rfl, rfl, by decide, by decide⟩
theorem tf_150_6 : fo true 150 5 6 (.int 0) := ⟨_, rfl, rfl, by decide, by decide⟩
theorem wi_29_0 : ri (rt_P sc fm) 29 0 (.aload_n 0) (1) := ri_of (by decide +kernel) rfl
theorem wi_29_1 : ri (rt_P sc fm) 29 1 (.iconst (-1)) (2) := ri_of (by decide +kernel) rfl
theorem wi_29_10 : ri (rt_P sc fm) 29 10 (.aload_n 0) (11) := ri_of (by decide +kernel) rfl
theorem wi_29_11 : ri (rt_P sc fm) 29 11 (.iconst 0) (12) := ri_of (by decide +kernel) rfl
theorem wi_29_12 : ri (rt_P sc fm) 29 12 (.putfield 56) (15) := ri_of (by decide +kernel) rfl
theorem wi_29_15 : ri (rt_P sc fm) 29 15 (.return_) (16) := ri_of (by decide +kernel) rfl
theorem wi_29_2 : ri (rt_P sc fm) 29 2 (.putfield 9) (5) := ri_of (by decide +kernel) rfl
theorem wi_29_5 : ri (rt_P sc fm) 29 5 (.aload_n 0) (6) := ri_of (by decide +kernel) rfl
theorem wi_29_6 : ri (rt_P sc fm) 29 6 (.iconst 0) (7) := ri_of (by decide +kernel) rfl
theorem wi_29_7 : ri (rt_P sc fm) 29 7 (.putfield 53) (10) := ri_of (by decide +kernel) rfl
theorem wp_29_53 : rx_pt (rt_P sc fm) 29 53 = some (5, 6, .int) := (by decide +kernel : rt_pt 29 53 = some (5, 6, .int))
theorem wp_29_56 : rx_pt (rt_P sc fm) 29 56 = some (5, 16, .int) := (by decide +kernel : rt_pt 29 56 = some (5, 16, .int))
theorem wp_29_9 : rx_pt (rt_P sc fm) 29 9 = some (5, 3, .int) := (by decide +kernel : rt_pt 29 9 = some (5, 3, .int))
theorem wr_29 : rx_rt (rt_P sc fm) 29 = none := (by decide +kernel : rt_rt 29 = none)
/-- MarkHouse$Flow.forget()V -/
def d_29 (n : Nat)  (c : cS) : Option (cS) :=
  lt (pI c 150 3 (-1)) (fun c1 =>
  lt (pI c1 150 6 0) (fun c3 =>
  lt (pI c3 150 16 0) (fun c5 =>
  some c5)))
theorem sp_29 {F Lo n : Nat}  {c y : cS} {w : cW} {K : cS → Prop} {Q : ((Option Value) ⊕ String) → List va_E → Prop} (hw : rOK fm w) (hF : 0 ≤ F) (hLo : 0 ≤ Lo)  (h : wp (d_29 n  c) K) (hQ : ∀ r, K r → Q (.inl none) (hq true r y w)) : rs (rt_P sc fm) 29 F Lo 0 [(0, .ref 150)] [] (hq true c y w) Q := by
  unfold d_29 at h
  obtain ⟨lv, elv⟩ : ∃ lv : rx_L, lv = [(0, .ref 150)] := ⟨_, rfl⟩
  rw [← elv]
  have l0 : rx_ld lv 0 = some (.ref 150) := by rw [elv]; rfl
  refine rs_aldn wi_29_0 l0 ?_
  refine rs_pure wi_29_1 rfl ?_
  refine rs_topi (v := (-1)) (by decide) ?_
  obtain ⟨c1, e2, h⟩ := wp_lt h
  refine dq_pi wi_29_2 wp_29_9 tf_150_3 rfl rfl e2 ?_
  refine rs_aldn wi_29_5 l0 ?_
  refine rs_pure wi_29_6 rfl ?_
  refine rs_topi (v := 0) (by decide) ?_
  obtain ⟨c3, e4, h⟩ := wp_lt h
  refine dq_pi wi_29_7 wp_29_53 tf_150_6 rfl rfl e4 ?_
  refine rs_aldn wi_29_10 l0 ?_
  refine rs_pure wi_29_11 rfl ?_
  refine rs_topi (v := 0) (by decide) ?_
  obtain ⟨c5, e6, h⟩ := wp_lt h
  refine dq_pi wi_29_12 wp_29_56 tf_150_16 rfl rfl e6 ?_
  exact rs_vret wi_29_15 wr_29 (hQ c5 h)
theorem wf_30_53 : rx_ft (rt_P sc fm) 30 53 = some (5, 6) := (by decide +kernel : rt_ft 30 53 = some (5, 6))
theorem wf_30_9 : rx_ft (rt_P sc fm) 30 9 = some (5, 3) := (by decide +kernel : rt_ft 30 9 = some (5, 3))
theorem wi_30_0 : ri (rt_P sc fm) 30 0 (.aload_n 0) (1) := ri_of (by decide +kernel) rfl
theorem wi_30_1 : ri (rt_P sc fm) 30 1 (.getfield 9) (4) := ri_of (by decide +kernel) rfl
theorem wi_30_11 : ri (rt_P sc fm) 30 11 (.iload_n 1) (12) := ri_of (by decide +kernel) rfl
theorem wi_30_12 : ri (rt_P sc fm) 30 12 (.aload_n 0) (13) := ri_of (by decide +kernel) rfl
theorem wi_30_13 : ri (rt_P sc fm) 30 13 (.getfield 53) (16) := ri_of (by decide +kernel) rfl
theorem wi_30_16 : ri (rt_P sc fm) 30 16 (.if_icmp .ge 7) (19) := ri_of (by decide +kernel) rfl
theorem wi_30_19 : ri (rt_P sc fm) 30 19 (.iconst 1) (20) := ri_of (by decide +kernel) rfl
theorem wi_30_20 : ri (rt_P sc fm) 30 20 (.goto 4) (23) := ri_of (by decide +kernel) rfl
theorem wi_30_23 : ri (rt_P sc fm) 30 23 (.iconst 0) (24) := ri_of (by decide +kernel) rfl
theorem wi_30_24 : ri (rt_P sc fm) 30 24 (.ireturn) (25) := ri_of (by decide +kernel) rfl
theorem wi_30_4 : ri (rt_P sc fm) 30 4 (.ifCond .lt 19) (7) := ri_of (by decide +kernel) rfl
theorem wi_30_7 : ri (rt_P sc fm) 30 7 (.iload_n 1) (8) := ri_of (by decide +kernel) rfl
theorem wi_30_8 : ri (rt_P sc fm) 30 8 (.ifCond .lt 15) (11) := ri_of (by decide +kernel) rfl
theorem wr_30 : rx_rt (rt_P sc fm) 30 = (some FieldType.boolean) := (by decide +kernel : rt_rt 30 = (some FieldType.boolean))
/-- MarkHouse$Flow.isError(I)Z -/
def d_30 (n : Nat) (a1 : Int32) (c : cS) : Option (Int32) :=
  jn (fun p1 : Int32 =>
    if nb p1 then
    some p1
    else none)
  (fun j24 =>
  jn (fun p3 : Unit =>
    j24 0)
  (fun j23 =>
  if (c.1 150 3) < 0 then
    j23 ()
  else
    if a1 < 0 then
      j23 ()
    else
      if (c.1 150 6) ≤ a1 then
        j23 ()
      else
        j24 1))
theorem sp_30 {F Lo n : Nat} {a1 : Int32} {c y : cS} {w : cW} {K : Int32 → Prop} {Q : ((Option Value) ⊕ String) → List va_E → Prop} (hw : rOK fm w) (hF : 0 ≤ F) (hLo : 0 ≤ Lo)  (h : wp (d_30 n a1 c) K) (hQ : ∀ r, K r → Q (.inl (some (.int r))) (hq true c y w)) : rs (rt_P sc fm) 30 F Lo 0 [(0, .ref 150), (1, .int a1)] [] (hq true c y w) Q := by
  unfold d_30 at h
  obtain ⟨lv, elv⟩ : ∃ lv : rx_L, lv = [(0, .ref 150), (1, .int a1)] := ⟨_, rfl⟩
  rw [← elv]
  have l0 : rx_ld lv 0 = some (.ref 150) := by rw [elv]; rfl
  have l1 : rx_ld lv 1 = some (.int a1) := by rw [elv]; rfl
  refine rs_aldn wi_30_0 l0 ?_
  refine dq_gi wi_30_1 wf_30_9 tf_150_3 ?_
  refine wp_jn (B := fun p1 : Int32 => ∀ lv, rs (rt_P sc fm) 30 F Lo 24 lv [.int p1] (hq true c y w) Q) h (fun p1 h lv => ?_) (fun j24 hj24 h => ?_)
  ·
    obtain ⟨g2, h⟩ := wp_gd h
    exact rs_iret wi_30_24 wr_30 (nb_n g2) (hQ p1 h)
  refine wp_jn (B := fun p3 : Unit => ∀ lv, rs (rt_P sc fm) 30 F Lo 23 lv [] (hq true c y w) Q) h (fun p3 h lv => ?_) (fun j23 hj23 h => ?_)
  ·
    refine rs_pure wi_30_23 rfl ?_
    refine rs_topi (v := 0) (by decide) ?_
    exact hj24 _ h _
  refine rs_iflt (tg := 23) wi_30_4 ⟨by decide, by decide⟩ (fun q => ?_) (fun q => ?_)
  ·
    have h := wp_pos h q
    exact hj23 _ h _
  ·
    have h := wp_neg h q
    refine rs_ildn wi_30_7 l1 ?_
    refine rs_iflt (tg := 23) wi_30_8 ⟨by decide, by decide⟩ (fun q => ?_) (fun q => ?_)
    ·
      have h := wp_pos h q
      exact hj23 _ h _
    ·
      have h := wp_neg h q
      refine rs_ildn wi_30_11 l1 ?_
      refine rs_aldn wi_30_12 l0 ?_
      refine dq_gi wi_30_13 wf_30_53 tf_150_6 ?_
      refine rs_icge (tg := 23) wi_30_16 ⟨by decide, by decide⟩ (fun q => ?_) (fun q => ?_)
      ·
        have h := wp_pos h q
        exact hj23 _ h _
      ·
        have h := wp_neg h q
        refine rs_pure wi_30_19 rfl ?_
        refine rs_topi (v := 1) (by decide) ?_
        refine rs_goto (tg := 24) wi_30_20 ⟨by decide, by decide⟩ ?_
        exact hj24 _ h _
theorem wi_153_0 : ri (rt_P sc fm) 153 0 (.iconst 0) (1) := ri_of (by decide +kernel) rfl
theorem wi_153_1 : ri (rt_P sc fm) 153 1 (.istore_n 2) (2) := ri_of (by decide +kernel) rfl
theorem wi_153_10 : ri (rt_P sc fm) 153 10 (.aload_n 0) (11) := ri_of (by decide +kernel) rfl
theorem wi_153_11 : ri (rt_P sc fm) 153 11 (.iload_n 2) (12) := ri_of (by decide +kernel) rfl
theorem wi_153_12 : ri (rt_P sc fm) 153 12 (.iload_n 1) (13) := ri_of (by decide +kernel) rfl
theorem wi_153_13 : ri (rt_P sc fm) 153 13 (.iastore) (14) := ri_of (by decide +kernel) rfl
theorem wi_153_14 : ri (rt_P sc fm) 153 14 (.iinc 2 1) (17) := ri_of (by decide +kernel) rfl
theorem wi_153_17 : ri (rt_P sc fm) 153 17 (.goto (-12)) (20) := ri_of (by decide +kernel) rfl
theorem wi_153_2 : ri (rt_P sc fm) 153 2 (.aload_n 0) (3) := ri_of (by decide +kernel) rfl
theorem wi_153_20 : ri (rt_P sc fm) 153 20 (.return_) (21) := ri_of (by decide +kernel) rfl
theorem wi_153_3 : ri (rt_P sc fm) 153 3 (.arraylength) (4) := ri_of (by decide +kernel) rfl
theorem wi_153_4 : ri (rt_P sc fm) 153 4 (.istore_n 3) (5) := ri_of (by decide +kernel) rfl
theorem wi_153_5 : ri (rt_P sc fm) 153 5 (.iload_n 2) (6) := ri_of (by decide +kernel) rfl
theorem wi_153_6 : ri (rt_P sc fm) 153 6 (.iload_n 3) (7) := ri_of (by decide +kernel) rfl
theorem wi_153_7 : ri (rt_P sc fm) 153 7 (.if_icmp .ge 13) (10) := ri_of (by decide +kernel) rfl
theorem wr_153 : rx_rt (rt_P sc fm) 153 = none := (by decide +kernel : rt_rt 153 = none)
/-- java/util/Arrays.fill([II)V -/
def d_153 (n : Nat) (r0 : Nat) (nr0 : Nat) (a1 : Int32) (c : cS) : Option (cS) :=
  lt ((Int32.ofNat nr0) : Int32) (fun v3 =>
  Option.bind (whl (R := (cS)) (fun s5 : Int32 × cS =>
    if v3 ≤ s5.1 then
      some (.inr s5.2)
    else
      if ib s5.1 nr0 then
      lt (pI s5.2 r0 (ix s5.1) a1) (fun c7 =>
      lt (s5.1 + 1 : Int32) (fun v10 =>
      some (.inl (v10, c7))))
      else none) n (0, c))
  (fun x12 : cS =>
    some x12))
theorem sp_153 {F Lo n : Nat} {r0 : Nat} {nr0 : Nat} {a1 : Int32} {b : Bool} {c y : cS} {w : cW} {K : cS → Prop} {Q : ((Option Value) ⊕ String) → List va_E → Prop} (hw : rOK fm w) (hF : 0 ≤ F) (hLo : 0 ≤ Lo) (hr0 : ta b r0 0 nr0) (h : wp (d_153 n r0 nr0 a1 c) K) (hQ : ∀ r, K r → Q (.inl none) (hq b r y w)) : rs (rt_P sc fm) 153 F Lo 0 [(0, .ref r0), (1, .int a1)] [] (hq b c y w) Q := by
  unfold d_153 at h
  obtain ⟨lv, elv⟩ : ∃ lv : rx_L, lv = [(0, .ref r0), (1, .int a1)] := ⟨_, rfl⟩
  rw [← elv]
  have l0 : rx_ld lv 0 = some (.ref r0) := by rw [elv]; rfl
  have l1 : rx_ld lv 1 = some (.int a1) := by rw [elv]; rfl
  refine rs_pure wi_153_0 rfl ?_
  refine rs_topi (v := 0) (by decide) ?_
  refine dl_istn wi_153_1 rfl (fun lv l2 t1 => ?_)
  have l0 := t1 _ _ (by decide) (Or.inl rfl) l0
  have l1 := t1 _ _ (by decide) (Or.inl rfl) l1
  refine rs_aldn wi_153_2 l0 ?_
  refine dq_alen wi_153_3 (by decide) hr0 ?_
  obtain ⟨v3, e4, h⟩ := wp_lt h
  refine rs_topi e4 ?_
  refine dl_istn wi_153_4 rfl (fun lv l3 t2 => ?_)
  have l0 := t2 _ _ (by decide) (Or.inl rfl) l0
  have l1 := t2 _ _ (by decide) (Or.inl rfl) l1
  have l2 := t2 _ _ (by decide) (Or.inl rfl) l2
  refine whl_ex (A := fun s5 : Int32 × cS => ∀ lv, rx_ld lv 0 = some (.ref r0) → rx_ld lv 1 = some (.int a1) → rx_ld lv 2 = some (.int s5.1) → rx_ld lv 3 = some (.int v3) → rs (rt_P sc fm) 153 F Lo 5 lv [] (hq b s5.2 y w) Q) (B := (fun x12 : cS => ∀ lv, rs (rt_P sc fm) 153 F Lo 20 lv [] (hq b x12 y w) Q)) ?_ ?_ _ _ (wp_bind h) _ l0 l1 l2 l3
  · intro s5 h lv l0 l1 l2 l3
    refine rs_ildn wi_153_5 l2 ?_
    refine rs_ildn wi_153_6 l3 ?_
    refine rs_icge (tg := 20) wi_153_7 ⟨by decide, by decide⟩ (fun q => ?_) (fun q => ?_)
    ·
      have h := wp_pos h q
      exact h _
    ·
      have h := wp_neg h q
      refine rs_aldn wi_153_10 l0 ?_
      refine rs_ildn wi_153_11 l2 ?_
      refine rs_ildn wi_153_12 l1 ?_
      obtain ⟨g6, h⟩ := wp_gd h
      obtain ⟨c7, e8, h⟩ := wp_lt h
      refine dq_iast wi_153_13 hr0 g6 e8 ?_
      obtain ⟨v10, e11, h⟩ := wp_lt h
      refine dl_inc wi_153_14 l2 rfl e11 (fun lv l2 t9 => ?_)
      have l0 := t9 _ _ (by decide) (Or.inl rfl) l0
      have l1 := t9 _ _ (by decide) (Or.inl rfl) l1
      have l3 := t9 _ _ (by decide) (Or.inl rfl) l3
      refine rs_goto (tg := 5) wi_153_17 ⟨by decide, by decide⟩ ?_
      exact h _ l0 l1 l2 l3
  ·
    intro x12 h lv
    exact rs_vret wi_153_20 wr_153 (hQ x12 h)
theorem t_144 : ta true 144 0 2242 := ⟨rfl, by decide, by decide⟩
theorem tf_133_10 : fo true 133 7 10 (.ref 144) := ⟨_, rfl, rfl, by decide, by decide⟩
theorem tf_133_11 : fo true 133 7 11 (.int 0) := ⟨_, rfl, rfl, by decide, by decide⟩
theorem tf_133_12 : fo true 133 7 12 (.int (-1)) := ⟨_, rfl, rfl, by decide, by decide⟩
theorem tf_133_13 : fo true 133 7 13 (.int 0) := ⟨_, rfl, rfl, by decide, by decide⟩
theorem wc_33_58 : rx_ct (rt_P sc fm) 33 58 = some (1, 153, 2) := (by decide +kernel : rt_ct 33 58 = some (1, 153, 2))
theorem wf_33_45 : rx_ft (rt_P sc fm) 33 45 = some (7, 10) := (by decide +kernel : rt_ft 33 45 = some (7, 10))
theorem wi_33_0 : ri (rt_P sc fm) 33 0 (.aload_n 0) (1) := ri_of (by decide +kernel) rfl
theorem wi_33_1 : ri (rt_P sc fm) 33 1 (.iconst 0) (2) := ri_of (by decide +kernel) rfl
theorem wi_33_10 : ri (rt_P sc fm) 33 10 (.aload_n 0) (11) := ri_of (by decide +kernel) rfl
theorem wi_33_11 : ri (rt_P sc fm) 33 11 (.iconst 0) (12) := ri_of (by decide +kernel) rfl
theorem wi_33_12 : ri (rt_P sc fm) 33 12 (.putfield 55) (15) := ri_of (by decide +kernel) rfl
theorem wi_33_15 : ri (rt_P sc fm) 33 15 (.aload_n 0) (16) := ri_of (by decide +kernel) rfl
theorem wi_33_16 : ri (rt_P sc fm) 33 16 (.getfield 45) (19) := ri_of (by decide +kernel) rfl
theorem wi_33_19 : ri (rt_P sc fm) 33 19 (.iconst 0) (20) := ri_of (by decide +kernel) rfl
theorem wi_33_2 : ri (rt_P sc fm) 33 2 (.putfield 52) (5) := ri_of (by decide +kernel) rfl
theorem wi_33_20 : ri (rt_P sc fm) 33 20 (.invokestatic 58) (23) := ri_of (by decide +kernel) rfl
theorem wi_33_23 : ri (rt_P sc fm) 33 23 (.return_) (24) := ri_of (by decide +kernel) rfl
theorem wi_33_5 : ri (rt_P sc fm) 33 5 (.aload_n 0) (6) := ri_of (by decide +kernel) rfl
theorem wi_33_6 : ri (rt_P sc fm) 33 6 (.iconst (-1)) (7) := ri_of (by decide +kernel) rfl
theorem wi_33_7 : ri (rt_P sc fm) 33 7 (.putfield 48) (10) := ri_of (by decide +kernel) rfl
theorem wm_153 : rx_ml (rt_P sc fm) 153 = 4 := (by decide +kernel : rt_ml 153 = 4)
theorem wp_33_48 : rx_pt (rt_P sc fm) 33 48 = some (7, 12, .int) := (by decide +kernel : rt_pt 33 48 = some (7, 12, .int))
theorem wp_33_52 : rx_pt (rt_P sc fm) 33 52 = some (7, 11, .int) := (by decide +kernel : rt_pt 33 52 = some (7, 11, .int))
theorem wp_33_55 : rx_pt (rt_P sc fm) 33 55 = some (7, 13, .int) := (by decide +kernel : rt_pt 33 55 = some (7, 13, .int))
theorem wr_33 : rx_rt (rt_P sc fm) 33 = none := (by decide +kernel : rt_rt 33 = none)
/-- MarkHouse$Marks.clearAll()V -/
def d_33 (n : Nat)  (c : cS) : Option (cS) :=
  lt (pI c 133 11 0) (fun c1 =>
  lt (pI c1 133 12 (-1)) (fun c3 =>
  lt (pI c3 133 13 0) (fun c5 =>
  Option.bind (d_153 n 144 2242 0 c5) (fun r7 =>
  some r7))))
theorem sp_33 {F Lo n : Nat}  {c y : cS} {w : cW} {K : cS → Prop} {Q : ((Option Value) ⊕ String) → List va_E → Prop} (hw : rOK fm w) (hF : 1 ≤ F) (hLo : 23 ≤ Lo)  (h : wp (d_33 n  c) K) (hQ : ∀ r, K r → Q (.inl none) (hq true r y w)) : rs (rt_P sc fm) 33 F Lo 0 [(0, .ref 133)] [] (hq true c y w) Q := by
  unfold d_33 at h
  obtain ⟨lv, elv⟩ : ∃ lv : rx_L, lv = [(0, .ref 133)] := ⟨_, rfl⟩
  rw [← elv]
  have l0 : rx_ld lv 0 = some (.ref 133) := by rw [elv]; rfl
  refine rs_aldn wi_33_0 l0 ?_
  refine rs_pure wi_33_1 rfl ?_
  refine rs_topi (v := 0) (by decide) ?_
  obtain ⟨c1, e2, h⟩ := wp_lt h
  refine dq_pi wi_33_2 wp_33_52 tf_133_11 rfl rfl e2 ?_
  refine rs_aldn wi_33_5 l0 ?_
  refine rs_pure wi_33_6 rfl ?_
  refine rs_topi (v := (-1)) (by decide) ?_
  obtain ⟨c3, e4, h⟩ := wp_lt h
  refine dq_pi wi_33_7 wp_33_48 tf_133_12 rfl rfl e4 ?_
  refine rs_aldn wi_33_10 l0 ?_
  refine rs_pure wi_33_11 rfl ?_
  refine rs_topi (v := 0) (by decide) ?_
  obtain ⟨c5, e6, h⟩ := wp_lt h
  refine dq_pi wi_33_12 wp_33_55 tf_133_13 rfl rfl e6 ?_
  refine rs_aldn wi_33_15 l0 ?_
  refine dq_gr wi_33_16 wf_33_45 tf_133_10 ?_
  refine rs_pure wi_33_19 rfl ?_
  refine rs_topi (v := 0) (by decide) ?_
  refine rs_S wi_33_20 wc_33_58 (Or.inl rfl) rfl (Nat.le_trans (by decide) hF) (ml_le wm_153 (Nat.le_trans (by decide) hLo)) rfl (sp_153 hw (Nat.le_trans (by decide : 0 ≤ 1 - 1) (Nat.sub_le_sub_right hF 1)) (ml_sub wm_153 (Nat.le_trans (by decide : 0 ≤ 23 - 23) (Nat.sub_le_sub_right hLo 23))) t_144 (wp_bind h) (fun r7 h => rs_back0 ?_))
  exact rs_vret wi_33_23 wr_33 (hQ r7 h)
theorem tf_7_2 : fo true 7 9 2 (.int 0) := ⟨_, rfl, rfl, by decide, by decide⟩
theorem tf_7_4 : fo true 7 9 4 (.int 0) := ⟨_, rfl, rfl, by decide, by decide⟩
theorem tf_7_7 : fo true 7 9 7 (.int 0) := ⟨_, rfl, rfl, by decide, by decide⟩
theorem wi_36_0 : ri (rt_P sc fm) 36 0 (.aload_n 0) (1) := ri_of (by decide +kernel) rfl
theorem wi_36_1 : ri (rt_P sc fm) 36 1 (.iconst 0) (2) := ri_of (by decide +kernel) rfl
theorem wi_36_10 : ri (rt_P sc fm) 36 10 (.aload_n 0) (11) := ri_of (by decide +kernel) rfl
theorem wi_36_11 : ri (rt_P sc fm) 36 11 (.iconst 0) (12) := ri_of (by decide +kernel) rfl
theorem wi_36_12 : ri (rt_P sc fm) 36 12 (.putfield 59) (15) := ri_of (by decide +kernel) rfl
theorem wi_36_15 : ri (rt_P sc fm) 36 15 (.aload_n 0) (16) := ri_of (by decide +kernel) rfl
theorem wi_36_16 : ri (rt_P sc fm) 36 16 (.iconst 0) (17) := ri_of (by decide +kernel) rfl
theorem wi_36_17 : ri (rt_P sc fm) 36 17 (.putfield 62) (20) := ri_of (by decide +kernel) rfl
theorem wi_36_2 : ri (rt_P sc fm) 36 2 (.putfield 51) (5) := ri_of (by decide +kernel) rfl
theorem wi_36_20 : ri (rt_P sc fm) 36 20 (.aload_n 0) (21) := ri_of (by decide +kernel) rfl
theorem wi_36_21 : ri (rt_P sc fm) 36 21 (.iconst 0) (22) := ri_of (by decide +kernel) rfl
theorem wi_36_22 : ri (rt_P sc fm) 36 22 (.putfield 65) (25) := ri_of (by decide +kernel) rfl
theorem wi_36_25 : ri (rt_P sc fm) 36 25 (.return_) (26) := ri_of (by decide +kernel) rfl
theorem wi_36_5 : ri (rt_P sc fm) 36 5 (.aload_n 0) (6) := ri_of (by decide +kernel) rfl
theorem wi_36_6 : ri (rt_P sc fm) 36 6 (.iconst 0) (7) := ri_of (by decide +kernel) rfl
theorem wi_36_7 : ri (rt_P sc fm) 36 7 (.putfield 55) (10) := ri_of (by decide +kernel) rfl
theorem wp_36_51 : rx_pt (rt_P sc fm) 36 51 = some (9, 0, .boolean) := (by decide +kernel : rt_pt 36 51 = some (9, 0, .boolean))
theorem wp_36_55 : rx_pt (rt_P sc fm) 36 55 = some (9, 2, .int) := (by decide +kernel : rt_pt 36 55 = some (9, 2, .int))
theorem wp_36_59 : rx_pt (rt_P sc fm) 36 59 = some (9, 4, .int) := (by decide +kernel : rt_pt 36 59 = some (9, 4, .int))
theorem wp_36_62 : rx_pt (rt_P sc fm) 36 62 = some (9, 7, .int) := (by decide +kernel : rt_pt 36 62 = some (9, 7, .int))
theorem wp_36_65 : rx_pt (rt_P sc fm) 36 65 = some (9, 10, .int) := (by decide +kernel : rt_pt 36 65 = some (9, 10, .int))
theorem wr_36 : rx_rt (rt_P sc fm) 36 = none := (by decide +kernel : rt_rt 36 = none)
/-- MarkHouse$Program.clear()V -/
def d_36 (n : Nat)  (c : cS) : Option (cS) :=
  lt (pI c 7 0 0) (fun c1 =>
  lt (pI c1 7 2 0) (fun c3 =>
  lt (pI c3 7 4 0) (fun c5 =>
  lt (pI c5 7 7 0) (fun c7 =>
  lt (pI c7 7 10 0) (fun c9 =>
  some c9)))))
theorem sp_36 {F Lo n : Nat}  {c y : cS} {w : cW} {K : cS → Prop} {Q : ((Option Value) ⊕ String) → List va_E → Prop} (hw : rOK fm w) (hF : 0 ≤ F) (hLo : 0 ≤ Lo)  (h : wp (d_36 n  c) K) (hQ : ∀ r, K r → Q (.inl none) (hq true r y w)) : rs (rt_P sc fm) 36 F Lo 0 [(0, .ref 7)] [] (hq true c y w) Q := by
  unfold d_36 at h
  obtain ⟨lv, elv⟩ : ∃ lv : rx_L, lv = [(0, .ref 7)] := ⟨_, rfl⟩
  rw [← elv]
  have l0 : rx_ld lv 0 = some (.ref 7) := by rw [elv]; rfl
  refine rs_aldn wi_36_0 l0 ?_
  refine rs_pure wi_36_1 rfl ?_
  refine rs_topi (v := 0) (by decide) ?_
  obtain ⟨c1, e2, h⟩ := wp_lt h
  refine dq_pi wi_36_2 wp_36_51 tf_7_0 (nb_n (by decide)) (nb_f (by decide)) e2 ?_
  refine rs_aldn wi_36_5 l0 ?_
  refine rs_pure wi_36_6 rfl ?_
  refine rs_topi (v := 0) (by decide) ?_
  obtain ⟨c3, e4, h⟩ := wp_lt h
  refine dq_pi wi_36_7 wp_36_55 tf_7_2 rfl rfl e4 ?_
  refine rs_aldn wi_36_10 l0 ?_
  refine rs_pure wi_36_11 rfl ?_
  refine rs_topi (v := 0) (by decide) ?_
  obtain ⟨c5, e6, h⟩ := wp_lt h
  refine dq_pi wi_36_12 wp_36_59 tf_7_4 rfl rfl e6 ?_
  refine rs_aldn wi_36_15 l0 ?_
  refine rs_pure wi_36_16 rfl ?_
  refine rs_topi (v := 0) (by decide) ?_
  obtain ⟨c7, e8, h⟩ := wp_lt h
  refine dq_pi wi_36_17 wp_36_62 tf_7_7 rfl rfl e8 ?_
  refine rs_aldn wi_36_20 l0 ?_
  refine rs_pure wi_36_21 rfl ?_
  refine rs_topi (v := 0) (by decide) ?_
  obtain ⟨c9, e10, h⟩ := wp_lt h
  refine dq_pi wi_36_22 wp_36_65 tf_7_10 rfl rfl e10 ?_
  exact rs_vret wi_36_25 wr_36 (hQ c9 h)
theorem wf_37_51 : rx_ft (rt_P sc fm) 37 51 = some (9, 0) := (by decide +kernel : rt_ft 37 51 = some (9, 0))
theorem wf_37_55 : rx_ft (rt_P sc fm) 37 55 = some (9, 2) := (by decide +kernel : rt_ft 37 55 = some (9, 2))
theorem wi_37_0 : ri (rt_P sc fm) 37 0 (.aload_n 0) (1) := ri_of (by decide +kernel) rfl
theorem wi_37_1 : ri (rt_P sc fm) 37 1 (.getfield 51) (4) := ri_of (by decide +kernel) rfl
theorem wi_37_11 : ri (rt_P sc fm) 37 11 (.iload_n 1) (12) := ri_of (by decide +kernel) rfl
theorem wi_37_12 : ri (rt_P sc fm) 37 12 (.aload_n 0) (13) := ri_of (by decide +kernel) rfl
theorem wi_37_13 : ri (rt_P sc fm) 37 13 (.getfield 55) (16) := ri_of (by decide +kernel) rfl
theorem wi_37_16 : ri (rt_P sc fm) 37 16 (.if_icmp .ge 7) (19) := ri_of (by decide +kernel) rfl
theorem wi_37_19 : ri (rt_P sc fm) 37 19 (.iconst 1) (20) := ri_of (by decide +kernel) rfl
theorem wi_37_20 : ri (rt_P sc fm) 37 20 (.goto 4) (23) := ri_of (by decide +kernel) rfl
theorem wi_37_23 : ri (rt_P sc fm) 37 23 (.iconst 0) (24) := ri_of (by decide +kernel) rfl
theorem wi_37_24 : ri (rt_P sc fm) 37 24 (.ireturn) (25) := ri_of (by decide +kernel) rfl
theorem wi_37_4 : ri (rt_P sc fm) 37 4 (.ifCond .eq 19) (7) := ri_of (by decide +kernel) rfl
theorem wi_37_7 : ri (rt_P sc fm) 37 7 (.iload_n 1) (8) := ri_of (by decide +kernel) rfl
theorem wi_37_8 : ri (rt_P sc fm) 37 8 (.ifCond .lt 15) (11) := ri_of (by decide +kernel) rfl
theorem wr_37 : rx_rt (rt_P sc fm) 37 = (some FieldType.boolean) := (by decide +kernel : rt_rt 37 = (some FieldType.boolean))
/-- MarkHouse$Program.isOrder(I)Z -/
def d_37 (n : Nat) (a1 : Int32) (c : cS) : Option (Int32) :=
  jn (fun p1 : Int32 =>
    if nb p1 then
    some p1
    else none)
  (fun j24 =>
  jn (fun p3 : Unit =>
    j24 0)
  (fun j23 =>
  if (c.1 7 0) = 0 then
    j23 ()
  else
    if a1 < 0 then
      j23 ()
    else
      if (c.1 7 2) ≤ a1 then
        j23 ()
      else
        j24 1))
theorem sp_37 {F Lo n : Nat} {a1 : Int32} {c y : cS} {w : cW} {K : Int32 → Prop} {Q : ((Option Value) ⊕ String) → List va_E → Prop} (hw : rOK fm w) (hF : 0 ≤ F) (hLo : 0 ≤ Lo)  (h : wp (d_37 n a1 c) K) (hQ : ∀ r, K r → Q (.inl (some (.int r))) (hq true c y w)) : rs (rt_P sc fm) 37 F Lo 0 [(0, .ref 7), (1, .int a1)] [] (hq true c y w) Q := by
  unfold d_37 at h
  obtain ⟨lv, elv⟩ : ∃ lv : rx_L, lv = [(0, .ref 7), (1, .int a1)] := ⟨_, rfl⟩
  rw [← elv]
  have l0 : rx_ld lv 0 = some (.ref 7) := by rw [elv]; rfl
  have l1 : rx_ld lv 1 = some (.int a1) := by rw [elv]; rfl
  refine rs_aldn wi_37_0 l0 ?_
  refine dq_gi wi_37_1 wf_37_51 tf_7_0 ?_
  refine wp_jn (B := fun p1 : Int32 => ∀ lv, rs (rt_P sc fm) 37 F Lo 24 lv [.int p1] (hq true c y w) Q) h (fun p1 h lv => ?_) (fun j24 hj24 h => ?_)
  ·
    obtain ⟨g2, h⟩ := wp_gd h
    exact rs_iret wi_37_24 wr_37 (nb_n g2) (hQ p1 h)
  refine wp_jn (B := fun p3 : Unit => ∀ lv, rs (rt_P sc fm) 37 F Lo 23 lv [] (hq true c y w) Q) h (fun p3 h lv => ?_) (fun j23 hj23 h => ?_)
  ·
    refine rs_pure wi_37_23 rfl ?_
    refine rs_topi (v := 0) (by decide) ?_
    exact hj24 _ h _
  refine rs_ifeq (tg := 23) wi_37_4 ⟨by decide, by decide⟩ (fun q => ?_) (fun q => ?_)
  ·
    have h := wp_pos h q
    exact hj23 _ h _
  ·
    have h := wp_neg h q
    refine rs_ildn wi_37_7 l1 ?_
    refine rs_iflt (tg := 23) wi_37_8 ⟨by decide, by decide⟩ (fun q => ?_) (fun q => ?_)
    ·
      have h := wp_pos h q
      exact hj23 _ h _
    ·
      have h := wp_neg h q
      refine rs_ildn wi_37_11 l1 ?_
      refine rs_aldn wi_37_12 l0 ?_
      refine dq_gi wi_37_13 wf_37_55 tf_7_2 ?_
      refine rs_icge (tg := 23) wi_37_16 ⟨by decide, by decide⟩ (fun q => ?_) (fun q => ?_)
      ·
        have h := wp_pos h q
        exact hj23 _ h _
      ·
        have h := wp_neg h q
        refine rs_pure wi_37_19 rfl ?_
        refine rs_topi (v := 1) (by decide) ?_
        refine rs_goto (tg := 24) wi_37_20 ⟨by decide, by decide⟩ ?_
        exact hj24 _ h _
theorem wa_9_37 : rz_cn 9 (rx_yn (rt_P sc fm) 37).cls = true := (by decide +kernel : rz_cn 9 (rt_yn 37).cls = true)
theorem wc_38_68 : rx_ct (rt_P sc fm) 38 68 = some (0, 37, 1) := (by decide +kernel : rt_ct 38 68 = some (0, 37, 1))
theorem wf_38_51 : rx_ft (rt_P sc fm) 38 51 = some (9, 0) := (by decide +kernel : rt_ft 38 51 = some (9, 0))
theorem wf_38_59 : rx_ft (rt_P sc fm) 38 59 = some (9, 4) := (by decide +kernel : rt_ft 38 59 = some (9, 4))
theorem wi_38_0 : ri (rt_P sc fm) 38 0 (.aload_n 0) (1) := ri_of (by decide +kernel) rfl
theorem wi_38_1 : ri (rt_P sc fm) 38 1 (.getfield 51) (4) := ri_of (by decide +kernel) rfl
theorem wi_38_11 : ri (rt_P sc fm) 38 11 (.iload_n 1) (12) := ri_of (by decide +kernel) rfl
theorem wi_38_12 : ri (rt_P sc fm) 38 12 (.aload_n 0) (13) := ri_of (by decide +kernel) rfl
theorem wi_38_13 : ri (rt_P sc fm) 38 13 (.getfield 59) (16) := ri_of (by decide +kernel) rfl
theorem wi_38_16 : ri (rt_P sc fm) 38 16 (.if_icmp .lt 20) (19) := ri_of (by decide +kernel) rfl
theorem wi_38_19 : ri (rt_P sc fm) 38 19 (.iload_n 1) (20) := ri_of (by decide +kernel) rfl
theorem wi_38_20 : ri (rt_P sc fm) 38 20 (.bipush 100) (22) := ri_of (by decide +kernel) rfl
theorem wi_38_22 : ri (rt_P sc fm) 38 22 (.if_icmp .lt 18) (25) := ri_of (by decide +kernel) rfl
theorem wi_38_25 : ri (rt_P sc fm) 38 25 (.aload_n 0) (26) := ri_of (by decide +kernel) rfl
theorem wi_38_26 : ri (rt_P sc fm) 38 26 (.iload_n 1) (27) := ri_of (by decide +kernel) rfl
theorem wi_38_27 : ri (rt_P sc fm) 38 27 (.bipush 100) (29) := ri_of (by decide +kernel) rfl
theorem wi_38_29 : ri (rt_P sc fm) 38 29 (.isub) (30) := ri_of (by decide +kernel) rfl
theorem wi_38_30 : ri (rt_P sc fm) 38 30 (.invokevirtual 68) (33) := ri_of (by decide +kernel) rfl
theorem wi_38_33 : ri (rt_P sc fm) 38 33 (.ifCond .eq 7) (36) := ri_of (by decide +kernel) rfl
theorem wi_38_36 : ri (rt_P sc fm) 38 36 (.iconst 1) (37) := ri_of (by decide +kernel) rfl
theorem wi_38_37 : ri (rt_P sc fm) 38 37 (.goto 4) (40) := ri_of (by decide +kernel) rfl
theorem wi_38_4 : ri (rt_P sc fm) 38 4 (.ifCond .eq 36) (7) := ri_of (by decide +kernel) rfl
theorem wi_38_40 : ri (rt_P sc fm) 38 40 (.iconst 0) (41) := ri_of (by decide +kernel) rfl
theorem wi_38_41 : ri (rt_P sc fm) 38 41 (.ireturn) (42) := ri_of (by decide +kernel) rfl
theorem wi_38_7 : ri (rt_P sc fm) 38 7 (.iload_n 1) (8) := ri_of (by decide +kernel) rfl
theorem wi_38_8 : ri (rt_P sc fm) 38 8 (.ifCond .lt 32) (11) := ri_of (by decide +kernel) rfl
theorem wm_37 : rx_ml (rt_P sc fm) 37 = 2 := (by decide +kernel : rt_ml 37 = 2)
theorem wr_38 : rx_rt (rt_P sc fm) 38 = (some FieldType.boolean) := (by decide +kernel : rt_rt 38 = (some FieldType.boolean))
/-- MarkHouse$Program.isTarget(I)Z -/
def d_38 (n : Nat) (a1 : Int32) (c : cS) : Option (Int32) :=
  jn (fun p1 : Int32 =>
    if nb p1 then
    some p1
    else none)
  (fun j41 =>
  jn (fun p3 : Unit =>
    j41 0)
  (fun j40 =>
  if (c.1 7 0) = 0 then
    j40 ()
  else
    if a1 < 0 then
      j40 ()
    else
      jn (fun p4 : Unit =>
        j41 1)
      (fun j36 =>
      if a1 < (c.1 7 4) then
        j36 ()
      else
        if a1 < 100 then
          j40 ()
        else
          Option.bind (d_37 n (a1 - 100) c) (fun v5 =>
          if v5 = 0 then
            j40 ()
          else
            j36 ()))))
theorem sp_38 {F Lo n : Nat} {a1 : Int32} {c y : cS} {w : cW} {K : Int32 → Prop} {Q : ((Option Value) ⊕ String) → List va_E → Prop} (hw : rOK fm w) (hF : 1 ≤ F) (hLo : 21 ≤ Lo)  (h : wp (d_38 n a1 c) K) (hQ : ∀ r, K r → Q (.inl (some (.int r))) (hq true c y w)) : rs (rt_P sc fm) 38 F Lo 0 [(0, .ref 7), (1, .int a1)] [] (hq true c y w) Q := by
  unfold d_38 at h
  obtain ⟨lv, elv⟩ : ∃ lv : rx_L, lv = [(0, .ref 7), (1, .int a1)] := ⟨_, rfl⟩
  rw [← elv]
  have l0 : rx_ld lv 0 = some (.ref 7) := by rw [elv]; rfl
  have l1 : rx_ld lv 1 = some (.int a1) := by rw [elv]; rfl
  refine rs_aldn wi_38_0 l0 ?_
  refine dq_gi wi_38_1 wf_38_51 tf_7_0 ?_
  refine wp_jn (B := fun p1 : Int32 => ∀ lv, rs (rt_P sc fm) 38 F Lo 41 lv [.int p1] (hq true c y w) Q) h (fun p1 h lv => ?_) (fun j41 hj41 h => ?_)
  ·
    obtain ⟨g2, h⟩ := wp_gd h
    exact rs_iret wi_38_41 wr_38 (nb_n g2) (hQ p1 h)
  refine wp_jn (B := fun p3 : Unit => ∀ lv, rs (rt_P sc fm) 38 F Lo 40 lv [] (hq true c y w) Q) h (fun p3 h lv => ?_) (fun j40 hj40 h => ?_)
  ·
    refine rs_pure wi_38_40 rfl ?_
    refine rs_topi (v := 0) (by decide) ?_
    exact hj41 _ h _
  refine rs_ifeq (tg := 40) wi_38_4 ⟨by decide, by decide⟩ (fun q => ?_) (fun q => ?_)
  ·
    have h := wp_pos h q
    exact hj40 _ h _
  ·
    have h := wp_neg h q
    refine rs_ildn wi_38_7 l1 ?_
    refine rs_iflt (tg := 40) wi_38_8 ⟨by decide, by decide⟩ (fun q => ?_) (fun q => ?_)
    ·
      have h := wp_pos h q
      exact hj40 _ h _
    ·
      have h := wp_neg h q
      refine rs_ildn wi_38_11 l1 ?_
      refine rs_aldn wi_38_12 l0 ?_
      refine dq_gi wi_38_13 wf_38_59 tf_7_4 ?_
      refine wp_jn (B := fun p4 : Unit => ∀ lv, rs (rt_P sc fm) 38 F Lo 36 lv [] (hq true c y w) Q) h (fun p4 h lv => ?_) (fun j36 hj36 h => ?_)
      ·
        refine rs_pure wi_38_36 rfl ?_
        refine rs_topi (v := 1) (by decide) ?_
        refine rs_goto (tg := 41) wi_38_37 ⟨by decide, by decide⟩ ?_
        exact hj41 _ h _
      refine rs_iclt (tg := 36) wi_38_16 ⟨by decide, by decide⟩ (fun q => ?_) (fun q => ?_)
      ·
        have h := wp_pos h q
        exact hj36 _ h _
      ·
        have h := wp_neg h q
        refine rs_ildn wi_38_19 l1 ?_
        refine rs_pure wi_38_20 rfl ?_
        refine rs_topi (v := 100) (by decide) ?_
        refine rs_iclt (tg := 40) wi_38_22 ⟨by decide, by decide⟩ (fun q => ?_) (fun q => ?_)
        ·
          have h := wp_pos h q
          exact hj40 _ h _
        ·
          have h := wp_neg h q
          refine rs_aldn wi_38_25 l0 ?_
          refine rs_ildn wi_38_26 l1 ?_
          refine rs_pure wi_38_27 rfl ?_
          refine rs_topi (v := 100) (by decide) ?_
          refine rs_pure wi_38_29 rfl ?_
          refine rs_V wi_38_30 wc_38_68 rfl (dq_isa tf_7_0 wa_9_37) (Nat.le_trans (by decide) hF) (ml_le wm_37 (Nat.le_trans (by decide) hLo)) rfl (sp_37 hw (Nat.le_trans (by decide : 0 ≤ 1 - 1) (Nat.sub_le_sub_right hF 1)) (ml_sub wm_37 (Nat.le_trans (by decide : 0 ≤ 21 - 21) (Nat.sub_le_sub_right hLo 21))) (wp_bind h) (fun v5 h => rs_back1 ?_))
          refine rs_ifeq (tg := 40) wi_38_33 ⟨by decide, by decide⟩ (fun q => ?_) (fun q => ?_)
          ·
            have h := wp_pos h q
            exact hj40 _ h _
          ·
            have h := wp_neg h q
            exact hj36 _ h _
theorem tf_145_4 : fo true 145 10 4 (.int 0) := ⟨_, rfl, rfl, by decide, by decide⟩
theorem tf_145_5 : fo true 145 10 5 (.int 0) := ⟨_, rfl, rfl, by decide, by decide⟩
theorem wi_41_0 : ri (rt_P sc fm) 41 0 (.aload_n 0) (1) := ri_of (by decide +kernel) rfl
theorem wi_41_1 : ri (rt_P sc fm) 41 1 (.iload_n 1) (2) := ri_of (by decide +kernel) rfl
theorem wi_41_2 : ri (rt_P sc fm) 41 2 (.putfield 43) (5) := ri_of (by decide +kernel) rfl
theorem wi_41_5 : ri (rt_P sc fm) 41 5 (.aload_n 0) (6) := ri_of (by decide +kernel) rfl
theorem wi_41_6 : ri (rt_P sc fm) 41 6 (.iload_n 2) (7) := ri_of (by decide +kernel) rfl
theorem wi_41_7 : ri (rt_P sc fm) 41 7 (.putfield 46) (10) := ri_of (by decide +kernel) rfl
theorem wp_41_43 : rx_pt (rt_P sc fm) 41 43 = some (10, 4, .int) := (by decide +kernel : rt_pt 41 43 = some (10, 4, .int))
theorem wp_41_46 : rx_pt (rt_P sc fm) 41 46 = some (10, 5, .int) := (by decide +kernel : rt_pt 41 46 = some (10, 5, .int))
theorem wx_41_10 : rx_xt (rt_P sc fm) 41 10 = some ("java/lang/IllegalArgumentException", 5, 82) := (by decide +kernel : rt_xt 41 10 = some ("java/lang/IllegalArgumentException", 5, 82))
/-- MarkHouse$Reader.fail(II)V -/
def d_41 (n : Nat) (a1 : Int32) (a2 : Int32) (c : cS) : Option ((cS) ⊕ cS) :=
  lt (pI c 145 4 a1) (fun c1 =>
  lt (pI c1 145 5 a2) (fun c3 =>
  some (.inr c3)))
theorem sp_41 {F Lo n : Nat} {a1 : Int32} {a2 : Int32} {c y : cS} {w : cW} {K : (cS) ⊕ cS → Prop} {Q : ((Option Value) ⊕ String) → List va_E → Prop} (hw : rOK fm w) (hF : 6 ≤ F) (hLo : 82 ≤ Lo)  (h : wp (d_41 n a1 a2 c) K) (hQ : ∀ r, K (.inl r) → Q (.inl none) (hq true r y w)) (hT : ∀ r, K (.inr r) → Q (.inr "java/lang/IllegalArgumentException") (hq true r y w)) : rs (rt_P sc fm) 41 F Lo 0 [(0, .ref 145), (1, .int a1), (2, .int a2)] [] (hq true c y w) Q := by
  unfold d_41 at h
  obtain ⟨lv, elv⟩ : ∃ lv : rx_L, lv = [(0, .ref 145), (1, .int a1), (2, .int a2)] := ⟨_, rfl⟩
  rw [← elv]
  have l0 : rx_ld lv 0 = some (.ref 145) := by rw [elv]; rfl
  have l1 : rx_ld lv 1 = some (.int a1) := by rw [elv]; rfl
  have l2 : rx_ld lv 2 = some (.int a2) := by rw [elv]; rfl
  refine rs_aldn wi_41_0 l0 ?_
  refine rs_ildn wi_41_1 l1 ?_
  obtain ⟨c1, e2, h⟩ := wp_lt h
  refine dq_pi wi_41_2 wp_41_43 tf_145_4 rfl rfl e2 ?_
  refine rs_aldn wi_41_5 l0 ?_
  refine rs_ildn wi_41_6 l2 ?_
  obtain ⟨c3, e4, h⟩ := wp_lt h
  refine dq_pi wi_41_7 wp_41_46 tf_145_5 rfl rfl e4 ?_
  exact rs_throw wx_41_10 (Nat.le_trans (by decide) hF) (Nat.le_trans (by decide) hLo) (hT _ h)
theorem tf_133_0 : fo true 133 7 0 (.ref 134) := ⟨_, rfl, rfl, by decide, by decide⟩
theorem tf_145_0 : fo true 145 10 0 (.ref 1) := ⟨_, rfl, rfl, by decide, by decide⟩
theorem tf_145_1 : fo true 145 10 1 (.ref 7) := ⟨_, rfl, rfl, by decide, by decide⟩
theorem tf_145_2 : fo true 145 10 2 (.ref 114) := ⟨_, rfl, rfl, by decide, by decide⟩
theorem tf_145_3 : fo true 145 10 3 (.ref 133) := ⟨_, rfl, rfl, by decide, by decide⟩
theorem tf_145_7 : fo true 145 10 7 (.int 0) := ⟨_, rfl, rfl, by decide, by decide⟩
theorem wa_10_41 : rz_cn 10 (rx_yn (rt_P sc fm) 41).cls = true := (by decide +kernel : rz_cn 10 (rt_yn 41).cls = true)
theorem wa_3_25 : rz_cn 3 (rx_yn (rt_P sc fm) 25).cls = true := (by decide +kernel : rz_cn 3 (rt_yn 25).cls = true)
theorem wa_7_33 : rz_cn 7 (rx_yn (rt_P sc fm) 33).cls = true := (by decide +kernel : rz_cn 7 (rt_yn 33).cls = true)
theorem wa_9_36 : rz_cn 9 (rx_yn (rt_P sc fm) 36).cls = true := (by decide +kernel : rz_cn 9 (rt_yn 36).cls = true)
theorem wc_40_27 : rx_ct (rt_P sc fm) 40 27 = some (0, 36, 0) := (by decide +kernel : rt_ct 40 27 = some (0, 36, 0))
theorem wc_40_38 : rx_ct (rt_P sc fm) 40 38 = some (0, 33, 0) := (by decide +kernel : rt_ct 40 38 = some (0, 33, 0))
theorem wc_40_52 : rx_ct (rt_P sc fm) 40 52 = some (0, 25, 0) := (by decide +kernel : rt_ct 40 52 = some (0, 25, 0))
theorem wc_40_61 : rx_ct (rt_P sc fm) 40 61 = some (0, 41, 2) := (by decide +kernel : rt_ct 40 61 = some (0, 41, 2))
theorem wf_40_15 : rx_ft (rt_P sc fm) 40 15 = some (10, 1) := (by decide +kernel : rt_ft 40 15 = some (10, 1))
theorem wf_40_19 : rx_ft (rt_P sc fm) 40 19 = some (10, 2) := (by decide +kernel : rt_ft 40 19 = some (10, 2))
theorem wf_40_23 : rx_ft (rt_P sc fm) 40 23 = some (10, 3) := (by decide +kernel : rt_ft 40 23 = some (10, 3))
theorem wf_40_9 : rx_ft (rt_P sc fm) 40 9 = some (10, 0) := (by decide +kernel : rt_ft 40 9 = some (10, 0))
theorem wh0_40_60 : rx_ht (rt_P sc fm) 40 60 "java/lang/IllegalArgumentException" = none := (by decide +kernel : rt_ht 40 60 "java/lang/IllegalArgumentException" = none)
theorem whh_40 : rx_hh (rt_P sc fm) 40 = [] := (by decide +kernel : rt_hh 40 = [])
theorem wi_40_0 : ri (rt_P sc fm) 40 0 (.aload_n 0) (1) := ri_of (by decide +kernel) rfl
theorem wi_40_1 : ri (rt_P sc fm) 40 1 (.getfield 15) (4) := ri_of (by decide +kernel) rfl
theorem wi_40_11 : ri (rt_P sc fm) 40 11 (.iconst 0) (12) := ri_of (by decide +kernel) rfl
theorem wi_40_12 : ri (rt_P sc fm) 40 12 (.putfield 32) (15) := ri_of (by decide +kernel) rfl
theorem wi_40_15 : ri (rt_P sc fm) 40 15 (.aload_n 0) (16) := ri_of (by decide +kernel) rfl
theorem wi_40_16 : ri (rt_P sc fm) 40 16 (.getfield 23) (19) := ri_of (by decide +kernel) rfl
theorem wi_40_19 : ri (rt_P sc fm) 40 19 (.invokevirtual 38) (22) := ri_of (by decide +kernel) rfl
theorem wi_40_22 : ri (rt_P sc fm) 40 22 (.aload_n 0) (23) := ri_of (by decide +kernel) rfl
theorem wi_40_23 : ri (rt_P sc fm) 40 23 (.iconst 0) (24) := ri_of (by decide +kernel) rfl
theorem wi_40_24 : ri (rt_P sc fm) 40 24 (.putfield 43) (27) := ri_of (by decide +kernel) rfl
theorem wi_40_27 : ri (rt_P sc fm) 40 27 (.aload_n 0) (28) := ri_of (by decide +kernel) rfl
theorem wi_40_28 : ri (rt_P sc fm) 40 28 (.iconst 0) (29) := ri_of (by decide +kernel) rfl
theorem wi_40_29 : ri (rt_P sc fm) 40 29 (.putfield 46) (32) := ri_of (by decide +kernel) rfl
theorem wi_40_32 : ri (rt_P sc fm) 40 32 (.aload_n 0) (33) := ri_of (by decide +kernel) rfl
theorem wi_40_33 : ri (rt_P sc fm) 40 33 (.iconst 0) (34) := ri_of (by decide +kernel) rfl
theorem wi_40_34 : ri (rt_P sc fm) 40 34 (.putfield 49) (37) := ri_of (by decide +kernel) rfl
theorem wi_40_37 : ri (rt_P sc fm) 40 37 (.aload_n 0) (38) := ri_of (by decide +kernel) rfl
theorem wi_40_38 : ri (rt_P sc fm) 40 38 (.getfield 9) (41) := ri_of (by decide +kernel) rfl
theorem wi_40_4 : ri (rt_P sc fm) 40 4 (.invokevirtual 27) (7) := ri_of (by decide +kernel) rfl
theorem wi_40_41 : ri (rt_P sc fm) 40 41 (.invokevirtual 52) (44) := ri_of (by decide +kernel) rfl
theorem wi_40_44 : ri (rt_P sc fm) 40 44 (.istore_n 1) (45) := ri_of (by decide +kernel) rfl
theorem wi_40_45 : ri (rt_P sc fm) 40 45 (.aload_n 0) (46) := ri_of (by decide +kernel) rfl
theorem wi_40_46 : ri (rt_P sc fm) 40 46 (.getfield 9) (49) := ri_of (by decide +kernel) rfl
theorem wi_40_49 : ri (rt_P sc fm) 40 49 (.iconst 0) (50) := ri_of (by decide +kernel) rfl
theorem wi_40_50 : ri (rt_P sc fm) 40 50 (.putfield 58) (53) := ri_of (by decide +kernel) rfl
theorem wi_40_53 : ri (rt_P sc fm) 40 53 (.iload_n 1) (54) := ri_of (by decide +kernel) rfl
theorem wi_40_54 : ri (rt_P sc fm) 40 54 (.ifCond .lt 9) (57) := ri_of (by decide +kernel) rfl
theorem wi_40_57 : ri (rt_P sc fm) 40 57 (.aload_n 0) (58) := ri_of (by decide +kernel) rfl
theorem wi_40_58 : ri (rt_P sc fm) 40 58 (.iconst 1) (59) := ri_of (by decide +kernel) rfl
theorem wi_40_59 : ri (rt_P sc fm) 40 59 (.iload_n 1) (60) := ri_of (by decide +kernel) rfl
theorem wi_40_60 : ri (rt_P sc fm) 40 60 (.invokevirtual 61) (63) := ri_of (by decide +kernel) rfl
theorem wi_40_63 : ri (rt_P sc fm) 40 63 (.return_) (64) := ri_of (by decide +kernel) rfl
theorem wi_40_7 : ri (rt_P sc fm) 40 7 (.aload_n 0) (8) := ri_of (by decide +kernel) rfl
theorem wi_40_8 : ri (rt_P sc fm) 40 8 (.getfield 19) (11) := ri_of (by decide +kernel) rfl
theorem wm_25 : rx_ml (rt_P sc fm) 25 = 2 := (by decide +kernel : rt_ml 25 = 2)
theorem wm_33 : rx_ml (rt_P sc fm) 33 = 1 := (by decide +kernel : rt_ml 33 = 1)
theorem wm_36 : rx_ml (rt_P sc fm) 36 = 1 := (by decide +kernel : rt_ml 36 = 1)
theorem wm_41 : rx_ml (rt_P sc fm) 41 = 3 := (by decide +kernel : rt_ml 41 = 3)
theorem wp_40_32 : rx_pt (rt_P sc fm) 40 32 = some (2, 7, .int) := (by decide +kernel : rt_pt 40 32 = some (2, 7, .int))
theorem wp_40_43 : rx_pt (rt_P sc fm) 40 43 = some (10, 4, .int) := (by decide +kernel : rt_pt 40 43 = some (10, 4, .int))
theorem wp_40_46 : rx_pt (rt_P sc fm) 40 46 = some (10, 5, .int) := (by decide +kernel : rt_pt 40 46 = some (10, 5, .int))
theorem wp_40_49 : rx_pt (rt_P sc fm) 40 49 = some (10, 7, .int) := (by decide +kernel : rt_pt 40 49 = some (10, 7, .int))
theorem wp_40_58 : rx_pt (rt_P sc fm) 40 58 = some (3, 1, .int) := (by decide +kernel : rt_pt 40 58 = some (3, 1, .int))
theorem wr_40 : rx_rt (rt_P sc fm) 40 = none := (by decide +kernel : rt_rt 40 = none)
/-- MarkHouse$Reader.cutTape()V -/
def d_40 (n : Nat)  (c : cS) : Option ((cS) ⊕ cS) :=
  Option.bind (d_36 n c) (fun r1 =>
  lt (pI r1 114 7 0) (fun c2 =>
  Option.bind (d_33 n c2) (fun r4 =>
  lt (pI r4 145 4 0) (fun c5 =>
  lt (pI c5 145 5 0) (fun c7 =>
  lt (pI c7 145 7 0) (fun c9 =>
  Option.bind (d_25 n c9) (fun r11 =>
  lt (pI r11.2 1 1 0) (fun c13 =>
  jn (fun p15 : cS =>
    some (.inl p15))
  (fun j63 =>
  if r11.1 < 0 then
    j63 c13
  else
    Option.bind (d_41 n 1 r11.1 c13) (Sum.elim (fun r16 =>
    j63 r16)
    (fun z17 => some (.inr z17))))))))))))
theorem sp_40 {F Lo n : Nat}  {c y : cS} {w : cW} {K : (cS) ⊕ cS → Prop} {Q : ((Option Value) ⊕ String) → List va_E → Prop} (hw : rOK fm w) (hF : 7 ≤ F) (hLo : 134 ≤ Lo)  (h : wp (d_40 n  c) K) (hQ : ∀ r, K (.inl r) → Q (.inl none) (hq true r y w)) (hT : ∀ r, K (.inr r) → Q (.inr "java/lang/IllegalArgumentException") (hq true r y w)) : rs (rt_P sc fm) 40 F Lo 0 [(0, .ref 145)] [] (hq true c y w) Q := by
  unfold d_40 at h
  obtain ⟨lv, elv⟩ : ∃ lv : rx_L, lv = [(0, .ref 145)] := ⟨_, rfl⟩
  rw [← elv]
  have l0 : rx_ld lv 0 = some (.ref 145) := by rw [elv]; rfl
  refine rs_aldn wi_40_0 l0 ?_
  refine dq_gr wi_40_1 wf_40_15 tf_145_1 ?_
  refine rs_V wi_40_4 wc_40_27 rfl (dq_isa tf_7_0 wa_9_36) (Nat.le_trans (by decide) hF) (ml_le wm_36 (Nat.le_trans (by decide) hLo)) rfl (sp_36 hw (Nat.le_trans (by decide : 0 ≤ 7 - 1) (Nat.sub_le_sub_right hF 1)) (ml_sub wm_36 (Nat.le_trans (by decide : 0 ≤ 134 - 20) (Nat.sub_le_sub_right hLo 20))) (wp_bind h) (fun r1 h => rs_back0 ?_))
  refine rs_aldn wi_40_7 l0 ?_
  refine dq_gr wi_40_8 wf_40_19 tf_145_2 ?_
  refine rs_pure wi_40_11 rfl ?_
  refine rs_topi (v := 0) (by decide) ?_
  obtain ⟨c2, e3, h⟩ := wp_lt h
  refine dq_pi wi_40_12 wp_40_32 tf_114_7 rfl rfl e3 ?_
  refine rs_aldn wi_40_15 l0 ?_
  refine dq_gr wi_40_16 wf_40_23 tf_145_3 ?_
  refine rs_V wi_40_19 wc_40_38 rfl (dq_isa tf_133_0 wa_7_33) (Nat.le_trans (by decide) hF) (ml_le wm_33 (Nat.le_trans (by decide) hLo)) rfl (sp_33 hw (Nat.le_trans (by decide : 1 ≤ 7 - 1) (Nat.sub_le_sub_right hF 1)) (ml_sub wm_33 (Nat.le_trans (by decide : 23 ≤ 134 - 20) (Nat.sub_le_sub_right hLo 20))) (wp_bind h) (fun r4 h => rs_back0 ?_))
  refine rs_aldn wi_40_22 l0 ?_
  refine rs_pure wi_40_23 rfl ?_
  refine rs_topi (v := 0) (by decide) ?_
  obtain ⟨c5, e6, h⟩ := wp_lt h
  refine dq_pi wi_40_24 wp_40_43 tf_145_4 rfl rfl e6 ?_
  refine rs_aldn wi_40_27 l0 ?_
  refine rs_pure wi_40_28 rfl ?_
  refine rs_topi (v := 0) (by decide) ?_
  obtain ⟨c7, e8, h⟩ := wp_lt h
  refine dq_pi wi_40_29 wp_40_46 tf_145_5 rfl rfl e8 ?_
  refine rs_aldn wi_40_32 l0 ?_
  refine rs_pure wi_40_33 rfl ?_
  refine rs_topi (v := 0) (by decide) ?_
  obtain ⟨c9, e10, h⟩ := wp_lt h
  refine dq_pi wi_40_34 wp_40_49 tf_145_7 rfl rfl e10 ?_
  refine rs_aldn wi_40_37 l0 ?_
  refine dq_gr wi_40_38 wf_40_9 tf_145_0 ?_
  refine rs_V wi_40_41 wc_40_52 rfl (dq_isa tf_1_0 wa_3_25) (Nat.le_trans (by decide) hF) (ml_le wm_25 (Nat.le_trans (by decide) hLo)) rfl (sp_25 hw (Nat.le_trans (by decide : 5 ≤ 7 - 1) (Nat.sub_le_sub_right hF 1)) (ml_sub wm_25 (Nat.le_trans (by decide : 113 ≤ 134 - 21) (Nat.sub_le_sub_right hLo 21))) (wp_bind h) (fun r11 h => rs_back1 ?_))
  refine dl_istn wi_40_44 rfl (fun lv l1 t12 => ?_)
  have l0 := t12 _ _ (by decide) (Or.inl rfl) l0
  refine rs_aldn wi_40_45 l0 ?_
  refine dq_gr wi_40_46 wf_40_9 tf_145_0 ?_
  refine rs_pure wi_40_49 rfl ?_
  refine rs_topi (v := 0) (by decide) ?_
  obtain ⟨c13, e14, h⟩ := wp_lt h
  refine dq_pi wi_40_50 wp_40_58 tf_1_1 rfl rfl e14 ?_
  refine rs_ildn wi_40_53 l1 ?_
  refine wp_jn (B := fun p15 : cS => ∀ lv, rs (rt_P sc fm) 40 F Lo 63 lv [] (hq true p15 y w) Q) h (fun p15 h lv => ?_) (fun j63 hj63 h => ?_)
  ·
    exact rs_vret wi_40_63 wr_40 (hQ p15 h)
  refine rs_iflt (tg := 63) wi_40_54 ⟨by decide, by decide⟩ (fun q => ?_) (fun q => ?_)
  ·
    have h := wp_pos h q
    exact hj63 _ h _
  ·
    have h := wp_neg h q
    refine rs_aldn wi_40_57 l0 ?_
    refine rs_pure wi_40_58 rfl ?_
    refine rs_topi (v := 1) (by decide) ?_
    refine rs_ildn wi_40_59 l1 ?_
    refine rs_V wi_40_60 wc_40_61 rfl (dq_isa tf_145_0 wa_10_41) (Nat.le_trans (by decide) hF) (ml_le wm_41 (Nat.le_trans (by decide) hLo)) rfl (sp_41 hw (Nat.le_trans (by decide : 6 ≤ 7 - 1) (Nat.sub_le_sub_right hF 1)) (ml_sub wm_41 (Nat.le_trans (by decide : 82 ≤ 134 - 22) (Nat.sub_le_sub_right hLo 22))) (wp_bind h) (fun r16 h => rs_back0 ?_) (fun z17 h => rs_up wh0_40_60 whh_40 (hT z17 (wp_inr h))))
    have h := wp_inl h
    exact hj63 _ h _
theorem wf_42_49 : rx_ft (rt_P sc fm) 42 49 = some (10, 7) := (by decide +kernel : rt_ft 42 49 = some (10, 7))
theorem wf_42_72 : rx_ft (rt_P sc fm) 42 72 = some (3, 3) := (by decide +kernel : rt_ft 42 72 = some (3, 3))
theorem wf_42_9 : rx_ft (rt_P sc fm) 42 9 = some (10, 0) := (by decide +kernel : rt_ft 42 9 = some (10, 0))
theorem wi_42_0 : ri (rt_P sc fm) 42 0 (.aload_n 0) (1) := ri_of (by decide +kernel) rfl
theorem wi_42_1 : ri (rt_P sc fm) 42 1 (.getfield 9) (4) := ri_of (by decide +kernel) rfl
theorem wi_42_11 : ri (rt_P sc fm) 42 11 (.iaload) (12) := ri_of (by decide +kernel) rfl
theorem wi_42_12 : ri (rt_P sc fm) 42 12 (.ireturn) (13) := ri_of (by decide +kernel) rfl
theorem wi_42_4 : ri (rt_P sc fm) 42 4 (.getfield 72) (7) := ri_of (by decide +kernel) rfl
theorem wi_42_7 : ri (rt_P sc fm) 42 7 (.aload_n 0) (8) := ri_of (by decide +kernel) rfl
theorem wi_42_8 : ri (rt_P sc fm) 42 8 (.getfield 49) (11) := ri_of (by decide +kernel) rfl
theorem wr_42 : rx_rt (rt_P sc fm) 42 = (some FieldType.int) := (by decide +kernel : rt_rt 42 = (some FieldType.int))
/-- MarkHouse$Reader.here()I -/
def d_42 (n : Nat)  (c : cS) : Option (Int32) :=
  if ib (c.1 145 7) 4001 then
  some (c.1 4 (ix (c.1 145 7)))
  else none
theorem sp_42 {F Lo n : Nat}  {c y : cS} {w : cW} {K : Int32 → Prop} {Q : ((Option Value) ⊕ String) → List va_E → Prop} (hw : rOK fm w) (hF : 0 ≤ F) (hLo : 0 ≤ Lo)  (h : wp (d_42 n  c) K) (hQ : ∀ r, K r → Q (.inl (some (.int r))) (hq true c y w)) : rs (rt_P sc fm) 42 F Lo 0 [(0, .ref 145)] [] (hq true c y w) Q := by
  unfold d_42 at h
  obtain ⟨lv, elv⟩ : ∃ lv : rx_L, lv = [(0, .ref 145)] := ⟨_, rfl⟩
  rw [← elv]
  have l0 : rx_ld lv 0 = some (.ref 145) := by rw [elv]; rfl
  refine rs_aldn wi_42_0 l0 ?_
  refine dq_gr wi_42_1 wf_42_9 tf_145_0 ?_
  refine dq_gr wi_42_4 wf_42_72 tf_1_3 ?_
  refine rs_aldn wi_42_7 l0 ?_
  refine dq_gi wi_42_8 wf_42_49 tf_145_7 ?_
  obtain ⟨g1, h⟩ := wp_gd h
  refine dq_iald wi_42_11 t_4 g1 ?_
  exact rs_iret wi_42_12 wr_42 rfl (hQ (c.1 4 (ix (c.1 145 7))) h)
theorem wf_43_49 : rx_ft (rt_P sc fm) 43 49 = some (10, 7) := (by decide +kernel : rt_ft 43 49 = some (10, 7))
theorem wf_43_76 : rx_ft (rt_P sc fm) 43 76 = some (3, 2) := (by decide +kernel : rt_ft 43 76 = some (3, 2))
theorem wf_43_9 : rx_ft (rt_P sc fm) 43 9 = some (10, 0) := (by decide +kernel : rt_ft 43 9 = some (10, 0))
theorem wi_43_0 : ri (rt_P sc fm) 43 0 (.aload_n 0) (1) := ri_of (by decide +kernel) rfl
theorem wi_43_1 : ri (rt_P sc fm) 43 1 (.getfield 9) (4) := ri_of (by decide +kernel) rfl
theorem wi_43_11 : ri (rt_P sc fm) 43 11 (.iaload) (12) := ri_of (by decide +kernel) rfl
theorem wi_43_12 : ri (rt_P sc fm) 43 12 (.ireturn) (13) := ri_of (by decide +kernel) rfl
theorem wi_43_4 : ri (rt_P sc fm) 43 4 (.getfield 76) (7) := ri_of (by decide +kernel) rfl
theorem wi_43_7 : ri (rt_P sc fm) 43 7 (.aload_n 0) (8) := ri_of (by decide +kernel) rfl
theorem wi_43_8 : ri (rt_P sc fm) 43 8 (.getfield 49) (11) := ri_of (by decide +kernel) rfl
theorem wr_43 : rx_rt (rt_P sc fm) 43 = (some FieldType.int) := (by decide +kernel : rt_rt 43 = (some FieldType.int))
/-- MarkHouse$Reader.next()I -/
def d_43 (n : Nat)  (c : cS) : Option (Int32) :=
  if ib (c.1 145 7) 4001 then
  some (c.1 3 (ix (c.1 145 7)))
  else none
theorem sp_43 {F Lo n : Nat}  {c y : cS} {w : cW} {K : Int32 → Prop} {Q : ((Option Value) ⊕ String) → List va_E → Prop} (hw : rOK fm w) (hF : 0 ≤ F) (hLo : 0 ≤ Lo)  (h : wp (d_43 n  c) K) (hQ : ∀ r, K r → Q (.inl (some (.int r))) (hq true c y w)) : rs (rt_P sc fm) 43 F Lo 0 [(0, .ref 145)] [] (hq true c y w) Q := by
  unfold d_43 at h
  obtain ⟨lv, elv⟩ : ∃ lv : rx_L, lv = [(0, .ref 145)] := ⟨_, rfl⟩
  rw [← elv]
  have l0 : rx_ld lv 0 = some (.ref 145) := by rw [elv]; rfl
  refine rs_aldn wi_43_0 l0 ?_
  refine dq_gr wi_43_1 wf_43_9 tf_145_0 ?_
  refine dq_gr wi_43_4 wf_43_76 tf_1_2 ?_
  refine rs_aldn wi_43_7 l0 ?_
  refine dq_gi wi_43_8 wf_43_49 tf_145_7 ?_
  obtain ⟨g1, h⟩ := wp_gd h
  refine dq_iald wi_43_11 t_3 g1 ?_
  exact rs_iret wi_43_12 wr_43 rfl (hQ (c.1 3 (ix (c.1 145 7))) h)
theorem fO_0 : ∀ {o : Nat}, o < 4 → fo true (oA o) 8 0 (.long 0)
  | 0, _ => ⟨_, rfl, rfl, by decide, by decide⟩
  | 1, _ => ⟨_, rfl, rfl, by decide, by decide⟩
  | 2, _ => ⟨_, rfl, rfl, by decide, by decide⟩
  | 3, _ => ⟨_, rfl, rfl, by decide, by decide⟩
  | n + 4, h => absurd h (by omega)
theorem t_8 : ta true 8 4 4 := ⟨rfl, by decide, by decide⟩
theorem tf_7_1 : fo true 7 9 1 (.ref 8) := ⟨_, rfl, rfl, by decide, by decide⟩
theorem wf_247_11 : rx_ft (rt_P sc fm) 247 11 = some (9, 1) := (by decide +kernel : rt_ft 247 11 = some (9, 1))
theorem wf_247_55 : rx_ft (rt_P sc fm) 247 55 = some (9, 2) := (by decide +kernel : rt_ft 247 55 = some (9, 2))
theorem wf_247_89 : rx_ft (rt_P sc fm) 247 89 = some (8, 0) := (by decide +kernel : rt_ft 247 89 = some (8, 0))
theorem wi_247_0 : ri (rt_P sc fm) 247 0 (.iconst 0) (1) := ri_of (by decide +kernel) rfl
theorem wi_247_1 : ri (rt_P sc fm) 247 1 (.istore_n 3) (2) := ri_of (by decide +kernel) rfl
theorem wi_247_10 : ri (rt_P sc fm) 247 10 (.aload_n 0) (11) := ri_of (by decide +kernel) rfl
theorem wi_247_11 : ri (rt_P sc fm) 247 11 (.getfield 11) (14) := ri_of (by decide +kernel) rfl
theorem wi_247_14 : ri (rt_P sc fm) 247 14 (.iload_n 3) (15) := ri_of (by decide +kernel) rfl
theorem wi_247_15 : ri (rt_P sc fm) 247 15 (.aaload) (16) := ri_of (by decide +kernel) rfl
theorem wi_247_16 : ri (rt_P sc fm) 247 16 (.getfield 89) (19) := ri_of (by decide +kernel) rfl
theorem wi_247_19 : ri (rt_P sc fm) 247 19 (.lload_n 1) (20) := ri_of (by decide +kernel) rfl
theorem wi_247_2 : ri (rt_P sc fm) 247 2 (.iload_n 3) (3) := ri_of (by decide +kernel) rfl
theorem wi_247_20 : ri (rt_P sc fm) 247 20 (.lcmp) (21) := ri_of (by decide +kernel) rfl
theorem wi_247_21 : ri (rt_P sc fm) 247 21 (.ifCond .ne 5) (24) := ri_of (by decide +kernel) rfl
theorem wi_247_24 : ri (rt_P sc fm) 247 24 (.iload_n 3) (25) := ri_of (by decide +kernel) rfl
theorem wi_247_25 : ri (rt_P sc fm) 247 25 (.ireturn) (26) := ri_of (by decide +kernel) rfl
theorem wi_247_26 : ri (rt_P sc fm) 247 26 (.iinc 3 1) (29) := ri_of (by decide +kernel) rfl
theorem wi_247_29 : ri (rt_P sc fm) 247 29 (.goto (-27)) (32) := ri_of (by decide +kernel) rfl
theorem wi_247_3 : ri (rt_P sc fm) 247 3 (.aload_n 0) (4) := ri_of (by decide +kernel) rfl
theorem wi_247_32 : ri (rt_P sc fm) 247 32 (.iconst (-1)) (33) := ri_of (by decide +kernel) rfl
theorem wi_247_33 : ri (rt_P sc fm) 247 33 (.ireturn) (34) := ri_of (by decide +kernel) rfl
theorem wi_247_4 : ri (rt_P sc fm) 247 4 (.getfield 55) (7) := ri_of (by decide +kernel) rfl
theorem wi_247_7 : ri (rt_P sc fm) 247 7 (.if_icmp .ge 25) (10) := ri_of (by decide +kernel) rfl
theorem wr_247 : rx_rt (rt_P sc fm) 247 = (some FieldType.int) := (by decide +kernel : rt_rt 247 = (some FieldType.int))
/-- MarkHouse$Program.orderOf(J)I -/
def d_247 (n : Nat) (a1 : Int64) (c : cS) : Option (Int32) :=
  Option.bind (whl (R := (Unit) ⊕ (Int32)) (fun s2 : Int32 =>
    if (c.1 7 2) ≤ s2 then
      some (.inr (.inl ()))
    else
      if ib s2 4 then
      if (lg_cmp (c.2 (oA (ix s2)) 0) a1) = 0 then
        some (.inr (.inr s2))
      else
        lt (s2 + 1 : Int32) (fun v5 =>
        some (.inl v5))
      else none) n 0)
  (Sum.elim (fun x7 : Unit =>
    some (-1))
  (fun x8 : Int32 =>
    some x8))
theorem sp_247 {F Lo n : Nat} {a1 : Int64} {c y : cS} {w : cW} {K : Int32 → Prop} {Q : ((Option Value) ⊕ String) → List va_E → Prop} (hw : rOK fm w) (hF : 0 ≤ F) (hLo : 0 ≤ Lo)  (h : wp (d_247 n a1 c) K) (hQ : ∀ r, K r → Q (.inl (some (.int r))) (hq true c y w)) : rs (rt_P sc fm) 247 F Lo 0 [(0, .ref 7), (1, .long a1)] [] (hq true c y w) Q := by
  unfold d_247 at h
  obtain ⟨lv, elv⟩ : ∃ lv : rx_L, lv = [(0, .ref 7), (1, .long a1)] := ⟨_, rfl⟩
  rw [← elv]
  have l0 : rx_ld lv 0 = some (.ref 7) := by rw [elv]; rfl
  have l1 : rx_ld lv 1 = some (.long a1) := by rw [elv]; rfl
  refine rs_pure wi_247_0 rfl ?_
  refine rs_topi (v := 0) (by decide) ?_
  refine dl_istn wi_247_1 rfl (fun lv l3 t1 => ?_)
  have l0 := t1 _ _ (by decide) (Or.inl rfl) l0
  have l1 := t1 _ _ (by decide) (Or.inr (by decide)) l1
  refine whl_ex (A := fun s2 : Int32 => ∀ lv, rx_ld lv 0 = some (.ref 7) → rx_ld lv 1 = some (.long a1) → rx_ld lv 3 = some (.int s2) → rs (rt_P sc fm) 247 F Lo 2 lv [] (hq true c y w) Q) (B := (Sum.elim (fun x7 : Unit => ∀ lv, rs (rt_P sc fm) 247 F Lo 32 lv [] (hq true c y w) Q) (fun x8 : Int32 => ∀ lv, rx_ld lv 3 = some (.int x8) → rs (rt_P sc fm) 247 F Lo 24 lv [] (hq true c y w) Q))) ?_ ?_ _ _ (wp_bind h) _ l0 l1 l3
  · intro s2 h lv l0 l1 l3
    refine rs_ildn wi_247_2 l3 ?_
    refine rs_aldn wi_247_3 l0 ?_
    refine dq_gi wi_247_4 wf_247_55 tf_7_2 ?_
    refine rs_icge (tg := 32) wi_247_7 ⟨by decide, by decide⟩ (fun q => ?_) (fun q => ?_)
    ·
      have h := wp_pos h q
      exact h _
    ·
      have h := wp_neg h q
      refine rs_aldn wi_247_10 l0 ?_
      refine dq_gr wi_247_11 wf_247_11 tf_7_1 ?_
      refine rs_ildn wi_247_14 l3 ?_
      obtain ⟨g3, h⟩ := wp_gd h
      refine dq_aald wi_247_15 (by decide) t_8 g3 (hw.1 _ (ib_lt g3)) ?_
      refine dq_gl wi_247_16 wf_247_89 (fO_0 (ib_lt g3)) ?_
      refine rs_lldn wi_247_19 l1 ?_
      refine rs_pure wi_247_20 rfl ?_
      refine rs_ifne (tg := 26) wi_247_21 ⟨by decide, by decide⟩ (fun q => ?_) (fun q => ?_)
      ·
        have h := wp_neg h q
        obtain ⟨v5, e6, h⟩ := wp_lt h
        refine dl_inc wi_247_26 l3 rfl e6 (fun lv l3 t4 => ?_)
        have l0 := t4 _ _ (by decide) (Or.inl rfl) l0
        have l1 := t4 _ _ (by decide) (Or.inr (by decide)) l1
        refine rs_goto (tg := 2) wi_247_29 ⟨by decide, by decide⟩ ?_
        exact h _ l0 l1 l3
      ·
        have h := wp_pos h q
        exact h _ l3
  ·
    refine sum_all ?_ ?_
    ·
      intro x7 h lv
      have h := wp_inl h
      refine rs_pure wi_247_32 rfl ?_
      refine rs_topi (v := (-1)) (by decide) ?_
      exact rs_iret wi_247_33 wr_247 rfl (hQ (-1) h)
    ·
      intro x8 h lv l3
      have h := wp_inr h
      refine rs_ildn wi_247_24 l3 ?_
      exact rs_iret wi_247_25 wr_247 rfl (hQ x8 h)
theorem fK_0 : ∀ {o : Nat}, o < 12 → fo true (kA o) 6 0 (.long 0)
  | 0, _ => ⟨_, rfl, rfl, by decide, by decide⟩
  | 1, _ => ⟨_, rfl, rfl, by decide, by decide⟩
  | 2, _ => ⟨_, rfl, rfl, by decide, by decide⟩
  | 3, _ => ⟨_, rfl, rfl, by decide, by decide⟩
  | 4, _ => ⟨_, rfl, rfl, by decide, by decide⟩
  | 5, _ => ⟨_, rfl, rfl, by decide, by decide⟩
  | 6, _ => ⟨_, rfl, rfl, by decide, by decide⟩
  | 7, _ => ⟨_, rfl, rfl, by decide, by decide⟩
  | 8, _ => ⟨_, rfl, rfl, by decide, by decide⟩
  | 9, _ => ⟨_, rfl, rfl, by decide, by decide⟩
  | 10, _ => ⟨_, rfl, rfl, by decide, by decide⟩
  | 11, _ => ⟨_, rfl, rfl, by decide, by decide⟩
  | n + 12, h => absurd h (by omega)
theorem t_9 : ta true 9 5 12 := ⟨rfl, by decide, by decide⟩
theorem tf_7_3 : fo true 7 9 3 (.ref 9) := ⟨_, rfl, rfl, by decide, by decide⟩
theorem wf_248_19 : rx_ft (rt_P sc fm) 248 19 = some (9, 3) := (by decide +kernel : rt_ft 248 19 = some (9, 3))
theorem wf_248_59 : rx_ft (rt_P sc fm) 248 59 = some (9, 4) := (by decide +kernel : rt_ft 248 59 = some (9, 4))
theorem wf_248_93 : rx_ft (rt_P sc fm) 248 93 = some (6, 0) := (by decide +kernel : rt_ft 248 93 = some (6, 0))
theorem wi_248_0 : ri (rt_P sc fm) 248 0 (.iconst 0) (1) := ri_of (by decide +kernel) rfl
theorem wi_248_1 : ri (rt_P sc fm) 248 1 (.istore_n 3) (2) := ri_of (by decide +kernel) rfl
theorem wi_248_10 : ri (rt_P sc fm) 248 10 (.aload_n 0) (11) := ri_of (by decide +kernel) rfl
theorem wi_248_11 : ri (rt_P sc fm) 248 11 (.getfield 19) (14) := ri_of (by decide +kernel) rfl
theorem wi_248_14 : ri (rt_P sc fm) 248 14 (.iload_n 3) (15) := ri_of (by decide +kernel) rfl
theorem wi_248_15 : ri (rt_P sc fm) 248 15 (.aaload) (16) := ri_of (by decide +kernel) rfl
theorem wi_248_16 : ri (rt_P sc fm) 248 16 (.getfield 93) (19) := ri_of (by decide +kernel) rfl
theorem wi_248_19 : ri (rt_P sc fm) 248 19 (.lload_n 1) (20) := ri_of (by decide +kernel) rfl
theorem wi_248_2 : ri (rt_P sc fm) 248 2 (.iload_n 3) (3) := ri_of (by decide +kernel) rfl
theorem wi_248_20 : ri (rt_P sc fm) 248 20 (.lcmp) (21) := ri_of (by decide +kernel) rfl
theorem wi_248_21 : ri (rt_P sc fm) 248 21 (.ifCond .ne 5) (24) := ri_of (by decide +kernel) rfl
theorem wi_248_24 : ri (rt_P sc fm) 248 24 (.iload_n 3) (25) := ri_of (by decide +kernel) rfl
theorem wi_248_25 : ri (rt_P sc fm) 248 25 (.ireturn) (26) := ri_of (by decide +kernel) rfl
theorem wi_248_26 : ri (rt_P sc fm) 248 26 (.iinc 3 1) (29) := ri_of (by decide +kernel) rfl
theorem wi_248_29 : ri (rt_P sc fm) 248 29 (.goto (-27)) (32) := ri_of (by decide +kernel) rfl
theorem wi_248_3 : ri (rt_P sc fm) 248 3 (.aload_n 0) (4) := ri_of (by decide +kernel) rfl
theorem wi_248_32 : ri (rt_P sc fm) 248 32 (.iconst (-1)) (33) := ri_of (by decide +kernel) rfl
theorem wi_248_33 : ri (rt_P sc fm) 248 33 (.ireturn) (34) := ri_of (by decide +kernel) rfl
theorem wi_248_4 : ri (rt_P sc fm) 248 4 (.getfield 59) (7) := ri_of (by decide +kernel) rfl
theorem wi_248_7 : ri (rt_P sc fm) 248 7 (.if_icmp .ge 25) (10) := ri_of (by decide +kernel) rfl
theorem wr_248 : rx_rt (rt_P sc fm) 248 = (some FieldType.int) := (by decide +kernel : rt_rt 248 = (some FieldType.int))
/-- MarkHouse$Program.kindOf(J)I -/
def d_248 (n : Nat) (a1 : Int64) (c : cS) : Option (Int32) :=
  Option.bind (whl (R := (Unit) ⊕ (Int32)) (fun s2 : Int32 =>
    if (c.1 7 4) ≤ s2 then
      some (.inr (.inl ()))
    else
      if ib s2 12 then
      if (lg_cmp (c.2 (kA (ix s2)) 0) a1) = 0 then
        some (.inr (.inr s2))
      else
        lt (s2 + 1 : Int32) (fun v5 =>
        some (.inl v5))
      else none) n 0)
  (Sum.elim (fun x7 : Unit =>
    some (-1))
  (fun x8 : Int32 =>
    some x8))
theorem sp_248 {F Lo n : Nat} {a1 : Int64} {c y : cS} {w : cW} {K : Int32 → Prop} {Q : ((Option Value) ⊕ String) → List va_E → Prop} (hw : rOK fm w) (hF : 0 ≤ F) (hLo : 0 ≤ Lo)  (h : wp (d_248 n a1 c) K) (hQ : ∀ r, K r → Q (.inl (some (.int r))) (hq true c y w)) : rs (rt_P sc fm) 248 F Lo 0 [(0, .ref 7), (1, .long a1)] [] (hq true c y w) Q := by
  unfold d_248 at h
  obtain ⟨lv, elv⟩ : ∃ lv : rx_L, lv = [(0, .ref 7), (1, .long a1)] := ⟨_, rfl⟩
  rw [← elv]
  have l0 : rx_ld lv 0 = some (.ref 7) := by rw [elv]; rfl
  have l1 : rx_ld lv 1 = some (.long a1) := by rw [elv]; rfl
  refine rs_pure wi_248_0 rfl ?_
  refine rs_topi (v := 0) (by decide) ?_
  refine dl_istn wi_248_1 rfl (fun lv l3 t1 => ?_)
  have l0 := t1 _ _ (by decide) (Or.inl rfl) l0
  have l1 := t1 _ _ (by decide) (Or.inr (by decide)) l1
  refine whl_ex (A := fun s2 : Int32 => ∀ lv, rx_ld lv 0 = some (.ref 7) → rx_ld lv 1 = some (.long a1) → rx_ld lv 3 = some (.int s2) → rs (rt_P sc fm) 248 F Lo 2 lv [] (hq true c y w) Q) (B := (Sum.elim (fun x7 : Unit => ∀ lv, rs (rt_P sc fm) 248 F Lo 32 lv [] (hq true c y w) Q) (fun x8 : Int32 => ∀ lv, rx_ld lv 3 = some (.int x8) → rs (rt_P sc fm) 248 F Lo 24 lv [] (hq true c y w) Q))) ?_ ?_ _ _ (wp_bind h) _ l0 l1 l3
  · intro s2 h lv l0 l1 l3
    refine rs_ildn wi_248_2 l3 ?_
    refine rs_aldn wi_248_3 l0 ?_
    refine dq_gi wi_248_4 wf_248_59 tf_7_4 ?_
    refine rs_icge (tg := 32) wi_248_7 ⟨by decide, by decide⟩ (fun q => ?_) (fun q => ?_)
    ·
      have h := wp_pos h q
      exact h _
    ·
      have h := wp_neg h q
      refine rs_aldn wi_248_10 l0 ?_
      refine dq_gr wi_248_11 wf_248_19 tf_7_3 ?_
      refine rs_ildn wi_248_14 l3 ?_
      obtain ⟨g3, h⟩ := wp_gd h
      refine dq_aald wi_248_15 (by decide) t_9 g3 (hw.2.1 _ (ib_lt g3)) ?_
      refine dq_gl wi_248_16 wf_248_93 (fK_0 (ib_lt g3)) ?_
      refine rs_lldn wi_248_19 l1 ?_
      refine rs_pure wi_248_20 rfl ?_
      refine rs_ifne (tg := 26) wi_248_21 ⟨by decide, by decide⟩ (fun q => ?_) (fun q => ?_)
      ·
        have h := wp_neg h q
        obtain ⟨v5, e6, h⟩ := wp_lt h
        refine dl_inc wi_248_26 l3 rfl e6 (fun lv l3 t4 => ?_)
        have l0 := t4 _ _ (by decide) (Or.inl rfl) l0
        have l1 := t4 _ _ (by decide) (Or.inr (by decide)) l1
        refine rs_goto (tg := 2) wi_248_29 ⟨by decide, by decide⟩ ?_
        exact h _ l0 l1 l3
      ·
        have h := wp_pos h q
        exact h _ l3
  ·
    refine sum_all ?_ ?_
    ·
      intro x7 h lv
      have h := wp_inl h
      refine rs_pure wi_248_32 rfl ?_
      refine rs_topi (v := (-1)) (by decide) ?_
      exact rs_iret wi_248_33 wr_248 rfl (hQ (-1) h)
    ·
      intro x8 h lv l3
      have h := wp_inr h
      refine rs_ildn wi_248_24 l3 ?_
      exact rs_iret wi_248_25 wr_248 rfl (hQ x8 h)
theorem wa_9_247 : rz_cn 9 (rx_yn (rt_P sc fm) 247).cls = true := (by decide +kernel : rz_cn 9 (rt_yn 247).cls = true)
theorem wa_9_248 : rz_cn 9 (rx_yn (rt_P sc fm) 248).cls = true := (by decide +kernel : rz_cn 9 (rt_yn 248).cls = true)
theorem wc_246_83 : rx_ct (rt_P sc fm) 246 83 = some (0, 247, 1) := (by decide +kernel : rt_ct 246 83 = some (0, 247, 1))
theorem wc_246_86 : rx_ct (rt_P sc fm) 246 86 = some (0, 248, 1) := (by decide +kernel : rt_ct 246 86 = some (0, 248, 1))
theorem wi_246_0 : ri (rt_P sc fm) 246 0 (.aload_n 0) (1) := ri_of (by decide +kernel) rfl
theorem wi_246_1 : ri (rt_P sc fm) 246 1 (.lload_n 1) (2) := ri_of (by decide +kernel) rfl
theorem wi_246_10 : ri (rt_P sc fm) 246 10 (.bipush 100) (12) := ri_of (by decide +kernel) rfl
theorem wi_246_12 : ri (rt_P sc fm) 246 12 (.iload_n 3) (13) := ri_of (by decide +kernel) rfl
theorem wi_246_13 : ri (rt_P sc fm) 246 13 (.iadd) (14) := ri_of (by decide +kernel) rfl
theorem wi_246_14 : ri (rt_P sc fm) 246 14 (.goto 8) (17) := ri_of (by decide +kernel) rfl
theorem wi_246_17 : ri (rt_P sc fm) 246 17 (.aload_n 0) (18) := ri_of (by decide +kernel) rfl
theorem wi_246_18 : ri (rt_P sc fm) 246 18 (.lload_n 1) (19) := ri_of (by decide +kernel) rfl
theorem wi_246_19 : ri (rt_P sc fm) 246 19 (.invokevirtual 86) (22) := ri_of (by decide +kernel) rfl
theorem wi_246_2 : ri (rt_P sc fm) 246 2 (.invokevirtual 83) (5) := ri_of (by decide +kernel) rfl
theorem wi_246_22 : ri (rt_P sc fm) 246 22 (.ireturn) (23) := ri_of (by decide +kernel) rfl
theorem wi_246_5 : ri (rt_P sc fm) 246 5 (.istore_n 3) (6) := ri_of (by decide +kernel) rfl
theorem wi_246_6 : ri (rt_P sc fm) 246 6 (.iload_n 3) (7) := ri_of (by decide +kernel) rfl
theorem wi_246_7 : ri (rt_P sc fm) 246 7 (.ifCond .lt 10) (10) := ri_of (by decide +kernel) rfl
theorem wm_247 : rx_ml (rt_P sc fm) 247 = 4 := (by decide +kernel : rt_ml 247 = 4)
theorem wm_248 : rx_ml (rt_P sc fm) 248 = 4 := (by decide +kernel : rt_ml 248 = 4)
theorem wr_246 : rx_rt (rt_P sc fm) 246 = (some FieldType.int) := (by decide +kernel : rt_rt 246 = (some FieldType.int))
/-- MarkHouse$Program.targetOf(J)I -/
def d_246 (n : Nat) (a1 : Int64) (c : cS) : Option (Int32) :=
  Option.bind (d_247 n a1 c) (fun v1 =>
  jn (fun p3 : Int32 =>
    some p3)
  (fun j22 =>
  if v1 < 0 then
    Option.bind (d_248 n a1 c) (fun v4 =>
    j22 v4)
  else
    j22 (100 + v1)))
theorem sp_246 {F Lo n : Nat} {a1 : Int64} {c y : cS} {w : cW} {K : Int32 → Prop} {Q : ((Option Value) ⊕ String) → List va_E → Prop} (hw : rOK fm w) (hF : 1 ≤ F) (hLo : 23 ≤ Lo)  (h : wp (d_246 n a1 c) K) (hQ : ∀ r, K r → Q (.inl (some (.int r))) (hq true c y w)) : rs (rt_P sc fm) 246 F Lo 0 [(0, .ref 7), (1, .long a1)] [] (hq true c y w) Q := by
  unfold d_246 at h
  obtain ⟨lv, elv⟩ : ∃ lv : rx_L, lv = [(0, .ref 7), (1, .long a1)] := ⟨_, rfl⟩
  rw [← elv]
  have l0 : rx_ld lv 0 = some (.ref 7) := by rw [elv]; rfl
  have l1 : rx_ld lv 1 = some (.long a1) := by rw [elv]; rfl
  refine rs_aldn wi_246_0 l0 ?_
  refine rs_lldn wi_246_1 l1 ?_
  refine rs_V wi_246_2 wc_246_83 rfl (dq_isa tf_7_0 wa_9_247) (Nat.le_trans (by decide) hF) (ml_le wm_247 (Nat.le_trans (by decide) hLo)) rfl (sp_247 hw (Nat.le_trans (by decide : 0 ≤ 1 - 1) (Nat.sub_le_sub_right hF 1)) (ml_sub wm_247 (Nat.le_trans (by decide : 0 ≤ 23 - 23) (Nat.sub_le_sub_right hLo 23))) (wp_bind h) (fun v1 h => rs_back1 ?_))
  refine dl_istn wi_246_5 rfl (fun lv l3 t2 => ?_)
  have l0 := t2 _ _ (by decide) (Or.inl rfl) l0
  have l1 := t2 _ _ (by decide) (Or.inr (by decide)) l1
  refine rs_ildn wi_246_6 l3 ?_
  refine wp_jn (B := fun p3 : Int32 => ∀ lv, rs (rt_P sc fm) 246 F Lo 22 lv [.int p3] (hq true c y w) Q) h (fun p3 h lv => ?_) (fun j22 hj22 h => ?_)
  ·
    exact rs_iret wi_246_22 wr_246 rfl (hQ p3 h)
  refine rs_iflt (tg := 17) wi_246_7 ⟨by decide, by decide⟩ (fun q => ?_) (fun q => ?_)
  ·
    have h := wp_pos h q
    refine rs_aldn wi_246_17 l0 ?_
    refine rs_lldn wi_246_18 l1 ?_
    refine rs_V wi_246_19 wc_246_86 rfl (dq_isa tf_7_0 wa_9_248) (Nat.le_trans (by decide) hF) (ml_le wm_248 (Nat.le_trans (by decide) hLo)) rfl (sp_248 hw (Nat.le_trans (by decide : 0 ≤ 1 - 1) (Nat.sub_le_sub_right hF 1)) (ml_sub wm_248 (Nat.le_trans (by decide : 0 ≤ 23 - 23) (Nat.sub_le_sub_right hLo 23))) (wp_bind h) (fun v4 h => rs_back1 ?_))
    exact hj22 _ h _
  ·
    have h := wp_neg h q
    refine rs_pure wi_246_10 rfl ?_
    refine rs_topi (v := 100) (by decide) ?_
    refine rs_ildn wi_246_12 l3 ?_
    refine rs_pure wi_246_13 rfl ?_
    refine rs_goto (tg := 22) wi_246_14 ⟨by decide, by decide⟩ ?_
    exact hj22 _ h _
theorem t_10 : ta true 10 1 6 := ⟨rfl, by decide, by decide⟩
theorem tf_7_5 : fo true 7 9 5 (.ref 10) := ⟨_, rfl, rfl, by decide, by decide⟩
theorem wf_245_23 : rx_ft (rt_P sc fm) 245 23 = some (9, 5) := (by decide +kernel : rt_ft 245 23 = some (9, 5))
theorem wf_245_62 : rx_ft (rt_P sc fm) 245 62 = some (9, 7) := (by decide +kernel : rt_ft 245 62 = some (9, 7))
theorem wi_245_0 : ri (rt_P sc fm) 245 0 (.iconst 0) (1) := ri_of (by decide +kernel) rfl
theorem wi_245_1 : ri (rt_P sc fm) 245 1 (.istore_n 3) (2) := ri_of (by decide +kernel) rfl
theorem wi_245_10 : ri (rt_P sc fm) 245 10 (.aload_n 0) (11) := ri_of (by decide +kernel) rfl
theorem wi_245_11 : ri (rt_P sc fm) 245 11 (.getfield 23) (14) := ri_of (by decide +kernel) rfl
theorem wi_245_14 : ri (rt_P sc fm) 245 14 (.iload_n 3) (15) := ri_of (by decide +kernel) rfl
theorem wi_245_15 : ri (rt_P sc fm) 245 15 (.laload) (16) := ri_of (by decide +kernel) rfl
theorem wi_245_16 : ri (rt_P sc fm) 245 16 (.lload_n 1) (17) := ri_of (by decide +kernel) rfl
theorem wi_245_17 : ri (rt_P sc fm) 245 17 (.lcmp) (18) := ri_of (by decide +kernel) rfl
theorem wi_245_18 : ri (rt_P sc fm) 245 18 (.ifCond .ne 5) (21) := ri_of (by decide +kernel) rfl
theorem wi_245_2 : ri (rt_P sc fm) 245 2 (.iload_n 3) (3) := ri_of (by decide +kernel) rfl
theorem wi_245_21 : ri (rt_P sc fm) 245 21 (.iconst 1) (22) := ri_of (by decide +kernel) rfl
theorem wi_245_22 : ri (rt_P sc fm) 245 22 (.ireturn) (23) := ri_of (by decide +kernel) rfl
theorem wi_245_23 : ri (rt_P sc fm) 245 23 (.iinc 3 1) (26) := ri_of (by decide +kernel) rfl
theorem wi_245_26 : ri (rt_P sc fm) 245 26 (.goto (-24)) (29) := ri_of (by decide +kernel) rfl
theorem wi_245_29 : ri (rt_P sc fm) 245 29 (.iconst 0) (30) := ri_of (by decide +kernel) rfl
theorem wi_245_3 : ri (rt_P sc fm) 245 3 (.aload_n 0) (4) := ri_of (by decide +kernel) rfl
theorem wi_245_30 : ri (rt_P sc fm) 245 30 (.ireturn) (31) := ri_of (by decide +kernel) rfl
theorem wi_245_4 : ri (rt_P sc fm) 245 4 (.getfield 62) (7) := ri_of (by decide +kernel) rfl
theorem wi_245_7 : ri (rt_P sc fm) 245 7 (.if_icmp .ge 22) (10) := ri_of (by decide +kernel) rfl
theorem wr_245 : rx_rt (rt_P sc fm) 245 = (some FieldType.boolean) := (by decide +kernel : rt_rt 245 = (some FieldType.boolean))
/-- MarkHouse$Program.isMaker(J)Z -/
def d_245 (n : Nat) (a1 : Int64) (c : cS) : Option (Int32) :=
  Option.bind (whl (R := (Unit) ⊕ (Unit)) (fun s2 : Int32 =>
    if (c.1 7 7) ≤ s2 then
      some (.inr (.inl ()))
    else
      if ib s2 6 then
      if (lg_cmp (c.2 10 (ix s2)) a1) = 0 then
        some (.inr (.inr ()))
      else
        lt (s2 + 1 : Int32) (fun v5 =>
        some (.inl v5))
      else none) n 0)
  (Sum.elim (fun x7 : Unit =>
    some 0)
  (fun x8 : Unit =>
    some 1))
theorem sp_245 {F Lo n : Nat} {a1 : Int64} {c y : cS} {w : cW} {K : Int32 → Prop} {Q : ((Option Value) ⊕ String) → List va_E → Prop} (hw : rOK fm w) (hF : 0 ≤ F) (hLo : 0 ≤ Lo)  (h : wp (d_245 n a1 c) K) (hQ : ∀ r, K r → Q (.inl (some (.int r))) (hq true c y w)) : rs (rt_P sc fm) 245 F Lo 0 [(0, .ref 7), (1, .long a1)] [] (hq true c y w) Q := by
  unfold d_245 at h
  obtain ⟨lv, elv⟩ : ∃ lv : rx_L, lv = [(0, .ref 7), (1, .long a1)] := ⟨_, rfl⟩
  rw [← elv]
  have l0 : rx_ld lv 0 = some (.ref 7) := by rw [elv]; rfl
  have l1 : rx_ld lv 1 = some (.long a1) := by rw [elv]; rfl
  refine rs_pure wi_245_0 rfl ?_
  refine rs_topi (v := 0) (by decide) ?_
  refine dl_istn wi_245_1 rfl (fun lv l3 t1 => ?_)
  have l0 := t1 _ _ (by decide) (Or.inl rfl) l0
  have l1 := t1 _ _ (by decide) (Or.inr (by decide)) l1
  refine whl_ex (A := fun s2 : Int32 => ∀ lv, rx_ld lv 0 = some (.ref 7) → rx_ld lv 1 = some (.long a1) → rx_ld lv 3 = some (.int s2) → rs (rt_P sc fm) 245 F Lo 2 lv [] (hq true c y w) Q) (B := (Sum.elim (fun x7 : Unit => ∀ lv, rs (rt_P sc fm) 245 F Lo 29 lv [] (hq true c y w) Q) (fun x8 : Unit => ∀ lv, rs (rt_P sc fm) 245 F Lo 21 lv [] (hq true c y w) Q))) ?_ ?_ _ _ (wp_bind h) _ l0 l1 l3
  · intro s2 h lv l0 l1 l3
    refine rs_ildn wi_245_2 l3 ?_
    refine rs_aldn wi_245_3 l0 ?_
    refine dq_gi wi_245_4 wf_245_62 tf_7_7 ?_
    refine rs_icge (tg := 29) wi_245_7 ⟨by decide, by decide⟩ (fun q => ?_) (fun q => ?_)
    ·
      have h := wp_pos h q
      exact h _
    ·
      have h := wp_neg h q
      refine rs_aldn wi_245_10 l0 ?_
      refine dq_gr wi_245_11 wf_245_23 tf_7_5 ?_
      refine rs_ildn wi_245_14 l3 ?_
      obtain ⟨g3, h⟩ := wp_gd h
      refine dq_lald wi_245_15 t_10 g3 ?_
      refine rs_lldn wi_245_16 l1 ?_
      refine rs_pure wi_245_17 rfl ?_
      refine rs_ifne (tg := 23) wi_245_18 ⟨by decide, by decide⟩ (fun q => ?_) (fun q => ?_)
      ·
        have h := wp_neg h q
        obtain ⟨v5, e6, h⟩ := wp_lt h
        refine dl_inc wi_245_23 l3 rfl e6 (fun lv l3 t4 => ?_)
        have l0 := t4 _ _ (by decide) (Or.inl rfl) l0
        have l1 := t4 _ _ (by decide) (Or.inr (by decide)) l1
        refine rs_goto (tg := 2) wi_245_26 ⟨by decide, by decide⟩ ?_
        exact h _ l0 l1 l3
      ·
        have h := wp_pos h q
        exact h _
  ·
    refine sum_all ?_ ?_
    ·
      intro x7 h lv
      have h := wp_inl h
      refine rs_pure wi_245_29 rfl ?_
      refine rs_topi (v := 0) (by decide) ?_
      exact rs_iret wi_245_30 wr_245 (nb_n (by decide)) (hQ 0 h)
    ·
      intro x8 h lv
      have h := wp_inr h
      refine rs_pure wi_245_21 rfl ?_
      refine rs_topi (v := 1) (by decide) ?_
      exact rs_iret wi_245_22 wr_245 (nb_n (by decide)) (hQ 1 h)
theorem t_12 : ta true 12 1 12 := ⟨rfl, by decide, by decide⟩
theorem tf_7_8 : fo true 7 9 8 (.ref 12) := ⟨_, rfl, rfl, by decide, by decide⟩
theorem wf_249_31 : rx_ft (rt_P sc fm) 249 31 = some (9, 8) := (by decide +kernel : rt_ft 249 31 = some (9, 8))
theorem wf_249_65 : rx_ft (rt_P sc fm) 249 65 = some (9, 10) := (by decide +kernel : rt_ft 249 65 = some (9, 10))
theorem wi_249_0 : ri (rt_P sc fm) 249 0 (.iconst 0) (1) := ri_of (by decide +kernel) rfl
theorem wi_249_1 : ri (rt_P sc fm) 249 1 (.istore_n 3) (2) := ri_of (by decide +kernel) rfl
theorem wi_249_10 : ri (rt_P sc fm) 249 10 (.aload_n 0) (11) := ri_of (by decide +kernel) rfl
theorem wi_249_11 : ri (rt_P sc fm) 249 11 (.getfield 31) (14) := ri_of (by decide +kernel) rfl
theorem wi_249_14 : ri (rt_P sc fm) 249 14 (.iload_n 3) (15) := ri_of (by decide +kernel) rfl
theorem wi_249_15 : ri (rt_P sc fm) 249 15 (.laload) (16) := ri_of (by decide +kernel) rfl
theorem wi_249_16 : ri (rt_P sc fm) 249 16 (.lload_n 1) (17) := ri_of (by decide +kernel) rfl
theorem wi_249_17 : ri (rt_P sc fm) 249 17 (.lcmp) (18) := ri_of (by decide +kernel) rfl
theorem wi_249_18 : ri (rt_P sc fm) 249 18 (.ifCond .ne 5) (21) := ri_of (by decide +kernel) rfl
theorem wi_249_2 : ri (rt_P sc fm) 249 2 (.iload_n 3) (3) := ri_of (by decide +kernel) rfl
theorem wi_249_21 : ri (rt_P sc fm) 249 21 (.iload_n 3) (22) := ri_of (by decide +kernel) rfl
theorem wi_249_22 : ri (rt_P sc fm) 249 22 (.ireturn) (23) := ri_of (by decide +kernel) rfl
theorem wi_249_23 : ri (rt_P sc fm) 249 23 (.iinc 3 1) (26) := ri_of (by decide +kernel) rfl
theorem wi_249_26 : ri (rt_P sc fm) 249 26 (.goto (-24)) (29) := ri_of (by decide +kernel) rfl
theorem wi_249_29 : ri (rt_P sc fm) 249 29 (.iconst (-1)) (30) := ri_of (by decide +kernel) rfl
theorem wi_249_3 : ri (rt_P sc fm) 249 3 (.aload_n 0) (4) := ri_of (by decide +kernel) rfl
theorem wi_249_30 : ri (rt_P sc fm) 249 30 (.ireturn) (31) := ri_of (by decide +kernel) rfl
theorem wi_249_4 : ri (rt_P sc fm) 249 4 (.getfield 65) (7) := ri_of (by decide +kernel) rfl
theorem wi_249_7 : ri (rt_P sc fm) 249 7 (.if_icmp .ge 22) (10) := ri_of (by decide +kernel) rfl
theorem wr_249 : rx_rt (rt_P sc fm) 249 = (some FieldType.int) := (by decide +kernel : rt_rt 249 = (some FieldType.int))
/-- MarkHouse$Program.classOf(J)I -/
def d_249 (n : Nat) (a1 : Int64) (c : cS) : Option (Int32) :=
  Option.bind (whl (R := (Unit) ⊕ (Int32)) (fun s2 : Int32 =>
    if (c.1 7 10) ≤ s2 then
      some (.inr (.inl ()))
    else
      if ib s2 12 then
      if (lg_cmp (c.2 12 (ix s2)) a1) = 0 then
        some (.inr (.inr s2))
      else
        lt (s2 + 1 : Int32) (fun v5 =>
        some (.inl v5))
      else none) n 0)
  (Sum.elim (fun x7 : Unit =>
    some (-1))
  (fun x8 : Int32 =>
    some x8))
theorem sp_249 {F Lo n : Nat} {a1 : Int64} {c y : cS} {w : cW} {K : Int32 → Prop} {Q : ((Option Value) ⊕ String) → List va_E → Prop} (hw : rOK fm w) (hF : 0 ≤ F) (hLo : 0 ≤ Lo)  (h : wp (d_249 n a1 c) K) (hQ : ∀ r, K r → Q (.inl (some (.int r))) (hq true c y w)) : rs (rt_P sc fm) 249 F Lo 0 [(0, .ref 7), (1, .long a1)] [] (hq true c y w) Q := by
  unfold d_249 at h
  obtain ⟨lv, elv⟩ : ∃ lv : rx_L, lv = [(0, .ref 7), (1, .long a1)] := ⟨_, rfl⟩
  rw [← elv]
  have l0 : rx_ld lv 0 = some (.ref 7) := by rw [elv]; rfl
  have l1 : rx_ld lv 1 = some (.long a1) := by rw [elv]; rfl
  refine rs_pure wi_249_0 rfl ?_
  refine rs_topi (v := 0) (by decide) ?_
  refine dl_istn wi_249_1 rfl (fun lv l3 t1 => ?_)
  have l0 := t1 _ _ (by decide) (Or.inl rfl) l0
  have l1 := t1 _ _ (by decide) (Or.inr (by decide)) l1
  refine whl_ex (A := fun s2 : Int32 => ∀ lv, rx_ld lv 0 = some (.ref 7) → rx_ld lv 1 = some (.long a1) → rx_ld lv 3 = some (.int s2) → rs (rt_P sc fm) 249 F Lo 2 lv [] (hq true c y w) Q) (B := (Sum.elim (fun x7 : Unit => ∀ lv, rs (rt_P sc fm) 249 F Lo 29 lv [] (hq true c y w) Q) (fun x8 : Int32 => ∀ lv, rx_ld lv 3 = some (.int x8) → rs (rt_P sc fm) 249 F Lo 21 lv [] (hq true c y w) Q))) ?_ ?_ _ _ (wp_bind h) _ l0 l1 l3
  · intro s2 h lv l0 l1 l3
    refine rs_ildn wi_249_2 l3 ?_
    refine rs_aldn wi_249_3 l0 ?_
    refine dq_gi wi_249_4 wf_249_65 tf_7_10 ?_
    refine rs_icge (tg := 29) wi_249_7 ⟨by decide, by decide⟩ (fun q => ?_) (fun q => ?_)
    ·
      have h := wp_pos h q
      exact h _
    ·
      have h := wp_neg h q
      refine rs_aldn wi_249_10 l0 ?_
      refine dq_gr wi_249_11 wf_249_31 tf_7_8 ?_
      refine rs_ildn wi_249_14 l3 ?_
      obtain ⟨g3, h⟩ := wp_gd h
      refine dq_lald wi_249_15 t_12 g3 ?_
      refine rs_lldn wi_249_16 l1 ?_
      refine rs_pure wi_249_17 rfl ?_
      refine rs_ifne (tg := 23) wi_249_18 ⟨by decide, by decide⟩ (fun q => ?_) (fun q => ?_)
      ·
        have h := wp_neg h q
        obtain ⟨v5, e6, h⟩ := wp_lt h
        refine dl_inc wi_249_23 l3 rfl e6 (fun lv l3 t4 => ?_)
        have l0 := t4 _ _ (by decide) (Or.inl rfl) l0
        have l1 := t4 _ _ (by decide) (Or.inr (by decide)) l1
        refine rs_goto (tg := 2) wi_249_26 ⟨by decide, by decide⟩ ?_
        exact h _ l0 l1 l3
      ·
        have h := wp_pos h q
        exact h _ l3
  ·
    refine sum_all ?_ ?_
    ·
      intro x7 h lv
      have h := wp_inl h
      refine rs_pure wi_249_29 rfl ?_
      refine rs_topi (v := (-1)) (by decide) ?_
      exact rs_iret wi_249_30 wr_249 rfl (hQ (-1) h)
    ·
      intro x8 h lv l3
      have h := wp_inr h
      refine rs_ildn wi_249_21 l3 ?_
      exact rs_iret wi_249_22 wr_249 rfl (hQ x8 h)
theorem wa_9_245 : rz_cn 9 (rx_yn (rt_P sc fm) 245).cls = true := (by decide +kernel : rz_cn 9 (rt_yn 245).cls = true)
theorem wa_9_246 : rz_cn 9 (rx_yn (rt_P sc fm) 246).cls = true := (by decide +kernel : rz_cn 9 (rt_yn 246).cls = true)
theorem wa_9_249 : rz_cn 9 (rx_yn (rt_P sc fm) 249).cls = true := (by decide +kernel : rz_cn 9 (rt_yn 249).cls = true)
theorem wc_244_72 : rx_ct (rt_P sc fm) 244 72 = some (0, 246, 1) := (by decide +kernel : rt_ct 244 72 = some (0, 246, 1))
theorem wc_244_76 : rx_ct (rt_P sc fm) 244 76 = some (0, 245, 1) := (by decide +kernel : rt_ct 244 76 = some (0, 245, 1))
theorem wc_244_80 : rx_ct (rt_P sc fm) 244 80 = some (0, 249, 1) := (by decide +kernel : rt_ct 244 80 = some (0, 249, 1))
theorem wi_244_0 : ri (rt_P sc fm) 244 0 (.aload_n 0) (1) := ri_of (by decide +kernel) rfl
theorem wi_244_1 : ri (rt_P sc fm) 244 1 (.lload_n 1) (2) := ri_of (by decide +kernel) rfl
theorem wi_244_10 : ri (rt_P sc fm) 244 10 (.invokevirtual 76) (13) := ri_of (by decide +kernel) rfl
theorem wi_244_13 : ri (rt_P sc fm) 244 13 (.ifCond .ne 11) (16) := ri_of (by decide +kernel) rfl
theorem wi_244_16 : ri (rt_P sc fm) 244 16 (.aload_n 0) (17) := ri_of (by decide +kernel) rfl
theorem wi_244_17 : ri (rt_P sc fm) 244 17 (.lload_n 1) (18) := ri_of (by decide +kernel) rfl
theorem wi_244_18 : ri (rt_P sc fm) 244 18 (.invokevirtual 80) (21) := ri_of (by decide +kernel) rfl
theorem wi_244_2 : ri (rt_P sc fm) 244 2 (.invokevirtual 72) (5) := ri_of (by decide +kernel) rfl
theorem wi_244_21 : ri (rt_P sc fm) 244 21 (.ifCond .lt 7) (24) := ri_of (by decide +kernel) rfl
theorem wi_244_24 : ri (rt_P sc fm) 244 24 (.iconst 1) (25) := ri_of (by decide +kernel) rfl
theorem wi_244_25 : ri (rt_P sc fm) 244 25 (.goto 4) (28) := ri_of (by decide +kernel) rfl
theorem wi_244_28 : ri (rt_P sc fm) 244 28 (.iconst 0) (29) := ri_of (by decide +kernel) rfl
theorem wi_244_29 : ri (rt_P sc fm) 244 29 (.ireturn) (30) := ri_of (by decide +kernel) rfl
theorem wi_244_5 : ri (rt_P sc fm) 244 5 (.ifCond .ge 19) (8) := ri_of (by decide +kernel) rfl
theorem wi_244_8 : ri (rt_P sc fm) 244 8 (.aload_n 0) (9) := ri_of (by decide +kernel) rfl
theorem wi_244_9 : ri (rt_P sc fm) 244 9 (.lload_n 1) (10) := ri_of (by decide +kernel) rfl
theorem wm_245 : rx_ml (rt_P sc fm) 245 = 4 := (by decide +kernel : rt_ml 245 = 4)
theorem wm_246 : rx_ml (rt_P sc fm) 246 = 4 := (by decide +kernel : rt_ml 246 = 4)
theorem wm_249 : rx_ml (rt_P sc fm) 249 = 4 := (by decide +kernel : rt_ml 249 = 4)
theorem wr_244 : rx_rt (rt_P sc fm) 244 = (some FieldType.boolean) := (by decide +kernel : rt_rt 244 = (some FieldType.boolean))
/-- MarkHouse$Program.isNamed(J)Z -/
def d_244 (n : Nat) (a1 : Int64) (c : cS) : Option (Int32) :=
  Option.bind (d_246 n a1 c) (fun v1 =>
  jn (fun p2 : Int32 =>
    if nb p2 then
    some p2
    else none)
  (fun j29 =>
  jn (fun p4 : Unit =>
    j29 1)
  (fun j24 =>
  if 0 ≤ v1 then
    j24 ()
  else
    Option.bind (d_245 n a1 c) (fun v5 =>
    if v5 = 0 then
      Option.bind (d_249 n a1 c) (fun v6 =>
      if v6 < 0 then
        j29 0
      else
        j24 ())
    else
      j24 ()))))
theorem sp_244 {F Lo n : Nat} {a1 : Int64} {c y : cS} {w : cW} {K : Int32 → Prop} {Q : ((Option Value) ⊕ String) → List va_E → Prop} (hw : rOK fm w) (hF : 2 ≤ F) (hLo : 46 ≤ Lo)  (h : wp (d_244 n a1 c) K) (hQ : ∀ r, K r → Q (.inl (some (.int r))) (hq true c y w)) : rs (rt_P sc fm) 244 F Lo 0 [(0, .ref 7), (1, .long a1)] [] (hq true c y w) Q := by
  unfold d_244 at h
  obtain ⟨lv, elv⟩ : ∃ lv : rx_L, lv = [(0, .ref 7), (1, .long a1)] := ⟨_, rfl⟩
  rw [← elv]
  have l0 : rx_ld lv 0 = some (.ref 7) := by rw [elv]; rfl
  have l1 : rx_ld lv 1 = some (.long a1) := by rw [elv]; rfl
  refine rs_aldn wi_244_0 l0 ?_
  refine rs_lldn wi_244_1 l1 ?_
  refine rs_V wi_244_2 wc_244_72 rfl (dq_isa tf_7_0 wa_9_246) (Nat.le_trans (by decide) hF) (ml_le wm_246 (Nat.le_trans (by decide) hLo)) rfl (sp_246 hw (Nat.le_trans (by decide : 1 ≤ 2 - 1) (Nat.sub_le_sub_right hF 1)) (ml_sub wm_246 (Nat.le_trans (by decide : 23 ≤ 46 - 23) (Nat.sub_le_sub_right hLo 23))) (wp_bind h) (fun v1 h => rs_back1 ?_))
  refine wp_jn (B := fun p2 : Int32 => ∀ lv, rs (rt_P sc fm) 244 F Lo 29 lv [.int p2] (hq true c y w) Q) h (fun p2 h lv => ?_) (fun j29 hj29 h => ?_)
  ·
    obtain ⟨g3, h⟩ := wp_gd h
    exact rs_iret wi_244_29 wr_244 (nb_n g3) (hQ p2 h)
  refine wp_jn (B := fun p4 : Unit => ∀ lv, rs (rt_P sc fm) 244 F Lo 24 lv [] (hq true c y w) Q) h (fun p4 h lv => ?_) (fun j24 hj24 h => ?_)
  ·
    refine rs_pure wi_244_24 rfl ?_
    refine rs_topi (v := 1) (by decide) ?_
    refine rs_goto (tg := 29) wi_244_25 ⟨by decide, by decide⟩ ?_
    exact hj29 _ h _
  refine rs_ifge (tg := 24) wi_244_5 ⟨by decide, by decide⟩ (fun q => ?_) (fun q => ?_)
  ·
    have h := wp_pos h q
    exact hj24 _ h _
  ·
    have h := wp_neg h q
    refine rs_aldn wi_244_8 l0 ?_
    refine rs_lldn wi_244_9 l1 ?_
    refine rs_V wi_244_10 wc_244_76 rfl (dq_isa tf_7_0 wa_9_245) (Nat.le_trans (by decide) hF) (ml_le wm_245 (Nat.le_trans (by decide) hLo)) rfl (sp_245 hw (Nat.le_trans (by decide : 0 ≤ 2 - 1) (Nat.sub_le_sub_right hF 1)) (ml_sub wm_245 (Nat.le_trans (by decide : 0 ≤ 46 - 23) (Nat.sub_le_sub_right hLo 23))) (wp_bind h) (fun v5 h => rs_back1 ?_))
    refine rs_ifne (tg := 24) wi_244_13 ⟨by decide, by decide⟩ (fun q => ?_) (fun q => ?_)
    ·
      have h := wp_neg h q
      exact hj24 _ h _
    ·
      have h := wp_pos h q
      refine rs_aldn wi_244_16 l0 ?_
      refine rs_lldn wi_244_17 l1 ?_
      refine rs_V wi_244_18 wc_244_80 rfl (dq_isa tf_7_0 wa_9_249) (Nat.le_trans (by decide) hF) (ml_le wm_249 (Nat.le_trans (by decide) hLo)) rfl (sp_249 hw (Nat.le_trans (by decide : 0 ≤ 2 - 1) (Nat.sub_le_sub_right hF 1)) (ml_sub wm_249 (Nat.le_trans (by decide : 0 ≤ 46 - 23) (Nat.sub_le_sub_right hLo 23))) (wp_bind h) (fun v6 h => rs_back1 ?_))
      refine rs_iflt (tg := 28) wi_244_21 ⟨by decide, by decide⟩ (fun q => ?_) (fun q => ?_)
      ·
        have h := wp_pos h q
        refine rs_pure wi_244_28 rfl ?_
        refine rs_topi (v := 0) (by decide) ?_
        exact hj29 _ h _
      ·
        have h := wp_neg h q
        exact hj24 _ h _
theorem wa_9_244 : rz_cn 9 (rx_yn (rt_P sc fm) 244).cls = true := (by decide +kernel : rz_cn 9 (rt_yn 244).cls = true)
theorem wc_261_121 : rx_ct (rt_P sc fm) 261 121 = some (0, 244, 1) := (by decide +kernel : rt_ct 261 121 = some (0, 244, 1))
theorem wf_261_15 : rx_ft (rt_P sc fm) 261 15 = some (10, 1) := (by decide +kernel : rt_ft 261 15 = some (10, 1))
theorem wf_261_49 : rx_ft (rt_P sc fm) 261 49 = some (10, 7) := (by decide +kernel : rt_ft 261 49 = some (10, 7))
theorem wf_261_85 : rx_ft (rt_P sc fm) 261 85 = some (3, 4) := (by decide +kernel : rt_ft 261 85 = some (3, 4))
theorem wf_261_9 : rx_ft (rt_P sc fm) 261 9 = some (10, 0) := (by decide +kernel : rt_ft 261 9 = some (10, 0))
theorem wi_261_0 : ri (rt_P sc fm) 261 0 (.aload_n 0) (1) := ri_of (by decide +kernel) rfl
theorem wi_261_1 : ri (rt_P sc fm) 261 1 (.getfield 15) (4) := ri_of (by decide +kernel) rfl
theorem wi_261_11 : ri (rt_P sc fm) 261 11 (.aload_n 0) (12) := ri_of (by decide +kernel) rfl
theorem wi_261_12 : ri (rt_P sc fm) 261 12 (.getfield 49) (15) := ri_of (by decide +kernel) rfl
theorem wi_261_15 : ri (rt_P sc fm) 261 15 (.laload) (16) := ri_of (by decide +kernel) rfl
theorem wi_261_16 : ri (rt_P sc fm) 261 16 (.invokevirtual 121) (19) := ri_of (by decide +kernel) rfl
theorem wi_261_19 : ri (rt_P sc fm) 261 19 (.ireturn) (20) := ri_of (by decide +kernel) rfl
theorem wi_261_4 : ri (rt_P sc fm) 261 4 (.aload_n 0) (5) := ri_of (by decide +kernel) rfl
theorem wi_261_5 : ri (rt_P sc fm) 261 5 (.getfield 9) (8) := ri_of (by decide +kernel) rfl
theorem wi_261_8 : ri (rt_P sc fm) 261 8 (.getfield 85) (11) := ri_of (by decide +kernel) rfl
theorem wm_244 : rx_ml (rt_P sc fm) 244 = 3 := (by decide +kernel : rt_ml 244 = 3)
theorem wr_261 : rx_rt (rt_P sc fm) 261 = (some FieldType.boolean) := (by decide +kernel : rt_rt 261 = (some FieldType.boolean))
/-- MarkHouse$Reader.isNamedHere()Z -/
def d_261 (n : Nat)  (c : cS) : Option (Int32) :=
  if ib (c.1 145 7) 4001 then
  Option.bind (d_244 n (c.2 5 (ix (c.1 145 7))) c) (fun v2 =>
  if nb v2 then
  some v2
  else none)
  else none
theorem sp_261 {F Lo n : Nat}  {c y : cS} {w : cW} {K : Int32 → Prop} {Q : ((Option Value) ⊕ String) → List va_E → Prop} (hw : rOK fm w) (hF : 3 ≤ F) (hLo : 68 ≤ Lo)  (h : wp (d_261 n  c) K) (hQ : ∀ r, K r → Q (.inl (some (.int r))) (hq true c y w)) : rs (rt_P sc fm) 261 F Lo 0 [(0, .ref 145)] [] (hq true c y w) Q := by
  unfold d_261 at h
  obtain ⟨lv, elv⟩ : ∃ lv : rx_L, lv = [(0, .ref 145)] := ⟨_, rfl⟩
  rw [← elv]
  have l0 : rx_ld lv 0 = some (.ref 145) := by rw [elv]; rfl
  refine rs_aldn wi_261_0 l0 ?_
  refine dq_gr wi_261_1 wf_261_15 tf_145_1 ?_
  refine rs_aldn wi_261_4 l0 ?_
  refine dq_gr wi_261_5 wf_261_9 tf_145_0 ?_
  refine dq_gr wi_261_8 wf_261_85 tf_1_4 ?_
  refine rs_aldn wi_261_11 l0 ?_
  refine dq_gi wi_261_12 wf_261_49 tf_145_7 ?_
  obtain ⟨g1, h⟩ := wp_gd h
  refine dq_lald wi_261_15 t_5 g1 ?_
  refine rs_V wi_261_16 wc_261_121 rfl (dq_isa tf_7_0 wa_9_244) (Nat.le_trans (by decide) hF) (ml_le wm_244 (Nat.le_trans (by decide) hLo)) rfl (sp_244 hw (Nat.le_trans (by decide : 2 ≤ 3 - 1) (Nat.sub_le_sub_right hF 1)) (ml_sub wm_244 (Nat.le_trans (by decide : 46 ≤ 68 - 22) (Nat.sub_le_sub_right hLo 22))) (wp_bind h) (fun v2 h => rs_back1 ?_))
  obtain ⟨g3, h⟩ := wp_gd h
  exact rs_iret wi_261_19 wr_261 (nb_n g3) (hQ v2 h)
theorem wa_10_42 : rz_cn 10 (rx_yn (rt_P sc fm) 42).cls = true := (by decide +kernel : rz_cn 10 (rt_yn 42).cls = true)
theorem wa_10_43 : rz_cn 10 (rx_yn (rt_P sc fm) 43).cls = true := (by decide +kernel : rz_cn 10 (rt_yn 43).cls = true)
theorem wc_259_61 : rx_ct (rt_P sc fm) 259 61 = some (0, 41, 2) := (by decide +kernel : rt_ct 259 61 = some (0, 41, 2))
theorem wc_259_79 : rx_ct (rt_P sc fm) 259 79 = some (0, 42, 0) := (by decide +kernel : rt_ct 259 79 = some (0, 42, 0))
theorem wc_259_82 : rx_ct (rt_P sc fm) 259 82 = some (0, 43, 0) := (by decide +kernel : rt_ct 259 82 = some (0, 43, 0))
theorem wf_259_49 : rx_ft (rt_P sc fm) 259 49 = some (10, 7) := (by decide +kernel : rt_ft 259 49 = some (10, 7))
theorem wf_259_85 : rx_ft (rt_P sc fm) 259 85 = some (3, 4) := (by decide +kernel : rt_ft 259 85 = some (3, 4))
theorem wf_259_9 : rx_ft (rt_P sc fm) 259 9 = some (10, 0) := (by decide +kernel : rt_ft 259 9 = some (10, 0))
theorem wh0_259_14 : rx_ht (rt_P sc fm) 259 14 "java/lang/IllegalArgumentException" = none := (by decide +kernel : rt_ht 259 14 "java/lang/IllegalArgumentException" = none)
theorem whh_259 : rx_hh (rt_P sc fm) 259 = [] := (by decide +kernel : rt_hh 259 = [])
theorem wi_259_0 : ri (rt_P sc fm) 259 0 (.aload_n 0) (1) := ri_of (by decide +kernel) rfl
theorem wi_259_1 : ri (rt_P sc fm) 259 1 (.invokevirtual 82) (4) := ri_of (by decide +kernel) rfl
theorem wi_259_10 : ri (rt_P sc fm) 259 10 (.aload_n 0) (11) := ri_of (by decide +kernel) rfl
theorem wi_259_11 : ri (rt_P sc fm) 259 11 (.invokevirtual 79) (14) := ri_of (by decide +kernel) rfl
theorem wi_259_14 : ri (rt_P sc fm) 259 14 (.invokevirtual 61) (17) := ri_of (by decide +kernel) rfl
theorem wi_259_17 : ri (rt_P sc fm) 259 17 (.aload_n 0) (18) := ri_of (by decide +kernel) rfl
theorem wi_259_18 : ri (rt_P sc fm) 259 18 (.getfield 9) (21) := ri_of (by decide +kernel) rfl
theorem wi_259_21 : ri (rt_P sc fm) 259 21 (.getfield 85) (24) := ri_of (by decide +kernel) rfl
theorem wi_259_24 : ri (rt_P sc fm) 259 24 (.aload_n 0) (25) := ri_of (by decide +kernel) rfl
theorem wi_259_25 : ri (rt_P sc fm) 259 25 (.getfield 49) (28) := ri_of (by decide +kernel) rfl
theorem wi_259_28 : ri (rt_P sc fm) 259 28 (.laload) (29) := ri_of (by decide +kernel) rfl
theorem wi_259_29 : ri (rt_P sc fm) 259 29 (.lreturn) (30) := ri_of (by decide +kernel) rfl
theorem wi_259_4 : ri (rt_P sc fm) 259 4 (.iconst 1) (5) := ri_of (by decide +kernel) rfl
theorem wi_259_5 : ri (rt_P sc fm) 259 5 (.if_icmp .eq 12) (8) := ri_of (by decide +kernel) rfl
theorem wi_259_8 : ri (rt_P sc fm) 259 8 (.aload_n 0) (9) := ri_of (by decide +kernel) rfl
theorem wi_259_9 : ri (rt_P sc fm) 259 9 (.iconst 2) (10) := ri_of (by decide +kernel) rfl
theorem wm_42 : rx_ml (rt_P sc fm) 42 = 1 := (by decide +kernel : rt_ml 42 = 1)
theorem wm_43 : rx_ml (rt_P sc fm) 43 = 1 := (by decide +kernel : rt_ml 43 = 1)
theorem wr_259 : rx_rt (rt_P sc fm) 259 = (some FieldType.long) := (by decide +kernel : rt_rt 259 = (some FieldType.long))
/-- MarkHouse$Reader.nameHere()J -/
def d_259 (n : Nat)  (c : cS) : Option ((Int64 × cS) ⊕ cS) :=
  Option.bind (d_43 n c) (fun v1 =>
  jn (fun p2 : cS =>
    if ib (p2.1 145 7) 4001 then
    some (.inl ((p2.2 5 (ix (p2.1 145 7))), p2))
    else none)
  (fun j17 =>
  if v1 = 1 then
    j17 c
  else
    Option.bind (d_42 n c) (fun v4 =>
    Option.bind (d_41 n 2 v4 c) (Sum.elim (fun r5 =>
    j17 r5)
    (fun z6 => some (.inr z6))))))
theorem sp_259 {F Lo n : Nat}  {c y : cS} {w : cW} {K : (Int64 × cS) ⊕ cS → Prop} {Q : ((Option Value) ⊕ String) → List va_E → Prop} (hw : rOK fm w) (hF : 7 ≤ F) (hLo : 104 ≤ Lo)  (h : wp (d_259 n  c) K) (hQ : ∀ r, K (.inl r) → Q (.inl (some (.long r.1))) (hq true r.2 y w)) (hT : ∀ r, K (.inr r) → Q (.inr "java/lang/IllegalArgumentException") (hq true r y w)) : rs (rt_P sc fm) 259 F Lo 0 [(0, .ref 145)] [] (hq true c y w) Q := by
  unfold d_259 at h
  obtain ⟨lv, elv⟩ : ∃ lv : rx_L, lv = [(0, .ref 145)] := ⟨_, rfl⟩
  rw [← elv]
  have l0 : rx_ld lv 0 = some (.ref 145) := by rw [elv]; rfl
  refine rs_aldn wi_259_0 l0 ?_
  refine rs_V wi_259_1 wc_259_82 rfl (dq_isa tf_145_0 wa_10_43) (Nat.le_trans (by decide) hF) (ml_le wm_43 (Nat.le_trans (by decide) hLo)) rfl (sp_43 hw (Nat.le_trans (by decide : 0 ≤ 7 - 1) (Nat.sub_le_sub_right hF 1)) (ml_sub wm_43 (Nat.le_trans (by decide : 0 ≤ 104 - 20) (Nat.sub_le_sub_right hLo 20))) (wp_bind h) (fun v1 h => rs_back1 ?_))
  refine rs_pure wi_259_4 rfl ?_
  refine rs_topi (v := 1) (by decide) ?_
  refine wp_jn (B := fun p2 : cS => ∀ lv, rx_ld lv 0 = some (.ref 145) → rs (rt_P sc fm) 259 F Lo 17 lv [] (hq true p2 y w) Q) h (fun p2 h lv l0 => ?_) (fun j17 hj17 h => ?_)
  ·
    refine rs_aldn wi_259_17 l0 ?_
    refine dq_gr wi_259_18 wf_259_9 tf_145_0 ?_
    refine dq_gr wi_259_21 wf_259_85 tf_1_4 ?_
    refine rs_aldn wi_259_24 l0 ?_
    refine dq_gi wi_259_25 wf_259_49 tf_145_7 ?_
    obtain ⟨g3, h⟩ := wp_gd h
    refine dq_lald wi_259_28 t_5 g3 ?_
    exact rs_lret wi_259_29 wr_259 (hQ ((p2.2 5 (ix (p2.1 145 7))), p2) h)
  refine rs_iceq (tg := 17) wi_259_5 ⟨by decide, by decide⟩ (fun q => ?_) (fun q => ?_)
  ·
    have h := wp_pos h q
    exact hj17 _ h _ l0
  ·
    have h := wp_neg h q
    refine rs_aldn wi_259_8 l0 ?_
    refine rs_pure wi_259_9 rfl ?_
    refine rs_topi (v := 2) (by decide) ?_
    refine rs_aldn wi_259_10 l0 ?_
    refine rs_V wi_259_11 wc_259_79 rfl (dq_isa tf_145_0 wa_10_42) (Nat.le_trans (by decide) hF) (ml_le wm_42 (Nat.le_trans (by decide) hLo)) rfl (sp_42 hw (Nat.le_trans (by decide : 0 ≤ 7 - 1) (Nat.sub_le_sub_right hF 1)) (ml_sub wm_42 (Nat.le_trans (by decide : 0 ≤ 104 - 20) (Nat.sub_le_sub_right hLo 20))) (wp_bind h) (fun v4 h => rs_back1 ?_))
    refine rs_V wi_259_14 wc_259_61 rfl (dq_isa tf_145_0 wa_10_41) (Nat.le_trans (by decide) hF) (ml_le wm_41 (Nat.le_trans (by decide) hLo)) rfl (sp_41 hw (Nat.le_trans (by decide : 6 ≤ 7 - 1) (Nat.sub_le_sub_right hF 1)) (ml_sub wm_41 (Nat.le_trans (by decide : 82 ≤ 104 - 22) (Nat.sub_le_sub_right hLo 22))) (wp_bind h) (fun r5 h => rs_back0 ?_) (fun z6 h => rs_up wh0_259_14 whh_259 (hT z6 (wp_inr h))))
    have h := wp_inl h
    exact hj17 _ h _ l0
theorem wa_10_259 : rz_cn 10 (rx_yn (rt_P sc fm) 259).cls = true := (by decide +kernel : rz_cn 10 (rt_yn 259).cls = true)
theorem wc_260_61 : rx_ct (rt_P sc fm) 260 61 = some (0, 41, 2) := (by decide +kernel : rt_ct 260 61 = some (0, 41, 2))
theorem wc_260_79 : rx_ct (rt_P sc fm) 260 79 = some (0, 42, 0) := (by decide +kernel : rt_ct 260 79 = some (0, 42, 0))
theorem wc_260_89 : rx_ct (rt_P sc fm) 260 89 = some (0, 259, 0) := (by decide +kernel : rt_ct 260 89 = some (0, 259, 0))
theorem wf_260_49 : rx_ft (rt_P sc fm) 260 49 = some (10, 7) := (by decide +kernel : rt_ft 260 49 = some (10, 7))
theorem wh0_260_1 : rx_ht (rt_P sc fm) 260 1 "java/lang/IllegalArgumentException" = none := (by decide +kernel : rt_ht 260 1 "java/lang/IllegalArgumentException" = none)
theorem wh0_260_15 : rx_ht (rt_P sc fm) 260 15 "java/lang/IllegalArgumentException" = none := (by decide +kernel : rt_ht 260 15 "java/lang/IllegalArgumentException" = none)
theorem wh0_260_29 : rx_ht (rt_P sc fm) 260 29 "java/lang/IllegalArgumentException" = none := (by decide +kernel : rt_ht 260 29 "java/lang/IllegalArgumentException" = none)
theorem whh_260 : rx_hh (rt_P sc fm) 260 = [] := (by decide +kernel : rt_hh 260 = [])
theorem wi_260_0 : ri (rt_P sc fm) 260 0 (.aload_n 0) (1) := ri_of (by decide +kernel) rfl
theorem wi_260_1 : ri (rt_P sc fm) 260 1 (.invokevirtual 89) (4) := ri_of (by decide +kernel) rfl
theorem wi_260_10 : ri (rt_P sc fm) 260 10 (.iconst 3) (11) := ri_of (by decide +kernel) rfl
theorem wi_260_11 : ri (rt_P sc fm) 260 11 (.aload_n 0) (12) := ri_of (by decide +kernel) rfl
theorem wi_260_12 : ri (rt_P sc fm) 260 12 (.invokevirtual 79) (15) := ri_of (by decide +kernel) rfl
theorem wi_260_15 : ri (rt_P sc fm) 260 15 (.invokevirtual 61) (18) := ri_of (by decide +kernel) rfl
theorem wi_260_18 : ri (rt_P sc fm) 260 18 (.iload_n 2) (19) := ri_of (by decide +kernel) rfl
theorem wi_260_19 : ri (rt_P sc fm) 260 19 (.ifCond .eq 13) (22) := ri_of (by decide +kernel) rfl
theorem wi_260_22 : ri (rt_P sc fm) 260 22 (.aload_n 0) (23) := ri_of (by decide +kernel) rfl
theorem wi_260_23 : ri (rt_P sc fm) 260 23 (.bipush 6) (25) := ri_of (by decide +kernel) rfl
theorem wi_260_25 : ri (rt_P sc fm) 260 25 (.aload_n 0) (26) := ri_of (by decide +kernel) rfl
theorem wi_260_26 : ri (rt_P sc fm) 260 26 (.invokevirtual 79) (29) := ri_of (by decide +kernel) rfl
theorem wi_260_29 : ri (rt_P sc fm) 260 29 (.invokevirtual 61) (32) := ri_of (by decide +kernel) rfl
theorem wi_260_32 : ri (rt_P sc fm) 260 32 (.aload_n 0) (33) := ri_of (by decide +kernel) rfl
theorem wi_260_33 : ri (rt_P sc fm) 260 33 (.dup) (34) := ri_of (by decide +kernel) rfl
theorem wi_260_34 : ri (rt_P sc fm) 260 34 (.getfield 49) (37) := ri_of (by decide +kernel) rfl
theorem wi_260_37 : ri (rt_P sc fm) 260 37 (.iconst 1) (38) := ri_of (by decide +kernel) rfl
theorem wi_260_38 : ri (rt_P sc fm) 260 38 (.iadd) (39) := ri_of (by decide +kernel) rfl
theorem wi_260_39 : ri (rt_P sc fm) 260 39 (.putfield 49) (42) := ri_of (by decide +kernel) rfl
theorem wi_260_4 : ri (rt_P sc fm) 260 4 (.lstore_n 3) (5) := ri_of (by decide +kernel) rfl
theorem wi_260_42 : ri (rt_P sc fm) 260 42 (.lload_n 3) (43) := ri_of (by decide +kernel) rfl
theorem wi_260_43 : ri (rt_P sc fm) 260 43 (.lreturn) (44) := ri_of (by decide +kernel) rfl
theorem wi_260_5 : ri (rt_P sc fm) 260 5 (.iload_n 1) (6) := ri_of (by decide +kernel) rfl
theorem wi_260_6 : ri (rt_P sc fm) 260 6 (.ifCond .eq 12) (9) := ri_of (by decide +kernel) rfl
theorem wi_260_9 : ri (rt_P sc fm) 260 9 (.aload_n 0) (10) := ri_of (by decide +kernel) rfl
theorem wm_259 : rx_ml (rt_P sc fm) 259 = 1 := (by decide +kernel : rt_ml 259 = 1)
theorem wp_260_49 : rx_pt (rt_P sc fm) 260 49 = some (10, 7, .int) := (by decide +kernel : rt_pt 260 49 = some (10, 7, .int))
theorem wr_260 : rx_rt (rt_P sc fm) 260 = (some FieldType.long) := (by decide +kernel : rt_rt 260 = (some FieldType.long))
/-- MarkHouse$Reader.newName(ZZ)J -/
def d_260 (n : Nat) (a1 : Int32) (a2 : Int32) (c : cS) : Option ((Int64 × cS) ⊕ cS) :=
  Option.bind (d_259 n c) (Sum.elim (fun r1 =>
  jn (fun p4 : cS =>
    jn (fun p5 : cS =>
      lt (pI p5 145 7 ((p5.1 145 7) + 1)) (fun c6 =>
      some (.inl (r1.1, c6))))
    (fun j32 =>
    if a2 = 0 then
      j32 p4
    else
      Option.bind (d_42 n p4) (fun v8 =>
      Option.bind (d_41 n 6 v8 p4) (Sum.elim (fun r9 =>
      j32 r9)
      (fun z10 => some (.inr z10))))))
  (fun j18 =>
  if a1 = 0 then
    j18 r1.2
  else
    Option.bind (d_42 n r1.2) (fun v11 =>
    Option.bind (d_41 n 3 v11 r1.2) (Sum.elim (fun r12 =>
    j18 r12)
    (fun z13 => some (.inr z13))))))
  (fun z2 => some (.inr z2)))
theorem sp_260 {F Lo n : Nat} {a1 : Int32} {a2 : Int32} {c y : cS} {w : cW} {K : (Int64 × cS) ⊕ cS → Prop} {Q : ((Option Value) ⊕ String) → List va_E → Prop} (hw : rOK fm w) (hF : 8 ≤ F) (hLo : 124 ≤ Lo)  (h : wp (d_260 n a1 a2 c) K) (hQ : ∀ r, K (.inl r) → Q (.inl (some (.long r.1))) (hq true r.2 y w)) (hT : ∀ r, K (.inr r) → Q (.inr "java/lang/IllegalArgumentException") (hq true r y w)) : rs (rt_P sc fm) 260 F Lo 0 [(0, .ref 145), (1, .int a1), (2, .int a2)] [] (hq true c y w) Q := by
  unfold d_260 at h
  obtain ⟨lv, elv⟩ : ∃ lv : rx_L, lv = [(0, .ref 145), (1, .int a1), (2, .int a2)] := ⟨_, rfl⟩
  rw [← elv]
  have l0 : rx_ld lv 0 = some (.ref 145) := by rw [elv]; rfl
  have l1 : rx_ld lv 1 = some (.int a1) := by rw [elv]; rfl
  have l2 : rx_ld lv 2 = some (.int a2) := by rw [elv]; rfl
  refine rs_aldn wi_260_0 l0 ?_
  refine rs_V wi_260_1 wc_260_89 rfl (dq_isa tf_145_0 wa_10_259) (Nat.le_trans (by decide) hF) (ml_le wm_259 (Nat.le_trans (by decide) hLo)) rfl (sp_259 hw (Nat.le_trans (by decide : 7 ≤ 8 - 1) (Nat.sub_le_sub_right hF 1)) (ml_sub wm_259 (Nat.le_trans (by decide : 104 ≤ 124 - 20) (Nat.sub_le_sub_right hLo 20))) (wp_bind h) (fun r1 h => rs_back1 ?_) (fun z2 h => rs_up wh0_260_1 whh_260 (hT z2 (wp_inr h))))
  have h := wp_inl h
  refine dl_lstn wi_260_4 rfl (fun lv l3 t3 => ?_)
  have l0 := t3 _ _ (by decide) (by decide) (Or.inl rfl) l0
  have l1 := t3 _ _ (by decide) (by decide) (Or.inl rfl) l1
  have l2 := t3 _ _ (by decide) (by decide) (Or.inl rfl) l2
  refine rs_ildn wi_260_5 l1 ?_
  refine wp_jn (B := fun p4 : cS => ∀ lv, rx_ld lv 0 = some (.ref 145) → rx_ld lv 2 = some (.int a2) → rx_ld lv 3 = some (.long r1.1) → rs (rt_P sc fm) 260 F Lo 18 lv [] (hq true p4 y w) Q) h (fun p4 h lv l0 l2 l3 => ?_) (fun j18 hj18 h => ?_)
  ·
    refine rs_ildn wi_260_18 l2 ?_
    refine wp_jn (B := fun p5 : cS => ∀ lv, rx_ld lv 0 = some (.ref 145) → rx_ld lv 3 = some (.long r1.1) → rs (rt_P sc fm) 260 F Lo 32 lv [] (hq true p5 y w) Q) h (fun p5 h lv l0 l3 => ?_) (fun j32 hj32 h => ?_)
    ·
      refine rs_aldn wi_260_32 l0 ?_
      refine rs_pure wi_260_33 rfl ?_
      refine dq_gi wi_260_34 wf_260_49 tf_145_7 ?_
      refine rs_pure wi_260_37 rfl ?_
      refine rs_topi (v := 1) (by decide) ?_
      refine rs_pure wi_260_38 rfl ?_
      obtain ⟨c6, e7, h⟩ := wp_lt h
      refine dq_pi wi_260_39 wp_260_49 tf_145_7 rfl rfl e7 ?_
      refine rs_lldn wi_260_42 l3 ?_
      exact rs_lret wi_260_43 wr_260 (hQ (r1.1, c6) h)
    refine rs_ifeq (tg := 32) wi_260_19 ⟨by decide, by decide⟩ (fun q => ?_) (fun q => ?_)
    ·
      have h := wp_pos h q
      exact hj32 _ h _ l0 l3
    ·
      have h := wp_neg h q
      refine rs_aldn wi_260_22 l0 ?_
      refine rs_pure wi_260_23 rfl ?_
      refine rs_topi (v := 6) (by decide) ?_
      refine rs_aldn wi_260_25 l0 ?_
      refine rs_V wi_260_26 wc_260_79 rfl (dq_isa tf_145_0 wa_10_42) (Nat.le_trans (by decide) hF) (ml_le wm_42 (Nat.le_trans (by decide) hLo)) rfl (sp_42 hw (Nat.le_trans (by decide : 0 ≤ 8 - 1) (Nat.sub_le_sub_right hF 1)) (ml_sub wm_42 (Nat.le_trans (by decide : 0 ≤ 124 - 20) (Nat.sub_le_sub_right hLo 20))) (wp_bind h) (fun v8 h => rs_back1 ?_))
      refine rs_V wi_260_29 wc_260_61 rfl (dq_isa tf_145_0 wa_10_41) (Nat.le_trans (by decide) hF) (ml_le wm_41 (Nat.le_trans (by decide) hLo)) rfl (sp_41 hw (Nat.le_trans (by decide : 6 ≤ 8 - 1) (Nat.sub_le_sub_right hF 1)) (ml_sub wm_41 (Nat.le_trans (by decide : 82 ≤ 124 - 22) (Nat.sub_le_sub_right hLo 22))) (wp_bind h) (fun r9 h => rs_back0 ?_) (fun z10 h => rs_up wh0_260_29 whh_260 (hT z10 (wp_inr h))))
      have h := wp_inl h
      exact hj32 _ h _ l0 l3
  refine rs_ifeq (tg := 18) wi_260_6 ⟨by decide, by decide⟩ (fun q => ?_) (fun q => ?_)
  ·
    have h := wp_pos h q
    exact hj18 _ h _ l0 l2 l3
  ·
    have h := wp_neg h q
    refine rs_aldn wi_260_9 l0 ?_
    refine rs_pure wi_260_10 rfl ?_
    refine rs_topi (v := 3) (by decide) ?_
    refine rs_aldn wi_260_11 l0 ?_
    refine rs_V wi_260_12 wc_260_79 rfl (dq_isa tf_145_0 wa_10_42) (Nat.le_trans (by decide) hF) (ml_le wm_42 (Nat.le_trans (by decide) hLo)) rfl (sp_42 hw (Nat.le_trans (by decide : 0 ≤ 8 - 1) (Nat.sub_le_sub_right hF 1)) (ml_sub wm_42 (Nat.le_trans (by decide : 0 ≤ 124 - 20) (Nat.sub_le_sub_right hLo 20))) (wp_bind h) (fun v11 h => rs_back1 ?_))
    refine rs_V wi_260_15 wc_260_61 rfl (dq_isa tf_145_0 wa_10_41) (Nat.le_trans (by decide) hF) (ml_le wm_41 (Nat.le_trans (by decide) hLo)) rfl (sp_41 hw (Nat.le_trans (by decide : 6 ≤ 8 - 1) (Nat.sub_le_sub_right hF 1)) (ml_sub wm_41 (Nat.le_trans (by decide : 82 ≤ 124 - 22) (Nat.sub_le_sub_right hLo 22))) (wp_bind h) (fun r12 h => rs_back0 ?_) (fun z13 h => rs_up wh0_260_15 whh_260 (hT z13 (wp_inr h))))
    have h := wp_inl h
    exact hj18 _ h _ l0 l2 l3
theorem fO_1 : ∀ {o : Nat}, o < 4 → fo true (oA o) 8 1 (.int 0)
  | 0, _ => ⟨_, rfl, rfl, by decide, by decide⟩
  | 1, _ => ⟨_, rfl, rfl, by decide, by decide⟩
  | 2, _ => ⟨_, rfl, rfl, by decide, by decide⟩
  | 3, _ => ⟨_, rfl, rfl, by decide, by decide⟩
  | n + 4, h => absurd h (by omega)
theorem wi_234_0 : ri (rt_P sc fm) 234 0 (.aload_n 0) (1) := ri_of (by decide +kernel) rfl
theorem wi_234_1 : ri (rt_P sc fm) 234 1 (.lload_n 1) (2) := ri_of (by decide +kernel) rfl
theorem wi_234_10 : ri (rt_P sc fm) 234 10 (.return_) (11) := ri_of (by decide +kernel) rfl
theorem wi_234_2 : ri (rt_P sc fm) 234 2 (.putfield 28) (5) := ri_of (by decide +kernel) rfl
theorem wi_234_5 : ri (rt_P sc fm) 234 5 (.aload_n 0) (6) := ri_of (by decide +kernel) rfl
theorem wi_234_6 : ri (rt_P sc fm) 234 6 (.iconst 0) (7) := ri_of (by decide +kernel) rfl
theorem wi_234_7 : ri (rt_P sc fm) 234 7 (.putfield 32) (10) := ri_of (by decide +kernel) rfl
theorem wp_234_28 : rx_pt (rt_P sc fm) 234 28 = some (8, 0, .long) := (by decide +kernel : rt_pt 234 28 = some (8, 0, .long))
theorem wp_234_32 : rx_pt (rt_P sc fm) 234 32 = some (8, 1, .int) := (by decide +kernel : rt_pt 234 32 = some (8, 1, .int))
theorem wr_234 : rx_rt (rt_P sc fm) 234 = none := (by decide +kernel : rt_rt 234 = none)
/-- MarkHouse$Order.clear(J)V -/
def d_234 (n : Nat) (o0 : Nat) (a1 : Int64) (c : cS) : Option (cS) :=
  lt (pL c (oA o0) 0 a1) (fun c1 =>
  lt (pI c1 (oA o0) 1 0) (fun c3 =>
  some c3))
theorem sp_234 {F Lo n : Nat} {o0 : Nat} {a1 : Int64} {c y : cS} {w : cW} {K : cS → Prop} {Q : ((Option Value) ⊕ String) → List va_E → Prop} (hw : rOK fm w) (hF : 0 ≤ F) (hLo : 0 ≤ Lo) (ho0 : o0 < 4) (h : wp (d_234 n o0 a1 c) K) (hQ : ∀ r, K r → Q (.inl none) (hq true r y w)) : rs (rt_P sc fm) 234 F Lo 0 [(0, .ref (oA o0)), (1, .long a1)] [] (hq true c y w) Q := by
  unfold d_234 at h
  obtain ⟨lv, elv⟩ : ∃ lv : rx_L, lv = [(0, .ref (oA o0)), (1, .long a1)] := ⟨_, rfl⟩
  rw [← elv]
  have l0 : rx_ld lv 0 = some (.ref (oA o0)) := by rw [elv]; rfl
  have l1 : rx_ld lv 1 = some (.long a1) := by rw [elv]; rfl
  refine rs_aldn wi_234_0 l0 ?_
  refine rs_lldn wi_234_1 l1 ?_
  obtain ⟨c1, e2, h⟩ := wp_lt h
  refine dq_pl wi_234_2 wp_234_28 (fO_0 ho0) rfl rfl e2 ?_
  refine rs_aldn wi_234_5 l0 ?_
  refine rs_pure wi_234_6 rfl ?_
  refine rs_topi (v := 0) (by decide) ?_
  obtain ⟨c3, e4, h⟩ := wp_lt h
  refine dq_pi wi_234_7 wp_234_32 (fO_1 ho0) rfl rfl e4 ?_
  exact rs_vret wi_234_10 wr_234 (hQ c3 h)
theorem wc_257_61 : rx_ct (rt_P sc fm) 257 61 = some (0, 41, 2) := (by decide +kernel : rt_ct 257 61 = some (0, 41, 2))
theorem wc_257_79 : rx_ct (rt_P sc fm) 257 79 = some (0, 42, 0) := (by decide +kernel : rt_ct 257 79 = some (0, 42, 0))
theorem wf_257_49 : rx_ft (rt_P sc fm) 257 49 = some (10, 7) := (by decide +kernel : rt_ft 257 49 = some (10, 7))
theorem wf_257_76 : rx_ft (rt_P sc fm) 257 76 = some (3, 2) := (by decide +kernel : rt_ft 257 76 = some (3, 2))
theorem wf_257_9 : rx_ft (rt_P sc fm) 257 9 = some (10, 0) := (by decide +kernel : rt_ft 257 9 = some (10, 0))
theorem wh0_257_22 : rx_ht (rt_P sc fm) 257 22 "java/lang/IllegalArgumentException" = none := (by decide +kernel : rt_ht 257 22 "java/lang/IllegalArgumentException" = none)
theorem whh_257 : rx_hh (rt_P sc fm) 257 = [] := (by decide +kernel : rt_hh 257 = [])
theorem wi_257_0 : ri (rt_P sc fm) 257 0 (.aload_n 0) (1) := ri_of (by decide +kernel) rfl
theorem wi_257_1 : ri (rt_P sc fm) 257 1 (.getfield 9) (4) := ri_of (by decide +kernel) rfl
theorem wi_257_11 : ri (rt_P sc fm) 257 11 (.iaload) (12) := ri_of (by decide +kernel) rfl
theorem wi_257_12 : ri (rt_P sc fm) 257 12 (.iload_n 1) (13) := ri_of (by decide +kernel) rfl
theorem wi_257_13 : ri (rt_P sc fm) 257 13 (.if_icmp .eq 12) (16) := ri_of (by decide +kernel) rfl
theorem wi_257_16 : ri (rt_P sc fm) 257 16 (.aload_n 0) (17) := ri_of (by decide +kernel) rfl
theorem wi_257_17 : ri (rt_P sc fm) 257 17 (.iconst 2) (18) := ri_of (by decide +kernel) rfl
theorem wi_257_18 : ri (rt_P sc fm) 257 18 (.aload_n 0) (19) := ri_of (by decide +kernel) rfl
theorem wi_257_19 : ri (rt_P sc fm) 257 19 (.invokevirtual 79) (22) := ri_of (by decide +kernel) rfl
theorem wi_257_22 : ri (rt_P sc fm) 257 22 (.invokevirtual 61) (25) := ri_of (by decide +kernel) rfl
theorem wi_257_25 : ri (rt_P sc fm) 257 25 (.aload_n 0) (26) := ri_of (by decide +kernel) rfl
theorem wi_257_26 : ri (rt_P sc fm) 257 26 (.dup) (27) := ri_of (by decide +kernel) rfl
theorem wi_257_27 : ri (rt_P sc fm) 257 27 (.getfield 49) (30) := ri_of (by decide +kernel) rfl
theorem wi_257_30 : ri (rt_P sc fm) 257 30 (.iconst 1) (31) := ri_of (by decide +kernel) rfl
theorem wi_257_31 : ri (rt_P sc fm) 257 31 (.iadd) (32) := ri_of (by decide +kernel) rfl
theorem wi_257_32 : ri (rt_P sc fm) 257 32 (.putfield 49) (35) := ri_of (by decide +kernel) rfl
theorem wi_257_35 : ri (rt_P sc fm) 257 35 (.return_) (36) := ri_of (by decide +kernel) rfl
theorem wi_257_4 : ri (rt_P sc fm) 257 4 (.getfield 76) (7) := ri_of (by decide +kernel) rfl
theorem wi_257_7 : ri (rt_P sc fm) 257 7 (.aload_n 0) (8) := ri_of (by decide +kernel) rfl
theorem wi_257_8 : ri (rt_P sc fm) 257 8 (.getfield 49) (11) := ri_of (by decide +kernel) rfl
theorem wp_257_49 : rx_pt (rt_P sc fm) 257 49 = some (10, 7, .int) := (by decide +kernel : rt_pt 257 49 = some (10, 7, .int))
theorem wr_257 : rx_rt (rt_P sc fm) 257 = none := (by decide +kernel : rt_rt 257 = none)
/-- MarkHouse$Reader.pass(I)V -/
def d_257 (n : Nat) (a1 : Int32) (c : cS) : Option ((cS) ⊕ cS) :=
  if ib (c.1 145 7) 4001 then
  jn (fun p2 : cS =>
    lt (pI p2 145 7 ((p2.1 145 7) + 1)) (fun c3 =>
    some (.inl c3)))
  (fun j25 =>
  if (c.1 3 (ix (c.1 145 7))) = a1 then
    j25 c
  else
    Option.bind (d_42 n c) (fun v5 =>
    Option.bind (d_41 n 2 v5 c) (Sum.elim (fun r6 =>
    j25 r6)
    (fun z7 => some (.inr z7)))))
  else none
theorem sp_257 {F Lo n : Nat} {a1 : Int32} {c y : cS} {w : cW} {K : (cS) ⊕ cS → Prop} {Q : ((Option Value) ⊕ String) → List va_E → Prop} (hw : rOK fm w) (hF : 7 ≤ F) (hLo : 104 ≤ Lo)  (h : wp (d_257 n a1 c) K) (hQ : ∀ r, K (.inl r) → Q (.inl none) (hq true r y w)) (hT : ∀ r, K (.inr r) → Q (.inr "java/lang/IllegalArgumentException") (hq true r y w)) : rs (rt_P sc fm) 257 F Lo 0 [(0, .ref 145), (1, .int a1)] [] (hq true c y w) Q := by
  unfold d_257 at h
  obtain ⟨lv, elv⟩ : ∃ lv : rx_L, lv = [(0, .ref 145), (1, .int a1)] := ⟨_, rfl⟩
  rw [← elv]
  have l0 : rx_ld lv 0 = some (.ref 145) := by rw [elv]; rfl
  have l1 : rx_ld lv 1 = some (.int a1) := by rw [elv]; rfl
  refine rs_aldn wi_257_0 l0 ?_
  refine dq_gr wi_257_1 wf_257_9 tf_145_0 ?_
  refine dq_gr wi_257_4 wf_257_76 tf_1_2 ?_
  refine rs_aldn wi_257_7 l0 ?_
  refine dq_gi wi_257_8 wf_257_49 tf_145_7 ?_
  obtain ⟨g1, h⟩ := wp_gd h
  refine dq_iald wi_257_11 t_3 g1 ?_
  refine rs_ildn wi_257_12 l1 ?_
  refine wp_jn (B := fun p2 : cS => ∀ lv, rx_ld lv 0 = some (.ref 145) → rs (rt_P sc fm) 257 F Lo 25 lv [] (hq true p2 y w) Q) h (fun p2 h lv l0 => ?_) (fun j25 hj25 h => ?_)
  ·
    refine rs_aldn wi_257_25 l0 ?_
    refine rs_pure wi_257_26 rfl ?_
    refine dq_gi wi_257_27 wf_257_49 tf_145_7 ?_
    refine rs_pure wi_257_30 rfl ?_
    refine rs_topi (v := 1) (by decide) ?_
    refine rs_pure wi_257_31 rfl ?_
    obtain ⟨c3, e4, h⟩ := wp_lt h
    refine dq_pi wi_257_32 wp_257_49 tf_145_7 rfl rfl e4 ?_
    exact rs_vret wi_257_35 wr_257 (hQ c3 h)
  refine rs_iceq (tg := 25) wi_257_13 ⟨by decide, by decide⟩ (fun q => ?_) (fun q => ?_)
  ·
    have h := wp_pos h q
    exact hj25 _ h _ l0
  ·
    have h := wp_neg h q
    refine rs_aldn wi_257_16 l0 ?_
    refine rs_pure wi_257_17 rfl ?_
    refine rs_topi (v := 2) (by decide) ?_
    refine rs_aldn wi_257_18 l0 ?_
    refine rs_V wi_257_19 wc_257_79 rfl (dq_isa tf_145_0 wa_10_42) (Nat.le_trans (by decide) hF) (ml_le wm_42 (Nat.le_trans (by decide) hLo)) rfl (sp_42 hw (Nat.le_trans (by decide : 0 ≤ 7 - 1) (Nat.sub_le_sub_right hF 1)) (ml_sub wm_42 (Nat.le_trans (by decide : 0 ≤ 104 - 20) (Nat.sub_le_sub_right hLo 20))) (wp_bind h) (fun v5 h => rs_back1 ?_))
    refine rs_V wi_257_22 wc_257_61 rfl (dq_isa tf_145_0 wa_10_41) (Nat.le_trans (by decide) hF) (ml_le wm_41 (Nat.le_trans (by decide) hLo)) rfl (sp_41 hw (Nat.le_trans (by decide : 6 ≤ 7 - 1) (Nat.sub_le_sub_right hF 1)) (ml_sub wm_41 (Nat.le_trans (by decide : 82 ≤ 104 - 22) (Nat.sub_le_sub_right hLo 22))) (wp_bind h) (fun r6 h => rs_back0 ?_) (fun z7 h => rs_up wh0_257_22 whh_257 (hT z7 (wp_inr h))))
    have h := wp_inl h
    exact hj25 _ h _ l0
theorem fO_4 : ∀ {o : Nat}, o < 4 → fo true (oA o) 8 4 (.ref (oA o + 1))
  | 0, _ => ⟨_, rfl, rfl, by decide, by decide⟩
  | 1, _ => ⟨_, rfl, rfl, by decide, by decide⟩
  | 2, _ => ⟨_, rfl, rfl, by decide, by decide⟩
  | 3, _ => ⟨_, rfl, rfl, by decide, by decide⟩
  | n + 4, h => absurd h (by omega)
theorem tO_1 : ∀ {o : Nat}, o < 4 → ta true (oA o + 1) 1 12
  | 0, _ => ⟨rfl, by decide, by decide⟩
  | 1, _ => ⟨rfl, by decide, by decide⟩
  | 2, _ => ⟨rfl, by decide, by decide⟩
  | 3, _ => ⟨rfl, by decide, by decide⟩
  | n + 4, h => absurd h (by omega)
theorem wf_235_32 : rx_ft (rt_P sc fm) 235 32 = some (8, 1) := (by decide +kernel : rt_ft 235 32 = some (8, 1))
theorem wf_235_9 : rx_ft (rt_P sc fm) 235 9 = some (8, 4) := (by decide +kernel : rt_ft 235 9 = some (8, 4))
theorem wi_235_0 : ri (rt_P sc fm) 235 0 (.iconst 0) (1) := ri_of (by decide +kernel) rfl
theorem wi_235_1 : ri (rt_P sc fm) 235 1 (.istore_n 3) (2) := ri_of (by decide +kernel) rfl
theorem wi_235_10 : ri (rt_P sc fm) 235 10 (.aload_n 0) (11) := ri_of (by decide +kernel) rfl
theorem wi_235_11 : ri (rt_P sc fm) 235 11 (.getfield 9) (14) := ri_of (by decide +kernel) rfl
theorem wi_235_14 : ri (rt_P sc fm) 235 14 (.iload_n 3) (15) := ri_of (by decide +kernel) rfl
theorem wi_235_15 : ri (rt_P sc fm) 235 15 (.laload) (16) := ri_of (by decide +kernel) rfl
theorem wi_235_16 : ri (rt_P sc fm) 235 16 (.lload_n 1) (17) := ri_of (by decide +kernel) rfl
theorem wi_235_17 : ri (rt_P sc fm) 235 17 (.lcmp) (18) := ri_of (by decide +kernel) rfl
theorem wi_235_18 : ri (rt_P sc fm) 235 18 (.ifCond .ne 5) (21) := ri_of (by decide +kernel) rfl
theorem wi_235_2 : ri (rt_P sc fm) 235 2 (.iload_n 3) (3) := ri_of (by decide +kernel) rfl
theorem wi_235_21 : ri (rt_P sc fm) 235 21 (.iload_n 3) (22) := ri_of (by decide +kernel) rfl
theorem wi_235_22 : ri (rt_P sc fm) 235 22 (.ireturn) (23) := ri_of (by decide +kernel) rfl
theorem wi_235_23 : ri (rt_P sc fm) 235 23 (.iinc 3 1) (26) := ri_of (by decide +kernel) rfl
theorem wi_235_26 : ri (rt_P sc fm) 235 26 (.goto (-24)) (29) := ri_of (by decide +kernel) rfl
theorem wi_235_29 : ri (rt_P sc fm) 235 29 (.iconst (-1)) (30) := ri_of (by decide +kernel) rfl
theorem wi_235_3 : ri (rt_P sc fm) 235 3 (.aload_n 0) (4) := ri_of (by decide +kernel) rfl
theorem wi_235_30 : ri (rt_P sc fm) 235 30 (.ireturn) (31) := ri_of (by decide +kernel) rfl
theorem wi_235_4 : ri (rt_P sc fm) 235 4 (.getfield 32) (7) := ri_of (by decide +kernel) rfl
theorem wi_235_7 : ri (rt_P sc fm) 235 7 (.if_icmp .ge 22) (10) := ri_of (by decide +kernel) rfl
theorem wr_235 : rx_rt (rt_P sc fm) 235 = (some FieldType.int) := (by decide +kernel : rt_rt 235 = (some FieldType.int))
/-- MarkHouse$Order.elementOf(J)I -/
def d_235 (n : Nat) (o0 : Nat) (a1 : Int64) (c : cS) : Option (Int32) :=
  Option.bind (whl (R := (Unit) ⊕ (Int32)) (fun s2 : Int32 =>
    if (c.1 (oA o0) 1) ≤ s2 then
      some (.inr (.inl ()))
    else
      if ib s2 12 then
      if (lg_cmp (c.2 (oA o0 + 1) (ix s2)) a1) = 0 then
        some (.inr (.inr s2))
      else
        lt (s2 + 1 : Int32) (fun v5 =>
        some (.inl v5))
      else none) n 0)
  (Sum.elim (fun x7 : Unit =>
    some (-1))
  (fun x8 : Int32 =>
    some x8))
theorem sp_235 {F Lo n : Nat} {o0 : Nat} {a1 : Int64} {c y : cS} {w : cW} {K : Int32 → Prop} {Q : ((Option Value) ⊕ String) → List va_E → Prop} (hw : rOK fm w) (hF : 0 ≤ F) (hLo : 0 ≤ Lo) (ho0 : o0 < 4) (h : wp (d_235 n o0 a1 c) K) (hQ : ∀ r, K r → Q (.inl (some (.int r))) (hq true c y w)) : rs (rt_P sc fm) 235 F Lo 0 [(0, .ref (oA o0)), (1, .long a1)] [] (hq true c y w) Q := by
  unfold d_235 at h
  obtain ⟨lv, elv⟩ : ∃ lv : rx_L, lv = [(0, .ref (oA o0)), (1, .long a1)] := ⟨_, rfl⟩
  rw [← elv]
  have l0 : rx_ld lv 0 = some (.ref (oA o0)) := by rw [elv]; rfl
  have l1 : rx_ld lv 1 = some (.long a1) := by rw [elv]; rfl
  refine rs_pure wi_235_0 rfl ?_
  refine rs_topi (v := 0) (by decide) ?_
  refine dl_istn wi_235_1 rfl (fun lv l3 t1 => ?_)
  have l0 := t1 _ _ (by decide) (Or.inl rfl) l0
  have l1 := t1 _ _ (by decide) (Or.inr (by decide)) l1
  refine whl_ex (A := fun s2 : Int32 => ∀ lv, rx_ld lv 0 = some (.ref (oA o0)) → rx_ld lv 1 = some (.long a1) → rx_ld lv 3 = some (.int s2) → rs (rt_P sc fm) 235 F Lo 2 lv [] (hq true c y w) Q) (B := (Sum.elim (fun x7 : Unit => ∀ lv, rs (rt_P sc fm) 235 F Lo 29 lv [] (hq true c y w) Q) (fun x8 : Int32 => ∀ lv, rx_ld lv 3 = some (.int x8) → rs (rt_P sc fm) 235 F Lo 21 lv [] (hq true c y w) Q))) ?_ ?_ _ _ (wp_bind h) _ l0 l1 l3
  · intro s2 h lv l0 l1 l3
    refine rs_ildn wi_235_2 l3 ?_
    refine rs_aldn wi_235_3 l0 ?_
    refine dq_gi wi_235_4 wf_235_32 (fO_1 ho0) ?_
    refine rs_icge (tg := 29) wi_235_7 ⟨by decide, by decide⟩ (fun q => ?_) (fun q => ?_)
    ·
      have h := wp_pos h q
      exact h _
    ·
      have h := wp_neg h q
      refine rs_aldn wi_235_10 l0 ?_
      refine dq_gr wi_235_11 wf_235_9 (fO_4 ho0) ?_
      refine rs_ildn wi_235_14 l3 ?_
      obtain ⟨g3, h⟩ := wp_gd h
      refine dq_lald wi_235_15 (tO_1 ho0) g3 ?_
      refine rs_lldn wi_235_16 l1 ?_
      refine rs_pure wi_235_17 rfl ?_
      refine rs_ifne (tg := 23) wi_235_18 ⟨by decide, by decide⟩ (fun q => ?_) (fun q => ?_)
      ·
        have h := wp_neg h q
        obtain ⟨v5, e6, h⟩ := wp_lt h
        refine dl_inc wi_235_23 l3 rfl e6 (fun lv l3 t4 => ?_)
        have l0 := t4 _ _ (by decide) (Or.inl rfl) l0
        have l1 := t4 _ _ (by decide) (Or.inr (by decide)) l1
        refine rs_goto (tg := 2) wi_235_26 ⟨by decide, by decide⟩ ?_
        exact h _ l0 l1 l3
      ·
        have h := wp_pos h q
        exact h _ l3
  ·
    refine sum_all ?_ ?_
    ·
      intro x7 h lv
      have h := wp_inl h
      refine rs_pure wi_235_29 rfl ?_
      refine rs_topi (v := (-1)) (by decide) ?_
      exact rs_iret wi_235_30 wr_235 rfl (hQ (-1) h)
    ·
      intro x8 h lv l3
      have h := wp_inr h
      refine rs_ildn wi_235_21 l3 ?_
      exact rs_iret wi_235_22 wr_235 rfl (hQ x8 h)
theorem fO_5 : ∀ {o : Nat}, o < 4 → fo true (oA o) 8 5 (.ref (oA o + 2))
  | 0, _ => ⟨_, rfl, rfl, by decide, by decide⟩
  | 1, _ => ⟨_, rfl, rfl, by decide, by decide⟩
  | 2, _ => ⟨_, rfl, rfl, by decide, by decide⟩
  | 3, _ => ⟨_, rfl, rfl, by decide, by decide⟩
  | n + 4, h => absurd h (by omega)
theorem tO_2 : ∀ {o : Nat}, o < 4 → ta true (oA o + 2) 0 12
  | 0, _ => ⟨rfl, by decide, by decide⟩
  | 1, _ => ⟨rfl, by decide, by decide⟩
  | 2, _ => ⟨rfl, by decide, by decide⟩
  | 3, _ => ⟨rfl, by decide, by decide⟩
  | n + 4, h => absurd h (by omega)
theorem wf_236_15 : rx_ft (rt_P sc fm) 236 15 = some (8, 5) := (by decide +kernel : rt_ft 236 15 = some (8, 5))
theorem wf_236_32 : rx_ft (rt_P sc fm) 236 32 = some (8, 1) := (by decide +kernel : rt_ft 236 32 = some (8, 1))
theorem wf_236_9 : rx_ft (rt_P sc fm) 236 9 = some (8, 4) := (by decide +kernel : rt_ft 236 9 = some (8, 4))
theorem wi_236_0 : ri (rt_P sc fm) 236 0 (.aload_n 0) (1) := ri_of (by decide +kernel) rfl
theorem wi_236_1 : ri (rt_P sc fm) 236 1 (.getfield 9) (4) := ri_of (by decide +kernel) rfl
theorem wi_236_10 : ri (rt_P sc fm) 236 10 (.aload_n 0) (11) := ri_of (by decide +kernel) rfl
theorem wi_236_11 : ri (rt_P sc fm) 236 11 (.getfield 15) (14) := ri_of (by decide +kernel) rfl
theorem wi_236_14 : ri (rt_P sc fm) 236 14 (.aload_n 0) (15) := ri_of (by decide +kernel) rfl
theorem wi_236_15 : ri (rt_P sc fm) 236 15 (.getfield 32) (18) := ri_of (by decide +kernel) rfl
theorem wi_236_18 : ri (rt_P sc fm) 236 18 (.iconst 1) (19) := ri_of (by decide +kernel) rfl
theorem wi_236_19 : ri (rt_P sc fm) 236 19 (.aload_n 0) (20) := ri_of (by decide +kernel) rfl
theorem wi_236_20 : ri (rt_P sc fm) 236 20 (.getfield 32) (23) := ri_of (by decide +kernel) rfl
theorem wi_236_23 : ri (rt_P sc fm) 236 23 (.ishl) (24) := ri_of (by decide +kernel) rfl
theorem wi_236_24 : ri (rt_P sc fm) 236 24 (.iastore) (25) := ri_of (by decide +kernel) rfl
theorem wi_236_25 : ri (rt_P sc fm) 236 25 (.aload_n 0) (26) := ri_of (by decide +kernel) rfl
theorem wi_236_26 : ri (rt_P sc fm) 236 26 (.dup) (27) := ri_of (by decide +kernel) rfl
theorem wi_236_27 : ri (rt_P sc fm) 236 27 (.getfield 32) (30) := ri_of (by decide +kernel) rfl
theorem wi_236_30 : ri (rt_P sc fm) 236 30 (.dup_x1) (31) := ri_of (by decide +kernel) rfl
theorem wi_236_31 : ri (rt_P sc fm) 236 31 (.iconst 1) (32) := ri_of (by decide +kernel) rfl
theorem wi_236_32 : ri (rt_P sc fm) 236 32 (.iadd) (33) := ri_of (by decide +kernel) rfl
theorem wi_236_33 : ri (rt_P sc fm) 236 33 (.putfield 32) (36) := ri_of (by decide +kernel) rfl
theorem wi_236_36 : ri (rt_P sc fm) 236 36 (.ireturn) (37) := ri_of (by decide +kernel) rfl
theorem wi_236_4 : ri (rt_P sc fm) 236 4 (.aload_n 0) (5) := ri_of (by decide +kernel) rfl
theorem wi_236_5 : ri (rt_P sc fm) 236 5 (.getfield 32) (8) := ri_of (by decide +kernel) rfl
theorem wi_236_8 : ri (rt_P sc fm) 236 8 (.lload_n 1) (9) := ri_of (by decide +kernel) rfl
theorem wi_236_9 : ri (rt_P sc fm) 236 9 (.lastore) (10) := ri_of (by decide +kernel) rfl
theorem wp_236_32 : rx_pt (rt_P sc fm) 236 32 = some (8, 1, .int) := (by decide +kernel : rt_pt 236 32 = some (8, 1, .int))
theorem wr_236 : rx_rt (rt_P sc fm) 236 = (some FieldType.int) := (by decide +kernel : rt_rt 236 = (some FieldType.int))
/-- MarkHouse$Order.addElement(J)I -/
def d_236 (n : Nat) (o0 : Nat) (a1 : Int64) (c : cS) : Option (Int32 × cS) :=
  if ib (c.1 (oA o0) 1) 12 then
  lt (pL c (oA o0 + 1) (ix (c.1 (oA o0) 1)) a1) (fun c2 =>
  if ib (c2.1 (oA o0) 1) 12 then
  lt (pI c2 (oA o0 + 2) (ix (c2.1 (oA o0) 1)) (1 <<< ((c2.1 (oA o0) 1) &&& 31))) (fun c5 =>
  lt (pI c5 (oA o0) 1 ((c5.1 (oA o0) 1) + 1)) (fun c7 =>
  some ((c5.1 (oA o0) 1), c7)))
  else none)
  else none
theorem sp_236 {F Lo n : Nat} {o0 : Nat} {a1 : Int64} {c y : cS} {w : cW} {K : Int32 × cS → Prop} {Q : ((Option Value) ⊕ String) → List va_E → Prop} (hw : rOK fm w) (hF : 0 ≤ F) (hLo : 0 ≤ Lo) (ho0 : o0 < 4) (h : wp (d_236 n o0 a1 c) K) (hQ : ∀ r, K r → Q (.inl (some (.int r.1))) (hq true r.2 y w)) : rs (rt_P sc fm) 236 F Lo 0 [(0, .ref (oA o0)), (1, .long a1)] [] (hq true c y w) Q := by
  unfold d_236 at h
  obtain ⟨lv, elv⟩ : ∃ lv : rx_L, lv = [(0, .ref (oA o0)), (1, .long a1)] := ⟨_, rfl⟩
  rw [← elv]
  have l0 : rx_ld lv 0 = some (.ref (oA o0)) := by rw [elv]; rfl
  have l1 : rx_ld lv 1 = some (.long a1) := by rw [elv]; rfl
  refine rs_aldn wi_236_0 l0 ?_
  refine dq_gr wi_236_1 wf_236_9 (fO_4 ho0) ?_
  refine rs_aldn wi_236_4 l0 ?_
  refine dq_gi wi_236_5 wf_236_32 (fO_1 ho0) ?_
  refine rs_lldn wi_236_8 l1 ?_
  obtain ⟨g1, h⟩ := wp_gd h
  obtain ⟨c2, e3, h⟩ := wp_lt h
  refine dq_last wi_236_9 (tO_1 ho0) g1 e3 ?_
  refine rs_aldn wi_236_10 l0 ?_
  refine dq_gr wi_236_11 wf_236_15 (fO_5 ho0) ?_
  refine rs_aldn wi_236_14 l0 ?_
  refine dq_gi wi_236_15 wf_236_32 (fO_1 ho0) ?_
  refine rs_pure wi_236_18 rfl ?_
  refine rs_topi (v := 1) (by decide) ?_
  refine rs_aldn wi_236_19 l0 ?_
  refine dq_gi wi_236_20 wf_236_32 (fO_1 ho0) ?_
  refine rs_pure wi_236_23 rfl ?_
  obtain ⟨g4, h⟩ := wp_gd h
  obtain ⟨c5, e6, h⟩ := wp_lt h
  refine dq_iast wi_236_24 (tO_2 ho0) g4 e6 ?_
  refine rs_aldn wi_236_25 l0 ?_
  refine rs_pure wi_236_26 rfl ?_
  refine dq_gi wi_236_27 wf_236_32 (fO_1 ho0) ?_
  refine rs_pure wi_236_30 rfl ?_
  refine rs_pure wi_236_31 rfl ?_
  refine rs_topi (v := 1) (by decide) ?_
  refine rs_pure wi_236_32 rfl ?_
  obtain ⟨c7, e8, h⟩ := wp_lt h
  refine dq_pi wi_236_33 wp_236_32 (fO_1 ho0) rfl rfl e8 ?_
  exact rs_iret wi_236_36 wr_236 rfl (hQ ((c5.1 (oA o0) 1), c7) h)
theorem wa_8_235 : rz_cn 8 (rx_yn (rt_P sc fm) 235).cls = true := (by decide +kernel : rz_cn 8 (rt_yn 235).cls = true)
theorem wa_8_236 : rz_cn 8 (rx_yn (rt_P sc fm) 236).cls = true := (by decide +kernel : rz_cn 8 (rt_yn 236).cls = true)
theorem wc_263_159 : rx_ct (rt_P sc fm) 263 159 = some (0, 235, 1) := (by decide +kernel : rt_ct 263 159 = some (0, 235, 1))
theorem wc_263_166 : rx_ct (rt_P sc fm) 263 166 = some (0, 236, 1) := (by decide +kernel : rt_ct 263 166 = some (0, 236, 1))
theorem wc_263_61 : rx_ct (rt_P sc fm) 263 61 = some (0, 41, 2) := (by decide +kernel : rt_ct 263 61 = some (0, 41, 2))
theorem wc_263_79 : rx_ct (rt_P sc fm) 263 79 = some (0, 42, 0) := (by decide +kernel : rt_ct 263 79 = some (0, 42, 0))
theorem wc_263_89 : rx_ct (rt_P sc fm) 263 89 = some (0, 259, 0) := (by decide +kernel : rt_ct 263 89 = some (0, 259, 0))
theorem wf_263_163 : rx_ft (rt_P sc fm) 263 163 = some (8, 1) := (by decide +kernel : rt_ft 263 163 = some (8, 1))
theorem wf_263_49 : rx_ft (rt_P sc fm) 263 49 = some (10, 7) := (by decide +kernel : rt_ft 263 49 = some (10, 7))
theorem wf_263_85 : rx_ft (rt_P sc fm) 263 85 = some (3, 4) := (by decide +kernel : rt_ft 263 85 = some (3, 4))
theorem wf_263_9 : rx_ft (rt_P sc fm) 263 9 = some (10, 0) := (by decide +kernel : rt_ft 263 9 = some (10, 0))
theorem wh0_263_2 : rx_ht (rt_P sc fm) 263 2 "java/lang/IllegalArgumentException" = none := (by decide +kernel : rt_ht 263 2 "java/lang/IllegalArgumentException" = none)
theorem wh0_263_29 : rx_ht (rt_P sc fm) 263 29 "java/lang/IllegalArgumentException" = none := (by decide +kernel : rt_ht 263 29 "java/lang/IllegalArgumentException" = none)
theorem whh_263 : rx_hh (rt_P sc fm) 263 = [] := (by decide +kernel : rt_hh 263 = [])
theorem wi_263_0 : ri (rt_P sc fm) 263 0 (.aload_n 1) (1) := ri_of (by decide +kernel) rfl
theorem wi_263_1 : ri (rt_P sc fm) 263 1 (.aload_n 0) (2) := ri_of (by decide +kernel) rfl
theorem wi_263_10 : ri (rt_P sc fm) 263 10 (.ifCond .ge 22) (13) := ri_of (by decide +kernel) rfl
theorem wi_263_13 : ri (rt_P sc fm) 263 13 (.aload_n 1) (14) := ri_of (by decide +kernel) rfl
theorem wi_263_14 : ri (rt_P sc fm) 263 14 (.getfield 163) (17) := ri_of (by decide +kernel) rfl
theorem wi_263_17 : ri (rt_P sc fm) 263 17 (.bipush 12) (19) := ri_of (by decide +kernel) rfl
theorem wi_263_19 : ri (rt_P sc fm) 263 19 (.if_icmp .lt 13) (22) := ri_of (by decide +kernel) rfl
theorem wi_263_2 : ri (rt_P sc fm) 263 2 (.invokevirtual 89) (5) := ri_of (by decide +kernel) rfl
theorem wi_263_22 : ri (rt_P sc fm) 263 22 (.aload_n 0) (23) := ri_of (by decide +kernel) rfl
theorem wi_263_23 : ri (rt_P sc fm) 263 23 (.bipush 6) (25) := ri_of (by decide +kernel) rfl
theorem wi_263_25 : ri (rt_P sc fm) 263 25 (.aload_n 0) (26) := ri_of (by decide +kernel) rfl
theorem wi_263_26 : ri (rt_P sc fm) 263 26 (.invokevirtual 79) (29) := ri_of (by decide +kernel) rfl
theorem wi_263_29 : ri (rt_P sc fm) 263 29 (.invokevirtual 61) (32) := ri_of (by decide +kernel) rfl
theorem wi_263_32 : ri (rt_P sc fm) 263 32 (.aload_n 0) (33) := ri_of (by decide +kernel) rfl
theorem wi_263_33 : ri (rt_P sc fm) 263 33 (.dup) (34) := ri_of (by decide +kernel) rfl
theorem wi_263_34 : ri (rt_P sc fm) 263 34 (.getfield 49) (37) := ri_of (by decide +kernel) rfl
theorem wi_263_37 : ri (rt_P sc fm) 263 37 (.iconst 1) (38) := ri_of (by decide +kernel) rfl
theorem wi_263_38 : ri (rt_P sc fm) 263 38 (.iadd) (39) := ri_of (by decide +kernel) rfl
theorem wi_263_39 : ri (rt_P sc fm) 263 39 (.putfield 49) (42) := ri_of (by decide +kernel) rfl
theorem wi_263_42 : ri (rt_P sc fm) 263 42 (.iload_n 2) (43) := ri_of (by decide +kernel) rfl
theorem wi_263_43 : ri (rt_P sc fm) 263 43 (.ifCond .lt 7) (46) := ri_of (by decide +kernel) rfl
theorem wi_263_46 : ri (rt_P sc fm) 263 46 (.iload_n 2) (47) := ri_of (by decide +kernel) rfl
theorem wi_263_47 : ri (rt_P sc fm) 263 47 (.goto 21) (50) := ri_of (by decide +kernel) rfl
theorem wi_263_5 : ri (rt_P sc fm) 263 5 (.invokevirtual 159) (8) := ri_of (by decide +kernel) rfl
theorem wi_263_50 : ri (rt_P sc fm) 263 50 (.aload_n 1) (51) := ri_of (by decide +kernel) rfl
theorem wi_263_51 : ri (rt_P sc fm) 263 51 (.aload_n 0) (52) := ri_of (by decide +kernel) rfl
theorem wi_263_52 : ri (rt_P sc fm) 263 52 (.getfield 9) (55) := ri_of (by decide +kernel) rfl
theorem wi_263_55 : ri (rt_P sc fm) 263 55 (.getfield 85) (58) := ri_of (by decide +kernel) rfl
theorem wi_263_58 : ri (rt_P sc fm) 263 58 (.aload_n 0) (59) := ri_of (by decide +kernel) rfl
theorem wi_263_59 : ri (rt_P sc fm) 263 59 (.getfield 49) (62) := ri_of (by decide +kernel) rfl
theorem wi_263_62 : ri (rt_P sc fm) 263 62 (.iconst 1) (63) := ri_of (by decide +kernel) rfl
theorem wi_263_63 : ri (rt_P sc fm) 263 63 (.isub) (64) := ri_of (by decide +kernel) rfl
theorem wi_263_64 : ri (rt_P sc fm) 263 64 (.laload) (65) := ri_of (by decide +kernel) rfl
theorem wi_263_65 : ri (rt_P sc fm) 263 65 (.invokevirtual 166) (68) := ri_of (by decide +kernel) rfl
theorem wi_263_68 : ri (rt_P sc fm) 263 68 (.ireturn) (69) := ri_of (by decide +kernel) rfl
theorem wi_263_8 : ri (rt_P sc fm) 263 8 (.istore_n 2) (9) := ri_of (by decide +kernel) rfl
theorem wi_263_9 : ri (rt_P sc fm) 263 9 (.iload_n 2) (10) := ri_of (by decide +kernel) rfl
theorem wm_235 : rx_ml (rt_P sc fm) 235 = 4 := (by decide +kernel : rt_ml 235 = 4)
theorem wm_236 : rx_ml (rt_P sc fm) 236 = 3 := (by decide +kernel : rt_ml 236 = 3)
theorem wp_263_49 : rx_pt (rt_P sc fm) 263 49 = some (10, 7, .int) := (by decide +kernel : rt_pt 263 49 = some (10, 7, .int))
theorem wr_263 : rx_rt (rt_P sc fm) 263 = (some FieldType.int) := (by decide +kernel : rt_rt 263 = (some FieldType.int))
/-- MarkHouse$Reader.readNewElement(LMarkHouse$Order;)I -/
def d_263 (n : Nat) (o1 : Nat) (c : cS) : Option ((Int32 × cS) ⊕ cS) :=
  Option.bind (d_259 n c) (Sum.elim (fun r1 =>
  Option.bind (d_235 n o1 r1.1 r1.2) (fun v3 =>
  jn (fun p5 : cS =>
    lt (pI p5 145 7 ((p5.1 145 7) + 1)) (fun c6 =>
    jn (fun p8 : Int32 × cS =>
      some (.inl (p8.1, p8.2)))
    (fun j68 =>
    if v3 < 0 then
      if ib ((c6.1 145 7) - 1) 4001 then
      Option.bind (d_236 n o1 (c6.2 5 (ix ((c6.1 145 7) - 1))) c6) (fun r10 =>
      j68 (r10.1, r10.2))
      else none
    else
      j68 (v3, c6))))
  (fun j32 =>
  if 0 ≤ v3 then
    j32 r1.2
  else
    if (r1.2.1 (oA o1) 1) < 12 then
      j32 r1.2
    else
      Option.bind (d_42 n r1.2) (fun v11 =>
      Option.bind (d_41 n 6 v11 r1.2) (Sum.elim (fun r12 =>
      j32 r12)
      (fun z13 => some (.inr z13)))))))
  (fun z2 => some (.inr z2)))
theorem sp_263 {F Lo n : Nat} {o1 : Nat} {c y : cS} {w : cW} {K : (Int32 × cS) ⊕ cS → Prop} {Q : ((Option Value) ⊕ String) → List va_E → Prop} (hw : rOK fm w) (hF : 8 ≤ F) (hLo : 124 ≤ Lo) (ho1 : o1 < 4) (h : wp (d_263 n o1 c) K) (hQ : ∀ r, K (.inl r) → Q (.inl (some (.int r.1))) (hq true r.2 y w)) (hT : ∀ r, K (.inr r) → Q (.inr "java/lang/IllegalArgumentException") (hq true r y w)) : rs (rt_P sc fm) 263 F Lo 0 [(0, .ref 145), (1, .ref (oA o1))] [] (hq true c y w) Q := by
  unfold d_263 at h
  obtain ⟨lv, elv⟩ : ∃ lv : rx_L, lv = [(0, .ref 145), (1, .ref (oA o1))] := ⟨_, rfl⟩
  rw [← elv]
  have l0 : rx_ld lv 0 = some (.ref 145) := by rw [elv]; rfl
  have l1 : rx_ld lv 1 = some (.ref (oA o1)) := by rw [elv]; rfl
  refine rs_aldn wi_263_0 l1 ?_
  refine rs_aldn wi_263_1 l0 ?_
  refine rs_V wi_263_2 wc_263_89 rfl (dq_isa tf_145_0 wa_10_259) (Nat.le_trans (by decide) hF) (ml_le wm_259 (Nat.le_trans (by decide) hLo)) rfl (sp_259 hw (Nat.le_trans (by decide : 7 ≤ 8 - 1) (Nat.sub_le_sub_right hF 1)) (ml_sub wm_259 (Nat.le_trans (by decide : 104 ≤ 124 - 20) (Nat.sub_le_sub_right hLo 20))) (wp_bind h) (fun r1 h => rs_back1 ?_) (fun z2 h => rs_up wh0_263_2 whh_263 (hT z2 (wp_inr h))))
  have h := wp_inl h
  refine rs_V wi_263_5 wc_263_159 rfl (dq_isa (fO_0 ho1) wa_8_235) (Nat.le_trans (by decide) hF) (ml_le wm_235 (Nat.le_trans (by decide) hLo)) rfl (sp_235 hw (Nat.le_trans (by decide : 0 ≤ 8 - 1) (Nat.sub_le_sub_right hF 1)) (ml_sub wm_235 (Nat.le_trans (by decide : 0 ≤ 124 - 23) (Nat.sub_le_sub_right hLo 23))) ho1 (wp_bind h) (fun v3 h => rs_back1 ?_))
  refine dl_istn wi_263_8 rfl (fun lv l2 t4 => ?_)
  have l0 := t4 _ _ (by decide) (Or.inl rfl) l0
  have l1 := t4 _ _ (by decide) (Or.inl rfl) l1
  refine rs_ildn wi_263_9 l2 ?_
  refine wp_jn (B := fun p5 : cS => ∀ lv, rx_ld lv 0 = some (.ref 145) → rx_ld lv 1 = some (.ref (oA o1)) → rx_ld lv 2 = some (.int v3) → rs (rt_P sc fm) 263 F Lo 32 lv [] (hq true p5 y w) Q) h (fun p5 h lv l0 l1 l2 => ?_) (fun j32 hj32 h => ?_)
  ·
    refine rs_aldn wi_263_32 l0 ?_
    refine rs_pure wi_263_33 rfl ?_
    refine dq_gi wi_263_34 wf_263_49 tf_145_7 ?_
    refine rs_pure wi_263_37 rfl ?_
    refine rs_topi (v := 1) (by decide) ?_
    refine rs_pure wi_263_38 rfl ?_
    obtain ⟨c6, e7, h⟩ := wp_lt h
    refine dq_pi wi_263_39 wp_263_49 tf_145_7 rfl rfl e7 ?_
    refine rs_ildn wi_263_42 l2 ?_
    refine wp_jn (B := fun p8 : Int32 × cS => ∀ lv, rs (rt_P sc fm) 263 F Lo 68 lv [.int p8.1] (hq true p8.2 y w) Q) h (fun p8 h lv => ?_) (fun j68 hj68 h => ?_)
    ·
      exact rs_iret wi_263_68 wr_263 rfl (hQ (p8.1, p8.2) h)
    refine rs_iflt (tg := 50) wi_263_43 ⟨by decide, by decide⟩ (fun q => ?_) (fun q => ?_)
    ·
      have h := wp_pos h q
      refine rs_aldn wi_263_50 l1 ?_
      refine rs_aldn wi_263_51 l0 ?_
      refine dq_gr wi_263_52 wf_263_9 tf_145_0 ?_
      refine dq_gr wi_263_55 wf_263_85 tf_1_4 ?_
      refine rs_aldn wi_263_58 l0 ?_
      refine dq_gi wi_263_59 wf_263_49 tf_145_7 ?_
      refine rs_pure wi_263_62 rfl ?_
      refine rs_topi (v := 1) (by decide) ?_
      refine rs_pure wi_263_63 rfl ?_
      obtain ⟨g9, h⟩ := wp_gd h
      refine dq_lald wi_263_64 t_5 g9 ?_
      refine rs_V wi_263_65 wc_263_166 rfl (dq_isa (fO_0 ho1) wa_8_236) (Nat.le_trans (by decide) hF) (ml_le wm_236 (Nat.le_trans (by decide) hLo)) rfl (sp_236 hw (Nat.le_trans (by decide : 0 ≤ 8 - 1) (Nat.sub_le_sub_right hF 1)) (ml_sub wm_236 (Nat.le_trans (by decide : 0 ≤ 124 - 22) (Nat.sub_le_sub_right hLo 22))) ho1 (wp_bind h) (fun r10 h => rs_back1 ?_))
      exact hj68 _ h _
    ·
      have h := wp_neg h q
      refine rs_ildn wi_263_46 l2 ?_
      refine rs_goto (tg := 68) wi_263_47 ⟨by decide, by decide⟩ ?_
      exact hj68 _ h _
  refine rs_ifge (tg := 32) wi_263_10 ⟨by decide, by decide⟩ (fun q => ?_) (fun q => ?_)
  ·
    have h := wp_pos h q
    exact hj32 _ h _ l0 l1 l2
  ·
    have h := wp_neg h q
    refine rs_aldn wi_263_13 l1 ?_
    refine dq_gi wi_263_14 wf_263_163 (fO_1 ho1) ?_
    refine rs_pure wi_263_17 rfl ?_
    refine rs_topi (v := 12) (by decide) ?_
    refine rs_iclt (tg := 32) wi_263_19 ⟨by decide, by decide⟩ (fun q => ?_) (fun q => ?_)
    ·
      have h := wp_pos h q
      exact hj32 _ h _ l0 l1 l2
    ·
      have h := wp_neg h q
      refine rs_aldn wi_263_22 l0 ?_
      refine rs_pure wi_263_23 rfl ?_
      refine rs_topi (v := 6) (by decide) ?_
      refine rs_aldn wi_263_25 l0 ?_
      refine rs_V wi_263_26 wc_263_79 rfl (dq_isa tf_145_0 wa_10_42) (Nat.le_trans (by decide) hF) (ml_le wm_42 (Nat.le_trans (by decide) hLo)) rfl (sp_42 hw (Nat.le_trans (by decide : 0 ≤ 8 - 1) (Nat.sub_le_sub_right hF 1)) (ml_sub wm_42 (Nat.le_trans (by decide : 0 ≤ 124 - 20) (Nat.sub_le_sub_right hLo 20))) (wp_bind h) (fun v11 h => rs_back1 ?_))
      refine rs_V wi_263_29 wc_263_61 rfl (dq_isa tf_145_0 wa_10_41) (Nat.le_trans (by decide) hF) (ml_le wm_41 (Nat.le_trans (by decide) hLo)) rfl (sp_41 hw (Nat.le_trans (by decide : 6 ≤ 8 - 1) (Nat.sub_le_sub_right hF 1)) (ml_sub wm_41 (Nat.le_trans (by decide : 82 ≤ 124 - 22) (Nat.sub_le_sub_right hLo 22))) (wp_bind h) (fun r12 h => rs_back0 ?_) (fun z13 h => rs_up wh0_263_29 whh_263 (hT z13 (wp_inr h))))
      have h := wp_inl h
      exact hj32 _ h _ l0 l1 l2
theorem wf_258_49 : rx_ft (rt_P sc fm) 258 49 = some (10, 7) := (by decide +kernel : rt_ft 258 49 = some (10, 7))
theorem wf_258_76 : rx_ft (rt_P sc fm) 258 76 = some (3, 2) := (by decide +kernel : rt_ft 258 76 = some (3, 2))
theorem wf_258_9 : rx_ft (rt_P sc fm) 258 9 = some (10, 0) := (by decide +kernel : rt_ft 258 9 = some (10, 0))
theorem wi_258_0 : ri (rt_P sc fm) 258 0 (.aload_n 0) (1) := ri_of (by decide +kernel) rfl
theorem wi_258_1 : ri (rt_P sc fm) 258 1 (.getfield 9) (4) := ri_of (by decide +kernel) rfl
theorem wi_258_11 : ri (rt_P sc fm) 258 11 (.iaload) (12) := ri_of (by decide +kernel) rfl
theorem wi_258_12 : ri (rt_P sc fm) 258 12 (.iload_n 1) (13) := ri_of (by decide +kernel) rfl
theorem wi_258_13 : ri (rt_P sc fm) 258 13 (.if_icmp .ne 7) (16) := ri_of (by decide +kernel) rfl
theorem wi_258_16 : ri (rt_P sc fm) 258 16 (.iconst 1) (17) := ri_of (by decide +kernel) rfl
theorem wi_258_17 : ri (rt_P sc fm) 258 17 (.goto 4) (20) := ri_of (by decide +kernel) rfl
theorem wi_258_20 : ri (rt_P sc fm) 258 20 (.iconst 0) (21) := ri_of (by decide +kernel) rfl
theorem wi_258_21 : ri (rt_P sc fm) 258 21 (.istore_n 2) (22) := ri_of (by decide +kernel) rfl
theorem wi_258_22 : ri (rt_P sc fm) 258 22 (.aload_n 0) (23) := ri_of (by decide +kernel) rfl
theorem wi_258_23 : ri (rt_P sc fm) 258 23 (.dup) (24) := ri_of (by decide +kernel) rfl
theorem wi_258_24 : ri (rt_P sc fm) 258 24 (.getfield 49) (27) := ri_of (by decide +kernel) rfl
theorem wi_258_27 : ri (rt_P sc fm) 258 27 (.iload_n 2) (28) := ri_of (by decide +kernel) rfl
theorem wi_258_28 : ri (rt_P sc fm) 258 28 (.ifCond .eq 7) (31) := ri_of (by decide +kernel) rfl
theorem wi_258_31 : ri (rt_P sc fm) 258 31 (.iconst 1) (32) := ri_of (by decide +kernel) rfl
theorem wi_258_32 : ri (rt_P sc fm) 258 32 (.goto 4) (35) := ri_of (by decide +kernel) rfl
theorem wi_258_35 : ri (rt_P sc fm) 258 35 (.iconst 0) (36) := ri_of (by decide +kernel) rfl
theorem wi_258_36 : ri (rt_P sc fm) 258 36 (.iadd) (37) := ri_of (by decide +kernel) rfl
theorem wi_258_37 : ri (rt_P sc fm) 258 37 (.putfield 49) (40) := ri_of (by decide +kernel) rfl
theorem wi_258_4 : ri (rt_P sc fm) 258 4 (.getfield 76) (7) := ri_of (by decide +kernel) rfl
theorem wi_258_40 : ri (rt_P sc fm) 258 40 (.iload_n 2) (41) := ri_of (by decide +kernel) rfl
theorem wi_258_41 : ri (rt_P sc fm) 258 41 (.ireturn) (42) := ri_of (by decide +kernel) rfl
theorem wi_258_7 : ri (rt_P sc fm) 258 7 (.aload_n 0) (8) := ri_of (by decide +kernel) rfl
theorem wi_258_8 : ri (rt_P sc fm) 258 8 (.getfield 49) (11) := ri_of (by decide +kernel) rfl
theorem wp_258_49 : rx_pt (rt_P sc fm) 258 49 = some (10, 7, .int) := (by decide +kernel : rt_pt 258 49 = some (10, 7, .int))
theorem wr_258 : rx_rt (rt_P sc fm) 258 = (some FieldType.boolean) := (by decide +kernel : rt_rt 258 = (some FieldType.boolean))
/-- MarkHouse$Reader.passIf(I)Z -/
def d_258 (n : Nat) (a1 : Int32) (c : cS) : Option (Int32 × cS) :=
  if ib (c.1 145 7) 4001 then
  jn (fun p2 : Int32 =>
    jn (fun p4 : Int32 =>
      lt (pI c 145 7 ((c.1 145 7) + p4)) (fun c5 =>
      if nb p2 then
      some (p2, c5)
      else none))
    (fun j36 =>
    if p2 = 0 then
      j36 0
    else
      j36 1))
  (fun j21 =>
  if (c.1 3 (ix (c.1 145 7))) = a1 then
    j21 1
  else
    j21 0)
  else none
theorem sp_258 {F Lo n : Nat} {a1 : Int32} {c y : cS} {w : cW} {K : Int32 × cS → Prop} {Q : ((Option Value) ⊕ String) → List va_E → Prop} (hw : rOK fm w) (hF : 0 ≤ F) (hLo : 0 ≤ Lo)  (h : wp (d_258 n a1 c) K) (hQ : ∀ r, K r → Q (.inl (some (.int r.1))) (hq true r.2 y w)) : rs (rt_P sc fm) 258 F Lo 0 [(0, .ref 145), (1, .int a1)] [] (hq true c y w) Q := by
  unfold d_258 at h
  obtain ⟨lv, elv⟩ : ∃ lv : rx_L, lv = [(0, .ref 145), (1, .int a1)] := ⟨_, rfl⟩
  rw [← elv]
  have l0 : rx_ld lv 0 = some (.ref 145) := by rw [elv]; rfl
  have l1 : rx_ld lv 1 = some (.int a1) := by rw [elv]; rfl
  refine rs_aldn wi_258_0 l0 ?_
  refine dq_gr wi_258_1 wf_258_9 tf_145_0 ?_
  refine dq_gr wi_258_4 wf_258_76 tf_1_2 ?_
  refine rs_aldn wi_258_7 l0 ?_
  refine dq_gi wi_258_8 wf_258_49 tf_145_7 ?_
  obtain ⟨g1, h⟩ := wp_gd h
  refine dq_iald wi_258_11 t_3 g1 ?_
  refine rs_ildn wi_258_12 l1 ?_
  refine wp_jn (B := fun p2 : Int32 => ∀ lv, rx_ld lv 0 = some (.ref 145) → rs (rt_P sc fm) 258 F Lo 21 lv [.int p2] (hq true c y w) Q) h (fun p2 h lv l0 => ?_) (fun j21 hj21 h => ?_)
  ·
    refine dl_istn wi_258_21 rfl (fun lv l2 t3 => ?_)
    have l0 := t3 _ _ (by decide) (Or.inl rfl) l0
    refine rs_aldn wi_258_22 l0 ?_
    refine rs_pure wi_258_23 rfl ?_
    refine dq_gi wi_258_24 wf_258_49 tf_145_7 ?_
    refine rs_ildn wi_258_27 l2 ?_
    refine wp_jn (B := fun p4 : Int32 => ∀ lv, rx_ld lv 2 = some (.int p2) → rs (rt_P sc fm) 258 F Lo 36 lv [.int p4, .int (c.1 145 7), .ref 145] (hq true c y w) Q) h (fun p4 h lv l2 => ?_) (fun j36 hj36 h => ?_)
    ·
      refine rs_pure wi_258_36 rfl ?_
      obtain ⟨c5, e6, h⟩ := wp_lt h
      refine dq_pi wi_258_37 wp_258_49 tf_145_7 rfl rfl e6 ?_
      refine rs_ildn wi_258_40 l2 ?_
      obtain ⟨g7, h⟩ := wp_gd h
      exact rs_iret wi_258_41 wr_258 (nb_n g7) (hQ (p2, c5) h)
    refine rs_ifeq (tg := 35) wi_258_28 ⟨by decide, by decide⟩ (fun q => ?_) (fun q => ?_)
    ·
      have h := wp_pos h q
      refine rs_pure wi_258_35 rfl ?_
      refine rs_topi (v := 0) (by decide) ?_
      exact hj36 _ h _ l2
    ·
      have h := wp_neg h q
      refine rs_pure wi_258_31 rfl ?_
      refine rs_topi (v := 1) (by decide) ?_
      refine rs_goto (tg := 36) wi_258_32 ⟨by decide, by decide⟩ ?_
      exact hj36 _ h _ l2
  refine rs_icne (tg := 20) wi_258_13 ⟨by decide, by decide⟩ (fun q => ?_) (fun q => ?_)
  ·
    have h := wp_neg h q
    refine rs_pure wi_258_20 rfl ?_
    refine rs_topi (v := 0) (by decide) ?_
    exact hj21 _ h _ l0
  ·
    have h := wp_pos h q
    refine rs_pure wi_258_16 rfl ?_
    refine rs_topi (v := 1) (by decide) ?_
    refine rs_goto (tg := 21) wi_258_17 ⟨by decide, by decide⟩ ?_
    exact hj21 _ h _ l0
end D42
