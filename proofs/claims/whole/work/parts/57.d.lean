/-! THE CODE AS PURE PROGRAMS, 16: by wip/whole/dc.py -/
section D57
variable {sc : Nat × (Nat → Int32)} {fm : Value}
theorem wc_361_371 : rx_ct (rt_P sc fm) 361 371 = some (0, 357, 1) := (by decide +kernel : rt_ct 361 371 = some (0, 357, 1))
theorem wf_361_378 : rx_ft (rt_P sc fm) 361 378 = some (15, 5) := (by decide +kernel : rt_ft 361 378 = some (15, 5))
theorem wi_361_0 : ri (rt_P sc fm) 361 0 (.aload_n 0) (1) := ri_of (by decide +kernel) rfl
theorem wi_361_1 : ri (rt_P sc fm) 361 1 (.getfield 378) (4) := ri_of (by decide +kernel) rfl
theorem wi_361_10 : ri (rt_P sc fm) 361 10 (.invokevirtual 371) (13) := ri_of (by decide +kernel) rfl
theorem wi_361_13 : ri (rt_P sc fm) 361 13 (.aload_n 0) (14) := ri_of (by decide +kernel) rfl
theorem wi_361_14 : ri (rt_P sc fm) 361 14 (.iconst 1) (15) := ri_of (by decide +kernel) rfl
theorem wi_361_15 : ri (rt_P sc fm) 361 15 (.putfield 378) (18) := ri_of (by decide +kernel) rfl
theorem wi_361_18 : ri (rt_P sc fm) 361 18 (.return_) (19) := ri_of (by decide +kernel) rfl
theorem wi_361_4 : ri (rt_P sc fm) 361 4 (.ifCond .eq 9) (7) := ri_of (by decide +kernel) rfl
theorem wi_361_7 : ri (rt_P sc fm) 361 7 (.aload_n 0) (8) := ri_of (by decide +kernel) rfl
theorem wi_361_8 : ri (rt_P sc fm) 361 8 (.bipush 32) (10) := ri_of (by decide +kernel) rfl
theorem wp_361_378 : rx_pt (rt_P sc fm) 361 378 = some (15, 5, .boolean) := (by decide +kernel : rt_pt 361 378 = some (15, 5, .boolean))
theorem wr_361 : rx_rt (rt_P sc fm) 361 = none := (by decide +kernel : rt_rt 361 = none)
/-- MarkHouseModel.gap()V -/
def d_361 (n : Nat)  (c : cS) : Option (cS) :=
  jn (fun p1 : cS =>
    lt (pI p1 174 5 1) (fun c2 =>
    some c2))
  (fun j13 =>
  if (c.1 174 5) = 0 then
    j13 c
  else
    Option.bind (d_357 n 32 c) (fun r4 =>
    j13 r4))
set_option maxRecDepth 100000 in
set_option maxHeartbeats 4000000 in
theorem sp_361 {F Lo n : Nat}  {c y : cS} {w : cW} {K : cS → Prop} {Q : ((Option Value) ⊕ String) → List va_E → Prop} (hw : rOK fm w) (hF : 1 ≤ F) (hLo : 21 ≤ Lo)  (h : wp (d_361 n  c) K) (hQ : ∀ r, K r → Q (.inl none) (hq false r y w)) : rs (rt_P sc fm) 361 F Lo 0 [(0, .ref 174)] [] (hq false c y w) Q := by
  unfold d_361 at h
  obtain ⟨lv, elv⟩ : ∃ lv : rx_L, lv = [(0, .ref 174)] := ⟨_, rfl⟩
  rw [← elv]
  have l0 : rx_ld lv 0 = some (.ref 174) := by rw [elv]; rfl
  refine rs_aldn wi_361_0 l0 ?_
  refine dq_gi wi_361_1 wf_361_378 tf_174_5 ?_
  refine wp_jn (B := fun p1 : cS => ∀ lv, rx_ld lv 0 = some (.ref 174) → rs (rt_P sc fm) 361 F Lo 13 lv [] (hq false p1 y w) Q) h (fun p1 h lv l0 => ?_) (fun j13 hj13 h => ?_)
  ·
    refine rs_aldn wi_361_13 l0 ?_
    refine rs_pure wi_361_14 rfl ?_
    refine rs_topi (v := 1) (by decide) ?_
    obtain ⟨c2, e3, h⟩ := wp_lt h
    refine dq_pi wi_361_15 wp_361_378 tf_174_5 (nb_n (by decide)) (nb_f (by decide)) e3 ?_
    exact rs_vret wi_361_18 wr_361 (hQ c2 h)
  refine rs_ifeq (tg := 13) wi_361_4 ⟨by decide, by decide⟩ (fun q => ?_) (fun q => ?_)
  ·
    have h := wp_pos h q
    exact hj13 _ h _ l0
  ·
    have h := wp_neg h q
    refine rs_aldn wi_361_7 l0 ?_
    refine rs_pure wi_361_8 rfl ?_
    refine rs_topi (v := 32) (by decide) ?_
    refine rs_V wi_361_10 wc_361_371 rfl (dq_isa tf_174_0 wa_15_357) (Nat.le_trans (by decide) hF) (ml_le wm_357 (Nat.le_trans (by decide) hLo)) rfl (sp_357 hw (Nat.le_trans (by decide : 0 ≤ 1 - 1) (Nat.sub_le_sub_right hF 1)) (ml_sub wm_357 (Nat.le_trans (by decide : 0 ≤ 21 - 21) (Nat.sub_le_sub_right hLo 21))) (wp_bind h) (fun r4 h => rs_back0 ?_))
    exact hj13 _ h _ l0
theorem wa_15_361 : rz_cn 15 (rx_yn (rt_P sc fm) 361).cls = true := (by decide +kernel : rz_cn 15 (rt_yn 361).cls = true)
theorem wc_362_371 : rx_ct (rt_P sc fm) 362 371 = some (0, 357, 1) := (by decide +kernel : rt_ct 362 371 = some (0, 357, 1))
theorem wc_362_382 : rx_ct (rt_P sc fm) 362 382 = some (0, 361, 0) := (by decide +kernel : rt_ct 362 382 = some (0, 361, 0))
theorem wc_362_385 : rx_ct (rt_P sc fm) 362 385 = some (0, 145, 0) := (by decide +kernel : rt_ct 362 385 = some (0, 145, 0))
theorem wc_362_389 : rx_ct (rt_P sc fm) 362 389 = some (0, 146, 1) := (by decide +kernel : rt_ct 362 389 = some (0, 146, 1))
theorem wi_362_0 : ri (rt_P sc fm) 362 0 (.aload_n 0) (1) := ri_of (by decide +kernel) rfl
theorem wi_362_1 : ri (rt_P sc fm) 362 1 (.invokevirtual 382) (4) := ri_of (by decide +kernel) rfl
theorem wi_362_11 : ri (rt_P sc fm) 362 11 (.if_icmp .ge 18) (14) := ri_of (by decide +kernel) rfl
theorem wi_362_14 : ri (rt_P sc fm) 362 14 (.aload_n 0) (15) := ri_of (by decide +kernel) rfl
theorem wi_362_15 : ri (rt_P sc fm) 362 15 (.aload_n 1) (16) := ri_of (by decide +kernel) rfl
theorem wi_362_16 : ri (rt_P sc fm) 362 16 (.iload_n 2) (17) := ri_of (by decide +kernel) rfl
theorem wi_362_17 : ri (rt_P sc fm) 362 17 (.invokevirtual 389) (20) := ri_of (by decide +kernel) rfl
theorem wi_362_20 : ri (rt_P sc fm) 362 20 (.invokevirtual 371) (23) := ri_of (by decide +kernel) rfl
theorem wi_362_23 : ri (rt_P sc fm) 362 23 (.iinc 2 1) (26) := ri_of (by decide +kernel) rfl
theorem wi_362_26 : ri (rt_P sc fm) 362 26 (.goto (-20)) (29) := ri_of (by decide +kernel) rfl
theorem wi_362_29 : ri (rt_P sc fm) 362 29 (.return_) (30) := ri_of (by decide +kernel) rfl
theorem wi_362_4 : ri (rt_P sc fm) 362 4 (.iconst 0) (5) := ri_of (by decide +kernel) rfl
theorem wi_362_5 : ri (rt_P sc fm) 362 5 (.istore_n 2) (6) := ri_of (by decide +kernel) rfl
theorem wi_362_6 : ri (rt_P sc fm) 362 6 (.iload_n 2) (7) := ri_of (by decide +kernel) rfl
theorem wi_362_7 : ri (rt_P sc fm) 362 7 (.aload_n 1) (8) := ri_of (by decide +kernel) rfl
theorem wi_362_8 : ri (rt_P sc fm) 362 8 (.invokevirtual 385) (11) := ri_of (by decide +kernel) rfl
theorem wm_361 : rx_ml (rt_P sc fm) 361 = 1 := (by decide +kernel : rt_ml 361 = 1)
theorem wr_362 : rx_rt (rt_P sc fm) 362 = none := (by decide +kernel : rt_rt 362 = none)
/-- MarkHouseModel.sayWord(Ljava/lang/String;)V -/
def d_362 (n : Nat) (j1 : Nat) (c : cS) : Option (cS) :=
  Option.bind (d_361 n c) (fun r1 =>
  Option.bind (whl (R := (cS)) (fun s3 : Int32 × cS =>
    Option.bind (d_145 n j1) (fun v4 =>
    if v4 ≤ s3.1 then
      some (.inr s3.2)
    else
      Option.bind (d_146 n j1 s3.1) (fun v5 =>
      Option.bind (d_357 n v5 s3.2) (fun r6 =>
      lt (s3.1 + 1 : Int32) (fun v8 =>
      some (.inl (v8, r6))))))) n (0, r1))
  (fun x10 : cS =>
    some x10))
set_option maxRecDepth 100000 in
set_option maxHeartbeats 4000000 in
theorem sp_362 {F Lo n : Nat} {j1 : Nat} {c y : cS} {w : cW} {K : cS → Prop} {Q : ((Option Value) ⊕ String) → List va_E → Prop} (hw : rOK fm w) (hF : 4 ≤ F) (hLo : 85 ≤ Lo) (hj1 : (rt_sb j1).isSome = true) (h : wp (d_362 n j1 c) K) (hQ : ∀ r, K r → Q (.inl none) (hq false r y w)) : rs (rt_P sc fm) 362 F Lo 0 [(0, .ref 174), (1, .ref (rx_K j1))] [] (hq false c y w) Q := by
  unfold d_362 at h
  obtain ⟨lv, elv⟩ : ∃ lv : rx_L, lv = [(0, .ref 174), (1, .ref (rx_K j1))] := ⟨_, rfl⟩
  rw [← elv]
  have l0 : rx_ld lv 0 = some (.ref 174) := by rw [elv]; rfl
  have l1 : rx_ld lv 1 = some (.ref (rx_K j1)) := by rw [elv]; rfl
  refine rs_aldn wi_362_0 l0 ?_
  refine rs_V wi_362_1 wc_362_382 rfl (dq_isa tf_174_0 wa_15_361) (Nat.le_trans (by decide) hF) (ml_le wm_361 (Nat.le_trans (by decide) hLo)) rfl (sp_361 hw (Nat.le_trans (by decide : 1 ≤ 4 - 1) (Nat.sub_le_sub_right hF 1)) (ml_sub wm_361 (Nat.le_trans (by decide : 21 ≤ 85 - 20) (Nat.sub_le_sub_right hLo 20))) (wp_bind h) (fun r1 h => rs_back0 ?_))
  refine rs_pure wi_362_4 rfl ?_
  refine rs_topi (v := 0) (by decide) ?_
  refine dl_istn wi_362_5 rfl (fun lv l2 t2 => ?_)
  have l0 := t2 _ _ (by decide) (Or.inl rfl) l0
  have l1 := t2 _ _ (by decide) (Or.inl rfl) l1
  refine whl_ex (A := fun s3 : Int32 × cS => ∀ lv, rx_ld lv 0 = some (.ref 174) → rx_ld lv 1 = some (.ref (rx_K j1)) → rx_ld lv 2 = some (.int s3.1) → rs (rt_P sc fm) 362 F Lo 6 lv [] (hq false s3.2 y w) Q) (B := (fun x10 : cS => ∀ lv, rs (rt_P sc fm) 362 F Lo 29 lv [] (hq false x10 y w) Q)) ?_ ?_ _ _ (wp_bind h) _ l0 l1 l2
  · intro s3 h lv l0 l1 l2
    refine rs_ildn wi_362_6 l2 ?_
    refine rs_aldn wi_362_7 l1 ?_
    refine rs_V wi_362_8 wc_362_385 rfl (dq_isaS hq_len hj1 was_145) (Nat.le_trans (by decide) hF) (ml_le wm_145 (Nat.le_trans (by decide) hLo)) rfl (sp_145 hq_len hw.2.2.2 (Nat.le_trans (by decide : 1 ≤ 4 - 1) (Nat.sub_le_sub_right hF 1)) (ml_sub wm_145 (Nat.le_trans (by decide : 20 ≤ 85 - 20) (Nat.sub_le_sub_right hLo 20))) hj1 (wp_bind h) (fun v4 h => rs_back1 ?_))
    refine rs_icge (tg := 29) wi_362_11 ⟨by decide, by decide⟩ (fun q => ?_) (fun q => ?_)
    ·
      have h := wp_pos h q
      exact h _
    ·
      have h := wp_neg h q
      refine rs_aldn wi_362_14 l0 ?_
      refine rs_aldn wi_362_15 l1 ?_
      refine rs_ildn wi_362_16 l2 ?_
      refine rs_V wi_362_17 wc_362_389 rfl (dq_isaS hq_len hj1 was_146) (Nat.le_trans (by decide) hF) (ml_le wm_146 (Nat.le_trans (by decide) hLo)) rfl (sp_146 hq_len hw.2.2.2 (Nat.le_trans (by decide : 3 ≤ 4 - 1) (Nat.sub_le_sub_right hF 1)) (ml_sub wm_146 (Nat.le_trans (by decide : 64 ≤ 85 - 21) (Nat.sub_le_sub_right hLo 21))) hj1 (wp_bind h) (fun v5 h => rs_back1 ?_))
      refine rs_V wi_362_20 wc_362_371 rfl (dq_isa tf_174_0 wa_15_357) (Nat.le_trans (by decide) hF) (ml_le wm_357 (Nat.le_trans (by decide) hLo)) rfl (sp_357 hw (Nat.le_trans (by decide : 0 ≤ 4 - 1) (Nat.sub_le_sub_right hF 1)) (ml_sub wm_357 (Nat.le_trans (by decide : 0 ≤ 85 - 21) (Nat.sub_le_sub_right hLo 21))) (wp_bind h) (fun r6 h => rs_back0 ?_))
      obtain ⟨v8, e9, h⟩ := wp_lt h
      refine dl_inc wi_362_23 l2 rfl e9 (fun lv l2 t7 => ?_)
      have l0 := t7 _ _ (by decide) (Or.inl rfl) l0
      have l1 := t7 _ _ (by decide) (Or.inl rfl) l1
      refine rs_goto (tg := 6) wi_362_26 ⟨by decide, by decide⟩ ?_
      exact h _ l0 l1 l2
  ·
    intro x10 h lv
    exact rs_vret wi_362_29 wr_362 (hQ x10 h)
theorem wc_363_382 : rx_ct (rt_P sc fm) 363 382 = some (0, 361, 0) := (by decide +kernel : rt_ct 363 382 = some (0, 361, 0))
theorem wc_363_393 : rx_ct (rt_P sc fm) 363 393 = some (0, 358, 1) := (by decide +kernel : rt_ct 363 393 = some (0, 358, 1))
theorem wi_363_0 : ri (rt_P sc fm) 363 0 (.aload_n 0) (1) := ri_of (by decide +kernel) rfl
theorem wi_363_1 : ri (rt_P sc fm) 363 1 (.invokevirtual 382) (4) := ri_of (by decide +kernel) rfl
theorem wi_363_4 : ri (rt_P sc fm) 363 4 (.aload_n 0) (5) := ri_of (by decide +kernel) rfl
theorem wi_363_5 : ri (rt_P sc fm) 363 5 (.lload_n 1) (6) := ri_of (by decide +kernel) rfl
theorem wi_363_6 : ri (rt_P sc fm) 363 6 (.invokevirtual 393) (9) := ri_of (by decide +kernel) rfl
theorem wi_363_9 : ri (rt_P sc fm) 363 9 (.return_) (10) := ri_of (by decide +kernel) rfl
theorem wr_363 : rx_rt (rt_P sc fm) 363 = none := (by decide +kernel : rt_rt 363 = none)
/-- MarkHouseModel.sayName(J)V -/
def d_363 (n : Nat) (a1 : Int64) (c : cS) : Option (cS) :=
  Option.bind (d_361 n c) (fun r1 =>
  Option.bind (d_358 n a1 r1) (fun r2 =>
  some r2))
set_option maxRecDepth 100000 in
set_option maxHeartbeats 4000000 in
theorem sp_363 {F Lo n : Nat} {a1 : Int64} {c y : cS} {w : cW} {K : cS → Prop} {Q : ((Option Value) ⊕ String) → List va_E → Prop} (hw : rOK fm w) (hF : 2 ≤ F) (hLo : 44 ≤ Lo)  (h : wp (d_363 n a1 c) K) (hQ : ∀ r, K r → Q (.inl none) (hq false r y w)) : rs (rt_P sc fm) 363 F Lo 0 [(0, .ref 174), (1, .long a1)] [] (hq false c y w) Q := by
  unfold d_363 at h
  obtain ⟨lv, elv⟩ : ∃ lv : rx_L, lv = [(0, .ref 174), (1, .long a1)] := ⟨_, rfl⟩
  rw [← elv]
  have l0 : rx_ld lv 0 = some (.ref 174) := by rw [elv]; rfl
  have l1 : rx_ld lv 1 = some (.long a1) := by rw [elv]; rfl
  refine rs_aldn wi_363_0 l0 ?_
  refine rs_V wi_363_1 wc_363_382 rfl (dq_isa tf_174_0 wa_15_361) (Nat.le_trans (by decide) hF) (ml_le wm_361 (Nat.le_trans (by decide) hLo)) rfl (sp_361 hw (Nat.le_trans (by decide : 1 ≤ 2 - 1) (Nat.sub_le_sub_right hF 1)) (ml_sub wm_361 (Nat.le_trans (by decide : 21 ≤ 44 - 20) (Nat.sub_le_sub_right hLo 20))) (wp_bind h) (fun r1 h => rs_back0 ?_))
  refine rs_aldn wi_363_4 l0 ?_
  refine rs_lldn wi_363_5 l1 ?_
  refine rs_V wi_363_6 wc_363_393 rfl (dq_isa tf_174_0 wa_15_358) (Nat.le_trans (by decide) hF) (ml_le wm_358 (Nat.le_trans (by decide) hLo)) rfl (sp_358 hw (Nat.le_trans (by decide : 1 ≤ 2 - 1) (Nat.sub_le_sub_right hF 1)) (ml_sub wm_358 (Nat.le_trans (by decide : 21 ≤ 44 - 23) (Nat.sub_le_sub_right hLo 23))) (wp_bind h) (fun r2 h => rs_back0 ?_))
  exact rs_vret wi_363_9 wr_363 (hQ r2 h)
theorem wc_443_535 : rx_ct (rt_P sc fm) 443 535 = some (0, 387, 3) := (by decide +kernel : rt_ct 443 535 = some (0, 387, 3))
theorem wf_443_97 : rx_ft (rt_P sc fm) 443 97 = some (15, 17) := (by decide +kernel : rt_ft 443 97 = some (15, 17))
theorem wi_443_0 : ri (rt_P sc fm) 443 0 (.iload_n 2) (1) := ri_of (by decide +kernel) rfl
theorem wi_443_1 : ri (rt_P sc fm) 443 1 (.iload_n 3) (2) := ri_of (by decide +kernel) rfl
theorem wi_443_12 : ri (rt_P sc fm) 443 12 (.ifCond .eq 7) (15) := ri_of (by decide +kernel) rfl
theorem wi_443_15 : ri (rt_P sc fm) 443 15 (.iconst 1) (16) := ri_of (by decide +kernel) rfl
theorem wi_443_16 : ri (rt_P sc fm) 443 16 (.goto 4) (19) := ri_of (by decide +kernel) rfl
theorem wi_443_19 : ri (rt_P sc fm) 443 19 (.iconst 0) (20) := ri_of (by decide +kernel) rfl
theorem wi_443_2 : ri (rt_P sc fm) 443 2 (.if_icmp .eq 17) (5) := ri_of (by decide +kernel) rfl
theorem wi_443_20 : ri (rt_P sc fm) 443 20 (.istore 4) (22) := ri_of (by decide +kernel) rfl
theorem wi_443_22 : ri (rt_P sc fm) 443 22 (.iconst 0) (23) := ri_of (by decide +kernel) rfl
theorem wi_443_23 : ri (rt_P sc fm) 443 23 (.istore 5) (25) := ri_of (by decide +kernel) rfl
theorem wi_443_25 : ri (rt_P sc fm) 443 25 (.iload 5) (27) := ri_of (by decide +kernel) rfl
theorem wi_443_27 : ri (rt_P sc fm) 443 27 (.aload_n 0) (28) := ri_of (by decide +kernel) rfl
theorem wi_443_28 : ri (rt_P sc fm) 443 28 (.getfield 97) (31) := ri_of (by decide +kernel) rfl
theorem wi_443_31 : ri (rt_P sc fm) 443 31 (.iload_n 1) (32) := ri_of (by decide +kernel) rfl
theorem wi_443_32 : ri (rt_P sc fm) 443 32 (.iaload) (33) := ri_of (by decide +kernel) rfl
theorem wi_443_33 : ri (rt_P sc fm) 443 33 (.if_icmp .ge 55) (36) := ri_of (by decide +kernel) rfl
theorem wi_443_36 : ri (rt_P sc fm) 443 36 (.iload 4) (38) := ri_of (by decide +kernel) rfl
theorem wi_443_38 : ri (rt_P sc fm) 443 38 (.ifCond .eq 50) (41) := ri_of (by decide +kernel) rfl
theorem wi_443_41 : ri (rt_P sc fm) 443 41 (.iload 5) (43) := ri_of (by decide +kernel) rfl
theorem wi_443_43 : ri (rt_P sc fm) 443 43 (.iload_n 2) (44) := ri_of (by decide +kernel) rfl
theorem wi_443_44 : ri (rt_P sc fm) 443 44 (.if_icmp .eq 31) (47) := ri_of (by decide +kernel) rfl
theorem wi_443_47 : ri (rt_P sc fm) 443 47 (.iload 5) (49) := ri_of (by decide +kernel) rfl
theorem wi_443_49 : ri (rt_P sc fm) 443 49 (.iload_n 3) (50) := ri_of (by decide +kernel) rfl
theorem wi_443_5 : ri (rt_P sc fm) 443 5 (.aload_n 0) (6) := ri_of (by decide +kernel) rfl
theorem wi_443_50 : ri (rt_P sc fm) 443 50 (.if_icmp .eq 25) (53) := ri_of (by decide +kernel) rfl
theorem wi_443_53 : ri (rt_P sc fm) 443 53 (.aload_n 0) (54) := ri_of (by decide +kernel) rfl
theorem wi_443_54 : ri (rt_P sc fm) 443 54 (.iload_n 1) (55) := ri_of (by decide +kernel) rfl
theorem wi_443_55 : ri (rt_P sc fm) 443 55 (.iload_n 2) (56) := ri_of (by decide +kernel) rfl
theorem wi_443_56 : ri (rt_P sc fm) 443 56 (.iload 5) (58) := ri_of (by decide +kernel) rfl
theorem wi_443_58 : ri (rt_P sc fm) 443 58 (.invokevirtual 535) (61) := ri_of (by decide +kernel) rfl
theorem wi_443_6 : ri (rt_P sc fm) 443 6 (.iload_n 1) (7) := ri_of (by decide +kernel) rfl
theorem wi_443_61 : ri (rt_P sc fm) 443 61 (.ifCond .eq 14) (64) := ri_of (by decide +kernel) rfl
theorem wi_443_64 : ri (rt_P sc fm) 443 64 (.aload_n 0) (65) := ri_of (by decide +kernel) rfl
theorem wi_443_65 : ri (rt_P sc fm) 443 65 (.iload_n 1) (66) := ri_of (by decide +kernel) rfl
theorem wi_443_66 : ri (rt_P sc fm) 443 66 (.iload 5) (68) := ri_of (by decide +kernel) rfl
theorem wi_443_68 : ri (rt_P sc fm) 443 68 (.iload_n 3) (69) := ri_of (by decide +kernel) rfl
theorem wi_443_69 : ri (rt_P sc fm) 443 69 (.invokevirtual 535) (72) := ri_of (by decide +kernel) rfl
theorem wi_443_7 : ri (rt_P sc fm) 443 7 (.iload_n 2) (8) := ri_of (by decide +kernel) rfl
theorem wi_443_72 : ri (rt_P sc fm) 443 72 (.ifCond .ne 7) (75) := ri_of (by decide +kernel) rfl
theorem wi_443_75 : ri (rt_P sc fm) 443 75 (.iconst 1) (76) := ri_of (by decide +kernel) rfl
theorem wi_443_76 : ri (rt_P sc fm) 443 76 (.goto 4) (79) := ri_of (by decide +kernel) rfl
theorem wi_443_79 : ri (rt_P sc fm) 443 79 (.iconst 0) (80) := ri_of (by decide +kernel) rfl
theorem wi_443_8 : ri (rt_P sc fm) 443 8 (.iload_n 3) (9) := ri_of (by decide +kernel) rfl
theorem wi_443_80 : ri (rt_P sc fm) 443 80 (.istore 4) (82) := ri_of (by decide +kernel) rfl
theorem wi_443_82 : ri (rt_P sc fm) 443 82 (.iinc 5 1) (85) := ri_of (by decide +kernel) rfl
theorem wi_443_85 : ri (rt_P sc fm) 443 85 (.goto (-60)) (88) := ri_of (by decide +kernel) rfl
theorem wi_443_88 : ri (rt_P sc fm) 443 88 (.iload 4) (90) := ri_of (by decide +kernel) rfl
theorem wi_443_9 : ri (rt_P sc fm) 443 9 (.invokevirtual 535) (12) := ri_of (by decide +kernel) rfl
theorem wi_443_90 : ri (rt_P sc fm) 443 90 (.ireturn) (91) := ri_of (by decide +kernel) rfl
theorem wr_443 : rx_rt (rt_P sc fm) 443 = (some FieldType.boolean) := (by decide +kernel : rt_rt 443 = (some FieldType.boolean))
/-- MarkHouseModel.isNext(III)Z -/
def d_443 (n : Nat) (a1 : Int32) (a2 : Int32) (a3 : Int32) (c : cS) : Option (Int32) :=
  jn (fun p1 : Int32 =>
    Option.bind (whl (R := (Int32)) (fun s4 : Int32 × Int32 =>
      if ib a1 4 then
      if (c.1 182 (ix a1)) ≤ s4.2 then
        some (.inr s4.1)
      else
        if s4.1 = 0 then
          some (.inr s4.1)
        else
          jn (fun p6 : Int32 =>
            lt (s4.2 + 1 : Int32) (fun v9 =>
            some (.inl (p6, v9))))
          (fun j80 =>
          jn (fun p11 : Unit =>
            j80 1)
          (fun j75 =>
          if s4.2 = a2 then
            j75 ()
          else
            if s4.2 = a3 then
              j75 ()
            else
              Option.bind (d_387 n a1 a2 s4.2 c) (fun v12 =>
              if v12 = 0 then
                j75 ()
              else
                Option.bind (d_387 n a1 s4.2 a3 c) (fun v13 =>
                if v13 = 0 then
                  j75 ()
                else
                  j80 0))))
      else none) n (p1, 0))
    (fun x14 : Int32 =>
      if nb x14 then
      some x14
      else none))
  (fun j20 =>
  jn (fun p16 : Unit =>
    j20 0)
  (fun j19 =>
  if a2 = a3 then
    j19 ()
  else
    Option.bind (d_387 n a1 a2 a3 c) (fun v17 =>
    if v17 = 0 then
      j19 ()
    else
      j20 1)))
set_option maxRecDepth 100000 in
set_option maxHeartbeats 4000000 in
theorem sp_443 {F Lo n : Nat} {a1 : Int32} {a2 : Int32} {a3 : Int32} {c y : cS} {w : cW} {K : Int32 → Prop} {Q : ((Option Value) ⊕ String) → List va_E → Prop} (hw : rOK fm w) (hF : 2 ≤ F) (hLo : 46 ≤ Lo)  (h : wp (d_443 n a1 a2 a3 c) K) (hQ : ∀ r, K r → Q (.inl (some (.int r))) (hq false c y w)) : rs (rt_P sc fm) 443 F Lo 0 [(0, .ref 174), (1, .int a1), (2, .int a2), (3, .int a3)] [] (hq false c y w) Q := by
  unfold d_443 at h
  obtain ⟨lv, elv⟩ : ∃ lv : rx_L, lv = [(0, .ref 174), (1, .int a1), (2, .int a2), (3, .int a3)] := ⟨_, rfl⟩
  rw [← elv]
  have l0 : rx_ld lv 0 = some (.ref 174) := by rw [elv]; rfl
  have l1 : rx_ld lv 1 = some (.int a1) := by rw [elv]; rfl
  have l2 : rx_ld lv 2 = some (.int a2) := by rw [elv]; rfl
  have l3 : rx_ld lv 3 = some (.int a3) := by rw [elv]; rfl
  refine rs_ildn wi_443_0 l2 ?_
  refine rs_ildn wi_443_1 l3 ?_
  refine wp_jn (B := fun p1 : Int32 => ∀ lv, rx_ld lv 0 = some (.ref 174) → rx_ld lv 1 = some (.int a1) → rx_ld lv 2 = some (.int a2) → rx_ld lv 3 = some (.int a3) → rs (rt_P sc fm) 443 F Lo 20 lv [.int p1] (hq false c y w) Q) h (fun p1 h lv l0 l1 l2 l3 => ?_) (fun j20 hj20 h => ?_)
  ·
    refine dl_ist wi_443_20 rfl (fun lv l4 t2 => ?_)
    have l0 := t2 _ _ (by decide) (Or.inl rfl) l0
    have l1 := t2 _ _ (by decide) (Or.inl rfl) l1
    have l2 := t2 _ _ (by decide) (Or.inl rfl) l2
    have l3 := t2 _ _ (by decide) (Or.inl rfl) l3
    refine rs_pure wi_443_22 rfl ?_
    refine rs_topi (v := 0) (by decide) ?_
    refine dl_ist wi_443_23 rfl (fun lv l5 t3 => ?_)
    have l0 := t3 _ _ (by decide) (Or.inl rfl) l0
    have l1 := t3 _ _ (by decide) (Or.inl rfl) l1
    have l2 := t3 _ _ (by decide) (Or.inl rfl) l2
    have l3 := t3 _ _ (by decide) (Or.inl rfl) l3
    have l4 := t3 _ _ (by decide) (Or.inl rfl) l4
    refine whl_ex (A := fun s4 : Int32 × Int32 => ∀ lv, rx_ld lv 0 = some (.ref 174) → rx_ld lv 1 = some (.int a1) → rx_ld lv 2 = some (.int a2) → rx_ld lv 3 = some (.int a3) → rx_ld lv 4 = some (.int s4.1) → rx_ld lv 5 = some (.int s4.2) → rs (rt_P sc fm) 443 F Lo 25 lv [] (hq false c y w) Q) (B := (fun x14 : Int32 => ∀ lv, rx_ld lv 4 = some (.int x14) → rs (rt_P sc fm) 443 F Lo 88 lv [] (hq false c y w) Q)) ?_ ?_ _ _ (wp_bind h) _ l0 l1 l2 l3 l4 l5
    · intro s4 h lv l0 l1 l2 l3 l4 l5
      refine rs_ild wi_443_25 l5 ?_
      refine rs_aldn wi_443_27 l0 ?_
      refine dq_gr wi_443_28 wf_443_97 tf_174_17 ?_
      refine rs_ildn wi_443_31 l1 ?_
      obtain ⟨g5, h⟩ := wp_gd h
      refine dq_iald wi_443_32 t_182 g5 ?_
      refine rs_icge (tg := 88) wi_443_33 ⟨by decide, by decide⟩ (fun q => ?_) (fun q => ?_)
      ·
        have h := wp_pos h q
        exact h _ l4
      ·
        have h := wp_neg h q
        refine rs_ild wi_443_36 l4 ?_
        refine rs_ifeq (tg := 88) wi_443_38 ⟨by decide, by decide⟩ (fun q => ?_) (fun q => ?_)
        ·
          have h := wp_pos h q
          exact h _ l4
        ·
          have h := wp_neg h q
          refine rs_ild wi_443_41 l5 ?_
          refine rs_ildn wi_443_43 l2 ?_
          refine wp_jn (B := fun p6 : Int32 => ∀ lv, rx_ld lv 0 = some (.ref 174) → rx_ld lv 1 = some (.int a1) → rx_ld lv 2 = some (.int a2) → rx_ld lv 3 = some (.int a3) → rx_ld lv 5 = some (.int s4.2) → rs (rt_P sc fm) 443 F Lo 80 lv [.int p6] (hq false c y w) Q) h (fun p6 h lv l0 l1 l2 l3 l5 => ?_) (fun j80 hj80 h => ?_)
          ·
            refine dl_ist wi_443_80 rfl (fun lv l4 t7 => ?_)
            have l0 := t7 _ _ (by decide) (Or.inl rfl) l0
            have l1 := t7 _ _ (by decide) (Or.inl rfl) l1
            have l2 := t7 _ _ (by decide) (Or.inl rfl) l2
            have l3 := t7 _ _ (by decide) (Or.inl rfl) l3
            have l5 := t7 _ _ (by decide) (Or.inl rfl) l5
            obtain ⟨v9, e10, h⟩ := wp_lt h
            refine dl_inc wi_443_82 l5 rfl e10 (fun lv l5 t8 => ?_)
            have l0 := t8 _ _ (by decide) (Or.inl rfl) l0
            have l1 := t8 _ _ (by decide) (Or.inl rfl) l1
            have l2 := t8 _ _ (by decide) (Or.inl rfl) l2
            have l3 := t8 _ _ (by decide) (Or.inl rfl) l3
            have l4 := t8 _ _ (by decide) (Or.inl rfl) l4
            refine rs_goto (tg := 25) wi_443_85 ⟨by decide, by decide⟩ ?_
            exact h _ l0 l1 l2 l3 l4 l5
          refine wp_jn (B := fun p11 : Unit => ∀ lv, rx_ld lv 0 = some (.ref 174) → rx_ld lv 1 = some (.int a1) → rx_ld lv 2 = some (.int a2) → rx_ld lv 3 = some (.int a3) → rx_ld lv 5 = some (.int s4.2) → rs (rt_P sc fm) 443 F Lo 75 lv [] (hq false c y w) Q) h (fun p11 h lv l0 l1 l2 l3 l5 => ?_) (fun j75 hj75 h => ?_)
          ·
            refine rs_pure wi_443_75 rfl ?_
            refine rs_topi (v := 1) (by decide) ?_
            refine rs_goto (tg := 80) wi_443_76 ⟨by decide, by decide⟩ ?_
            exact hj80 _ h _ l0 l1 l2 l3 l5
          refine rs_iceq (tg := 75) wi_443_44 ⟨by decide, by decide⟩ (fun q => ?_) (fun q => ?_)
          ·
            have h := wp_pos h q
            exact hj75 _ h _ l0 l1 l2 l3 l5
          ·
            have h := wp_neg h q
            refine rs_ild wi_443_47 l5 ?_
            refine rs_ildn wi_443_49 l3 ?_
            refine rs_iceq (tg := 75) wi_443_50 ⟨by decide, by decide⟩ (fun q => ?_) (fun q => ?_)
            ·
              have h := wp_pos h q
              exact hj75 _ h _ l0 l1 l2 l3 l5
            ·
              have h := wp_neg h q
              refine rs_aldn wi_443_53 l0 ?_
              refine rs_ildn wi_443_54 l1 ?_
              refine rs_ildn wi_443_55 l2 ?_
              refine rs_ild wi_443_56 l5 ?_
              refine rs_V wi_443_58 wc_443_535 rfl (dq_isa tf_174_0 wa_15_387) (Nat.le_trans (by decide) hF) (ml_le wm_387 (Nat.le_trans (by decide) hLo)) rfl (sp_387 hw (Nat.le_trans (by decide : 1 ≤ 2 - 1) (Nat.sub_le_sub_right hF 1)) (ml_sub wm_387 (Nat.le_trans (by decide : 23 ≤ 46 - 23) (Nat.sub_le_sub_right hLo 23))) (wp_bind h) (fun v12 h => rs_back1 ?_))
              refine rs_ifeq (tg := 75) wi_443_61 ⟨by decide, by decide⟩ (fun q => ?_) (fun q => ?_)
              ·
                have h := wp_pos h q
                exact hj75 _ h _ l0 l1 l2 l3 l5
              ·
                have h := wp_neg h q
                refine rs_aldn wi_443_64 l0 ?_
                refine rs_ildn wi_443_65 l1 ?_
                refine rs_ild wi_443_66 l5 ?_
                refine rs_ildn wi_443_68 l3 ?_
                refine rs_V wi_443_69 wc_443_535 rfl (dq_isa tf_174_0 wa_15_387) (Nat.le_trans (by decide) hF) (ml_le wm_387 (Nat.le_trans (by decide) hLo)) rfl (sp_387 hw (Nat.le_trans (by decide : 1 ≤ 2 - 1) (Nat.sub_le_sub_right hF 1)) (ml_sub wm_387 (Nat.le_trans (by decide : 23 ≤ 46 - 23) (Nat.sub_le_sub_right hLo 23))) (wp_bind h) (fun v13 h => rs_back1 ?_))
                refine rs_ifne (tg := 79) wi_443_72 ⟨by decide, by decide⟩ (fun q => ?_) (fun q => ?_)
                ·
                  have h := wp_neg h q
                  refine rs_pure wi_443_79 rfl ?_
                  refine rs_topi (v := 0) (by decide) ?_
                  exact hj80 _ h _ l0 l1 l2 l3 l5
                ·
                  have h := wp_pos h q
                  exact hj75 _ h _ l0 l1 l2 l3 l5
    ·
      intro x14 h lv l4
      refine rs_ild wi_443_88 l4 ?_
      obtain ⟨g15, h⟩ := wp_gd h
      exact rs_iret wi_443_90 wr_443 (nb_n g15) (hQ x14 h)
  refine wp_jn (B := fun p16 : Unit => ∀ lv, rx_ld lv 0 = some (.ref 174) → rx_ld lv 1 = some (.int a1) → rx_ld lv 2 = some (.int a2) → rx_ld lv 3 = some (.int a3) → rs (rt_P sc fm) 443 F Lo 19 lv [] (hq false c y w) Q) h (fun p16 h lv l0 l1 l2 l3 => ?_) (fun j19 hj19 h => ?_)
  ·
    refine rs_pure wi_443_19 rfl ?_
    refine rs_topi (v := 0) (by decide) ?_
    exact hj20 _ h _ l0 l1 l2 l3
  refine rs_iceq (tg := 19) wi_443_2 ⟨by decide, by decide⟩ (fun q => ?_) (fun q => ?_)
  ·
    have h := wp_pos h q
    exact hj19 _ h _ l0 l1 l2 l3
  ·
    have h := wp_neg h q
    refine rs_aldn wi_443_5 l0 ?_
    refine rs_ildn wi_443_6 l1 ?_
    refine rs_ildn wi_443_7 l2 ?_
    refine rs_ildn wi_443_8 l3 ?_
    refine rs_V wi_443_9 wc_443_535 rfl (dq_isa tf_174_0 wa_15_387) (Nat.le_trans (by decide) hF) (ml_le wm_387 (Nat.le_trans (by decide) hLo)) rfl (sp_387 hw (Nat.le_trans (by decide : 1 ≤ 2 - 1) (Nat.sub_le_sub_right hF 1)) (ml_sub wm_387 (Nat.le_trans (by decide : 23 ≤ 46 - 23) (Nat.sub_le_sub_right hLo 23))) (wp_bind h) (fun v17 h => rs_back1 ?_))
    refine rs_ifeq (tg := 19) wi_443_12 ⟨by decide, by decide⟩ (fun q => ?_) (fun q => ?_)
    ·
      have h := wp_pos h q
      exact hj19 _ h _ l0 l1 l2 l3
    ·
      have h := wp_neg h q
      refine rs_pure wi_443_15 rfl ?_
      refine rs_topi (v := 1) (by decide) ?_
      refine rs_goto (tg := 20) wi_443_16 ⟨by decide, by decide⟩ ?_
      exact hj20 _ h _ l0 l1 l2 l3
theorem wsb_2 : (rt_sb 2).isSome = true := by decide +kernel
theorem wsb_33 : (rt_sb 33).isSome = true := by decide +kernel
theorem wsb_34 : (rt_sb 34).isSome = true := by decide +kernel
theorem wsb_51 : (rt_sb 51).isSome = true := by decide +kernel
theorem wsb_55 : (rt_sb 55).isSome = true := by decide +kernel
theorem wa_15_362 : rz_cn 15 (rx_yn (rt_P sc fm) 362).cls = true := (by decide +kernel : rz_cn 15 (rt_yn 362).cls = true)
theorem wa_15_363 : rz_cn 15 (rx_yn (rt_P sc fm) 363).cls = true := (by decide +kernel : rz_cn 15 (rt_yn 363).cls = true)
theorem wa_15_443 : rz_cn 15 (rx_yn (rt_P sc fm) 443).cls = true := (by decide +kernel : rz_cn 15 (rt_yn 443).cls = true)
theorem wc_444_402 : rx_ct (rt_P sc fm) 444 402 = some (0, 362, 1) := (by decide +kernel : rt_ct 444 402 = some (0, 362, 1))
theorem wc_444_765 : rx_ct (rt_P sc fm) 444 765 = some (0, 363, 1) := (by decide +kernel : rt_ct 444 765 = some (0, 363, 1))
theorem wc_444_796 : rx_ct (rt_P sc fm) 444 796 = some (0, 443, 3) := (by decide +kernel : rt_ct 444 796 = some (0, 443, 3))
theorem wf_444_100 : rx_ft (rt_P sc fm) 444 100 = some (15, 18) := (by decide +kernel : rt_ft 444 100 = some (15, 18))
theorem wf_444_94 : rx_ft (rt_P sc fm) 444 94 = some (15, 16) := (by decide +kernel : rt_ft 444 94 = some (15, 16))
theorem wf_444_97 : rx_ft (rt_P sc fm) 444 97 = some (15, 17) := (by decide +kernel : rt_ft 444 97 = some (15, 17))
theorem wi_444_0 : ri (rt_P sc fm) 444 0 (.aload_n 0) (1) := ri_of (by decide +kernel) rfl
theorem wi_444_1 : ri (rt_P sc fm) 444 1 (.ldc 18) (3) := ri_of (by decide +kernel) rfl
theorem wi_444_101 : ri (rt_P sc fm) 444 101 (.goto 47) (104) := ri_of (by decide +kernel) rfl
theorem wi_444_104 : ri (rt_P sc fm) 444 104 (.aload_n 0) (105) := ri_of (by decide +kernel) rfl
theorem wi_444_105 : ri (rt_P sc fm) 444 105 (.ldc_w 774) (108) := ri_of (by decide +kernel) rfl
theorem wi_444_108 : ri (rt_P sc fm) 444 108 (.invokevirtual 402) (111) := ri_of (by decide +kernel) rfl
theorem wi_444_11 : ri (rt_P sc fm) 444 11 (.iload_n 1) (12) := ri_of (by decide +kernel) rfl
theorem wi_444_111 : ri (rt_P sc fm) 444 111 (.aload_n 0) (112) := ri_of (by decide +kernel) rfl
theorem wi_444_112 : ri (rt_P sc fm) 444 112 (.aload_n 0) (113) := ri_of (by decide +kernel) rfl
theorem wi_444_113 : ri (rt_P sc fm) 444 113 (.getfield 100) (116) := ri_of (by decide +kernel) rfl
theorem wi_444_116 : ri (rt_P sc fm) 444 116 (.bipush 12) (118) := ri_of (by decide +kernel) rfl
theorem wi_444_118 : ri (rt_P sc fm) 444 118 (.iload_n 1) (119) := ri_of (by decide +kernel) rfl
theorem wi_444_119 : ri (rt_P sc fm) 444 119 (.imul) (120) := ri_of (by decide +kernel) rfl
theorem wi_444_12 : ri (rt_P sc fm) 444 12 (.laload) (13) := ri_of (by decide +kernel) rfl
theorem wi_444_120 : ri (rt_P sc fm) 444 120 (.iload_n 2) (121) := ri_of (by decide +kernel) rfl
theorem wi_444_121 : ri (rt_P sc fm) 444 121 (.iadd) (122) := ri_of (by decide +kernel) rfl
theorem wi_444_122 : ri (rt_P sc fm) 444 122 (.laload) (123) := ri_of (by decide +kernel) rfl
theorem wi_444_123 : ri (rt_P sc fm) 444 123 (.invokevirtual 765) (126) := ri_of (by decide +kernel) rfl
theorem wi_444_126 : ri (rt_P sc fm) 444 126 (.aload_n 0) (127) := ri_of (by decide +kernel) rfl
theorem wi_444_127 : ri (rt_P sc fm) 444 127 (.ldc_w 799) (130) := ri_of (by decide +kernel) rfl
theorem wi_444_13 : ri (rt_P sc fm) 444 13 (.invokevirtual 765) (16) := ri_of (by decide +kernel) rfl
theorem wi_444_130 : ri (rt_P sc fm) 444 130 (.invokevirtual 402) (133) := ri_of (by decide +kernel) rfl
theorem wi_444_133 : ri (rt_P sc fm) 444 133 (.aload_n 0) (134) := ri_of (by decide +kernel) rfl
theorem wi_444_134 : ri (rt_P sc fm) 444 134 (.aload_n 0) (135) := ri_of (by decide +kernel) rfl
theorem wi_444_135 : ri (rt_P sc fm) 444 135 (.getfield 100) (138) := ri_of (by decide +kernel) rfl
theorem wi_444_138 : ri (rt_P sc fm) 444 138 (.bipush 12) (140) := ri_of (by decide +kernel) rfl
theorem wi_444_140 : ri (rt_P sc fm) 444 140 (.iload_n 1) (141) := ri_of (by decide +kernel) rfl
theorem wi_444_141 : ri (rt_P sc fm) 444 141 (.imul) (142) := ri_of (by decide +kernel) rfl
theorem wi_444_142 : ri (rt_P sc fm) 444 142 (.iload_n 3) (143) := ri_of (by decide +kernel) rfl
theorem wi_444_143 : ri (rt_P sc fm) 444 143 (.iadd) (144) := ri_of (by decide +kernel) rfl
theorem wi_444_144 : ri (rt_P sc fm) 444 144 (.laload) (145) := ri_of (by decide +kernel) rfl
theorem wi_444_145 : ri (rt_P sc fm) 444 145 (.invokevirtual 765) (148) := ri_of (by decide +kernel) rfl
theorem wi_444_148 : ri (rt_P sc fm) 444 148 (.iinc 3 1) (151) := ri_of (by decide +kernel) rfl
theorem wi_444_151 : ri (rt_P sc fm) 444 151 (.goto (-70)) (154) := ri_of (by decide +kernel) rfl
theorem wi_444_154 : ri (rt_P sc fm) 444 154 (.iinc 2 1) (157) := ri_of (by decide +kernel) rfl
theorem wi_444_157 : ri (rt_P sc fm) 444 157 (.goto (-88)) (160) := ri_of (by decide +kernel) rfl
theorem wi_444_16 : ri (rt_P sc fm) 444 16 (.aload_n 0) (17) := ri_of (by decide +kernel) rfl
theorem wi_444_160 : ri (rt_P sc fm) 444 160 (.aload_n 0) (161) := ri_of (by decide +kernel) rfl
theorem wi_444_161 : ri (rt_P sc fm) 444 161 (.ldc_w 801) (164) := ri_of (by decide +kernel) rfl
theorem wi_444_164 : ri (rt_P sc fm) 444 164 (.invokevirtual 402) (167) := ri_of (by decide +kernel) rfl
theorem wi_444_167 : ri (rt_P sc fm) 444 167 (.return_) (168) := ri_of (by decide +kernel) rfl
theorem wi_444_17 : ri (rt_P sc fm) 444 17 (.ldc_w 794) (20) := ri_of (by decide +kernel) rfl
theorem wi_444_20 : ri (rt_P sc fm) 444 20 (.invokevirtual 402) (23) := ri_of (by decide +kernel) rfl
theorem wi_444_23 : ri (rt_P sc fm) 444 23 (.iconst 0) (24) := ri_of (by decide +kernel) rfl
theorem wi_444_24 : ri (rt_P sc fm) 444 24 (.istore_n 2) (25) := ri_of (by decide +kernel) rfl
theorem wi_444_25 : ri (rt_P sc fm) 444 25 (.iload_n 2) (26) := ri_of (by decide +kernel) rfl
theorem wi_444_26 : ri (rt_P sc fm) 444 26 (.aload_n 0) (27) := ri_of (by decide +kernel) rfl
theorem wi_444_27 : ri (rt_P sc fm) 444 27 (.getfield 97) (30) := ri_of (by decide +kernel) rfl
theorem wi_444_3 : ri (rt_P sc fm) 444 3 (.invokevirtual 402) (6) := ri_of (by decide +kernel) rfl
theorem wi_444_30 : ri (rt_P sc fm) 444 30 (.iload_n 1) (31) := ri_of (by decide +kernel) rfl
theorem wi_444_31 : ri (rt_P sc fm) 444 31 (.iaload) (32) := ri_of (by decide +kernel) rfl
theorem wi_444_32 : ri (rt_P sc fm) 444 32 (.if_icmp .ge 35) (35) := ri_of (by decide +kernel) rfl
theorem wi_444_35 : ri (rt_P sc fm) 444 35 (.iload_n 2) (36) := ri_of (by decide +kernel) rfl
theorem wi_444_36 : ri (rt_P sc fm) 444 36 (.ifCond .le 10) (39) := ri_of (by decide +kernel) rfl
theorem wi_444_39 : ri (rt_P sc fm) 444 39 (.aload_n 0) (40) := ri_of (by decide +kernel) rfl
theorem wi_444_40 : ri (rt_P sc fm) 444 40 (.ldc_w 774) (43) := ri_of (by decide +kernel) rfl
theorem wi_444_43 : ri (rt_P sc fm) 444 43 (.invokevirtual 402) (46) := ri_of (by decide +kernel) rfl
theorem wi_444_46 : ri (rt_P sc fm) 444 46 (.aload_n 0) (47) := ri_of (by decide +kernel) rfl
theorem wi_444_47 : ri (rt_P sc fm) 444 47 (.aload_n 0) (48) := ri_of (by decide +kernel) rfl
theorem wi_444_48 : ri (rt_P sc fm) 444 48 (.getfield 100) (51) := ri_of (by decide +kernel) rfl
theorem wi_444_51 : ri (rt_P sc fm) 444 51 (.bipush 12) (53) := ri_of (by decide +kernel) rfl
theorem wi_444_53 : ri (rt_P sc fm) 444 53 (.iload_n 1) (54) := ri_of (by decide +kernel) rfl
theorem wi_444_54 : ri (rt_P sc fm) 444 54 (.imul) (55) := ri_of (by decide +kernel) rfl
theorem wi_444_55 : ri (rt_P sc fm) 444 55 (.iload_n 2) (56) := ri_of (by decide +kernel) rfl
theorem wi_444_56 : ri (rt_P sc fm) 444 56 (.iadd) (57) := ri_of (by decide +kernel) rfl
theorem wi_444_57 : ri (rt_P sc fm) 444 57 (.laload) (58) := ri_of (by decide +kernel) rfl
theorem wi_444_58 : ri (rt_P sc fm) 444 58 (.invokevirtual 765) (61) := ri_of (by decide +kernel) rfl
theorem wi_444_6 : ri (rt_P sc fm) 444 6 (.aload_n 0) (7) := ri_of (by decide +kernel) rfl
theorem wi_444_61 : ri (rt_P sc fm) 444 61 (.iinc 2 1) (64) := ri_of (by decide +kernel) rfl
theorem wi_444_64 : ri (rt_P sc fm) 444 64 (.goto (-39)) (67) := ri_of (by decide +kernel) rfl
theorem wi_444_67 : ri (rt_P sc fm) 444 67 (.iconst 0) (68) := ri_of (by decide +kernel) rfl
theorem wi_444_68 : ri (rt_P sc fm) 444 68 (.istore_n 2) (69) := ri_of (by decide +kernel) rfl
theorem wi_444_69 : ri (rt_P sc fm) 444 69 (.iload_n 2) (70) := ri_of (by decide +kernel) rfl
theorem wi_444_7 : ri (rt_P sc fm) 444 7 (.aload_n 0) (8) := ri_of (by decide +kernel) rfl
theorem wi_444_70 : ri (rt_P sc fm) 444 70 (.aload_n 0) (71) := ri_of (by decide +kernel) rfl
theorem wi_444_71 : ri (rt_P sc fm) 444 71 (.getfield 97) (74) := ri_of (by decide +kernel) rfl
theorem wi_444_74 : ri (rt_P sc fm) 444 74 (.iload_n 1) (75) := ri_of (by decide +kernel) rfl
theorem wi_444_75 : ri (rt_P sc fm) 444 75 (.iaload) (76) := ri_of (by decide +kernel) rfl
theorem wi_444_76 : ri (rt_P sc fm) 444 76 (.if_icmp .ge 84) (79) := ri_of (by decide +kernel) rfl
theorem wi_444_79 : ri (rt_P sc fm) 444 79 (.iconst 0) (80) := ri_of (by decide +kernel) rfl
theorem wi_444_8 : ri (rt_P sc fm) 444 8 (.getfield 94) (11) := ri_of (by decide +kernel) rfl
theorem wi_444_80 : ri (rt_P sc fm) 444 80 (.istore_n 3) (81) := ri_of (by decide +kernel) rfl
theorem wi_444_81 : ri (rt_P sc fm) 444 81 (.iload_n 3) (82) := ri_of (by decide +kernel) rfl
theorem wi_444_82 : ri (rt_P sc fm) 444 82 (.aload_n 0) (83) := ri_of (by decide +kernel) rfl
theorem wi_444_83 : ri (rt_P sc fm) 444 83 (.getfield 97) (86) := ri_of (by decide +kernel) rfl
theorem wi_444_86 : ri (rt_P sc fm) 444 86 (.iload_n 1) (87) := ri_of (by decide +kernel) rfl
theorem wi_444_87 : ri (rt_P sc fm) 444 87 (.iaload) (88) := ri_of (by decide +kernel) rfl
theorem wi_444_88 : ri (rt_P sc fm) 444 88 (.if_icmp .ge 66) (91) := ri_of (by decide +kernel) rfl
theorem wi_444_91 : ri (rt_P sc fm) 444 91 (.aload_n 0) (92) := ri_of (by decide +kernel) rfl
theorem wi_444_92 : ri (rt_P sc fm) 444 92 (.iload_n 1) (93) := ri_of (by decide +kernel) rfl
theorem wi_444_93 : ri (rt_P sc fm) 444 93 (.iload_n 2) (94) := ri_of (by decide +kernel) rfl
theorem wi_444_94 : ri (rt_P sc fm) 444 94 (.iload_n 3) (95) := ri_of (by decide +kernel) rfl
theorem wi_444_95 : ri (rt_P sc fm) 444 95 (.invokevirtual 796) (98) := ri_of (by decide +kernel) rfl
theorem wi_444_98 : ri (rt_P sc fm) 444 98 (.ifCond .ne 6) (101) := ri_of (by decide +kernel) rfl
theorem wk_444_18 : rx_kt (rt_P sc fm) 444 18 = some (.ref (rx_K 2)) := (by decide +kernel : rt_kt 444 18 = some (.ref (rx_K 2)))
theorem wk_444_774 : rx_kt (rt_P sc fm) 444 774 = some (.ref (rx_K 51)) := (by decide +kernel : rt_kt 444 774 = some (.ref (rx_K 51)))
theorem wk_444_794 : rx_kt (rt_P sc fm) 444 794 = some (.ref (rx_K 33)) := (by decide +kernel : rt_kt 444 794 = some (.ref (rx_K 33)))
theorem wk_444_799 : rx_kt (rt_P sc fm) 444 799 = some (.ref (rx_K 55)) := (by decide +kernel : rt_kt 444 799 = some (.ref (rx_K 55)))
theorem wk_444_801 : rx_kt (rt_P sc fm) 444 801 = some (.ref (rx_K 34)) := (by decide +kernel : rt_kt 444 801 = some (.ref (rx_K 34)))
theorem wm_362 : rx_ml (rt_P sc fm) 362 = 3 := (by decide +kernel : rt_ml 362 = 3)
theorem wm_363 : rx_ml (rt_P sc fm) 363 = 3 := (by decide +kernel : rt_ml 363 = 3)
theorem wm_443 : rx_ml (rt_P sc fm) 443 = 6 := (by decide +kernel : rt_ml 443 = 6)
theorem wr_444 : rx_rt (rt_P sc fm) 444 = none := (by decide +kernel : rt_rt 444 = none)
/-- MarkHouseModel.tellOrder(I)V -/
def d_444 (n : Nat) (a1 : Int32) (c : cS) : Option (cS) :=
  Option.bind (d_362 n 2 c) (fun r1 =>
  if ib a1 4 then
  Option.bind (d_363 n (r1.2 181 (ix a1)) r1) (fun r3 =>
  Option.bind (d_362 n 33 r3) (fun r4 =>
  Option.bind (whl (R := (cS)) (fun s6 : Int32 × cS =>
    if ib a1 4 then
    if (s6.2.1 182 (ix a1)) ≤ s6.1 then
      some (.inr s6.2)
    else
      jn (fun p8 : cS =>
        if ib ((12 * a1) + s6.1) 48 then
        Option.bind (d_363 n (p8.2 183 (ix ((12 * a1) + s6.1))) p8) (fun r10 =>
        lt (s6.1 + 1 : Int32) (fun v12 =>
        some (.inl (v12, r10))))
        else none)
      (fun j46 =>
      if s6.1 ≤ 0 then
        j46 s6.2
      else
        Option.bind (d_362 n 51 s6.2) (fun r14 =>
        j46 r14))
    else none) n (0, r4))
  (fun x15 : cS =>
    Option.bind (whl (R := (cS)) (fun s17 : Int32 × cS =>
      if ib a1 4 then
      if (s17.2.1 182 (ix a1)) ≤ s17.1 then
        some (.inr s17.2)
      else
        Option.bind (whl (R := (cS)) (fun s20 : Int32 × cS =>
          if ib a1 4 then
          if (s20.2.1 182 (ix a1)) ≤ s20.1 then
            some (.inr s20.2)
          else
            Option.bind (d_443 n a1 s17.1 s20.1 s20.2) (fun v22 =>
            jn (fun p23 : cS =>
              lt (s20.1 + 1 : Int32) (fun v25 =>
              some (.inl (v25, p23))))
            (fun j148 =>
            if v22 = 0 then
              j148 s20.2
            else
              Option.bind (d_362 n 51 s20.2) (fun r27 =>
              if ib ((12 * a1) + s17.1) 48 then
              Option.bind (d_363 n (r27.2 183 (ix ((12 * a1) + s17.1))) r27) (fun r29 =>
              Option.bind (d_362 n 55 r29) (fun r30 =>
              if ib ((12 * a1) + s20.1) 48 then
              Option.bind (d_363 n (r30.2 183 (ix ((12 * a1) + s20.1))) r30) (fun r32 =>
              j148 r32)
              else none))
              else none)))
          else none) n (0, s17.2))
        (fun x33 : cS =>
          lt (s17.1 + 1 : Int32) (fun v35 =>
          some (.inl (v35, x33))))
      else none) n (0, x15))
    (fun x37 : cS =>
      Option.bind (d_362 n 34 x37) (fun r38 =>
      some r38)))))
  else none)
set_option maxRecDepth 100000 in
set_option maxHeartbeats 4000000 in
theorem sp_444 {F Lo n : Nat} {a1 : Int32} {c y : cS} {w : cW} {K : cS → Prop} {Q : ((Option Value) ⊕ String) → List va_E → Prop} (hw : rOK fm w) (hF : 5 ≤ F) (hLo : 107 ≤ Lo)  (h : wp (d_444 n a1 c) K) (hQ : ∀ r, K r → Q (.inl none) (hq false r y w)) : rs (rt_P sc fm) 444 F Lo 0 [(0, .ref 174), (1, .int a1)] [] (hq false c y w) Q := by
  unfold d_444 at h
  obtain ⟨lv, elv⟩ : ∃ lv : rx_L, lv = [(0, .ref 174), (1, .int a1)] := ⟨_, rfl⟩
  rw [← elv]
  have l0 : rx_ld lv 0 = some (.ref 174) := by rw [elv]; rfl
  have l1 : rx_ld lv 1 = some (.int a1) := by rw [elv]; rfl
  refine rs_aldn wi_444_0 l0 ?_
  refine rs_ldcS wi_444_1 wk_444_18 ?_
  refine rs_V wi_444_3 wc_444_402 rfl (dq_isa tf_174_0 wa_15_362) (Nat.le_trans (by decide) hF) (ml_le wm_362 (Nat.le_trans (by decide) hLo)) rfl (sp_362 hw (Nat.le_trans (by decide : 4 ≤ 5 - 1) (Nat.sub_le_sub_right hF 1)) (ml_sub wm_362 (Nat.le_trans (by decide : 85 ≤ 107 - 22) (Nat.sub_le_sub_right hLo 22))) wsb_2 (wp_bind h) (fun r1 h => rs_back0 ?_))
  refine rs_aldn wi_444_6 l0 ?_
  refine rs_aldn wi_444_7 l0 ?_
  refine dq_gr wi_444_8 wf_444_94 tf_174_16 ?_
  refine rs_ildn wi_444_11 l1 ?_
  obtain ⟨g2, h⟩ := wp_gd h
  refine dq_lald wi_444_12 t_181 g2 ?_
  refine rs_V wi_444_13 wc_444_765 rfl (dq_isa tf_174_0 wa_15_363) (Nat.le_trans (by decide) hF) (ml_le wm_363 (Nat.le_trans (by decide) hLo)) rfl (sp_363 hw (Nat.le_trans (by decide : 2 ≤ 5 - 1) (Nat.sub_le_sub_right hF 1)) (ml_sub wm_363 (Nat.le_trans (by decide : 44 ≤ 107 - 22) (Nat.sub_le_sub_right hLo 22))) (wp_bind h) (fun r3 h => rs_back0 ?_))
  refine rs_aldn wi_444_16 l0 ?_
  refine rs_ldcwS wi_444_17 wk_444_794 ?_
  refine rs_V wi_444_20 wc_444_402 rfl (dq_isa tf_174_0 wa_15_362) (Nat.le_trans (by decide) hF) (ml_le wm_362 (Nat.le_trans (by decide) hLo)) rfl (sp_362 hw (Nat.le_trans (by decide : 4 ≤ 5 - 1) (Nat.sub_le_sub_right hF 1)) (ml_sub wm_362 (Nat.le_trans (by decide : 85 ≤ 107 - 22) (Nat.sub_le_sub_right hLo 22))) wsb_33 (wp_bind h) (fun r4 h => rs_back0 ?_))
  refine rs_pure wi_444_23 rfl ?_
  refine rs_topi (v := 0) (by decide) ?_
  refine dl_istn wi_444_24 rfl (fun lv l2 t5 => ?_)
  have l0 := t5 _ _ (by decide) (Or.inl rfl) l0
  have l1 := t5 _ _ (by decide) (Or.inl rfl) l1
  refine whl_ex (A := fun s6 : Int32 × cS => ∀ lv, rx_ld lv 0 = some (.ref 174) → rx_ld lv 1 = some (.int a1) → rx_ld lv 2 = some (.int s6.1) → rs (rt_P sc fm) 444 F Lo 25 lv [] (hq false s6.2 y w) Q) (B := (fun x15 : cS => ∀ lv, rx_ld lv 0 = some (.ref 174) → rx_ld lv 1 = some (.int a1) → rs (rt_P sc fm) 444 F Lo 67 lv [] (hq false x15 y w) Q)) ?_ ?_ _ _ (wp_bind h) _ l0 l1 l2
  · intro s6 h lv l0 l1 l2
    refine rs_ildn wi_444_25 l2 ?_
    refine rs_aldn wi_444_26 l0 ?_
    refine dq_gr wi_444_27 wf_444_97 tf_174_17 ?_
    refine rs_ildn wi_444_30 l1 ?_
    obtain ⟨g7, h⟩ := wp_gd h
    refine dq_iald wi_444_31 t_182 g7 ?_
    refine rs_icge (tg := 67) wi_444_32 ⟨by decide, by decide⟩ (fun q => ?_) (fun q => ?_)
    ·
      have h := wp_pos h q
      exact h _ l0 l1
    ·
      have h := wp_neg h q
      refine rs_ildn wi_444_35 l2 ?_
      refine wp_jn (B := fun p8 : cS => ∀ lv, rx_ld lv 0 = some (.ref 174) → rx_ld lv 1 = some (.int a1) → rx_ld lv 2 = some (.int s6.1) → rs (rt_P sc fm) 444 F Lo 46 lv [] (hq false p8 y w) Q) h (fun p8 h lv l0 l1 l2 => ?_) (fun j46 hj46 h => ?_)
      ·
        refine rs_aldn wi_444_46 l0 ?_
        refine rs_aldn wi_444_47 l0 ?_
        refine dq_gr wi_444_48 wf_444_100 tf_174_18 ?_
        refine rs_pure wi_444_51 rfl ?_
        refine rs_topi (v := 12) (by decide) ?_
        refine rs_ildn wi_444_53 l1 ?_
        refine rs_pure wi_444_54 rfl ?_
        refine rs_ildn wi_444_55 l2 ?_
        refine rs_pure wi_444_56 rfl ?_
        obtain ⟨g9, h⟩ := wp_gd h
        refine dq_lald wi_444_57 t_183 g9 ?_
        refine rs_V wi_444_58 wc_444_765 rfl (dq_isa tf_174_0 wa_15_363) (Nat.le_trans (by decide) hF) (ml_le wm_363 (Nat.le_trans (by decide) hLo)) rfl (sp_363 hw (Nat.le_trans (by decide : 2 ≤ 5 - 1) (Nat.sub_le_sub_right hF 1)) (ml_sub wm_363 (Nat.le_trans (by decide : 44 ≤ 107 - 22) (Nat.sub_le_sub_right hLo 22))) (wp_bind h) (fun r10 h => rs_back0 ?_))
        obtain ⟨v12, e13, h⟩ := wp_lt h
        refine dl_inc wi_444_61 l2 rfl e13 (fun lv l2 t11 => ?_)
        have l0 := t11 _ _ (by decide) (Or.inl rfl) l0
        have l1 := t11 _ _ (by decide) (Or.inl rfl) l1
        refine rs_goto (tg := 25) wi_444_64 ⟨by decide, by decide⟩ ?_
        exact h _ l0 l1 l2
      refine rs_ifle (tg := 46) wi_444_36 ⟨by decide, by decide⟩ (fun q => ?_) (fun q => ?_)
      ·
        have h := wp_pos h q
        exact hj46 _ h _ l0 l1 l2
      ·
        have h := wp_neg h q
        refine rs_aldn wi_444_39 l0 ?_
        refine rs_ldcwS wi_444_40 wk_444_774 ?_
        refine rs_V wi_444_43 wc_444_402 rfl (dq_isa tf_174_0 wa_15_362) (Nat.le_trans (by decide) hF) (ml_le wm_362 (Nat.le_trans (by decide) hLo)) rfl (sp_362 hw (Nat.le_trans (by decide : 4 ≤ 5 - 1) (Nat.sub_le_sub_right hF 1)) (ml_sub wm_362 (Nat.le_trans (by decide : 85 ≤ 107 - 22) (Nat.sub_le_sub_right hLo 22))) wsb_51 (wp_bind h) (fun r14 h => rs_back0 ?_))
        exact hj46 _ h _ l0 l1 l2
  ·
    intro x15 h lv l0 l1
    refine rs_pure wi_444_67 rfl ?_
    refine rs_topi (v := 0) (by decide) ?_
    refine dl_istn wi_444_68 rfl (fun lv l2 t16 => ?_)
    have l0 := t16 _ _ (by decide) (Or.inl rfl) l0
    have l1 := t16 _ _ (by decide) (Or.inl rfl) l1
    refine whl_ex (A := fun s17 : Int32 × cS => ∀ lv, rx_ld lv 0 = some (.ref 174) → rx_ld lv 1 = some (.int a1) → rx_ld lv 2 = some (.int s17.1) → rs (rt_P sc fm) 444 F Lo 69 lv [] (hq false s17.2 y w) Q) (B := (fun x37 : cS => ∀ lv, rx_ld lv 0 = some (.ref 174) → rs (rt_P sc fm) 444 F Lo 160 lv [] (hq false x37 y w) Q)) ?_ ?_ _ _ (wp_bind h) _ l0 l1 l2
    · intro s17 h lv l0 l1 l2
      refine rs_ildn wi_444_69 l2 ?_
      refine rs_aldn wi_444_70 l0 ?_
      refine dq_gr wi_444_71 wf_444_97 tf_174_17 ?_
      refine rs_ildn wi_444_74 l1 ?_
      obtain ⟨g18, h⟩ := wp_gd h
      refine dq_iald wi_444_75 t_182 g18 ?_
      refine rs_icge (tg := 160) wi_444_76 ⟨by decide, by decide⟩ (fun q => ?_) (fun q => ?_)
      ·
        have h := wp_pos h q
        exact h _ l0
      ·
        have h := wp_neg h q
        refine rs_pure wi_444_79 rfl ?_
        refine rs_topi (v := 0) (by decide) ?_
        refine dl_istn wi_444_80 rfl (fun lv l3 t19 => ?_)
        have l0 := t19 _ _ (by decide) (Or.inl rfl) l0
        have l1 := t19 _ _ (by decide) (Or.inl rfl) l1
        have l2 := t19 _ _ (by decide) (Or.inl rfl) l2
        refine whl_ex (A := fun s20 : Int32 × cS => ∀ lv, rx_ld lv 0 = some (.ref 174) → rx_ld lv 1 = some (.int a1) → rx_ld lv 2 = some (.int s17.1) → rx_ld lv 3 = some (.int s20.1) → rs (rt_P sc fm) 444 F Lo 81 lv [] (hq false s20.2 y w) Q) (B := (fun x33 : cS => ∀ lv, rx_ld lv 0 = some (.ref 174) → rx_ld lv 1 = some (.int a1) → rx_ld lv 2 = some (.int s17.1) → rs (rt_P sc fm) 444 F Lo 154 lv [] (hq false x33 y w) Q)) ?_ ?_ _ _ (wp_bind h) _ l0 l1 l2 l3
        · intro s20 h lv l0 l1 l2 l3
          refine rs_ildn wi_444_81 l3 ?_
          refine rs_aldn wi_444_82 l0 ?_
          refine dq_gr wi_444_83 wf_444_97 tf_174_17 ?_
          refine rs_ildn wi_444_86 l1 ?_
          obtain ⟨g21, h⟩ := wp_gd h
          refine dq_iald wi_444_87 t_182 g21 ?_
          refine rs_icge (tg := 154) wi_444_88 ⟨by decide, by decide⟩ (fun q => ?_) (fun q => ?_)
          ·
            have h := wp_pos h q
            exact h _ l0 l1 l2
          ·
            have h := wp_neg h q
            refine rs_aldn wi_444_91 l0 ?_
            refine rs_ildn wi_444_92 l1 ?_
            refine rs_ildn wi_444_93 l2 ?_
            refine rs_ildn wi_444_94 l3 ?_
            refine rs_V wi_444_95 wc_444_796 rfl (dq_isa tf_174_0 wa_15_443) (Nat.le_trans (by decide) hF) (ml_le wm_443 (Nat.le_trans (by decide) hLo)) rfl (sp_443 hw (Nat.le_trans (by decide : 2 ≤ 5 - 1) (Nat.sub_le_sub_right hF 1)) (ml_sub wm_443 (Nat.le_trans (by decide : 46 ≤ 107 - 25) (Nat.sub_le_sub_right hLo 25))) (wp_bind h) (fun v22 h => rs_back1 ?_))
            refine wp_jn (B := fun p23 : cS => ∀ lv, rx_ld lv 0 = some (.ref 174) → rx_ld lv 1 = some (.int a1) → rx_ld lv 2 = some (.int s17.1) → rx_ld lv 3 = some (.int s20.1) → rs (rt_P sc fm) 444 F Lo 148 lv [] (hq false p23 y w) Q) h (fun p23 h lv l0 l1 l2 l3 => ?_) (fun j148 hj148 h => ?_)
            ·
              obtain ⟨v25, e26, h⟩ := wp_lt h
              refine dl_inc wi_444_148 l3 rfl e26 (fun lv l3 t24 => ?_)
              have l0 := t24 _ _ (by decide) (Or.inl rfl) l0
              have l1 := t24 _ _ (by decide) (Or.inl rfl) l1
              have l2 := t24 _ _ (by decide) (Or.inl rfl) l2
              refine rs_goto (tg := 81) wi_444_151 ⟨by decide, by decide⟩ ?_
              exact h _ l0 l1 l2 l3
            refine rs_ifne (tg := 104) wi_444_98 ⟨by decide, by decide⟩ (fun q => ?_) (fun q => ?_)
            ·
              have h := wp_neg h q
              refine rs_aldn wi_444_104 l0 ?_
              refine rs_ldcwS wi_444_105 wk_444_774 ?_
              refine rs_V wi_444_108 wc_444_402 rfl (dq_isa tf_174_0 wa_15_362) (Nat.le_trans (by decide) hF) (ml_le wm_362 (Nat.le_trans (by decide) hLo)) rfl (sp_362 hw (Nat.le_trans (by decide : 4 ≤ 5 - 1) (Nat.sub_le_sub_right hF 1)) (ml_sub wm_362 (Nat.le_trans (by decide : 85 ≤ 107 - 22) (Nat.sub_le_sub_right hLo 22))) wsb_51 (wp_bind h) (fun r27 h => rs_back0 ?_))
              refine rs_aldn wi_444_111 l0 ?_
              refine rs_aldn wi_444_112 l0 ?_
              refine dq_gr wi_444_113 wf_444_100 tf_174_18 ?_
              refine rs_pure wi_444_116 rfl ?_
              refine rs_topi (v := 12) (by decide) ?_
              refine rs_ildn wi_444_118 l1 ?_
              refine rs_pure wi_444_119 rfl ?_
              refine rs_ildn wi_444_120 l2 ?_
              refine rs_pure wi_444_121 rfl ?_
              obtain ⟨g28, h⟩ := wp_gd h
              refine dq_lald wi_444_122 t_183 g28 ?_
              refine rs_V wi_444_123 wc_444_765 rfl (dq_isa tf_174_0 wa_15_363) (Nat.le_trans (by decide) hF) (ml_le wm_363 (Nat.le_trans (by decide) hLo)) rfl (sp_363 hw (Nat.le_trans (by decide : 2 ≤ 5 - 1) (Nat.sub_le_sub_right hF 1)) (ml_sub wm_363 (Nat.le_trans (by decide : 44 ≤ 107 - 22) (Nat.sub_le_sub_right hLo 22))) (wp_bind h) (fun r29 h => rs_back0 ?_))
              refine rs_aldn wi_444_126 l0 ?_
              refine rs_ldcwS wi_444_127 wk_444_799 ?_
              refine rs_V wi_444_130 wc_444_402 rfl (dq_isa tf_174_0 wa_15_362) (Nat.le_trans (by decide) hF) (ml_le wm_362 (Nat.le_trans (by decide) hLo)) rfl (sp_362 hw (Nat.le_trans (by decide : 4 ≤ 5 - 1) (Nat.sub_le_sub_right hF 1)) (ml_sub wm_362 (Nat.le_trans (by decide : 85 ≤ 107 - 22) (Nat.sub_le_sub_right hLo 22))) wsb_55 (wp_bind h) (fun r30 h => rs_back0 ?_))
              refine rs_aldn wi_444_133 l0 ?_
              refine rs_aldn wi_444_134 l0 ?_
              refine dq_gr wi_444_135 wf_444_100 tf_174_18 ?_
              refine rs_pure wi_444_138 rfl ?_
              refine rs_topi (v := 12) (by decide) ?_
              refine rs_ildn wi_444_140 l1 ?_
              refine rs_pure wi_444_141 rfl ?_
              refine rs_ildn wi_444_142 l3 ?_
              refine rs_pure wi_444_143 rfl ?_
              obtain ⟨g31, h⟩ := wp_gd h
              refine dq_lald wi_444_144 t_183 g31 ?_
              refine rs_V wi_444_145 wc_444_765 rfl (dq_isa tf_174_0 wa_15_363) (Nat.le_trans (by decide) hF) (ml_le wm_363 (Nat.le_trans (by decide) hLo)) rfl (sp_363 hw (Nat.le_trans (by decide : 2 ≤ 5 - 1) (Nat.sub_le_sub_right hF 1)) (ml_sub wm_363 (Nat.le_trans (by decide : 44 ≤ 107 - 22) (Nat.sub_le_sub_right hLo 22))) (wp_bind h) (fun r32 h => rs_back0 ?_))
              exact hj148 _ h _ l0 l1 l2 l3
            ·
              have h := wp_pos h q
              refine rs_goto (tg := 148) wi_444_101 ⟨by decide, by decide⟩ ?_
              exact hj148 _ h _ l0 l1 l2 l3
        ·
          intro x33 h lv l0 l1 l2
          obtain ⟨v35, e36, h⟩ := wp_lt h
          refine dl_inc wi_444_154 l2 rfl e36 (fun lv l2 t34 => ?_)
          have l0 := t34 _ _ (by decide) (Or.inl rfl) l0
          have l1 := t34 _ _ (by decide) (Or.inl rfl) l1
          refine rs_goto (tg := 69) wi_444_157 ⟨by decide, by decide⟩ ?_
          exact h _ l0 l1 l2
    ·
      intro x37 h lv l0
      refine rs_aldn wi_444_160 l0 ?_
      refine rs_ldcwS wi_444_161 wk_444_801 ?_
      refine rs_V wi_444_164 wc_444_402 rfl (dq_isa tf_174_0 wa_15_362) (Nat.le_trans (by decide) hF) (ml_le wm_362 (Nat.le_trans (by decide) hLo)) rfl (sp_362 hw (Nat.le_trans (by decide : 4 ≤ 5 - 1) (Nat.sub_le_sub_right hF 1)) (ml_sub wm_362 (Nat.le_trans (by decide : 85 ≤ 107 - 22) (Nat.sub_le_sub_right hLo 22))) wsb_34 (wp_bind h) (fun r38 h => rs_back0 ?_))
      exact rs_vret wi_444_167 wr_444 (hQ r38 h)
theorem wc_366_371 : rx_ct (rt_P sc fm) 366 371 = some (0, 357, 1) := (by decide +kernel : rt_ct 366 371 = some (0, 357, 1))
theorem wc_366_382 : rx_ct (rt_P sc fm) 366 382 = some (0, 361, 0) := (by decide +kernel : rt_ct 366 382 = some (0, 361, 0))
theorem wc_366_393 : rx_ct (rt_P sc fm) 366 393 = some (0, 358, 1) := (by decide +kernel : rt_ct 366 393 = some (0, 358, 1))
theorem wi_366_0 : ri (rt_P sc fm) 366 0 (.aload_n 0) (1) := ri_of (by decide +kernel) rfl
theorem wi_366_1 : ri (rt_P sc fm) 366 1 (.invokevirtual 382) (4) := ri_of (by decide +kernel) rfl
theorem wi_366_10 : ri (rt_P sc fm) 366 10 (.aload_n 0) (11) := ri_of (by decide +kernel) rfl
theorem wi_366_11 : ri (rt_P sc fm) 366 11 (.lload_n 1) (12) := ri_of (by decide +kernel) rfl
theorem wi_366_12 : ri (rt_P sc fm) 366 12 (.invokevirtual 393) (15) := ri_of (by decide +kernel) rfl
theorem wi_366_15 : ri (rt_P sc fm) 366 15 (.aload_n 0) (16) := ri_of (by decide +kernel) rfl
theorem wi_366_16 : ri (rt_P sc fm) 366 16 (.bipush 39) (18) := ri_of (by decide +kernel) rfl
theorem wi_366_18 : ri (rt_P sc fm) 366 18 (.invokevirtual 371) (21) := ri_of (by decide +kernel) rfl
theorem wi_366_21 : ri (rt_P sc fm) 366 21 (.return_) (22) := ri_of (by decide +kernel) rfl
theorem wi_366_4 : ri (rt_P sc fm) 366 4 (.aload_n 0) (5) := ri_of (by decide +kernel) rfl
theorem wi_366_5 : ri (rt_P sc fm) 366 5 (.bipush 39) (7) := ri_of (by decide +kernel) rfl
theorem wi_366_7 : ri (rt_P sc fm) 366 7 (.invokevirtual 371) (10) := ri_of (by decide +kernel) rfl
theorem wr_366 : rx_rt (rt_P sc fm) 366 = none := (by decide +kernel : rt_rt 366 = none)
/-- MarkHouseModel.sayText(J)V -/
def d_366 (n : Nat) (a1 : Int64) (c : cS) : Option (cS) :=
  Option.bind (d_361 n c) (fun r1 =>
  Option.bind (d_357 n 39 r1) (fun r2 =>
  Option.bind (d_358 n a1 r2) (fun r3 =>
  Option.bind (d_357 n 39 r3) (fun r4 =>
  some r4))))
set_option maxRecDepth 100000 in
set_option maxHeartbeats 4000000 in
theorem sp_366 {F Lo n : Nat} {a1 : Int64} {c y : cS} {w : cW} {K : cS → Prop} {Q : ((Option Value) ⊕ String) → List va_E → Prop} (hw : rOK fm w) (hF : 2 ≤ F) (hLo : 44 ≤ Lo)  (h : wp (d_366 n a1 c) K) (hQ : ∀ r, K r → Q (.inl none) (hq false r y w)) : rs (rt_P sc fm) 366 F Lo 0 [(0, .ref 174), (1, .long a1)] [] (hq false c y w) Q := by
  unfold d_366 at h
  obtain ⟨lv, elv⟩ : ∃ lv : rx_L, lv = [(0, .ref 174), (1, .long a1)] := ⟨_, rfl⟩
  rw [← elv]
  have l0 : rx_ld lv 0 = some (.ref 174) := by rw [elv]; rfl
  have l1 : rx_ld lv 1 = some (.long a1) := by rw [elv]; rfl
  refine rs_aldn wi_366_0 l0 ?_
  refine rs_V wi_366_1 wc_366_382 rfl (dq_isa tf_174_0 wa_15_361) (Nat.le_trans (by decide) hF) (ml_le wm_361 (Nat.le_trans (by decide) hLo)) rfl (sp_361 hw (Nat.le_trans (by decide : 1 ≤ 2 - 1) (Nat.sub_le_sub_right hF 1)) (ml_sub wm_361 (Nat.le_trans (by decide : 21 ≤ 44 - 20) (Nat.sub_le_sub_right hLo 20))) (wp_bind h) (fun r1 h => rs_back0 ?_))
  refine rs_aldn wi_366_4 l0 ?_
  refine rs_pure wi_366_5 rfl ?_
  refine rs_topi (v := 39) (by decide) ?_
  refine rs_V wi_366_7 wc_366_371 rfl (dq_isa tf_174_0 wa_15_357) (Nat.le_trans (by decide) hF) (ml_le wm_357 (Nat.le_trans (by decide) hLo)) rfl (sp_357 hw (Nat.le_trans (by decide : 0 ≤ 2 - 1) (Nat.sub_le_sub_right hF 1)) (ml_sub wm_357 (Nat.le_trans (by decide : 0 ≤ 44 - 21) (Nat.sub_le_sub_right hLo 21))) (wp_bind h) (fun r2 h => rs_back0 ?_))
  refine rs_aldn wi_366_10 l0 ?_
  refine rs_lldn wi_366_11 l1 ?_
  refine rs_V wi_366_12 wc_366_393 rfl (dq_isa tf_174_0 wa_15_358) (Nat.le_trans (by decide) hF) (ml_le wm_358 (Nat.le_trans (by decide) hLo)) rfl (sp_358 hw (Nat.le_trans (by decide : 1 ≤ 2 - 1) (Nat.sub_le_sub_right hF 1)) (ml_sub wm_358 (Nat.le_trans (by decide : 21 ≤ 44 - 23) (Nat.sub_le_sub_right hLo 23))) (wp_bind h) (fun r3 h => rs_back0 ?_))
  refine rs_aldn wi_366_15 l0 ?_
  refine rs_pure wi_366_16 rfl ?_
  refine rs_topi (v := 39) (by decide) ?_
  refine rs_V wi_366_18 wc_366_371 rfl (dq_isa tf_174_0 wa_15_357) (Nat.le_trans (by decide) hF) (ml_le wm_357 (Nat.le_trans (by decide) hLo)) rfl (sp_357 hw (Nat.le_trans (by decide : 0 ≤ 2 - 1) (Nat.sub_le_sub_right hF 1)) (ml_sub wm_357 (Nat.le_trans (by decide : 0 ≤ 44 - 21) (Nat.sub_le_sub_right hLo 21))) (wp_bind h) (fun r4 h => rs_back0 ?_))
  exact rs_vret wi_366_21 wr_366 (hQ r4 h)
theorem wc_364_382 : rx_ct (rt_P sc fm) 364 382 = some (0, 361, 0) := (by decide +kernel : rt_ct 364 382 = some (0, 361, 0))
theorem wc_364_397 : rx_ct (rt_P sc fm) 364 397 = some (0, 360, 1) := (by decide +kernel : rt_ct 364 397 = some (0, 360, 1))
theorem wi_364_0 : ri (rt_P sc fm) 364 0 (.aload_n 0) (1) := ri_of (by decide +kernel) rfl
theorem wi_364_1 : ri (rt_P sc fm) 364 1 (.invokevirtual 382) (4) := ri_of (by decide +kernel) rfl
theorem wi_364_4 : ri (rt_P sc fm) 364 4 (.aload_n 0) (5) := ri_of (by decide +kernel) rfl
theorem wi_364_5 : ri (rt_P sc fm) 364 5 (.lload_n 1) (6) := ri_of (by decide +kernel) rfl
theorem wi_364_6 : ri (rt_P sc fm) 364 6 (.invokevirtual 397) (9) := ri_of (by decide +kernel) rfl
theorem wi_364_9 : ri (rt_P sc fm) 364 9 (.return_) (10) := ri_of (by decide +kernel) rfl
theorem wr_364 : rx_rt (rt_P sc fm) 364 = none := (by decide +kernel : rt_rt 364 = none)
/-- MarkHouseModel.sayWhole(J)V -/
def d_364 (n : Nat) (a1 : Int64) (c : cS) : Option (cS) :=
  Option.bind (d_361 n c) (fun r1 =>
  Option.bind (d_360 n a1 r1) (fun r2 =>
  some r2))
set_option maxRecDepth 100000 in
set_option maxHeartbeats 4000000 in
theorem sp_364 {F Lo n : Nat} {a1 : Int64} {c y : cS} {w : cW} {K : cS → Prop} {Q : ((Option Value) ⊕ String) → List va_E → Prop} (hw : rOK fm w) (hF : 2 ≤ F) (hLo : 45 ≤ Lo)  (h : wp (d_364 n a1 c) K) (hQ : ∀ r, K r → Q (.inl none) (hq false r y w)) : rs (rt_P sc fm) 364 F Lo 0 [(0, .ref 174), (1, .long a1)] [] (hq false c y w) Q := by
  unfold d_364 at h
  obtain ⟨lv, elv⟩ : ∃ lv : rx_L, lv = [(0, .ref 174), (1, .long a1)] := ⟨_, rfl⟩
  rw [← elv]
  have l0 : rx_ld lv 0 = some (.ref 174) := by rw [elv]; rfl
  have l1 : rx_ld lv 1 = some (.long a1) := by rw [elv]; rfl
  refine rs_aldn wi_364_0 l0 ?_
  refine rs_V wi_364_1 wc_364_382 rfl (dq_isa tf_174_0 wa_15_361) (Nat.le_trans (by decide) hF) (ml_le wm_361 (Nat.le_trans (by decide) hLo)) rfl (sp_361 hw (Nat.le_trans (by decide : 1 ≤ 2 - 1) (Nat.sub_le_sub_right hF 1)) (ml_sub wm_361 (Nat.le_trans (by decide : 21 ≤ 45 - 20) (Nat.sub_le_sub_right hLo 20))) (wp_bind h) (fun r1 h => rs_back0 ?_))
  refine rs_aldn wi_364_4 l0 ?_
  refine rs_lldn wi_364_5 l1 ?_
  refine rs_V wi_364_6 wc_364_397 rfl (dq_isa tf_174_0 wa_15_360) (Nat.le_trans (by decide) hF) (ml_le wm_360 (Nat.le_trans (by decide) hLo)) rfl (sp_360 hw (Nat.le_trans (by decide : 1 ≤ 2 - 1) (Nat.sub_le_sub_right hF 1)) (ml_sub wm_360 (Nat.le_trans (by decide : 21 ≤ 45 - 24) (Nat.sub_le_sub_right hLo 24))) (wp_bind h) (fun r2 h => rs_back0 ?_))
  exact rs_vret wi_364_9 wr_364 (hQ r2 h)
theorem wsb_48 : (rt_sb 48).isSome = true := by decide +kernel
theorem wa_15_364 : rz_cn 15 (rx_yn (rt_P sc fm) 364).cls = true := (by decide +kernel : rz_cn 15 (rt_yn 364).cls = true)
theorem wc_365_402 : rx_ct (rt_P sc fm) 365 402 = some (0, 362, 1) := (by decide +kernel : rt_ct 365 402 = some (0, 362, 1))
theorem wc_365_406 : rx_ct (rt_P sc fm) 365 406 = some (0, 364, 1) := (by decide +kernel : rt_ct 365 406 = some (0, 364, 1))
theorem wi_365_0 : ri (rt_P sc fm) 365 0 (.iload_n 1) (1) := ri_of (by decide +kernel) rfl
theorem wi_365_1 : ri (rt_P sc fm) 365 1 (.ifCond .ge 10) (4) := ri_of (by decide +kernel) rfl
theorem wi_365_11 : ri (rt_P sc fm) 365 11 (.aload_n 0) (12) := ri_of (by decide +kernel) rfl
theorem wi_365_12 : ri (rt_P sc fm) 365 12 (.iload_n 1) (13) := ri_of (by decide +kernel) rfl
theorem wi_365_13 : ri (rt_P sc fm) 365 13 (.ifCond .ge 9) (16) := ri_of (by decide +kernel) rfl
theorem wi_365_16 : ri (rt_P sc fm) 365 16 (.iload_n 1) (17) := ri_of (by decide +kernel) rfl
theorem wi_365_17 : ri (rt_P sc fm) 365 17 (.i2l) (18) := ri_of (by decide +kernel) rfl
theorem wi_365_18 : ri (rt_P sc fm) 365 18 (.lneg) (19) := ri_of (by decide +kernel) rfl
theorem wi_365_19 : ri (rt_P sc fm) 365 19 (.goto 5) (22) := ri_of (by decide +kernel) rfl
theorem wi_365_22 : ri (rt_P sc fm) 365 22 (.iload_n 1) (23) := ri_of (by decide +kernel) rfl
theorem wi_365_23 : ri (rt_P sc fm) 365 23 (.i2l) (24) := ri_of (by decide +kernel) rfl
theorem wi_365_24 : ri (rt_P sc fm) 365 24 (.invokevirtual 406) (27) := ri_of (by decide +kernel) rfl
theorem wi_365_27 : ri (rt_P sc fm) 365 27 (.return_) (28) := ri_of (by decide +kernel) rfl
theorem wi_365_4 : ri (rt_P sc fm) 365 4 (.aload_n 0) (5) := ri_of (by decide +kernel) rfl
theorem wi_365_5 : ri (rt_P sc fm) 365 5 (.ldc_w 400) (8) := ri_of (by decide +kernel) rfl
theorem wi_365_8 : ri (rt_P sc fm) 365 8 (.invokevirtual 402) (11) := ri_of (by decide +kernel) rfl
theorem wk_365_400 : rx_kt (rt_P sc fm) 365 400 = some (.ref (rx_K 48)) := (by decide +kernel : rt_kt 365 400 = some (.ref (rx_K 48)))
theorem wm_364 : rx_ml (rt_P sc fm) 364 = 3 := (by decide +kernel : rt_ml 364 = 3)
theorem wr_365 : rx_rt (rt_P sc fm) 365 = none := (by decide +kernel : rt_rt 365 = none)
/-- MarkHouseModel.sayInt(I)V -/
def d_365 (n : Nat) (a1 : Int32) (c : cS) : Option (cS) :=
  jn (fun p1 : cS =>
    jn (fun p2 : Int64 =>
      Option.bind (d_364 n p2 p1) (fun r3 =>
      some r3))
    (fun j24 =>
    if 0 ≤ a1 then
      j24 (a1 : Int32).toInt64
    else
      j24 (-((a1 : Int32).toInt64))))
  (fun j11 =>
  if 0 ≤ a1 then
    j11 c
  else
    Option.bind (d_362 n 48 c) (fun r4 =>
    j11 r4))
set_option maxRecDepth 100000 in
set_option maxHeartbeats 4000000 in
theorem sp_365 {F Lo n : Nat} {a1 : Int32} {c y : cS} {w : cW} {K : cS → Prop} {Q : ((Option Value) ⊕ String) → List va_E → Prop} (hw : rOK fm w) (hF : 5 ≤ F) (hLo : 107 ≤ Lo)  (h : wp (d_365 n a1 c) K) (hQ : ∀ r, K r → Q (.inl none) (hq false r y w)) : rs (rt_P sc fm) 365 F Lo 0 [(0, .ref 174), (1, .int a1)] [] (hq false c y w) Q := by
  unfold d_365 at h
  obtain ⟨lv, elv⟩ : ∃ lv : rx_L, lv = [(0, .ref 174), (1, .int a1)] := ⟨_, rfl⟩
  rw [← elv]
  have l0 : rx_ld lv 0 = some (.ref 174) := by rw [elv]; rfl
  have l1 : rx_ld lv 1 = some (.int a1) := by rw [elv]; rfl
  refine rs_ildn wi_365_0 l1 ?_
  refine wp_jn (B := fun p1 : cS => ∀ lv, rx_ld lv 0 = some (.ref 174) → rx_ld lv 1 = some (.int a1) → rs (rt_P sc fm) 365 F Lo 11 lv [] (hq false p1 y w) Q) h (fun p1 h lv l0 l1 => ?_) (fun j11 hj11 h => ?_)
  ·
    refine rs_aldn wi_365_11 l0 ?_
    refine rs_ildn wi_365_12 l1 ?_
    refine wp_jn (B := fun p2 : Int64 => ∀ lv, rs (rt_P sc fm) 365 F Lo 24 lv [.long p2, .ref 174] (hq false p1 y w) Q) h (fun p2 h lv => ?_) (fun j24 hj24 h => ?_)
    ·
      refine rs_V wi_365_24 wc_365_406 rfl (dq_isa tf_174_0 wa_15_364) (Nat.le_trans (by decide) hF) (ml_le wm_364 (Nat.le_trans (by decide) hLo)) rfl (sp_364 hw (Nat.le_trans (by decide : 2 ≤ 5 - 1) (Nat.sub_le_sub_right hF 1)) (ml_sub wm_364 (Nat.le_trans (by decide : 45 ≤ 107 - 22) (Nat.sub_le_sub_right hLo 22))) (wp_bind h) (fun r3 h => rs_back0 ?_))
      exact rs_vret wi_365_27 wr_365 (hQ r3 h)
    refine rs_ifge (tg := 22) wi_365_13 ⟨by decide, by decide⟩ (fun q => ?_) (fun q => ?_)
    ·
      have h := wp_pos h q
      refine rs_ildn wi_365_22 l1 ?_
      refine rs_pure wi_365_23 rfl ?_
      exact hj24 _ h _
    ·
      have h := wp_neg h q
      refine rs_ildn wi_365_16 l1 ?_
      refine rs_pure wi_365_17 rfl ?_
      refine rs_pure wi_365_18 rfl ?_
      refine rs_goto (tg := 24) wi_365_19 ⟨by decide, by decide⟩ ?_
      exact hj24 _ h _
  refine rs_ifge (tg := 11) wi_365_1 ⟨by decide, by decide⟩ (fun q => ?_) (fun q => ?_)
  ·
    have h := wp_pos h q
    exact hj11 _ h _ l0 l1
  ·
    have h := wp_neg h q
    refine rs_aldn wi_365_4 l0 ?_
    refine rs_ldcwS wi_365_5 wk_365_400 ?_
    refine rs_V wi_365_8 wc_365_402 rfl (dq_isa tf_174_0 wa_15_362) (Nat.le_trans (by decide) hF) (ml_le wm_362 (Nat.le_trans (by decide) hLo)) rfl (sp_362 hw (Nat.le_trans (by decide : 4 ≤ 5 - 1) (Nat.sub_le_sub_right hF 1)) (ml_sub wm_362 (Nat.le_trans (by decide : 85 ≤ 107 - 22) (Nat.sub_le_sub_right hLo 22))) wsb_48 (wp_bind h) (fun r4 h => rs_back0 ?_))
    exact hj11 _ h _ l0 l1
theorem wc_441_459 : rx_ct (rt_P sc fm) 441 459 = some (0, 372, 1) := (by decide +kernel : rt_ct 441 459 = some (0, 372, 1))
theorem wc_441_462 : rx_ct (rt_P sc fm) 441 462 = some (0, 373, 1) := (by decide +kernel : rt_ct 441 462 = some (0, 373, 1))
theorem wc_441_700 : rx_ct (rt_P sc fm) 441 700 = some (0, 430, 2) := (by decide +kernel : rt_ct 441 700 = some (0, 430, 2))
theorem wc_441_706 : rx_ct (rt_P sc fm) 441 706 = some (0, 429, 3) := (by decide +kernel : rt_ct 441 706 = some (0, 429, 3))
theorem wf_441_122 : rx_ft (rt_P sc fm) 441 122 = some (15, 26) := (by decide +kernel : rt_ft 441 122 = some (15, 26))
theorem wf_441_221 : rx_ft (rt_P sc fm) 441 221 = some (15, 61) := (by decide +kernel : rt_ft 441 221 = some (15, 61))
theorem wf_441_224 : rx_ft (rt_P sc fm) 441 224 = some (15, 62) := (by decide +kernel : rt_ft 441 224 = some (15, 62))
theorem wi_441_0 : ri (rt_P sc fm) 441 0 (.aload_n 0) (1) := ri_of (by decide +kernel) rfl
theorem wi_441_1 : ri (rt_P sc fm) 441 1 (.getfield 224) (4) := ri_of (by decide +kernel) rfl
theorem wi_441_10 : ri (rt_P sc fm) 441 10 (.ireturn) (11) := ri_of (by decide +kernel) rfl
theorem wi_441_100 : ri (rt_P sc fm) 441 100 (.ireturn) (101) := ri_of (by decide +kernel) rfl
theorem wi_441_11 : ri (rt_P sc fm) 441 11 (.aload_n 0) (12) := ri_of (by decide +kernel) rfl
theorem wi_441_12 : ri (rt_P sc fm) 441 12 (.aload_n 0) (13) := ri_of (by decide +kernel) rfl
theorem wi_441_13 : ri (rt_P sc fm) 441 13 (.getfield 221) (16) := ri_of (by decide +kernel) rfl
theorem wi_441_16 : ri (rt_P sc fm) 441 16 (.iload_n 1) (17) := ri_of (by decide +kernel) rfl
theorem wi_441_17 : ri (rt_P sc fm) 441 17 (.laload) (18) := ri_of (by decide +kernel) rfl
theorem wi_441_18 : ri (rt_P sc fm) 441 18 (.invokevirtual 459) (21) := ri_of (by decide +kernel) rfl
theorem wi_441_21 : ri (rt_P sc fm) 441 21 (.istore_n 2) (22) := ri_of (by decide +kernel) rfl
theorem wi_441_22 : ri (rt_P sc fm) 441 22 (.iload_n 2) (23) := ri_of (by decide +kernel) rfl
theorem wi_441_23 : ri (rt_P sc fm) 441 23 (.ifCond .lt 18) (26) := ri_of (by decide +kernel) rfl
theorem wi_441_26 : ri (rt_P sc fm) 441 26 (.aload_n 0) (27) := ri_of (by decide +kernel) rfl
theorem wi_441_27 : ri (rt_P sc fm) 441 27 (.iload_n 1) (28) := ri_of (by decide +kernel) rfl
theorem wi_441_28 : ri (rt_P sc fm) 441 28 (.iload_n 2) (29) := ri_of (by decide +kernel) rfl
theorem wi_441_29 : ri (rt_P sc fm) 441 29 (.invokevirtual 700) (32) := ri_of (by decide +kernel) rfl
theorem wi_441_32 : ri (rt_P sc fm) 441 32 (.ifCond .lt 7) (35) := ri_of (by decide +kernel) rfl
theorem wi_441_35 : ri (rt_P sc fm) 441 35 (.iconst 1) (36) := ri_of (by decide +kernel) rfl
theorem wi_441_36 : ri (rt_P sc fm) 441 36 (.goto 4) (39) := ri_of (by decide +kernel) rfl
theorem wi_441_39 : ri (rt_P sc fm) 441 39 (.iconst 0) (40) := ri_of (by decide +kernel) rfl
theorem wi_441_4 : ri (rt_P sc fm) 441 4 (.iload_n 1) (5) := ri_of (by decide +kernel) rfl
theorem wi_441_40 : ri (rt_P sc fm) 441 40 (.ireturn) (41) := ri_of (by decide +kernel) rfl
theorem wi_441_41 : ri (rt_P sc fm) 441 41 (.aload_n 0) (42) := ri_of (by decide +kernel) rfl
theorem wi_441_42 : ri (rt_P sc fm) 441 42 (.aload_n 0) (43) := ri_of (by decide +kernel) rfl
theorem wi_441_43 : ri (rt_P sc fm) 441 43 (.getfield 221) (46) := ri_of (by decide +kernel) rfl
theorem wi_441_46 : ri (rt_P sc fm) 441 46 (.iload_n 1) (47) := ri_of (by decide +kernel) rfl
theorem wi_441_47 : ri (rt_P sc fm) 441 47 (.laload) (48) := ri_of (by decide +kernel) rfl
theorem wi_441_48 : ri (rt_P sc fm) 441 48 (.invokevirtual 462) (51) := ri_of (by decide +kernel) rfl
theorem wi_441_5 : ri (rt_P sc fm) 441 5 (.baload) (6) := ri_of (by decide +kernel) rfl
theorem wi_441_51 : ri (rt_P sc fm) 441 51 (.istore_n 3) (52) := ri_of (by decide +kernel) rfl
theorem wi_441_52 : ri (rt_P sc fm) 441 52 (.iconst 1) (53) := ri_of (by decide +kernel) rfl
theorem wi_441_53 : ri (rt_P sc fm) 441 53 (.istore 4) (55) := ri_of (by decide +kernel) rfl
theorem wi_441_55 : ri (rt_P sc fm) 441 55 (.iconst 0) (56) := ri_of (by decide +kernel) rfl
theorem wi_441_56 : ri (rt_P sc fm) 441 56 (.istore 5) (58) := ri_of (by decide +kernel) rfl
theorem wi_441_58 : ri (rt_P sc fm) 441 58 (.iload 5) (60) := ri_of (by decide +kernel) rfl
theorem wi_441_6 : ri (rt_P sc fm) 441 6 (.ifCond .eq 5) (9) := ri_of (by decide +kernel) rfl
theorem wi_441_60 : ri (rt_P sc fm) 441 60 (.aload_n 0) (61) := ri_of (by decide +kernel) rfl
theorem wi_441_61 : ri (rt_P sc fm) 441 61 (.getfield 122) (64) := ri_of (by decide +kernel) rfl
theorem wi_441_64 : ri (rt_P sc fm) 441 64 (.iload_n 3) (65) := ri_of (by decide +kernel) rfl
theorem wi_441_65 : ri (rt_P sc fm) 441 65 (.iaload) (66) := ri_of (by decide +kernel) rfl
theorem wi_441_66 : ri (rt_P sc fm) 441 66 (.if_icmp .ge 32) (69) := ri_of (by decide +kernel) rfl
theorem wi_441_69 : ri (rt_P sc fm) 441 69 (.iload 4) (71) := ri_of (by decide +kernel) rfl
theorem wi_441_71 : ri (rt_P sc fm) 441 71 (.ifCond .eq 18) (74) := ri_of (by decide +kernel) rfl
theorem wi_441_74 : ri (rt_P sc fm) 441 74 (.aload_n 0) (75) := ri_of (by decide +kernel) rfl
theorem wi_441_75 : ri (rt_P sc fm) 441 75 (.iload_n 1) (76) := ri_of (by decide +kernel) rfl
theorem wi_441_76 : ri (rt_P sc fm) 441 76 (.iload_n 3) (77) := ri_of (by decide +kernel) rfl
theorem wi_441_77 : ri (rt_P sc fm) 441 77 (.iload 5) (79) := ri_of (by decide +kernel) rfl
theorem wi_441_79 : ri (rt_P sc fm) 441 79 (.invokevirtual 706) (82) := ri_of (by decide +kernel) rfl
theorem wi_441_82 : ri (rt_P sc fm) 441 82 (.ifCond .lt 7) (85) := ri_of (by decide +kernel) rfl
theorem wi_441_85 : ri (rt_P sc fm) 441 85 (.iconst 1) (86) := ri_of (by decide +kernel) rfl
theorem wi_441_86 : ri (rt_P sc fm) 441 86 (.goto 4) (89) := ri_of (by decide +kernel) rfl
theorem wi_441_89 : ri (rt_P sc fm) 441 89 (.iconst 0) (90) := ri_of (by decide +kernel) rfl
theorem wi_441_9 : ri (rt_P sc fm) 441 9 (.iconst 1) (10) := ri_of (by decide +kernel) rfl
theorem wi_441_90 : ri (rt_P sc fm) 441 90 (.istore 4) (92) := ri_of (by decide +kernel) rfl
theorem wi_441_92 : ri (rt_P sc fm) 441 92 (.iinc 5 1) (95) := ri_of (by decide +kernel) rfl
theorem wi_441_95 : ri (rt_P sc fm) 441 95 (.goto (-37)) (98) := ri_of (by decide +kernel) rfl
theorem wi_441_98 : ri (rt_P sc fm) 441 98 (.iload 4) (100) := ri_of (by decide +kernel) rfl
theorem wr_441 : rx_rt (rt_P sc fm) 441 = (some FieldType.boolean) := (by decide +kernel : rt_rt 441 = (some FieldType.boolean))
/-- MarkHouseModel.isSound(I)Z -/
def d_441 (n : Nat) (a1 : Int32) (c : cS) : Option (Int32 × cS) :=
  if ib a1 24380 then
  if (c.1 224 (ix a1)) = 0 then
    if ib a1 24380 then
    Option.bind (d_372 n (c.2 223 (ix a1)) c) (fun v3 =>
    if v3 < 0 then
      if ib a1 24380 then
      Option.bind (d_373 n (c.2 223 (ix a1)) c) (fun v6 =>
      Option.bind (whl (R := (Int32 × cS)) (fun s10 : Int32 × Int32 × cS =>
        if ib v6 12 then
        if (s10.2.2.1 190 (ix v6)) ≤ s10.2.1 then
          some (.inr (s10.1, s10.2.2))
        else
          jn (fun p12 : Int32 × cS =>
            lt (s10.2.1 + 1 : Int32) (fun v15 =>
            some (.inl (p12.1, v15, p12.2))))
          (fun j90 =>
          jn (fun p17 : cS =>
            j90 (0, p17))
          (fun j89 =>
          if s10.1 = 0 then
            j89 s10.2.2
          else
            Option.bind (d_429 n a1 v6 s10.2.1 s10.2.2) (fun r18 =>
            if r18.1 < 0 then
              j89 r18.2
            else
              j90 (1, r18.2))))
        else none) n (1, 0, c))
      (fun x19 : Int32 × cS =>
        if nb x19.1 then
        some (x19.1, x19.2)
        else none))
      else none
    else
      Option.bind (d_430 n a1 v3 c) (fun v21 =>
      jn (fun p22 : Int32 =>
        if nb p22 then
        some (p22, c)
        else none)
      (fun j40 =>
      if v21 < 0 then
        j40 0
      else
        j40 1)))
    else none
  else
    some (1, c)
  else none
set_option maxRecDepth 100000 in
set_option maxHeartbeats 4000000 in
theorem sp_441 {F Lo n : Nat} {a1 : Int32} {c y : cS} {w : cW} {K : Int32 × cS → Prop} {Q : ((Option Value) ⊕ String) → List va_E → Prop} (hw : rOK fm w) (hF : 2 ≤ F) (hLo : 49 ≤ Lo)  (h : wp (d_441 n a1 c) K) (hQ : ∀ r, K r → Q (.inl (some (.int r.1))) (hq false r.2 y w)) : rs (rt_P sc fm) 441 F Lo 0 [(0, .ref 174), (1, .int a1)] [] (hq false c y w) Q := by
  unfold d_441 at h
  obtain ⟨lv, elv⟩ : ∃ lv : rx_L, lv = [(0, .ref 174), (1, .int a1)] := ⟨_, rfl⟩
  rw [← elv]
  have l0 : rx_ld lv 0 = some (.ref 174) := by rw [elv]; rfl
  have l1 : rx_ld lv 1 = some (.int a1) := by rw [elv]; rfl
  refine rs_aldn wi_441_0 l0 ?_
  refine dq_gr wi_441_1 wf_441_224 tf_174_62 ?_
  refine rs_ildn wi_441_4 l1 ?_
  obtain ⟨g1, h⟩ := wp_gd h
  refine dq_zald wi_441_5 t_224 g1 ?_
  refine rs_ifeq (tg := 11) wi_441_6 ⟨by decide, by decide⟩ (fun q => ?_) (fun q => ?_)
  ·
    have h := wp_pos h q
    refine rs_aldn wi_441_11 l0 ?_
    refine rs_aldn wi_441_12 l0 ?_
    refine dq_gr wi_441_13 wf_441_221 tf_174_61 ?_
    refine rs_ildn wi_441_16 l1 ?_
    obtain ⟨g2, h⟩ := wp_gd h
    refine dq_lald wi_441_17 t_223 g2 ?_
    refine rs_V wi_441_18 wc_441_459 rfl (dq_isa tf_174_0 wa_15_372) (Nat.le_trans (by decide) hF) (ml_le wm_372 (Nat.le_trans (by decide) hLo)) rfl (sp_372 hw (Nat.le_trans (by decide : 0 ≤ 2 - 1) (Nat.sub_le_sub_right hF 1)) (ml_sub wm_372 (Nat.le_trans (by decide : 0 ≤ 49 - 23) (Nat.sub_le_sub_right hLo 23))) (wp_bind h) (fun v3 h => rs_back1 ?_))
    refine dl_istn wi_441_21 rfl (fun lv l2 t4 => ?_)
    have l0 := t4 _ _ (by decide) (Or.inl rfl) l0
    have l1 := t4 _ _ (by decide) (Or.inl rfl) l1
    refine rs_ildn wi_441_22 l2 ?_
    refine rs_iflt (tg := 41) wi_441_23 ⟨by decide, by decide⟩ (fun q => ?_) (fun q => ?_)
    ·
      have h := wp_pos h q
      refine rs_aldn wi_441_41 l0 ?_
      refine rs_aldn wi_441_42 l0 ?_
      refine dq_gr wi_441_43 wf_441_221 tf_174_61 ?_
      refine rs_ildn wi_441_46 l1 ?_
      obtain ⟨g5, h⟩ := wp_gd h
      refine dq_lald wi_441_47 t_223 g5 ?_
      refine rs_V wi_441_48 wc_441_462 rfl (dq_isa tf_174_0 wa_15_373) (Nat.le_trans (by decide) hF) (ml_le wm_373 (Nat.le_trans (by decide) hLo)) rfl (sp_373 hw (Nat.le_trans (by decide : 0 ≤ 2 - 1) (Nat.sub_le_sub_right hF 1)) (ml_sub wm_373 (Nat.le_trans (by decide : 0 ≤ 49 - 23) (Nat.sub_le_sub_right hLo 23))) (wp_bind h) (fun v6 h => rs_back1 ?_))
      refine dl_istn wi_441_51 rfl (fun lv l3 t7 => ?_)
      have l0 := t7 _ _ (by decide) (Or.inl rfl) l0
      have l1 := t7 _ _ (by decide) (Or.inl rfl) l1
      refine rs_pure wi_441_52 rfl ?_
      refine rs_topi (v := 1) (by decide) ?_
      refine dl_ist wi_441_53 rfl (fun lv l4 t8 => ?_)
      have l0 := t8 _ _ (by decide) (Or.inl rfl) l0
      have l1 := t8 _ _ (by decide) (Or.inl rfl) l1
      have l3 := t8 _ _ (by decide) (Or.inl rfl) l3
      refine rs_pure wi_441_55 rfl ?_
      refine rs_topi (v := 0) (by decide) ?_
      refine dl_ist wi_441_56 rfl (fun lv l5 t9 => ?_)
      have l0 := t9 _ _ (by decide) (Or.inl rfl) l0
      have l1 := t9 _ _ (by decide) (Or.inl rfl) l1
      have l3 := t9 _ _ (by decide) (Or.inl rfl) l3
      have l4 := t9 _ _ (by decide) (Or.inl rfl) l4
      refine whl_ex (A := fun s10 : Int32 × Int32 × cS => ∀ lv, rx_ld lv 0 = some (.ref 174) → rx_ld lv 1 = some (.int a1) → rx_ld lv 3 = some (.int v6) → rx_ld lv 4 = some (.int s10.1) → rx_ld lv 5 = some (.int s10.2.1) → rs (rt_P sc fm) 441 F Lo 58 lv [] (hq false s10.2.2 y w) Q) (B := (fun x19 : Int32 × cS => ∀ lv, rx_ld lv 4 = some (.int x19.1) → rs (rt_P sc fm) 441 F Lo 98 lv [] (hq false x19.2 y w) Q)) ?_ ?_ _ _ (wp_bind h) _ l0 l1 l3 l4 l5
      · intro s10 h lv l0 l1 l3 l4 l5
        refine rs_ild wi_441_58 l5 ?_
        refine rs_aldn wi_441_60 l0 ?_
        refine dq_gr wi_441_61 wf_441_122 tf_174_26 ?_
        refine rs_ildn wi_441_64 l3 ?_
        obtain ⟨g11, h⟩ := wp_gd h
        refine dq_iald wi_441_65 t_190 g11 ?_
        refine rs_icge (tg := 98) wi_441_66 ⟨by decide, by decide⟩ (fun q => ?_) (fun q => ?_)
        ·
          have h := wp_pos h q
          exact h _ l4
        ·
          have h := wp_neg h q
          refine rs_ild wi_441_69 l4 ?_
          refine wp_jn (B := fun p12 : Int32 × cS => ∀ lv, rx_ld lv 0 = some (.ref 174) → rx_ld lv 1 = some (.int a1) → rx_ld lv 3 = some (.int v6) → rx_ld lv 5 = some (.int s10.2.1) → rs (rt_P sc fm) 441 F Lo 90 lv [.int p12.1] (hq false p12.2 y w) Q) h (fun p12 h lv l0 l1 l3 l5 => ?_) (fun j90 hj90 h => ?_)
          ·
            refine dl_ist wi_441_90 rfl (fun lv l4 t13 => ?_)
            have l0 := t13 _ _ (by decide) (Or.inl rfl) l0
            have l1 := t13 _ _ (by decide) (Or.inl rfl) l1
            have l3 := t13 _ _ (by decide) (Or.inl rfl) l3
            have l5 := t13 _ _ (by decide) (Or.inl rfl) l5
            obtain ⟨v15, e16, h⟩ := wp_lt h
            refine dl_inc wi_441_92 l5 rfl e16 (fun lv l5 t14 => ?_)
            have l0 := t14 _ _ (by decide) (Or.inl rfl) l0
            have l1 := t14 _ _ (by decide) (Or.inl rfl) l1
            have l3 := t14 _ _ (by decide) (Or.inl rfl) l3
            have l4 := t14 _ _ (by decide) (Or.inl rfl) l4
            refine rs_goto (tg := 58) wi_441_95 ⟨by decide, by decide⟩ ?_
            exact h _ l0 l1 l3 l4 l5
          refine wp_jn (B := fun p17 : cS => ∀ lv, rx_ld lv 0 = some (.ref 174) → rx_ld lv 1 = some (.int a1) → rx_ld lv 3 = some (.int v6) → rx_ld lv 5 = some (.int s10.2.1) → rs (rt_P sc fm) 441 F Lo 89 lv [] (hq false p17 y w) Q) h (fun p17 h lv l0 l1 l3 l5 => ?_) (fun j89 hj89 h => ?_)
          ·
            refine rs_pure wi_441_89 rfl ?_
            refine rs_topi (v := 0) (by decide) ?_
            exact hj90 _ h _ l0 l1 l3 l5
          refine rs_ifeq (tg := 89) wi_441_71 ⟨by decide, by decide⟩ (fun q => ?_) (fun q => ?_)
          ·
            have h := wp_pos h q
            exact hj89 _ h _ l0 l1 l3 l5
          ·
            have h := wp_neg h q
            refine rs_aldn wi_441_74 l0 ?_
            refine rs_ildn wi_441_75 l1 ?_
            refine rs_ildn wi_441_76 l3 ?_
            refine rs_ild wi_441_77 l5 ?_
            refine rs_V wi_441_79 wc_441_706 rfl (dq_isa tf_174_0 wa_15_429) (Nat.le_trans (by decide) hF) (ml_le wm_429 (Nat.le_trans (by decide) hLo)) rfl (sp_429 hw (Nat.le_trans (by decide : 0 ≤ 2 - 1) (Nat.sub_le_sub_right hF 1)) (ml_sub wm_429 (Nat.le_trans (by decide : 0 ≤ 49 - 26) (Nat.sub_le_sub_right hLo 26))) (wp_bind h) (fun r18 h => rs_back1 ?_))
            refine rs_iflt (tg := 89) wi_441_82 ⟨by decide, by decide⟩ (fun q => ?_) (fun q => ?_)
            ·
              have h := wp_pos h q
              exact hj89 _ h _ l0 l1 l3 l5
            ·
              have h := wp_neg h q
              refine rs_pure wi_441_85 rfl ?_
              refine rs_topi (v := 1) (by decide) ?_
              refine rs_goto (tg := 90) wi_441_86 ⟨by decide, by decide⟩ ?_
              exact hj90 _ h _ l0 l1 l3 l5
      ·
        intro x19 h lv l4
        refine rs_ild wi_441_98 l4 ?_
        obtain ⟨g20, h⟩ := wp_gd h
        exact rs_iret wi_441_100 wr_441 (nb_n g20) (hQ (x19.1, x19.2) h)
    ·
      have h := wp_neg h q
      refine rs_aldn wi_441_26 l0 ?_
      refine rs_ildn wi_441_27 l1 ?_
      refine rs_ildn wi_441_28 l2 ?_
      refine rs_V wi_441_29 wc_441_700 rfl (dq_isa tf_174_0 wa_15_430) (Nat.le_trans (by decide) hF) (ml_le wm_430 (Nat.le_trans (by decide) hLo)) rfl (sp_430 hw (Nat.le_trans (by decide : 1 ≤ 2 - 1) (Nat.sub_le_sub_right hF 1)) (ml_sub wm_430 (Nat.le_trans (by decide : 24 ≤ 49 - 25) (Nat.sub_le_sub_right hLo 25))) (wp_bind h) (fun v21 h => rs_back1 ?_))
      refine wp_jn (B := fun p22 : Int32 => ∀ lv, rs (rt_P sc fm) 441 F Lo 40 lv [.int p22] (hq false c y w) Q) h (fun p22 h lv => ?_) (fun j40 hj40 h => ?_)
      ·
        obtain ⟨g23, h⟩ := wp_gd h
        exact rs_iret wi_441_40 wr_441 (nb_n g23) (hQ (p22, c) h)
      refine rs_iflt (tg := 39) wi_441_32 ⟨by decide, by decide⟩ (fun q => ?_) (fun q => ?_)
      ·
        have h := wp_pos h q
        refine rs_pure wi_441_39 rfl ?_
        refine rs_topi (v := 0) (by decide) ?_
        exact hj40 _ h _
      ·
        have h := wp_neg h q
        refine rs_pure wi_441_35 rfl ?_
        refine rs_topi (v := 1) (by decide) ?_
        refine rs_goto (tg := 40) wi_441_36 ⟨by decide, by decide⟩ ?_
        exact hj40 _ h _
  ·
    have h := wp_neg h q
    refine rs_pure wi_441_9 rfl ?_
    refine rs_topi (v := 1) (by decide) ?_
    exact rs_iret wi_441_10 wr_441 (nb_n (by decide)) (hQ (1, c) h)
theorem wf_440_227 : rx_ft (rt_P sc fm) 440 227 = some (15, 63) := (by decide +kernel : rt_ft 440 227 = some (15, 63))
theorem wf_440_231 : rx_ft (rt_P sc fm) 440 231 = some (15, 64) := (by decide +kernel : rt_ft 440 231 = some (15, 64))
theorem wi_440_0 : ri (rt_P sc fm) 440 0 (.iconst 0) (1) := ri_of (by decide +kernel) rfl
theorem wi_440_1 : ri (rt_P sc fm) 440 1 (.istore 4) (3) := ri_of (by decide +kernel) rfl
theorem wi_440_12 : ri (rt_P sc fm) 440 12 (.iload_n 1) (13) := ri_of (by decide +kernel) rfl
theorem wi_440_13 : ri (rt_P sc fm) 440 13 (.iaload) (14) := ri_of (by decide +kernel) rfl
theorem wi_440_14 : ri (rt_P sc fm) 440 14 (.if_icmp .ge 37) (17) := ri_of (by decide +kernel) rfl
theorem wi_440_17 : ri (rt_P sc fm) 440 17 (.iload 4) (19) := ri_of (by decide +kernel) rfl
theorem wi_440_19 : ri (rt_P sc fm) 440 19 (.ifCond .ne 19) (22) := ri_of (by decide +kernel) rfl
theorem wi_440_22 : ri (rt_P sc fm) 440 22 (.aload_n 0) (23) := ri_of (by decide +kernel) rfl
theorem wi_440_23 : ri (rt_P sc fm) 440 23 (.getfield 231) (26) := ri_of (by decide +kernel) rfl
theorem wi_440_26 : ri (rt_P sc fm) 440 26 (.iload_n 1) (27) := ri_of (by decide +kernel) rfl
theorem wi_440_27 : ri (rt_P sc fm) 440 27 (.iconst 4) (28) := ri_of (by decide +kernel) rfl
theorem wi_440_28 : ri (rt_P sc fm) 440 28 (.imul) (29) := ri_of (by decide +kernel) rfl
theorem wi_440_29 : ri (rt_P sc fm) 440 29 (.iload 5) (31) := ri_of (by decide +kernel) rfl
theorem wi_440_3 : ri (rt_P sc fm) 440 3 (.iconst 0) (4) := ri_of (by decide +kernel) rfl
theorem wi_440_31 : ri (rt_P sc fm) 440 31 (.iadd) (32) := ri_of (by decide +kernel) rfl
theorem wi_440_32 : ri (rt_P sc fm) 440 32 (.laload) (33) := ri_of (by decide +kernel) rfl
theorem wi_440_33 : ri (rt_P sc fm) 440 33 (.lload_n 2) (34) := ri_of (by decide +kernel) rfl
theorem wi_440_34 : ri (rt_P sc fm) 440 34 (.lcmp) (35) := ri_of (by decide +kernel) rfl
theorem wi_440_35 : ri (rt_P sc fm) 440 35 (.ifCond .ne 7) (38) := ri_of (by decide +kernel) rfl
theorem wi_440_38 : ri (rt_P sc fm) 440 38 (.iconst 1) (39) := ri_of (by decide +kernel) rfl
theorem wi_440_39 : ri (rt_P sc fm) 440 39 (.goto 4) (42) := ri_of (by decide +kernel) rfl
theorem wi_440_4 : ri (rt_P sc fm) 440 4 (.istore 5) (6) := ri_of (by decide +kernel) rfl
theorem wi_440_42 : ri (rt_P sc fm) 440 42 (.iconst 0) (43) := ri_of (by decide +kernel) rfl
theorem wi_440_43 : ri (rt_P sc fm) 440 43 (.istore 4) (45) := ri_of (by decide +kernel) rfl
theorem wi_440_45 : ri (rt_P sc fm) 440 45 (.iinc 5 1) (48) := ri_of (by decide +kernel) rfl
theorem wi_440_48 : ri (rt_P sc fm) 440 48 (.goto (-42)) (51) := ri_of (by decide +kernel) rfl
theorem wi_440_51 : ri (rt_P sc fm) 440 51 (.iload 4) (53) := ri_of (by decide +kernel) rfl
theorem wi_440_53 : ri (rt_P sc fm) 440 53 (.ireturn) (54) := ri_of (by decide +kernel) rfl
theorem wi_440_6 : ri (rt_P sc fm) 440 6 (.iload 5) (8) := ri_of (by decide +kernel) rfl
theorem wi_440_8 : ri (rt_P sc fm) 440 8 (.aload_n 0) (9) := ri_of (by decide +kernel) rfl
theorem wi_440_9 : ri (rt_P sc fm) 440 9 (.getfield 227) (12) := ri_of (by decide +kernel) rfl
theorem wr_440 : rx_rt (rt_P sc fm) 440 = (some FieldType.boolean) := (by decide +kernel : rt_rt 440 = (some FieldType.boolean))
/-- MarkHouseModel.hasPair(IJ)Z -/
def d_440 (n : Nat) (a1 : Int32) (a2 : Int64) (c : cS) : Option (Int32) :=
  Option.bind (whl (R := (Int32)) (fun s3 : Int32 × Int32 =>
    if ib a1 24380 then
    if (c.1 225 (ix a1)) ≤ s3.2 then
      some (.inr s3.1)
    else
      jn (fun p5 : Int32 =>
        lt (s3.2 + 1 : Int32) (fun v8 =>
        some (.inl (p5, v8))))
      (fun j43 =>
      jn (fun p10 : Unit =>
        j43 1)
      (fun j38 =>
      if s3.1 = 0 then
        if ib ((a1 * 4) + s3.2) 97520 then
        if (lg_cmp (c.2 226 (ix ((a1 * 4) + s3.2))) a2) = 0 then
          j38 ()
        else
          j43 0
        else none
      else
        j38 ()))
    else none) n (0, 0))
  (fun x12 : Int32 =>
    if nb x12 then
    some x12
    else none)
set_option maxRecDepth 100000 in
set_option maxHeartbeats 4000000 in
theorem sp_440 {F Lo n : Nat} {a1 : Int32} {a2 : Int64} {c y : cS} {w : cW} {K : Int32 → Prop} {Q : ((Option Value) ⊕ String) → List va_E → Prop} (hw : rOK fm w) (hF : 0 ≤ F) (hLo : 0 ≤ Lo)  (h : wp (d_440 n a1 a2 c) K) (hQ : ∀ r, K r → Q (.inl (some (.int r))) (hq false c y w)) : rs (rt_P sc fm) 440 F Lo 0 [(0, .ref 174), (1, .int a1), (2, .long a2)] [] (hq false c y w) Q := by
  unfold d_440 at h
  obtain ⟨lv, elv⟩ : ∃ lv : rx_L, lv = [(0, .ref 174), (1, .int a1), (2, .long a2)] := ⟨_, rfl⟩
  rw [← elv]
  have l0 : rx_ld lv 0 = some (.ref 174) := by rw [elv]; rfl
  have l1 : rx_ld lv 1 = some (.int a1) := by rw [elv]; rfl
  have l2 : rx_ld lv 2 = some (.long a2) := by rw [elv]; rfl
  refine rs_pure wi_440_0 rfl ?_
  refine rs_topi (v := 0) (by decide) ?_
  refine dl_ist wi_440_1 rfl (fun lv l4 t1 => ?_)
  have l0 := t1 _ _ (by decide) (Or.inl rfl) l0
  have l1 := t1 _ _ (by decide) (Or.inl rfl) l1
  have l2 := t1 _ _ (by decide) (Or.inr (by decide)) l2
  refine rs_pure wi_440_3 rfl ?_
  refine rs_topi (v := 0) (by decide) ?_
  refine dl_ist wi_440_4 rfl (fun lv l5 t2 => ?_)
  have l0 := t2 _ _ (by decide) (Or.inl rfl) l0
  have l1 := t2 _ _ (by decide) (Or.inl rfl) l1
  have l2 := t2 _ _ (by decide) (Or.inr (by decide)) l2
  have l4 := t2 _ _ (by decide) (Or.inl rfl) l4
  refine whl_ex (A := fun s3 : Int32 × Int32 => ∀ lv, rx_ld lv 0 = some (.ref 174) → rx_ld lv 1 = some (.int a1) → rx_ld lv 2 = some (.long a2) → rx_ld lv 4 = some (.int s3.1) → rx_ld lv 5 = some (.int s3.2) → rs (rt_P sc fm) 440 F Lo 6 lv [] (hq false c y w) Q) (B := (fun x12 : Int32 => ∀ lv, rx_ld lv 4 = some (.int x12) → rs (rt_P sc fm) 440 F Lo 51 lv [] (hq false c y w) Q)) ?_ ?_ _ _ (wp_bind h) _ l0 l1 l2 l4 l5
  · intro s3 h lv l0 l1 l2 l4 l5
    refine rs_ild wi_440_6 l5 ?_
    refine rs_aldn wi_440_8 l0 ?_
    refine dq_gr wi_440_9 wf_440_227 tf_174_63 ?_
    refine rs_ildn wi_440_12 l1 ?_
    obtain ⟨g4, h⟩ := wp_gd h
    refine dq_iald wi_440_13 t_225 g4 ?_
    refine rs_icge (tg := 51) wi_440_14 ⟨by decide, by decide⟩ (fun q => ?_) (fun q => ?_)
    ·
      have h := wp_pos h q
      exact h _ l4
    ·
      have h := wp_neg h q
      refine rs_ild wi_440_17 l4 ?_
      refine wp_jn (B := fun p5 : Int32 => ∀ lv, rx_ld lv 0 = some (.ref 174) → rx_ld lv 1 = some (.int a1) → rx_ld lv 2 = some (.long a2) → rx_ld lv 5 = some (.int s3.2) → rs (rt_P sc fm) 440 F Lo 43 lv [.int p5] (hq false c y w) Q) h (fun p5 h lv l0 l1 l2 l5 => ?_) (fun j43 hj43 h => ?_)
      ·
        refine dl_ist wi_440_43 rfl (fun lv l4 t6 => ?_)
        have l0 := t6 _ _ (by decide) (Or.inl rfl) l0
        have l1 := t6 _ _ (by decide) (Or.inl rfl) l1
        have l2 := t6 _ _ (by decide) (Or.inr (by decide)) l2
        have l5 := t6 _ _ (by decide) (Or.inl rfl) l5
        obtain ⟨v8, e9, h⟩ := wp_lt h
        refine dl_inc wi_440_45 l5 rfl e9 (fun lv l5 t7 => ?_)
        have l0 := t7 _ _ (by decide) (Or.inl rfl) l0
        have l1 := t7 _ _ (by decide) (Or.inl rfl) l1
        have l2 := t7 _ _ (by decide) (Or.inr (by decide)) l2
        have l4 := t7 _ _ (by decide) (Or.inl rfl) l4
        refine rs_goto (tg := 6) wi_440_48 ⟨by decide, by decide⟩ ?_
        exact h _ l0 l1 l2 l4 l5
      refine wp_jn (B := fun p10 : Unit => ∀ lv, rx_ld lv 0 = some (.ref 174) → rx_ld lv 1 = some (.int a1) → rx_ld lv 2 = some (.long a2) → rx_ld lv 5 = some (.int s3.2) → rs (rt_P sc fm) 440 F Lo 38 lv [] (hq false c y w) Q) h (fun p10 h lv l0 l1 l2 l5 => ?_) (fun j38 hj38 h => ?_)
      ·
        refine rs_pure wi_440_38 rfl ?_
        refine rs_topi (v := 1) (by decide) ?_
        refine rs_goto (tg := 43) wi_440_39 ⟨by decide, by decide⟩ ?_
        exact hj43 _ h _ l0 l1 l2 l5
      refine rs_ifne (tg := 38) wi_440_19 ⟨by decide, by decide⟩ (fun q => ?_) (fun q => ?_)
      ·
        have h := wp_neg h q
        exact hj38 _ h _ l0 l1 l2 l5
      ·
        have h := wp_pos h q
        refine rs_aldn wi_440_22 l0 ?_
        refine dq_gr wi_440_23 wf_440_231 tf_174_64 ?_
        refine rs_ildn wi_440_26 l1 ?_
        refine rs_pure wi_440_27 rfl ?_
        refine rs_topi (v := 4) (by decide) ?_
        refine rs_pure wi_440_28 rfl ?_
        refine rs_ild wi_440_29 l5 ?_
        refine rs_pure wi_440_31 rfl ?_
        obtain ⟨g11, h⟩ := wp_gd h
        refine dq_lald wi_440_32 t_226 g11 ?_
        refine rs_lldn wi_440_33 l2 ?_
        refine rs_pure wi_440_34 rfl ?_
        refine rs_ifne (tg := 42) wi_440_35 ⟨by decide, by decide⟩ (fun q => ?_) (fun q => ?_)
        ·
          have h := wp_neg h q
          refine rs_pure wi_440_42 rfl ?_
          refine rs_topi (v := 0) (by decide) ?_
          exact hj43 _ h _ l0 l1 l2 l5
        ·
          have h := wp_pos h q
          exact hj38 _ h _ l0 l1 l2 l5
  ·
    intro x12 h lv l4
    refine rs_ild wi_440_51 l4 ?_
    obtain ⟨g13, h⟩ := wp_gd h
    exact rs_iret wi_440_53 wr_440 (nb_n g13) (hQ x12 h)
theorem wsb_13 : (rt_sb 13).isSome = true := by decide +kernel
theorem wsb_49 : (rt_sb 49).isSome = true := by decide +kernel
theorem wsb_50 : (rt_sb 50).isSome = true := by decide +kernel
theorem wsb_52 : (rt_sb 52).isSome = true := by decide +kernel
theorem wsb_53 : (rt_sb 53).isSome = true := by decide +kernel
theorem wsb_54 : (rt_sb 54).isSome = true := by decide +kernel
theorem wa_15_365 : rz_cn 15 (rx_yn (rt_P sc fm) 365).cls = true := (by decide +kernel : rz_cn 15 (rt_yn 365).cls = true)
theorem wa_15_366 : rz_cn 15 (rx_yn (rt_P sc fm) 366).cls = true := (by decide +kernel : rz_cn 15 (rt_yn 366).cls = true)
theorem wa_15_440 : rz_cn 15 (rx_yn (rt_P sc fm) 440).cls = true := (by decide +kernel : rz_cn 15 (rt_yn 440).cls = true)
theorem wc_439_402 : rx_ct (rt_P sc fm) 439 402 = some (0, 362, 1) := (by decide +kernel : rt_ct 439 402 = some (0, 362, 1))
theorem wc_439_459 : rx_ct (rt_P sc fm) 439 459 = some (0, 372, 1) := (by decide +kernel : rt_ct 439 459 = some (0, 372, 1))
theorem wc_439_462 : rx_ct (rt_P sc fm) 439 462 = some (0, 373, 1) := (by decide +kernel : rt_ct 439 462 = some (0, 373, 1))
theorem wc_439_700 : rx_ct (rt_P sc fm) 439 700 = some (0, 430, 2) := (by decide +kernel : rt_ct 439 700 = some (0, 430, 2))
theorem wc_439_706 : rx_ct (rt_P sc fm) 439 706 = some (0, 429, 3) := (by decide +kernel : rt_ct 439 706 = some (0, 429, 3))
theorem wc_439_765 : rx_ct (rt_P sc fm) 439 765 = some (0, 363, 1) := (by decide +kernel : rt_ct 439 765 = some (0, 363, 1))
theorem wc_439_770 : rx_ct (rt_P sc fm) 439 770 = some (0, 440, 2) := (by decide +kernel : rt_ct 439 770 = some (0, 440, 2))
theorem wc_439_780 : rx_ct (rt_P sc fm) 439 780 = some (0, 366, 1) := (by decide +kernel : rt_ct 439 780 = some (0, 366, 1))
theorem wc_439_783 : rx_ct (rt_P sc fm) 439 783 = some (0, 365, 1) := (by decide +kernel : rt_ct 439 783 = some (0, 365, 1))
theorem wf_439_100 : rx_ft (rt_P sc fm) 439 100 = some (15, 18) := (by decide +kernel : rt_ft 439 100 = some (15, 18))
theorem wf_439_122 : rx_ft (rt_P sc fm) 439 122 = some (15, 26) := (by decide +kernel : rt_ft 439 122 = some (15, 26))
theorem wf_439_125 : rx_ft (rt_P sc fm) 439 125 = some (15, 27) := (by decide +kernel : rt_ft 439 125 = some (15, 27))
theorem wf_439_221 : rx_ft (rt_P sc fm) 439 221 = some (15, 61) := (by decide +kernel : rt_ft 439 221 = some (15, 61))
theorem wf_439_224 : rx_ft (rt_P sc fm) 439 224 = some (15, 62) := (by decide +kernel : rt_ft 439 224 = some (15, 62))
theorem wf_439_697 : rx_ft (rt_P sc fm) 439 697 = some (15, 79) := (by decide +kernel : rt_ft 439 697 = some (15, 79))
theorem wi_439_0 : ri (rt_P sc fm) 439 0 (.aload_n 0) (1) := ri_of (by decide +kernel) rfl
theorem wi_439_1 : ri (rt_P sc fm) 439 1 (.aload_n 0) (2) := ri_of (by decide +kernel) rfl
theorem wi_439_10 : ri (rt_P sc fm) 439 10 (.istore_n 2) (11) := ri_of (by decide +kernel) rfl
theorem wi_439_100 : ri (rt_P sc fm) 439 100 (.istore 5) (102) := ri_of (by decide +kernel) rfl
theorem wi_439_102 : ri (rt_P sc fm) 439 102 (.iload 5) (104) := ri_of (by decide +kernel) rfl
theorem wi_439_104 : ri (rt_P sc fm) 439 104 (.aload_n 0) (105) := ri_of (by decide +kernel) rfl
theorem wi_439_105 : ri (rt_P sc fm) 439 105 (.getfield 122) (108) := ri_of (by decide +kernel) rfl
theorem wi_439_108 : ri (rt_P sc fm) 439 108 (.iload_n 3) (109) := ri_of (by decide +kernel) rfl
theorem wi_439_109 : ri (rt_P sc fm) 439 109 (.iaload) (110) := ri_of (by decide +kernel) rfl
theorem wi_439_11 : ri (rt_P sc fm) 439 11 (.aload_n 0) (12) := ri_of (by decide +kernel) rfl
theorem wi_439_110 : ri (rt_P sc fm) 439 110 (.if_icmp .ge 110) (113) := ri_of (by decide +kernel) rfl
theorem wi_439_113 : ri (rt_P sc fm) 439 113 (.aload_n 0) (114) := ri_of (by decide +kernel) rfl
theorem wi_439_114 : ri (rt_P sc fm) 439 114 (.iload_n 1) (115) := ri_of (by decide +kernel) rfl
theorem wi_439_115 : ri (rt_P sc fm) 439 115 (.aload_n 0) (116) := ri_of (by decide +kernel) rfl
theorem wi_439_116 : ri (rt_P sc fm) 439 116 (.getfield 125) (119) := ri_of (by decide +kernel) rfl
theorem wi_439_119 : ri (rt_P sc fm) 439 119 (.iconst 4) (120) := ri_of (by decide +kernel) rfl
theorem wi_439_12 : ri (rt_P sc fm) 439 12 (.ldc_w 763) (15) := ri_of (by decide +kernel) rfl
theorem wi_439_120 : ri (rt_P sc fm) 439 120 (.iload_n 3) (121) := ri_of (by decide +kernel) rfl
theorem wi_439_121 : ri (rt_P sc fm) 439 121 (.imul) (122) := ri_of (by decide +kernel) rfl
theorem wi_439_122 : ri (rt_P sc fm) 439 122 (.iload 5) (124) := ri_of (by decide +kernel) rfl
theorem wi_439_124 : ri (rt_P sc fm) 439 124 (.iadd) (125) := ri_of (by decide +kernel) rfl
theorem wi_439_125 : ri (rt_P sc fm) 439 125 (.laload) (126) := ri_of (by decide +kernel) rfl
theorem wi_439_126 : ri (rt_P sc fm) 439 126 (.invokevirtual 770) (129) := ri_of (by decide +kernel) rfl
theorem wi_439_129 : ri (rt_P sc fm) 439 129 (.ifCond .ne 6) (132) := ri_of (by decide +kernel) rfl
theorem wi_439_132 : ri (rt_P sc fm) 439 132 (.goto 82) (135) := ri_of (by decide +kernel) rfl
theorem wi_439_135 : ri (rt_P sc fm) 439 135 (.aload_n 0) (136) := ri_of (by decide +kernel) rfl
theorem wi_439_136 : ri (rt_P sc fm) 439 136 (.iload 4) (138) := ri_of (by decide +kernel) rfl
theorem wi_439_138 : ri (rt_P sc fm) 439 138 (.ifCond .eq 9) (141) := ri_of (by decide +kernel) rfl
theorem wi_439_141 : ri (rt_P sc fm) 439 141 (.ldc_w 774) (144) := ri_of (by decide +kernel) rfl
theorem wi_439_144 : ri (rt_P sc fm) 439 144 (.goto 6) (147) := ri_of (by decide +kernel) rfl
theorem wi_439_147 : ri (rt_P sc fm) 439 147 (.ldc_w 776) (150) := ri_of (by decide +kernel) rfl
theorem wi_439_15 : ri (rt_P sc fm) 439 15 (.invokevirtual 402) (18) := ri_of (by decide +kernel) rfl
theorem wi_439_150 : ri (rt_P sc fm) 439 150 (.invokevirtual 402) (153) := ri_of (by decide +kernel) rfl
theorem wi_439_153 : ri (rt_P sc fm) 439 153 (.iconst 1) (154) := ri_of (by decide +kernel) rfl
theorem wi_439_154 : ri (rt_P sc fm) 439 154 (.istore 4) (156) := ri_of (by decide +kernel) rfl
theorem wi_439_156 : ri (rt_P sc fm) 439 156 (.aload_n 0) (157) := ri_of (by decide +kernel) rfl
theorem wi_439_157 : ri (rt_P sc fm) 439 157 (.aload_n 0) (158) := ri_of (by decide +kernel) rfl
theorem wi_439_158 : ri (rt_P sc fm) 439 158 (.getfield 125) (161) := ri_of (by decide +kernel) rfl
theorem wi_439_161 : ri (rt_P sc fm) 439 161 (.iconst 4) (162) := ri_of (by decide +kernel) rfl
theorem wi_439_162 : ri (rt_P sc fm) 439 162 (.iload_n 3) (163) := ri_of (by decide +kernel) rfl
theorem wi_439_163 : ri (rt_P sc fm) 439 163 (.imul) (164) := ri_of (by decide +kernel) rfl
theorem wi_439_164 : ri (rt_P sc fm) 439 164 (.iload 5) (166) := ri_of (by decide +kernel) rfl
theorem wi_439_166 : ri (rt_P sc fm) 439 166 (.iadd) (167) := ri_of (by decide +kernel) rfl
theorem wi_439_167 : ri (rt_P sc fm) 439 167 (.laload) (168) := ri_of (by decide +kernel) rfl
theorem wi_439_168 : ri (rt_P sc fm) 439 168 (.invokevirtual 765) (171) := ri_of (by decide +kernel) rfl
theorem wi_439_171 : ri (rt_P sc fm) 439 171 (.aload_n 0) (172) := ri_of (by decide +kernel) rfl
theorem wi_439_172 : ri (rt_P sc fm) 439 172 (.ldc_w 778) (175) := ri_of (by decide +kernel) rfl
theorem wi_439_175 : ri (rt_P sc fm) 439 175 (.invokevirtual 402) (178) := ri_of (by decide +kernel) rfl
theorem wi_439_178 : ri (rt_P sc fm) 439 178 (.aload_n 0) (179) := ri_of (by decide +kernel) rfl
theorem wi_439_179 : ri (rt_P sc fm) 439 179 (.iload_n 1) (180) := ri_of (by decide +kernel) rfl
theorem wi_439_18 : ri (rt_P sc fm) 439 18 (.aload_n 0) (19) := ri_of (by decide +kernel) rfl
theorem wi_439_180 : ri (rt_P sc fm) 439 180 (.iload_n 3) (181) := ri_of (by decide +kernel) rfl
theorem wi_439_181 : ri (rt_P sc fm) 439 181 (.iload 5) (183) := ri_of (by decide +kernel) rfl
theorem wi_439_183 : ri (rt_P sc fm) 439 183 (.invokevirtual 706) (186) := ri_of (by decide +kernel) rfl
theorem wi_439_186 : ri (rt_P sc fm) 439 186 (.istore 6) (188) := ri_of (by decide +kernel) rfl
theorem wi_439_188 : ri (rt_P sc fm) 439 188 (.iload 6) (190) := ri_of (by decide +kernel) rfl
theorem wi_439_19 : ri (rt_P sc fm) 439 19 (.getfield 224) (22) := ri_of (by decide +kernel) rfl
theorem wi_439_190 : ri (rt_P sc fm) 439 190 (.iconst 2) (191) := ri_of (by decide +kernel) rfl
theorem wi_439_191 : ri (rt_P sc fm) 439 191 (.if_icmp .ne 14) (194) := ri_of (by decide +kernel) rfl
theorem wi_439_194 : ri (rt_P sc fm) 439 194 (.aload_n 0) (195) := ri_of (by decide +kernel) rfl
theorem wi_439_195 : ri (rt_P sc fm) 439 195 (.aload_n 0) (196) := ri_of (by decide +kernel) rfl
theorem wi_439_196 : ri (rt_P sc fm) 439 196 (.getfield 697) (199) := ri_of (by decide +kernel) rfl
theorem wi_439_199 : ri (rt_P sc fm) 439 199 (.invokevirtual 780) (202) := ri_of (by decide +kernel) rfl
theorem wi_439_2 : ri (rt_P sc fm) 439 2 (.getfield 221) (5) := ri_of (by decide +kernel) rfl
theorem wi_439_202 : ri (rt_P sc fm) 439 202 (.goto 12) (205) := ri_of (by decide +kernel) rfl
theorem wi_439_205 : ri (rt_P sc fm) 439 205 (.aload_n 0) (206) := ri_of (by decide +kernel) rfl
theorem wi_439_206 : ri (rt_P sc fm) 439 206 (.aload_n 0) (207) := ri_of (by decide +kernel) rfl
theorem wi_439_207 : ri (rt_P sc fm) 439 207 (.getfield 697) (210) := ri_of (by decide +kernel) rfl
theorem wi_439_210 : ri (rt_P sc fm) 439 210 (.l2i) (211) := ri_of (by decide +kernel) rfl
theorem wi_439_211 : ri (rt_P sc fm) 439 211 (.invokevirtual 783) (214) := ri_of (by decide +kernel) rfl
theorem wi_439_214 : ri (rt_P sc fm) 439 214 (.iinc 5 1) (217) := ri_of (by decide +kernel) rfl
theorem wi_439_217 : ri (rt_P sc fm) 439 217 (.goto (-115)) (220) := ri_of (by decide +kernel) rfl
theorem wi_439_22 : ri (rt_P sc fm) 439 22 (.iload_n 1) (23) := ri_of (by decide +kernel) rfl
theorem wi_439_220 : ri (rt_P sc fm) 439 220 (.iload 4) (222) := ri_of (by decide +kernel) rfl
theorem wi_439_222 : ri (rt_P sc fm) 439 222 (.ifCond .eq 10) (225) := ri_of (by decide +kernel) rfl
theorem wi_439_225 : ri (rt_P sc fm) 439 225 (.aload_n 0) (226) := ri_of (by decide +kernel) rfl
theorem wi_439_226 : ri (rt_P sc fm) 439 226 (.ldc_w 786) (229) := ri_of (by decide +kernel) rfl
theorem wi_439_229 : ri (rt_P sc fm) 439 229 (.invokevirtual 402) (232) := ri_of (by decide +kernel) rfl
theorem wi_439_23 : ri (rt_P sc fm) 439 23 (.baload) (24) := ri_of (by decide +kernel) rfl
theorem wi_439_232 : ri (rt_P sc fm) 439 232 (.return_) (233) := ri_of (by decide +kernel) rfl
theorem wi_439_24 : ri (rt_P sc fm) 439 24 (.ifCond .eq 9) (27) := ri_of (by decide +kernel) rfl
theorem wi_439_27 : ri (rt_P sc fm) 439 27 (.aload_n 0) (28) := ri_of (by decide +kernel) rfl
theorem wi_439_28 : ri (rt_P sc fm) 439 28 (.ldc 40) (30) := ri_of (by decide +kernel) rfl
theorem wi_439_30 : ri (rt_P sc fm) 439 30 (.invokevirtual 402) (33) := ri_of (by decide +kernel) rfl
theorem wi_439_33 : ri (rt_P sc fm) 439 33 (.aload_n 0) (34) := ri_of (by decide +kernel) rfl
theorem wi_439_34 : ri (rt_P sc fm) 439 34 (.aload_n 0) (35) := ri_of (by decide +kernel) rfl
theorem wi_439_35 : ri (rt_P sc fm) 439 35 (.getfield 221) (38) := ri_of (by decide +kernel) rfl
theorem wi_439_38 : ri (rt_P sc fm) 439 38 (.iload_n 1) (39) := ri_of (by decide +kernel) rfl
theorem wi_439_39 : ri (rt_P sc fm) 439 39 (.laload) (40) := ri_of (by decide +kernel) rfl
theorem wi_439_40 : ri (rt_P sc fm) 439 40 (.invokevirtual 765) (43) := ri_of (by decide +kernel) rfl
theorem wi_439_43 : ri (rt_P sc fm) 439 43 (.aload_n 0) (44) := ri_of (by decide +kernel) rfl
theorem wi_439_44 : ri (rt_P sc fm) 439 44 (.getfield 224) (47) := ri_of (by decide +kernel) rfl
theorem wi_439_47 : ri (rt_P sc fm) 439 47 (.iload_n 1) (48) := ri_of (by decide +kernel) rfl
theorem wi_439_48 : ri (rt_P sc fm) 439 48 (.baload) (49) := ri_of (by decide +kernel) rfl
theorem wi_439_49 : ri (rt_P sc fm) 439 49 (.ifCond .eq 4) (52) := ri_of (by decide +kernel) rfl
theorem wi_439_5 : ri (rt_P sc fm) 439 5 (.iload_n 1) (6) := ri_of (by decide +kernel) rfl
theorem wi_439_52 : ri (rt_P sc fm) 439 52 (.return_) (53) := ri_of (by decide +kernel) rfl
theorem wi_439_53 : ri (rt_P sc fm) 439 53 (.iload_n 2) (54) := ri_of (by decide +kernel) rfl
theorem wi_439_54 : ri (rt_P sc fm) 439 54 (.ifCond .lt 31) (57) := ri_of (by decide +kernel) rfl
theorem wi_439_57 : ri (rt_P sc fm) 439 57 (.aload_n 0) (58) := ri_of (by decide +kernel) rfl
theorem wi_439_58 : ri (rt_P sc fm) 439 58 (.ldc_w 768) (61) := ri_of (by decide +kernel) rfl
theorem wi_439_6 : ri (rt_P sc fm) 439 6 (.laload) (7) := ri_of (by decide +kernel) rfl
theorem wi_439_61 : ri (rt_P sc fm) 439 61 (.invokevirtual 402) (64) := ri_of (by decide +kernel) rfl
theorem wi_439_64 : ri (rt_P sc fm) 439 64 (.aload_n 0) (65) := ri_of (by decide +kernel) rfl
theorem wi_439_65 : ri (rt_P sc fm) 439 65 (.aload_n 0) (66) := ri_of (by decide +kernel) rfl
theorem wi_439_66 : ri (rt_P sc fm) 439 66 (.getfield 100) (69) := ri_of (by decide +kernel) rfl
theorem wi_439_69 : ri (rt_P sc fm) 439 69 (.bipush 12) (71) := ri_of (by decide +kernel) rfl
theorem wi_439_7 : ri (rt_P sc fm) 439 7 (.invokevirtual 459) (10) := ri_of (by decide +kernel) rfl
theorem wi_439_71 : ri (rt_P sc fm) 439 71 (.iload_n 2) (72) := ri_of (by decide +kernel) rfl
theorem wi_439_72 : ri (rt_P sc fm) 439 72 (.imul) (73) := ri_of (by decide +kernel) rfl
theorem wi_439_73 : ri (rt_P sc fm) 439 73 (.aload_n 0) (74) := ri_of (by decide +kernel) rfl
theorem wi_439_74 : ri (rt_P sc fm) 439 74 (.iload_n 1) (75) := ri_of (by decide +kernel) rfl
theorem wi_439_75 : ri (rt_P sc fm) 439 75 (.iload_n 2) (76) := ri_of (by decide +kernel) rfl
theorem wi_439_76 : ri (rt_P sc fm) 439 76 (.invokevirtual 700) (79) := ri_of (by decide +kernel) rfl
theorem wi_439_79 : ri (rt_P sc fm) 439 79 (.iadd) (80) := ri_of (by decide +kernel) rfl
theorem wi_439_80 : ri (rt_P sc fm) 439 80 (.laload) (81) := ri_of (by decide +kernel) rfl
theorem wi_439_81 : ri (rt_P sc fm) 439 81 (.invokevirtual 765) (84) := ri_of (by decide +kernel) rfl
theorem wi_439_84 : ri (rt_P sc fm) 439 84 (.return_) (85) := ri_of (by decide +kernel) rfl
theorem wi_439_85 : ri (rt_P sc fm) 439 85 (.aload_n 0) (86) := ri_of (by decide +kernel) rfl
theorem wi_439_86 : ri (rt_P sc fm) 439 86 (.aload_n 0) (87) := ri_of (by decide +kernel) rfl
theorem wi_439_87 : ri (rt_P sc fm) 439 87 (.getfield 221) (90) := ri_of (by decide +kernel) rfl
theorem wi_439_90 : ri (rt_P sc fm) 439 90 (.iload_n 1) (91) := ri_of (by decide +kernel) rfl
theorem wi_439_91 : ri (rt_P sc fm) 439 91 (.laload) (92) := ri_of (by decide +kernel) rfl
theorem wi_439_92 : ri (rt_P sc fm) 439 92 (.invokevirtual 462) (95) := ri_of (by decide +kernel) rfl
theorem wi_439_95 : ri (rt_P sc fm) 439 95 (.istore_n 3) (96) := ri_of (by decide +kernel) rfl
theorem wi_439_96 : ri (rt_P sc fm) 439 96 (.iconst 0) (97) := ri_of (by decide +kernel) rfl
theorem wi_439_97 : ri (rt_P sc fm) 439 97 (.istore 4) (99) := ri_of (by decide +kernel) rfl
theorem wi_439_99 : ri (rt_P sc fm) 439 99 (.iconst 0) (100) := ri_of (by decide +kernel) rfl
theorem wk_439_40 : rx_kt (rt_P sc fm) 439 40 = some (.ref (rx_K 13)) := (by decide +kernel : rt_kt 439 40 = some (.ref (rx_K 13)))
theorem wk_439_763 : rx_kt (rt_P sc fm) 439 763 = some (.ref (rx_K 49)) := (by decide +kernel : rt_kt 439 763 = some (.ref (rx_K 49)))
theorem wk_439_768 : rx_kt (rt_P sc fm) 439 768 = some (.ref (rx_K 50)) := (by decide +kernel : rt_kt 439 768 = some (.ref (rx_K 50)))
theorem wk_439_774 : rx_kt (rt_P sc fm) 439 774 = some (.ref (rx_K 51)) := (by decide +kernel : rt_kt 439 774 = some (.ref (rx_K 51)))
theorem wk_439_776 : rx_kt (rt_P sc fm) 439 776 = some (.ref (rx_K 52)) := (by decide +kernel : rt_kt 439 776 = some (.ref (rx_K 52)))
theorem wk_439_778 : rx_kt (rt_P sc fm) 439 778 = some (.ref (rx_K 53)) := (by decide +kernel : rt_kt 439 778 = some (.ref (rx_K 53)))
theorem wk_439_786 : rx_kt (rt_P sc fm) 439 786 = some (.ref (rx_K 54)) := (by decide +kernel : rt_kt 439 786 = some (.ref (rx_K 54)))
theorem wm_365 : rx_ml (rt_P sc fm) 365 = 2 := (by decide +kernel : rt_ml 365 = 2)
theorem wm_366 : rx_ml (rt_P sc fm) 366 = 3 := (by decide +kernel : rt_ml 366 = 3)
theorem wm_440 : rx_ml (rt_P sc fm) 440 = 6 := (by decide +kernel : rt_ml 440 = 6)
theorem wr_439 : rx_rt (rt_P sc fm) 439 = none := (by decide +kernel : rt_rt 439 = none)
/-- MarkHouseModel.sayMark(I)V -/
def d_439 (n : Nat) (a1 : Int32) (c : cS) : Option (cS) :=
  if ib a1 24380 then
  Option.bind (d_372 n (c.2 223 (ix a1)) c) (fun v2 =>
  Option.bind (d_362 n 49 c) (fun r4 =>
  if ib a1 24380 then
  jn (fun p6 : cS =>
    if ib a1 24380 then
    Option.bind (d_363 n (p6.2 223 (ix a1)) p6) (fun r8 =>
    if ib a1 24380 then
    if (r8.1 224 (ix a1)) = 0 then
      if v2 < 0 then
        if ib a1 24380 then
        Option.bind (d_373 n (r8.2 223 (ix a1)) r8) (fun v11 =>
        Option.bind (whl (R := (Int32 × cS)) (fun s15 : Int32 × Int32 × cS =>
          if ib v11 12 then
          if (s15.2.2.1 190 (ix v11)) ≤ s15.2.1 then
            some (.inr (s15.1, s15.2.2))
          else
            if ib ((4 * v11) + s15.2.1) 48 then
            Option.bind (d_440 n a1 (s15.2.2.2 191 (ix ((4 * v11) + s15.2.1))) s15.2.2) (fun v18 =>
            jn (fun p19 : Int32 × cS =>
              lt (s15.2.1 + 1 : Int32) (fun v21 =>
              some (.inl (p19.1, v21, p19.2))))
            (fun j214 =>
            if v18 = 0 then
              j214 (s15.1, s15.2.2)
            else
              jn (fun p23 : Nat =>
                Option.bind (d_362 n p23 s15.2.2) (fun r24 =>
                if ib ((4 * v11) + s15.2.1) 48 then
                Option.bind (d_363 n (r24.2 191 (ix ((4 * v11) + s15.2.1))) r24) (fun r27 =>
                Option.bind (d_362 n 53 r27) (fun r28 =>
                Option.bind (d_429 n a1 v11 s15.2.1 r28) (fun r29 =>
                if r29.1 = 2 then
                  Option.bind (d_366 n (r29.2.2 174 79) r29.2) (fun r32 =>
                  j214 (1, r32))
                else
                  Option.bind (d_365 n (((r29.2.2 174 79) : Int64).toInt32) r29.2) (fun r31 =>
                  j214 (1, r31)))))
                else none))
              (fun j150 =>
              if s15.1 = 0 then
                j150 52
              else
                j150 51)))
            else none
          else none) n (0, 0, r8))
        (fun x33 : Int32 × cS =>
          jn (fun p34 : cS =>
            some p34)
          (fun j232 =>
          if x33.1 = 0 then
            j232 x33.2
          else
            Option.bind (d_362 n 54 x33.2) (fun r35 =>
            j232 r35))))
        else none
      else
        Option.bind (d_362 n 50 r8) (fun r36 =>
        Option.bind (d_430 n a1 v2 r36) (fun v37 =>
        if ib ((12 * v2) + v37) 48 then
        Option.bind (d_363 n (r36.2 183 (ix ((12 * v2) + v37))) r36) (fun r39 =>
        some r39)
        else none))
    else
      some r8
    else none)
    else none)
  (fun j33 =>
  if (r4.1 224 (ix a1)) = 0 then
    j33 r4
  else
    Option.bind (d_362 n 13 r4) (fun r40 =>
    j33 r40))
  else none))
  else none
set_option maxRecDepth 100000 in
set_option maxHeartbeats 4000000 in
theorem sp_439 {F Lo n : Nat} {a1 : Int32} {c y : cS} {w : cW} {K : cS → Prop} {Q : ((Option Value) ⊕ String) → List va_E → Prop} (hw : rOK fm w) (hF : 6 ≤ F) (hLo : 128 ≤ Lo)  (h : wp (d_439 n a1 c) K) (hQ : ∀ r, K r → Q (.inl none) (hq false r y w)) : rs (rt_P sc fm) 439 F Lo 0 [(0, .ref 174), (1, .int a1)] [] (hq false c y w) Q := by
  unfold d_439 at h
  obtain ⟨lv, elv⟩ : ∃ lv : rx_L, lv = [(0, .ref 174), (1, .int a1)] := ⟨_, rfl⟩
  rw [← elv]
  have l0 : rx_ld lv 0 = some (.ref 174) := by rw [elv]; rfl
  have l1 : rx_ld lv 1 = some (.int a1) := by rw [elv]; rfl
  refine rs_aldn wi_439_0 l0 ?_
  refine rs_aldn wi_439_1 l0 ?_
  refine dq_gr wi_439_2 wf_439_221 tf_174_61 ?_
  refine rs_ildn wi_439_5 l1 ?_
  obtain ⟨g1, h⟩ := wp_gd h
  refine dq_lald wi_439_6 t_223 g1 ?_
  refine rs_V wi_439_7 wc_439_459 rfl (dq_isa tf_174_0 wa_15_372) (Nat.le_trans (by decide) hF) (ml_le wm_372 (Nat.le_trans (by decide) hLo)) rfl (sp_372 hw (Nat.le_trans (by decide : 0 ≤ 6 - 1) (Nat.sub_le_sub_right hF 1)) (ml_sub wm_372 (Nat.le_trans (by decide : 0 ≤ 128 - 23) (Nat.sub_le_sub_right hLo 23))) (wp_bind h) (fun v2 h => rs_back1 ?_))
  refine dl_istn wi_439_10 rfl (fun lv l2 t3 => ?_)
  have l0 := t3 _ _ (by decide) (Or.inl rfl) l0
  have l1 := t3 _ _ (by decide) (Or.inl rfl) l1
  refine rs_aldn wi_439_11 l0 ?_
  refine rs_ldcwS wi_439_12 wk_439_763 ?_
  refine rs_V wi_439_15 wc_439_402 rfl (dq_isa tf_174_0 wa_15_362) (Nat.le_trans (by decide) hF) (ml_le wm_362 (Nat.le_trans (by decide) hLo)) rfl (sp_362 hw (Nat.le_trans (by decide : 4 ≤ 6 - 1) (Nat.sub_le_sub_right hF 1)) (ml_sub wm_362 (Nat.le_trans (by decide : 85 ≤ 128 - 22) (Nat.sub_le_sub_right hLo 22))) wsb_49 (wp_bind h) (fun r4 h => rs_back0 ?_))
  refine rs_aldn wi_439_18 l0 ?_
  refine dq_gr wi_439_19 wf_439_224 tf_174_62 ?_
  refine rs_ildn wi_439_22 l1 ?_
  obtain ⟨g5, h⟩ := wp_gd h
  refine dq_zald wi_439_23 t_224 g5 ?_
  refine wp_jn (B := fun p6 : cS => ∀ lv, rx_ld lv 0 = some (.ref 174) → rx_ld lv 1 = some (.int a1) → rx_ld lv 2 = some (.int v2) → rs (rt_P sc fm) 439 F Lo 33 lv [] (hq false p6 y w) Q) h (fun p6 h lv l0 l1 l2 => ?_) (fun j33 hj33 h => ?_)
  ·
    refine rs_aldn wi_439_33 l0 ?_
    refine rs_aldn wi_439_34 l0 ?_
    refine dq_gr wi_439_35 wf_439_221 tf_174_61 ?_
    refine rs_ildn wi_439_38 l1 ?_
    obtain ⟨g7, h⟩ := wp_gd h
    refine dq_lald wi_439_39 t_223 g7 ?_
    refine rs_V wi_439_40 wc_439_765 rfl (dq_isa tf_174_0 wa_15_363) (Nat.le_trans (by decide) hF) (ml_le wm_363 (Nat.le_trans (by decide) hLo)) rfl (sp_363 hw (Nat.le_trans (by decide : 2 ≤ 6 - 1) (Nat.sub_le_sub_right hF 1)) (ml_sub wm_363 (Nat.le_trans (by decide : 44 ≤ 128 - 22) (Nat.sub_le_sub_right hLo 22))) (wp_bind h) (fun r8 h => rs_back0 ?_))
    refine rs_aldn wi_439_43 l0 ?_
    refine dq_gr wi_439_44 wf_439_224 tf_174_62 ?_
    refine rs_ildn wi_439_47 l1 ?_
    obtain ⟨g9, h⟩ := wp_gd h
    refine dq_zald wi_439_48 t_224 g9 ?_
    refine rs_ifeq (tg := 53) wi_439_49 ⟨by decide, by decide⟩ (fun q => ?_) (fun q => ?_)
    ·
      have h := wp_pos h q
      refine rs_ildn wi_439_53 l2 ?_
      refine rs_iflt (tg := 85) wi_439_54 ⟨by decide, by decide⟩ (fun q => ?_) (fun q => ?_)
      ·
        have h := wp_pos h q
        refine rs_aldn wi_439_85 l0 ?_
        refine rs_aldn wi_439_86 l0 ?_
        refine dq_gr wi_439_87 wf_439_221 tf_174_61 ?_
        refine rs_ildn wi_439_90 l1 ?_
        obtain ⟨g10, h⟩ := wp_gd h
        refine dq_lald wi_439_91 t_223 g10 ?_
        refine rs_V wi_439_92 wc_439_462 rfl (dq_isa tf_174_0 wa_15_373) (Nat.le_trans (by decide) hF) (ml_le wm_373 (Nat.le_trans (by decide) hLo)) rfl (sp_373 hw (Nat.le_trans (by decide : 0 ≤ 6 - 1) (Nat.sub_le_sub_right hF 1)) (ml_sub wm_373 (Nat.le_trans (by decide : 0 ≤ 128 - 23) (Nat.sub_le_sub_right hLo 23))) (wp_bind h) (fun v11 h => rs_back1 ?_))
        refine dl_istn wi_439_95 rfl (fun lv l3 t12 => ?_)
        have l0 := t12 _ _ (by decide) (Or.inl rfl) l0
        have l1 := t12 _ _ (by decide) (Or.inl rfl) l1
        refine rs_pure wi_439_96 rfl ?_
        refine rs_topi (v := 0) (by decide) ?_
        refine dl_ist wi_439_97 rfl (fun lv l4 t13 => ?_)
        have l0 := t13 _ _ (by decide) (Or.inl rfl) l0
        have l1 := t13 _ _ (by decide) (Or.inl rfl) l1
        have l3 := t13 _ _ (by decide) (Or.inl rfl) l3
        refine rs_pure wi_439_99 rfl ?_
        refine rs_topi (v := 0) (by decide) ?_
        refine dl_ist wi_439_100 rfl (fun lv l5 t14 => ?_)
        have l0 := t14 _ _ (by decide) (Or.inl rfl) l0
        have l1 := t14 _ _ (by decide) (Or.inl rfl) l1
        have l3 := t14 _ _ (by decide) (Or.inl rfl) l3
        have l4 := t14 _ _ (by decide) (Or.inl rfl) l4
        refine whl_ex (A := fun s15 : Int32 × Int32 × cS => ∀ lv, rx_ld lv 0 = some (.ref 174) → rx_ld lv 1 = some (.int a1) → rx_ld lv 3 = some (.int v11) → rx_ld lv 4 = some (.int s15.1) → rx_ld lv 5 = some (.int s15.2.1) → rs (rt_P sc fm) 439 F Lo 102 lv [] (hq false s15.2.2 y w) Q) (B := (fun x33 : Int32 × cS => ∀ lv, rx_ld lv 0 = some (.ref 174) → rx_ld lv 4 = some (.int x33.1) → rs (rt_P sc fm) 439 F Lo 220 lv [] (hq false x33.2 y w) Q)) ?_ ?_ _ _ (wp_bind h) _ l0 l1 l3 l4 l5
        · intro s15 h lv l0 l1 l3 l4 l5
          refine rs_ild wi_439_102 l5 ?_
          refine rs_aldn wi_439_104 l0 ?_
          refine dq_gr wi_439_105 wf_439_122 tf_174_26 ?_
          refine rs_ildn wi_439_108 l3 ?_
          obtain ⟨g16, h⟩ := wp_gd h
          refine dq_iald wi_439_109 t_190 g16 ?_
          refine rs_icge (tg := 220) wi_439_110 ⟨by decide, by decide⟩ (fun q => ?_) (fun q => ?_)
          ·
            have h := wp_pos h q
            exact h _ l0 l4
          ·
            have h := wp_neg h q
            refine rs_aldn wi_439_113 l0 ?_
            refine rs_ildn wi_439_114 l1 ?_
            refine rs_aldn wi_439_115 l0 ?_
            refine dq_gr wi_439_116 wf_439_125 tf_174_27 ?_
            refine rs_pure wi_439_119 rfl ?_
            refine rs_topi (v := 4) (by decide) ?_
            refine rs_ildn wi_439_120 l3 ?_
            refine rs_pure wi_439_121 rfl ?_
            refine rs_ild wi_439_122 l5 ?_
            refine rs_pure wi_439_124 rfl ?_
            obtain ⟨g17, h⟩ := wp_gd h
            refine dq_lald wi_439_125 t_191 g17 ?_
            refine rs_V wi_439_126 wc_439_770 rfl (dq_isa tf_174_0 wa_15_440) (Nat.le_trans (by decide) hF) (ml_le wm_440 (Nat.le_trans (by decide) hLo)) rfl (sp_440 hw (Nat.le_trans (by decide : 0 ≤ 6 - 1) (Nat.sub_le_sub_right hF 1)) (ml_sub wm_440 (Nat.le_trans (by decide : 0 ≤ 128 - 25) (Nat.sub_le_sub_right hLo 25))) (wp_bind h) (fun v18 h => rs_back1 ?_))
            refine wp_jn (B := fun p19 : Int32 × cS => ∀ lv, rx_ld lv 0 = some (.ref 174) → rx_ld lv 1 = some (.int a1) → rx_ld lv 3 = some (.int v11) → rx_ld lv 4 = some (.int p19.1) → rx_ld lv 5 = some (.int s15.2.1) → rs (rt_P sc fm) 439 F Lo 214 lv [] (hq false p19.2 y w) Q) h (fun p19 h lv l0 l1 l3 l4 l5 => ?_) (fun j214 hj214 h => ?_)
            ·
              obtain ⟨v21, e22, h⟩ := wp_lt h
              refine dl_inc wi_439_214 l5 rfl e22 (fun lv l5 t20 => ?_)
              have l0 := t20 _ _ (by decide) (Or.inl rfl) l0
              have l1 := t20 _ _ (by decide) (Or.inl rfl) l1
              have l3 := t20 _ _ (by decide) (Or.inl rfl) l3
              have l4 := t20 _ _ (by decide) (Or.inl rfl) l4
              refine rs_goto (tg := 102) wi_439_217 ⟨by decide, by decide⟩ ?_
              exact h _ l0 l1 l3 l4 l5
            refine rs_ifne (tg := 135) wi_439_129 ⟨by decide, by decide⟩ (fun q => ?_) (fun q => ?_)
            ·
              have h := wp_neg h q
              refine rs_aldn wi_439_135 l0 ?_
              refine rs_ild wi_439_136 l4 ?_
              refine wp_jn (B := fun p23 : Nat => ∀ lv, (rt_sb p23).isSome = true → rx_ld lv 0 = some (.ref 174) → rx_ld lv 1 = some (.int a1) → rx_ld lv 3 = some (.int v11) → rx_ld lv 5 = some (.int s15.2.1) → rs (rt_P sc fm) 439 F Lo 150 lv [.ref (rx_K p23), .ref 174] (hq false s15.2.2 y w) Q) h (fun p23 h lv hs150_0 l0 l1 l3 l5 => ?_) (fun j150 hj150 h => ?_)
              ·
                refine rs_V wi_439_150 wc_439_402 rfl (dq_isa tf_174_0 wa_15_362) (Nat.le_trans (by decide) hF) (ml_le wm_362 (Nat.le_trans (by decide) hLo)) rfl (sp_362 hw (Nat.le_trans (by decide : 4 ≤ 6 - 1) (Nat.sub_le_sub_right hF 1)) (ml_sub wm_362 (Nat.le_trans (by decide : 85 ≤ 128 - 22) (Nat.sub_le_sub_right hLo 22))) hs150_0 (wp_bind h) (fun r24 h => rs_back0 ?_))
                refine rs_pure wi_439_153 rfl ?_
                refine rs_topi (v := 1) (by decide) ?_
                refine dl_ist wi_439_154 rfl (fun lv l4 t25 => ?_)
                have l0 := t25 _ _ (by decide) (Or.inl rfl) l0
                have l1 := t25 _ _ (by decide) (Or.inl rfl) l1
                have l3 := t25 _ _ (by decide) (Or.inl rfl) l3
                have l5 := t25 _ _ (by decide) (Or.inl rfl) l5
                refine rs_aldn wi_439_156 l0 ?_
                refine rs_aldn wi_439_157 l0 ?_
                refine dq_gr wi_439_158 wf_439_125 tf_174_27 ?_
                refine rs_pure wi_439_161 rfl ?_
                refine rs_topi (v := 4) (by decide) ?_
                refine rs_ildn wi_439_162 l3 ?_
                refine rs_pure wi_439_163 rfl ?_
                refine rs_ild wi_439_164 l5 ?_
                refine rs_pure wi_439_166 rfl ?_
                obtain ⟨g26, h⟩ := wp_gd h
                refine dq_lald wi_439_167 t_191 g26 ?_
                refine rs_V wi_439_168 wc_439_765 rfl (dq_isa tf_174_0 wa_15_363) (Nat.le_trans (by decide) hF) (ml_le wm_363 (Nat.le_trans (by decide) hLo)) rfl (sp_363 hw (Nat.le_trans (by decide : 2 ≤ 6 - 1) (Nat.sub_le_sub_right hF 1)) (ml_sub wm_363 (Nat.le_trans (by decide : 44 ≤ 128 - 22) (Nat.sub_le_sub_right hLo 22))) (wp_bind h) (fun r27 h => rs_back0 ?_))
                refine rs_aldn wi_439_171 l0 ?_
                refine rs_ldcwS wi_439_172 wk_439_778 ?_
                refine rs_V wi_439_175 wc_439_402 rfl (dq_isa tf_174_0 wa_15_362) (Nat.le_trans (by decide) hF) (ml_le wm_362 (Nat.le_trans (by decide) hLo)) rfl (sp_362 hw (Nat.le_trans (by decide : 4 ≤ 6 - 1) (Nat.sub_le_sub_right hF 1)) (ml_sub wm_362 (Nat.le_trans (by decide : 85 ≤ 128 - 22) (Nat.sub_le_sub_right hLo 22))) wsb_53 (wp_bind h) (fun r28 h => rs_back0 ?_))
                refine rs_aldn wi_439_178 l0 ?_
                refine rs_ildn wi_439_179 l1 ?_
                refine rs_ildn wi_439_180 l3 ?_
                refine rs_ild wi_439_181 l5 ?_
                refine rs_V wi_439_183 wc_439_706 rfl (dq_isa tf_174_0 wa_15_429) (Nat.le_trans (by decide) hF) (ml_le wm_429 (Nat.le_trans (by decide) hLo)) rfl (sp_429 hw (Nat.le_trans (by decide : 0 ≤ 6 - 1) (Nat.sub_le_sub_right hF 1)) (ml_sub wm_429 (Nat.le_trans (by decide : 0 ≤ 128 - 26) (Nat.sub_le_sub_right hLo 26))) (wp_bind h) (fun r29 h => rs_back1 ?_))
                refine dl_ist wi_439_186 rfl (fun lv l6 t30 => ?_)
                have l0 := t30 _ _ (by decide) (Or.inl rfl) l0
                have l1 := t30 _ _ (by decide) (Or.inl rfl) l1
                have l3 := t30 _ _ (by decide) (Or.inl rfl) l3
                have l4 := t30 _ _ (by decide) (Or.inl rfl) l4
                have l5 := t30 _ _ (by decide) (Or.inl rfl) l5
                refine rs_ild wi_439_188 l6 ?_
                refine rs_pure wi_439_190 rfl ?_
                refine rs_topi (v := 2) (by decide) ?_
                refine rs_icne (tg := 205) wi_439_191 ⟨by decide, by decide⟩ (fun q => ?_) (fun q => ?_)
                ·
                  have h := wp_neg h q
                  refine rs_aldn wi_439_205 l0 ?_
                  refine rs_aldn wi_439_206 l0 ?_
                  refine dq_gl wi_439_207 wf_439_697 tf_174_79 ?_
                  refine rs_pure wi_439_210 rfl ?_
                  refine rs_V wi_439_211 wc_439_783 rfl (dq_isa tf_174_0 wa_15_365) (Nat.le_trans (by decide) hF) (ml_le wm_365 (Nat.le_trans (by decide) hLo)) rfl (sp_365 hw (Nat.le_trans (by decide : 5 ≤ 6 - 1) (Nat.sub_le_sub_right hF 1)) (ml_sub wm_365 (Nat.le_trans (by decide : 107 ≤ 128 - 21) (Nat.sub_le_sub_right hLo 21))) (wp_bind h) (fun r31 h => rs_back0 ?_))
                  exact hj214 _ h _ l0 l1 l3 l4 l5
                ·
                  have h := wp_pos h q
                  refine rs_aldn wi_439_194 l0 ?_
                  refine rs_aldn wi_439_195 l0 ?_
                  refine dq_gl wi_439_196 wf_439_697 tf_174_79 ?_
                  refine rs_V wi_439_199 wc_439_780 rfl (dq_isa tf_174_0 wa_15_366) (Nat.le_trans (by decide) hF) (ml_le wm_366 (Nat.le_trans (by decide) hLo)) rfl (sp_366 hw (Nat.le_trans (by decide : 2 ≤ 6 - 1) (Nat.sub_le_sub_right hF 1)) (ml_sub wm_366 (Nat.le_trans (by decide : 44 ≤ 128 - 22) (Nat.sub_le_sub_right hLo 22))) (wp_bind h) (fun r32 h => rs_back0 ?_))
                  refine rs_goto (tg := 214) wi_439_202 ⟨by decide, by decide⟩ ?_
                  exact hj214 _ h _ l0 l1 l3 l4 l5
              refine rs_ifeq (tg := 147) wi_439_138 ⟨by decide, by decide⟩ (fun q => ?_) (fun q => ?_)
              ·
                have h := wp_pos h q
                refine rs_ldcwS wi_439_147 wk_439_776 ?_
                exact hj150 _ h _ wsb_52 l0 l1 l3 l5
              ·
                have h := wp_neg h q
                refine rs_ldcwS wi_439_141 wk_439_774 ?_
                refine rs_goto (tg := 150) wi_439_144 ⟨by decide, by decide⟩ ?_
                exact hj150 _ h _ wsb_51 l0 l1 l3 l5
            ·
              have h := wp_pos h q
              refine rs_goto (tg := 214) wi_439_132 ⟨by decide, by decide⟩ ?_
              exact hj214 _ h _ l0 l1 l3 l4 l5
        ·
          intro x33 h lv l0 l4
          refine rs_ild wi_439_220 l4 ?_
          refine wp_jn (B := fun p34 : cS => ∀ lv, rs (rt_P sc fm) 439 F Lo 232 lv [] (hq false p34 y w) Q) h (fun p34 h lv => ?_) (fun j232 hj232 h => ?_)
          ·
            exact rs_vret wi_439_232 wr_439 (hQ p34 h)
          refine rs_ifeq (tg := 232) wi_439_222 ⟨by decide, by decide⟩ (fun q => ?_) (fun q => ?_)
          ·
            have h := wp_pos h q
            exact hj232 _ h _
          ·
            have h := wp_neg h q
            refine rs_aldn wi_439_225 l0 ?_
            refine rs_ldcwS wi_439_226 wk_439_786 ?_
            refine rs_V wi_439_229 wc_439_402 rfl (dq_isa tf_174_0 wa_15_362) (Nat.le_trans (by decide) hF) (ml_le wm_362 (Nat.le_trans (by decide) hLo)) rfl (sp_362 hw (Nat.le_trans (by decide : 4 ≤ 6 - 1) (Nat.sub_le_sub_right hF 1)) (ml_sub wm_362 (Nat.le_trans (by decide : 85 ≤ 128 - 22) (Nat.sub_le_sub_right hLo 22))) wsb_54 (wp_bind h) (fun r35 h => rs_back0 ?_))
            exact hj232 _ h _
      ·
        have h := wp_neg h q
        refine rs_aldn wi_439_57 l0 ?_
        refine rs_ldcwS wi_439_58 wk_439_768 ?_
        refine rs_V wi_439_61 wc_439_402 rfl (dq_isa tf_174_0 wa_15_362) (Nat.le_trans (by decide) hF) (ml_le wm_362 (Nat.le_trans (by decide) hLo)) rfl (sp_362 hw (Nat.le_trans (by decide : 4 ≤ 6 - 1) (Nat.sub_le_sub_right hF 1)) (ml_sub wm_362 (Nat.le_trans (by decide : 85 ≤ 128 - 22) (Nat.sub_le_sub_right hLo 22))) wsb_50 (wp_bind h) (fun r36 h => rs_back0 ?_))
        refine rs_aldn wi_439_64 l0 ?_
        refine rs_aldn wi_439_65 l0 ?_
        refine dq_gr wi_439_66 wf_439_100 tf_174_18 ?_
        refine rs_pure wi_439_69 rfl ?_
        refine rs_topi (v := 12) (by decide) ?_
        refine rs_ildn wi_439_71 l2 ?_
        refine rs_pure wi_439_72 rfl ?_
        refine rs_aldn wi_439_73 l0 ?_
        refine rs_ildn wi_439_74 l1 ?_
        refine rs_ildn wi_439_75 l2 ?_
        refine rs_V wi_439_76 wc_439_700 rfl (dq_isa tf_174_0 wa_15_430) (Nat.le_trans (by decide) hF) (ml_le wm_430 (Nat.le_trans (by decide) hLo)) rfl (sp_430 hw (Nat.le_trans (by decide : 1 ≤ 6 - 1) (Nat.sub_le_sub_right hF 1)) (ml_sub wm_430 (Nat.le_trans (by decide : 24 ≤ 128 - 25) (Nat.sub_le_sub_right hLo 25))) (wp_bind h) (fun v37 h => rs_back1 ?_))
        refine rs_pure wi_439_79 rfl ?_
        obtain ⟨g38, h⟩ := wp_gd h
        refine dq_lald wi_439_80 t_183 g38 ?_
        refine rs_V wi_439_81 wc_439_765 rfl (dq_isa tf_174_0 wa_15_363) (Nat.le_trans (by decide) hF) (ml_le wm_363 (Nat.le_trans (by decide) hLo)) rfl (sp_363 hw (Nat.le_trans (by decide : 2 ≤ 6 - 1) (Nat.sub_le_sub_right hF 1)) (ml_sub wm_363 (Nat.le_trans (by decide : 44 ≤ 128 - 22) (Nat.sub_le_sub_right hLo 22))) (wp_bind h) (fun r39 h => rs_back0 ?_))
        exact rs_vret wi_439_84 wr_439 (hQ r39 h)
    ·
      have h := wp_neg h q
      exact rs_vret wi_439_52 wr_439 (hQ r8 h)
  refine rs_ifeq (tg := 33) wi_439_24 ⟨by decide, by decide⟩ (fun q => ?_) (fun q => ?_)
  ·
    have h := wp_pos h q
    exact hj33 _ h _ l0 l1 l2
  ·
    have h := wp_neg h q
    refine rs_aldn wi_439_27 l0 ?_
    refine rs_ldcS wi_439_28 wk_439_40 ?_
    refine rs_V wi_439_30 wc_439_402 rfl (dq_isa tf_174_0 wa_15_362) (Nat.le_trans (by decide) hF) (ml_le wm_362 (Nat.le_trans (by decide) hLo)) rfl (sp_362 hw (Nat.le_trans (by decide : 4 ≤ 6 - 1) (Nat.sub_le_sub_right hF 1)) (ml_sub wm_362 (Nat.le_trans (by decide : 85 ≤ 128 - 22) (Nat.sub_le_sub_right hLo 22))) wsb_13 (wp_bind h) (fun r40 h => rs_back0 ?_))
    exact hj33 _ h _ l0 l1 l2
theorem wa_15_439 : rz_cn 15 (rx_yn (rt_P sc fm) 439).cls = true := (by decide +kernel : rz_cn 15 (rt_yn 439).cls = true)
theorem wa_15_441 : rz_cn 15 (rx_yn (rt_P sc fm) 441).cls = true := (by decide +kernel : rz_cn 15 (rt_yn 441).cls = true)
theorem wc_442_543 : rx_ct (rt_P sc fm) 442 543 = some (0, 392, 2) := (by decide +kernel : rt_ct 442 543 = some (0, 392, 2))
theorem wc_442_667 : rx_ct (rt_P sc fm) 442 667 = some (0, 425, 2) := (by decide +kernel : rt_ct 442 667 = some (0, 425, 2))
theorem wc_442_788 : rx_ct (rt_P sc fm) 442 788 = some (0, 441, 1) := (by decide +kernel : rt_ct 442 788 = some (0, 441, 1))
theorem wc_442_791 : rx_ct (rt_P sc fm) 442 791 = some (0, 439, 1) := (by decide +kernel : rt_ct 442 791 = some (0, 439, 1))
theorem wf_442_218 : rx_ft (rt_P sc fm) 442 218 = some (15, 60) := (by decide +kernel : rt_ft 442 218 = some (15, 60))
theorem wi_442_0 : ri (rt_P sc fm) 442 0 (.iconst 0) (1) := ri_of (by decide +kernel) rfl
theorem wi_442_1 : ri (rt_P sc fm) 442 1 (.istore_n 2) (2) := ri_of (by decide +kernel) rfl
theorem wi_442_12 : ri (rt_P sc fm) 442 12 (.iload_n 1) (13) := ri_of (by decide +kernel) rfl
theorem wi_442_13 : ri (rt_P sc fm) 442 13 (.sipush 1200) (16) := ri_of (by decide +kernel) rfl
theorem wi_442_16 : ri (rt_P sc fm) 442 16 (.if_icmp .ge 25) (19) := ri_of (by decide +kernel) rfl
theorem wi_442_19 : ri (rt_P sc fm) 442 19 (.aload_n 0) (20) := ri_of (by decide +kernel) rfl
theorem wi_442_2 : ri (rt_P sc fm) 442 2 (.iload_n 2) (3) := ri_of (by decide +kernel) rfl
theorem wi_442_20 : ri (rt_P sc fm) 442 20 (.iload_n 1) (21) := ri_of (by decide +kernel) rfl
theorem wi_442_21 : ri (rt_P sc fm) 442 21 (.iload_n 2) (22) := ri_of (by decide +kernel) rfl
theorem wi_442_22 : ri (rt_P sc fm) 442 22 (.invokevirtual 667) (25) := ri_of (by decide +kernel) rfl
theorem wi_442_25 : ri (rt_P sc fm) 442 25 (.ifCond .eq 26) (28) := ri_of (by decide +kernel) rfl
theorem wi_442_28 : ri (rt_P sc fm) 442 28 (.aload_n 0) (29) := ri_of (by decide +kernel) rfl
theorem wi_442_29 : ri (rt_P sc fm) 442 29 (.aload_n 0) (30) := ri_of (by decide +kernel) rfl
theorem wi_442_3 : ri (rt_P sc fm) 442 3 (.aload_n 0) (4) := ri_of (by decide +kernel) rfl
theorem wi_442_30 : ri (rt_P sc fm) 442 30 (.iload_n 1) (31) := ri_of (by decide +kernel) rfl
theorem wi_442_31 : ri (rt_P sc fm) 442 31 (.iload_n 2) (32) := ri_of (by decide +kernel) rfl
theorem wi_442_32 : ri (rt_P sc fm) 442 32 (.invokevirtual 543) (35) := ri_of (by decide +kernel) rfl
theorem wi_442_35 : ri (rt_P sc fm) 442 35 (.invokevirtual 788) (38) := ri_of (by decide +kernel) rfl
theorem wi_442_38 : ri (rt_P sc fm) 442 38 (.ifCond .eq 13) (41) := ri_of (by decide +kernel) rfl
theorem wi_442_4 : ri (rt_P sc fm) 442 4 (.getfield 218) (7) := ri_of (by decide +kernel) rfl
theorem wi_442_41 : ri (rt_P sc fm) 442 41 (.aload_n 0) (42) := ri_of (by decide +kernel) rfl
theorem wi_442_42 : ri (rt_P sc fm) 442 42 (.aload_n 0) (43) := ri_of (by decide +kernel) rfl
theorem wi_442_43 : ri (rt_P sc fm) 442 43 (.iload_n 1) (44) := ri_of (by decide +kernel) rfl
theorem wi_442_44 : ri (rt_P sc fm) 442 44 (.iload_n 2) (45) := ri_of (by decide +kernel) rfl
theorem wi_442_45 : ri (rt_P sc fm) 442 45 (.invokevirtual 543) (48) := ri_of (by decide +kernel) rfl
theorem wi_442_48 : ri (rt_P sc fm) 442 48 (.invokevirtual 791) (51) := ri_of (by decide +kernel) rfl
theorem wi_442_51 : ri (rt_P sc fm) 442 51 (.iinc 2 1) (54) := ri_of (by decide +kernel) rfl
theorem wi_442_54 : ri (rt_P sc fm) 442 54 (.goto (-52)) (57) := ri_of (by decide +kernel) rfl
theorem wi_442_57 : ri (rt_P sc fm) 442 57 (.return_) (58) := ri_of (by decide +kernel) rfl
theorem wi_442_7 : ri (rt_P sc fm) 442 7 (.iload_n 1) (8) := ri_of (by decide +kernel) rfl
theorem wi_442_8 : ri (rt_P sc fm) 442 8 (.iaload) (9) := ri_of (by decide +kernel) rfl
theorem wi_442_9 : ri (rt_P sc fm) 442 9 (.if_icmp .ge 48) (12) := ri_of (by decide +kernel) rfl
theorem wm_439 : rx_ml (rt_P sc fm) 439 = 7 := (by decide +kernel : rt_ml 439 = 7)
theorem wm_441 : rx_ml (rt_P sc fm) 441 = 6 := (by decide +kernel : rt_ml 441 = 6)
theorem wr_442 : rx_rt (rt_P sc fm) 442 = none := (by decide +kernel : rt_rt 442 = none)
/-- MarkHouseModel.sayMarks(I)V -/
def d_442 (n : Nat) (a1 : Int32) (c : cS) : Option (cS) :=
  Option.bind (whl (R := (cS)) (fun s2 : Int32 × cS =>
    if ib a1 1219 then
    if (s2.2.1 222 (ix a1)) ≤ s2.1 then
      some (.inr s2.2)
    else
      jn (fun p4 : cS =>
        lt (s2.1 + 1 : Int32) (fun v6 =>
        some (.inl (v6, p4))))
      (fun j51 =>
      jn (fun p8 : cS =>
        Option.bind (d_392 n a1 s2.1) (fun v9 =>
        Option.bind (d_439 n v9 p8) (fun r10 =>
        j51 r10)))
      (fun j41 =>
      if 1200 ≤ a1 then
        j41 s2.2
      else
        Option.bind (d_425 n a1 s2.1 s2.2) (fun v11 =>
        if v11 = 0 then
          j51 s2.2
        else
          Option.bind (d_392 n a1 s2.1) (fun v12 =>
          Option.bind (d_441 n v12 s2.2) (fun r13 =>
          if r13.1 = 0 then
            j51 r13.2
          else
            j41 r13.2)))))
    else none) n (0, c))
  (fun x14 : cS =>
    some x14)
set_option maxRecDepth 100000 in
set_option maxHeartbeats 4000000 in
theorem sp_442 {F Lo n : Nat} {a1 : Int32} {c y : cS} {w : cW} {K : cS → Prop} {Q : ((Option Value) ⊕ String) → List va_E → Prop} (hw : rOK fm w) (hF : 7 ≤ F) (hLo : 154 ≤ Lo)  (h : wp (d_442 n a1 c) K) (hQ : ∀ r, K r → Q (.inl none) (hq false r y w)) : rs (rt_P sc fm) 442 F Lo 0 [(0, .ref 174), (1, .int a1)] [] (hq false c y w) Q := by
  unfold d_442 at h
  obtain ⟨lv, elv⟩ : ∃ lv : rx_L, lv = [(0, .ref 174), (1, .int a1)] := ⟨_, rfl⟩
  rw [← elv]
  have l0 : rx_ld lv 0 = some (.ref 174) := by rw [elv]; rfl
  have l1 : rx_ld lv 1 = some (.int a1) := by rw [elv]; rfl
  refine rs_pure wi_442_0 rfl ?_
  refine rs_topi (v := 0) (by decide) ?_
  refine dl_istn wi_442_1 rfl (fun lv l2 t1 => ?_)
  have l0 := t1 _ _ (by decide) (Or.inl rfl) l0
  have l1 := t1 _ _ (by decide) (Or.inl rfl) l1
  refine whl_ex (A := fun s2 : Int32 × cS => ∀ lv, rx_ld lv 0 = some (.ref 174) → rx_ld lv 1 = some (.int a1) → rx_ld lv 2 = some (.int s2.1) → rs (rt_P sc fm) 442 F Lo 2 lv [] (hq false s2.2 y w) Q) (B := (fun x14 : cS => ∀ lv, rs (rt_P sc fm) 442 F Lo 57 lv [] (hq false x14 y w) Q)) ?_ ?_ _ _ (wp_bind h) _ l0 l1 l2
  · intro s2 h lv l0 l1 l2
    refine rs_ildn wi_442_2 l2 ?_
    refine rs_aldn wi_442_3 l0 ?_
    refine dq_gr wi_442_4 wf_442_218 tf_174_60 ?_
    refine rs_ildn wi_442_7 l1 ?_
    obtain ⟨g3, h⟩ := wp_gd h
    refine dq_iald wi_442_8 t_222 g3 ?_
    refine rs_icge (tg := 57) wi_442_9 ⟨by decide, by decide⟩ (fun q => ?_) (fun q => ?_)
    ·
      have h := wp_pos h q
      exact h _
    ·
      have h := wp_neg h q
      refine rs_ildn wi_442_12 l1 ?_
      refine rs_pure wi_442_13 rfl ?_
      refine rs_topi (v := 1200) (by decide) ?_
      refine wp_jn (B := fun p4 : cS => ∀ lv, rx_ld lv 0 = some (.ref 174) → rx_ld lv 1 = some (.int a1) → rx_ld lv 2 = some (.int s2.1) → rs (rt_P sc fm) 442 F Lo 51 lv [] (hq false p4 y w) Q) h (fun p4 h lv l0 l1 l2 => ?_) (fun j51 hj51 h => ?_)
      ·
        obtain ⟨v6, e7, h⟩ := wp_lt h
        refine dl_inc wi_442_51 l2 rfl e7 (fun lv l2 t5 => ?_)
        have l0 := t5 _ _ (by decide) (Or.inl rfl) l0
        have l1 := t5 _ _ (by decide) (Or.inl rfl) l1
        refine rs_goto (tg := 2) wi_442_54 ⟨by decide, by decide⟩ ?_
        exact h _ l0 l1 l2
      refine wp_jn (B := fun p8 : cS => ∀ lv, rx_ld lv 0 = some (.ref 174) → rx_ld lv 1 = some (.int a1) → rx_ld lv 2 = some (.int s2.1) → rs (rt_P sc fm) 442 F Lo 41 lv [] (hq false p8 y w) Q) h (fun p8 h lv l0 l1 l2 => ?_) (fun j41 hj41 h => ?_)
      ·
        refine rs_aldn wi_442_41 l0 ?_
        refine rs_aldn wi_442_42 l0 ?_
        refine rs_ildn wi_442_43 l1 ?_
        refine rs_ildn wi_442_44 l2 ?_
        refine rs_V wi_442_45 wc_442_543 rfl (dq_isa tf_174_0 wa_15_392) (Nat.le_trans (by decide) hF) (ml_le wm_392 (Nat.le_trans (by decide) hLo)) rfl (sp_392 (Nat.le_trans (by decide : 0 ≤ 7 - 1) (Nat.sub_le_sub_right hF 1)) (ml_sub wm_392 (Nat.le_trans (by decide : 0 ≤ 154 - 22) (Nat.sub_le_sub_right hLo 22))) (wp_bind h) (fun v9 h => rs_back1 ?_))
        refine rs_V wi_442_48 wc_442_791 rfl (dq_isa tf_174_0 wa_15_439) (Nat.le_trans (by decide) hF) (ml_le wm_439 (Nat.le_trans (by decide) hLo)) rfl (sp_439 hw (Nat.le_trans (by decide : 6 ≤ 7 - 1) (Nat.sub_le_sub_right hF 1)) (ml_sub wm_439 (Nat.le_trans (by decide : 128 ≤ 154 - 26) (Nat.sub_le_sub_right hLo 26))) (wp_bind h) (fun r10 h => rs_back0 ?_))
        exact hj51 _ h _ l0 l1 l2
      refine rs_icge (tg := 41) wi_442_16 ⟨by decide, by decide⟩ (fun q => ?_) (fun q => ?_)
      ·
        have h := wp_pos h q
        exact hj41 _ h _ l0 l1 l2
      ·
        have h := wp_neg h q
        refine rs_aldn wi_442_19 l0 ?_
        refine rs_ildn wi_442_20 l1 ?_
        refine rs_ildn wi_442_21 l2 ?_
        refine rs_V wi_442_22 wc_442_667 rfl (dq_isa tf_174_0 wa_15_425) (Nat.le_trans (by decide) hF) (ml_le wm_425 (Nat.le_trans (by decide) hLo)) rfl (sp_425 hw (Nat.le_trans (by decide : 1 ≤ 7 - 1) (Nat.sub_le_sub_right hF 1)) (ml_sub wm_425 (Nat.le_trans (by decide : 23 ≤ 154 - 29) (Nat.sub_le_sub_right hLo 29))) (wp_bind h) (fun v11 h => rs_back1 ?_))
        refine rs_ifeq (tg := 51) wi_442_25 ⟨by decide, by decide⟩ (fun q => ?_) (fun q => ?_)
        ·
          have h := wp_pos h q
          exact hj51 _ h _ l0 l1 l2
        ·
          have h := wp_neg h q
          refine rs_aldn wi_442_28 l0 ?_
          refine rs_aldn wi_442_29 l0 ?_
          refine rs_ildn wi_442_30 l1 ?_
          refine rs_ildn wi_442_31 l2 ?_
          refine rs_V wi_442_32 wc_442_543 rfl (dq_isa tf_174_0 wa_15_392) (Nat.le_trans (by decide) hF) (ml_le wm_392 (Nat.le_trans (by decide) hLo)) rfl (sp_392 (Nat.le_trans (by decide : 0 ≤ 7 - 1) (Nat.sub_le_sub_right hF 1)) (ml_sub wm_392 (Nat.le_trans (by decide : 0 ≤ 154 - 22) (Nat.sub_le_sub_right hLo 22))) (wp_bind h) (fun v12 h => rs_back1 ?_))
          refine rs_V wi_442_35 wc_442_788 rfl (dq_isa tf_174_0 wa_15_441) (Nat.le_trans (by decide) hF) (ml_le wm_441 (Nat.le_trans (by decide) hLo)) rfl (sp_441 hw (Nat.le_trans (by decide : 2 ≤ 7 - 1) (Nat.sub_le_sub_right hF 1)) (ml_sub wm_441 (Nat.le_trans (by decide : 49 ≤ 154 - 25) (Nat.sub_le_sub_right hLo 25))) (wp_bind h) (fun r13 h => rs_back1 ?_))
          refine rs_ifeq (tg := 51) wi_442_38 ⟨by decide, by decide⟩ (fun q => ?_) (fun q => ?_)
          ·
            have h := wp_pos h q
            exact hj51 _ h _ l0 l1 l2
          ·
            have h := wp_neg h q
            exact hj41 _ h _ l0 l1 l2
  ·
    intro x14 h lv
    exact rs_vret wi_442_57 wr_442 (hQ x14 h)
theorem wsb_10 : (rt_sb 10).isSome = true := by decide +kernel
theorem wsb_11 : (rt_sb 11).isSome = true := by decide +kernel
theorem wsb_12 : (rt_sb 12).isSome = true := by decide +kernel
theorem wsb_14 : (rt_sb 14).isSome = true := by decide +kernel
theorem wsb_15 : (rt_sb 15).isSome = true := by decide +kernel
theorem wsb_3 : (rt_sb 3).isSome = true := by decide +kernel
theorem wsb_4 : (rt_sb 4).isSome = true := by decide +kernel
theorem wsb_5 : (rt_sb 5).isSome = true := by decide +kernel
theorem wsb_6 : (rt_sb 6).isSome = true := by decide +kernel
theorem wsb_7 : (rt_sb 7).isSome = true := by decide +kernel
theorem wa_15_442 : rz_cn 15 (rx_yn (rt_P sc fm) 442).cls = true := (by decide +kernel : rz_cn 15 (rt_yn 442).cls = true)
theorem wc_445_402 : rx_ct (rt_P sc fm) 445 402 = some (0, 362, 1) := (by decide +kernel : rt_ct 445 402 = some (0, 362, 1))
theorem wc_445_765 : rx_ct (rt_P sc fm) 445 765 = some (0, 363, 1) := (by decide +kernel : rt_ct 445 765 = some (0, 363, 1))
theorem wc_445_780 : rx_ct (rt_P sc fm) 445 780 = some (0, 366, 1) := (by decide +kernel : rt_ct 445 780 = some (0, 366, 1))
theorem wc_445_783 : rx_ct (rt_P sc fm) 445 783 = some (0, 365, 1) := (by decide +kernel : rt_ct 445 783 = some (0, 365, 1))
theorem wc_445_803 : rx_ct (rt_P sc fm) 445 803 = some (0, 442, 1) := (by decide +kernel : rt_ct 445 803 = some (0, 442, 1))
theorem wf_445_119 : rx_ft (rt_P sc fm) 445 119 = some (15, 25) := (by decide +kernel : rt_ft 445 119 = some (15, 25))
theorem wf_445_122 : rx_ft (rt_P sc fm) 445 122 = some (15, 26) := (by decide +kernel : rt_ft 445 122 = some (15, 26))
theorem wf_445_125 : rx_ft (rt_P sc fm) 445 125 = some (15, 27) := (by decide +kernel : rt_ft 445 125 = some (15, 27))
theorem wf_445_128 : rx_ft (rt_P sc fm) 445 128 = some (15, 28) := (by decide +kernel : rt_ft 445 128 = some (15, 28))
theorem wf_445_131 : rx_ft (rt_P sc fm) 445 131 = some (15, 29) := (by decide +kernel : rt_ft 445 131 = some (15, 29))
theorem wf_445_134 : rx_ft (rt_P sc fm) 445 134 = some (15, 30) := (by decide +kernel : rt_ft 445 134 = some (15, 30))
theorem wf_445_137 : rx_ft (rt_P sc fm) 445 137 = some (15, 31) := (by decide +kernel : rt_ft 445 137 = some (15, 31))
theorem wf_445_140 : rx_ft (rt_P sc fm) 445 140 = some (15, 32) := (by decide +kernel : rt_ft 445 140 = some (15, 32))
theorem wf_445_143 : rx_ft (rt_P sc fm) 445 143 = some (15, 33) := (by decide +kernel : rt_ft 445 143 = some (15, 33))
theorem wf_445_218 : rx_ft (rt_P sc fm) 445 218 = some (15, 60) := (by decide +kernel : rt_ft 445 218 = some (15, 60))
theorem wi_445_0 : ri (rt_P sc fm) 445 0 (.aload_n 0) (1) := ri_of (by decide +kernel) rfl
theorem wi_445_1 : ri (rt_P sc fm) 445 1 (.ldc 20) (3) := ri_of (by decide +kernel) rfl
theorem wi_445_100 : ri (rt_P sc fm) 445 100 (.aload_n 0) (101) := ri_of (by decide +kernel) rfl
theorem wi_445_101 : ri (rt_P sc fm) 445 101 (.ldc_w 778) (104) := ri_of (by decide +kernel) rfl
theorem wi_445_104 : ri (rt_P sc fm) 445 104 (.invokevirtual 402) (107) := ri_of (by decide +kernel) rfl
theorem wi_445_107 : ri (rt_P sc fm) 445 107 (.aload_n 0) (108) := ri_of (by decide +kernel) rfl
theorem wi_445_108 : ri (rt_P sc fm) 445 108 (.getfield 128) (111) := ri_of (by decide +kernel) rfl
theorem wi_445_11 : ri (rt_P sc fm) 445 11 (.iload_n 1) (12) := ri_of (by decide +kernel) rfl
theorem wi_445_111 : ri (rt_P sc fm) 445 111 (.iload_n 3) (112) := ri_of (by decide +kernel) rfl
theorem wi_445_112 : ri (rt_P sc fm) 445 112 (.baload) (113) := ri_of (by decide +kernel) rfl
theorem wi_445_113 : ri (rt_P sc fm) 445 113 (.ifCond .eq 16) (116) := ri_of (by decide +kernel) rfl
theorem wi_445_116 : ri (rt_P sc fm) 445 116 (.aload_n 0) (117) := ri_of (by decide +kernel) rfl
theorem wi_445_117 : ri (rt_P sc fm) 445 117 (.aload_n 0) (118) := ri_of (by decide +kernel) rfl
theorem wi_445_118 : ri (rt_P sc fm) 445 118 (.getfield 134) (121) := ri_of (by decide +kernel) rfl
theorem wi_445_12 : ri (rt_P sc fm) 445 12 (.laload) (13) := ri_of (by decide +kernel) rfl
theorem wi_445_121 : ri (rt_P sc fm) 445 121 (.iload_n 3) (122) := ri_of (by decide +kernel) rfl
theorem wi_445_122 : ri (rt_P sc fm) 445 122 (.laload) (123) := ri_of (by decide +kernel) rfl
theorem wi_445_123 : ri (rt_P sc fm) 445 123 (.invokevirtual 780) (126) := ri_of (by decide +kernel) rfl
theorem wi_445_126 : ri (rt_P sc fm) 445 126 (.goto 14) (129) := ri_of (by decide +kernel) rfl
theorem wi_445_129 : ri (rt_P sc fm) 445 129 (.aload_n 0) (130) := ri_of (by decide +kernel) rfl
theorem wi_445_13 : ri (rt_P sc fm) 445 13 (.invokevirtual 765) (16) := ri_of (by decide +kernel) rfl
theorem wi_445_130 : ri (rt_P sc fm) 445 130 (.aload_n 0) (131) := ri_of (by decide +kernel) rfl
theorem wi_445_131 : ri (rt_P sc fm) 445 131 (.getfield 134) (134) := ri_of (by decide +kernel) rfl
theorem wi_445_134 : ri (rt_P sc fm) 445 134 (.iload_n 3) (135) := ri_of (by decide +kernel) rfl
theorem wi_445_135 : ri (rt_P sc fm) 445 135 (.laload) (136) := ri_of (by decide +kernel) rfl
theorem wi_445_136 : ri (rt_P sc fm) 445 136 (.l2i) (137) := ri_of (by decide +kernel) rfl
theorem wi_445_137 : ri (rt_P sc fm) 445 137 (.invokevirtual 783) (140) := ri_of (by decide +kernel) rfl
theorem wi_445_140 : ri (rt_P sc fm) 445 140 (.iinc 2 1) (143) := ri_of (by decide +kernel) rfl
theorem wi_445_143 : ri (rt_P sc fm) 445 143 (.goto (-125)) (146) := ri_of (by decide +kernel) rfl
theorem wi_445_146 : ri (rt_P sc fm) 445 146 (.aload_n 0) (147) := ri_of (by decide +kernel) rfl
theorem wi_445_147 : ri (rt_P sc fm) 445 147 (.getfield 122) (150) := ri_of (by decide +kernel) rfl
theorem wi_445_150 : ri (rt_P sc fm) 445 150 (.iload_n 1) (151) := ri_of (by decide +kernel) rfl
theorem wi_445_151 : ri (rt_P sc fm) 445 151 (.iaload) (152) := ri_of (by decide +kernel) rfl
theorem wi_445_152 : ri (rt_P sc fm) 445 152 (.ifCond .le 10) (155) := ri_of (by decide +kernel) rfl
theorem wi_445_155 : ri (rt_P sc fm) 445 155 (.aload_n 0) (156) := ri_of (by decide +kernel) rfl
theorem wi_445_156 : ri (rt_P sc fm) 445 156 (.ldc_w 786) (159) := ri_of (by decide +kernel) rfl
theorem wi_445_159 : ri (rt_P sc fm) 445 159 (.invokevirtual 402) (162) := ri_of (by decide +kernel) rfl
theorem wi_445_16 : ri (rt_P sc fm) 445 16 (.iconst 0) (17) := ri_of (by decide +kernel) rfl
theorem wi_445_162 : ri (rt_P sc fm) 445 162 (.aload_n 0) (163) := ri_of (by decide +kernel) rfl
theorem wi_445_163 : ri (rt_P sc fm) 445 163 (.getfield 137) (166) := ri_of (by decide +kernel) rfl
theorem wi_445_166 : ri (rt_P sc fm) 445 166 (.iload_n 1) (167) := ri_of (by decide +kernel) rfl
theorem wi_445_167 : ri (rt_P sc fm) 445 167 (.iaload) (168) := ri_of (by decide +kernel) rfl
theorem wi_445_168 : ri (rt_P sc fm) 445 168 (.bipush 15) (170) := ri_of (by decide +kernel) rfl
theorem wi_445_17 : ri (rt_P sc fm) 445 17 (.istore_n 2) (18) := ri_of (by decide +kernel) rfl
theorem wi_445_170 : ri (rt_P sc fm) 445 170 (.if_icmp .eq 78) (173) := ri_of (by decide +kernel) rfl
theorem wi_445_173 : ri (rt_P sc fm) 445 173 (.aload_n 0) (174) := ri_of (by decide +kernel) rfl
theorem wi_445_174 : ri (rt_P sc fm) 445 174 (.ldc 34) (176) := ri_of (by decide +kernel) rfl
theorem wi_445_176 : ri (rt_P sc fm) 445 176 (.invokevirtual 402) (179) := ri_of (by decide +kernel) rfl
theorem wi_445_179 : ri (rt_P sc fm) 445 179 (.aload_n 0) (180) := ri_of (by decide +kernel) rfl
theorem wi_445_18 : ri (rt_P sc fm) 445 18 (.iload_n 2) (19) := ri_of (by decide +kernel) rfl
theorem wi_445_180 : ri (rt_P sc fm) 445 180 (.getfield 137) (183) := ri_of (by decide +kernel) rfl
theorem wi_445_183 : ri (rt_P sc fm) 445 183 (.iload_n 1) (184) := ri_of (by decide +kernel) rfl
theorem wi_445_184 : ri (rt_P sc fm) 445 184 (.iaload) (185) := ri_of (by decide +kernel) rfl
theorem wi_445_185 : ri (rt_P sc fm) 445 185 (.iconst 1) (186) := ri_of (by decide +kernel) rfl
theorem wi_445_186 : ri (rt_P sc fm) 445 186 (.iand) (187) := ri_of (by decide +kernel) rfl
theorem wi_445_187 : ri (rt_P sc fm) 445 187 (.ifCond .eq 9) (190) := ri_of (by decide +kernel) rfl
theorem wi_445_19 : ri (rt_P sc fm) 445 19 (.aload_n 0) (20) := ri_of (by decide +kernel) rfl
theorem wi_445_190 : ri (rt_P sc fm) 445 190 (.aload_n 0) (191) := ri_of (by decide +kernel) rfl
theorem wi_445_191 : ri (rt_P sc fm) 445 191 (.ldc 22) (193) := ri_of (by decide +kernel) rfl
theorem wi_445_193 : ri (rt_P sc fm) 445 193 (.invokevirtual 402) (196) := ri_of (by decide +kernel) rfl
theorem wi_445_196 : ri (rt_P sc fm) 445 196 (.aload_n 0) (197) := ri_of (by decide +kernel) rfl
theorem wi_445_197 : ri (rt_P sc fm) 445 197 (.getfield 137) (200) := ri_of (by decide +kernel) rfl
theorem wi_445_20 : ri (rt_P sc fm) 445 20 (.getfield 122) (23) := ri_of (by decide +kernel) rfl
theorem wi_445_200 : ri (rt_P sc fm) 445 200 (.iload_n 1) (201) := ri_of (by decide +kernel) rfl
theorem wi_445_201 : ri (rt_P sc fm) 445 201 (.iaload) (202) := ri_of (by decide +kernel) rfl
theorem wi_445_202 : ri (rt_P sc fm) 445 202 (.iconst 2) (203) := ri_of (by decide +kernel) rfl
theorem wi_445_203 : ri (rt_P sc fm) 445 203 (.iand) (204) := ri_of (by decide +kernel) rfl
theorem wi_445_204 : ri (rt_P sc fm) 445 204 (.ifCond .eq 9) (207) := ri_of (by decide +kernel) rfl
theorem wi_445_207 : ri (rt_P sc fm) 445 207 (.aload_n 0) (208) := ri_of (by decide +kernel) rfl
theorem wi_445_208 : ri (rt_P sc fm) 445 208 (.ldc 24) (210) := ri_of (by decide +kernel) rfl
theorem wi_445_210 : ri (rt_P sc fm) 445 210 (.invokevirtual 402) (213) := ri_of (by decide +kernel) rfl
theorem wi_445_213 : ri (rt_P sc fm) 445 213 (.aload_n 0) (214) := ri_of (by decide +kernel) rfl
theorem wi_445_214 : ri (rt_P sc fm) 445 214 (.getfield 137) (217) := ri_of (by decide +kernel) rfl
theorem wi_445_217 : ri (rt_P sc fm) 445 217 (.iload_n 1) (218) := ri_of (by decide +kernel) rfl
theorem wi_445_218 : ri (rt_P sc fm) 445 218 (.iaload) (219) := ri_of (by decide +kernel) rfl
theorem wi_445_219 : ri (rt_P sc fm) 445 219 (.iconst 4) (220) := ri_of (by decide +kernel) rfl
theorem wi_445_220 : ri (rt_P sc fm) 445 220 (.iand) (221) := ri_of (by decide +kernel) rfl
theorem wi_445_221 : ri (rt_P sc fm) 445 221 (.ifCond .eq 9) (224) := ri_of (by decide +kernel) rfl
theorem wi_445_224 : ri (rt_P sc fm) 445 224 (.aload_n 0) (225) := ri_of (by decide +kernel) rfl
theorem wi_445_225 : ri (rt_P sc fm) 445 225 (.ldc 26) (227) := ri_of (by decide +kernel) rfl
theorem wi_445_227 : ri (rt_P sc fm) 445 227 (.invokevirtual 402) (230) := ri_of (by decide +kernel) rfl
theorem wi_445_23 : ri (rt_P sc fm) 445 23 (.iload_n 1) (24) := ri_of (by decide +kernel) rfl
theorem wi_445_230 : ri (rt_P sc fm) 445 230 (.aload_n 0) (231) := ri_of (by decide +kernel) rfl
theorem wi_445_231 : ri (rt_P sc fm) 445 231 (.getfield 137) (234) := ri_of (by decide +kernel) rfl
theorem wi_445_234 : ri (rt_P sc fm) 445 234 (.iload_n 1) (235) := ri_of (by decide +kernel) rfl
theorem wi_445_235 : ri (rt_P sc fm) 445 235 (.iaload) (236) := ri_of (by decide +kernel) rfl
theorem wi_445_236 : ri (rt_P sc fm) 445 236 (.bipush 8) (238) := ri_of (by decide +kernel) rfl
theorem wi_445_238 : ri (rt_P sc fm) 445 238 (.iand) (239) := ri_of (by decide +kernel) rfl
theorem wi_445_239 : ri (rt_P sc fm) 445 239 (.ifCond .eq 9) (242) := ri_of (by decide +kernel) rfl
theorem wi_445_24 : ri (rt_P sc fm) 445 24 (.iaload) (25) := ri_of (by decide +kernel) rfl
theorem wi_445_242 : ri (rt_P sc fm) 445 242 (.aload_n 0) (243) := ri_of (by decide +kernel) rfl
theorem wi_445_243 : ri (rt_P sc fm) 445 243 (.ldc 28) (245) := ri_of (by decide +kernel) rfl
theorem wi_445_245 : ri (rt_P sc fm) 445 245 (.invokevirtual 402) (248) := ri_of (by decide +kernel) rfl
theorem wi_445_248 : ri (rt_P sc fm) 445 248 (.aload_n 0) (249) := ri_of (by decide +kernel) rfl
theorem wi_445_249 : ri (rt_P sc fm) 445 249 (.getfield 140) (252) := ri_of (by decide +kernel) rfl
theorem wi_445_25 : ri (rt_P sc fm) 445 25 (.if_icmp .ge 121) (28) := ri_of (by decide +kernel) rfl
theorem wi_445_252 : ri (rt_P sc fm) 445 252 (.iload_n 1) (253) := ri_of (by decide +kernel) rfl
theorem wi_445_253 : ri (rt_P sc fm) 445 253 (.baload) (254) := ri_of (by decide +kernel) rfl
theorem wi_445_254 : ri (rt_P sc fm) 445 254 (.ifCond .eq 9) (257) := ri_of (by decide +kernel) rfl
theorem wi_445_257 : ri (rt_P sc fm) 445 257 (.aload_n 0) (258) := ri_of (by decide +kernel) rfl
theorem wi_445_258 : ri (rt_P sc fm) 445 258 (.ldc 36) (260) := ri_of (by decide +kernel) rfl
theorem wi_445_260 : ri (rt_P sc fm) 445 260 (.invokevirtual 402) (263) := ri_of (by decide +kernel) rfl
theorem wi_445_263 : ri (rt_P sc fm) 445 263 (.aload_n 0) (264) := ri_of (by decide +kernel) rfl
theorem wi_445_264 : ri (rt_P sc fm) 445 264 (.getfield 143) (267) := ri_of (by decide +kernel) rfl
theorem wi_445_267 : ri (rt_P sc fm) 445 267 (.iload_n 1) (268) := ri_of (by decide +kernel) rfl
theorem wi_445_268 : ri (rt_P sc fm) 445 268 (.baload) (269) := ri_of (by decide +kernel) rfl
theorem wi_445_269 : ri (rt_P sc fm) 445 269 (.ifCond .eq 9) (272) := ri_of (by decide +kernel) rfl
theorem wi_445_272 : ri (rt_P sc fm) 445 272 (.aload_n 0) (273) := ri_of (by decide +kernel) rfl
theorem wi_445_273 : ri (rt_P sc fm) 445 273 (.ldc 38) (275) := ri_of (by decide +kernel) rfl
theorem wi_445_275 : ri (rt_P sc fm) 445 275 (.invokevirtual 402) (278) := ri_of (by decide +kernel) rfl
theorem wi_445_278 : ri (rt_P sc fm) 445 278 (.aload_n 0) (279) := ri_of (by decide +kernel) rfl
theorem wi_445_279 : ri (rt_P sc fm) 445 279 (.getfield 218) (282) := ri_of (by decide +kernel) rfl
theorem wi_445_28 : ri (rt_P sc fm) 445 28 (.iconst 4) (29) := ri_of (by decide +kernel) rfl
theorem wi_445_282 : ri (rt_P sc fm) 445 282 (.sipush 1200) (285) := ri_of (by decide +kernel) rfl
theorem wi_445_285 : ri (rt_P sc fm) 445 285 (.iload_n 1) (286) := ri_of (by decide +kernel) rfl
theorem wi_445_286 : ri (rt_P sc fm) 445 286 (.iadd) (287) := ri_of (by decide +kernel) rfl
theorem wi_445_287 : ri (rt_P sc fm) 445 287 (.iaload) (288) := ri_of (by decide +kernel) rfl
theorem wi_445_288 : ri (rt_P sc fm) 445 288 (.ifCond .le 10) (291) := ri_of (by decide +kernel) rfl
theorem wi_445_29 : ri (rt_P sc fm) 445 29 (.iload_n 1) (30) := ri_of (by decide +kernel) rfl
theorem wi_445_291 : ri (rt_P sc fm) 445 291 (.aload_n 0) (292) := ri_of (by decide +kernel) rfl
theorem wi_445_292 : ri (rt_P sc fm) 445 292 (.ldc_w 778) (295) := ri_of (by decide +kernel) rfl
theorem wi_445_295 : ri (rt_P sc fm) 445 295 (.invokevirtual 402) (298) := ri_of (by decide +kernel) rfl
theorem wi_445_298 : ri (rt_P sc fm) 445 298 (.aload_n 0) (299) := ri_of (by decide +kernel) rfl
theorem wi_445_299 : ri (rt_P sc fm) 445 299 (.sipush 1200) (302) := ri_of (by decide +kernel) rfl
theorem wi_445_3 : ri (rt_P sc fm) 445 3 (.invokevirtual 402) (6) := ri_of (by decide +kernel) rfl
theorem wi_445_30 : ri (rt_P sc fm) 445 30 (.imul) (31) := ri_of (by decide +kernel) rfl
theorem wi_445_302 : ri (rt_P sc fm) 445 302 (.iload_n 1) (303) := ri_of (by decide +kernel) rfl
theorem wi_445_303 : ri (rt_P sc fm) 445 303 (.iadd) (304) := ri_of (by decide +kernel) rfl
theorem wi_445_304 : ri (rt_P sc fm) 445 304 (.invokevirtual 803) (307) := ri_of (by decide +kernel) rfl
theorem wi_445_307 : ri (rt_P sc fm) 445 307 (.aload_n 0) (308) := ri_of (by decide +kernel) rfl
theorem wi_445_308 : ri (rt_P sc fm) 445 308 (.ldc_w 801) (311) := ri_of (by decide +kernel) rfl
theorem wi_445_31 : ri (rt_P sc fm) 445 31 (.iload_n 2) (32) := ri_of (by decide +kernel) rfl
theorem wi_445_311 : ri (rt_P sc fm) 445 311 (.invokevirtual 402) (314) := ri_of (by decide +kernel) rfl
theorem wi_445_314 : ri (rt_P sc fm) 445 314 (.return_) (315) := ri_of (by decide +kernel) rfl
theorem wi_445_32 : ri (rt_P sc fm) 445 32 (.iadd) (33) := ri_of (by decide +kernel) rfl
theorem wi_445_33 : ri (rt_P sc fm) 445 33 (.istore_n 3) (34) := ri_of (by decide +kernel) rfl
theorem wi_445_34 : ri (rt_P sc fm) 445 34 (.aload_n 0) (35) := ri_of (by decide +kernel) rfl
theorem wi_445_35 : ri (rt_P sc fm) 445 35 (.iload_n 2) (36) := ri_of (by decide +kernel) rfl
theorem wi_445_36 : ri (rt_P sc fm) 445 36 (.ifCond .ne 9) (39) := ri_of (by decide +kernel) rfl
theorem wi_445_39 : ri (rt_P sc fm) 445 39 (.ldc_w 776) (42) := ri_of (by decide +kernel) rfl
theorem wi_445_42 : ri (rt_P sc fm) 445 42 (.goto 6) (45) := ri_of (by decide +kernel) rfl
theorem wi_445_45 : ri (rt_P sc fm) 445 45 (.ldc_w 774) (48) := ri_of (by decide +kernel) rfl
theorem wi_445_48 : ri (rt_P sc fm) 445 48 (.invokevirtual 402) (51) := ri_of (by decide +kernel) rfl
theorem wi_445_51 : ri (rt_P sc fm) 445 51 (.aload_n 0) (52) := ri_of (by decide +kernel) rfl
theorem wi_445_52 : ri (rt_P sc fm) 445 52 (.aload_n 0) (53) := ri_of (by decide +kernel) rfl
theorem wi_445_53 : ri (rt_P sc fm) 445 53 (.getfield 125) (56) := ri_of (by decide +kernel) rfl
theorem wi_445_56 : ri (rt_P sc fm) 445 56 (.iload_n 3) (57) := ri_of (by decide +kernel) rfl
theorem wi_445_57 : ri (rt_P sc fm) 445 57 (.laload) (58) := ri_of (by decide +kernel) rfl
theorem wi_445_58 : ri (rt_P sc fm) 445 58 (.invokevirtual 765) (61) := ri_of (by decide +kernel) rfl
theorem wi_445_6 : ri (rt_P sc fm) 445 6 (.aload_n 0) (7) := ri_of (by decide +kernel) rfl
theorem wi_445_61 : ri (rt_P sc fm) 445 61 (.aload_n 0) (62) := ri_of (by decide +kernel) rfl
theorem wi_445_62 : ri (rt_P sc fm) 445 62 (.ldc_w 794) (65) := ri_of (by decide +kernel) rfl
theorem wi_445_65 : ri (rt_P sc fm) 445 65 (.invokevirtual 402) (68) := ri_of (by decide +kernel) rfl
theorem wi_445_68 : ri (rt_P sc fm) 445 68 (.aload_n 0) (69) := ri_of (by decide +kernel) rfl
theorem wi_445_69 : ri (rt_P sc fm) 445 69 (.aload_n 0) (70) := ri_of (by decide +kernel) rfl
theorem wi_445_7 : ri (rt_P sc fm) 445 7 (.aload_n 0) (8) := ri_of (by decide +kernel) rfl
theorem wi_445_70 : ri (rt_P sc fm) 445 70 (.getfield 128) (73) := ri_of (by decide +kernel) rfl
theorem wi_445_73 : ri (rt_P sc fm) 445 73 (.iload_n 3) (74) := ri_of (by decide +kernel) rfl
theorem wi_445_74 : ri (rt_P sc fm) 445 74 (.baload) (75) := ri_of (by decide +kernel) rfl
theorem wi_445_75 : ri (rt_P sc fm) 445 75 (.ifCond .eq 8) (78) := ri_of (by decide +kernel) rfl
theorem wi_445_78 : ri (rt_P sc fm) 445 78 (.ldc 44) (80) := ri_of (by decide +kernel) rfl
theorem wi_445_8 : ri (rt_P sc fm) 445 8 (.getfield 119) (11) := ri_of (by decide +kernel) rfl
theorem wi_445_80 : ri (rt_P sc fm) 445 80 (.goto 5) (83) := ri_of (by decide +kernel) rfl
theorem wi_445_83 : ri (rt_P sc fm) 445 83 (.ldc 42) (85) := ri_of (by decide +kernel) rfl
theorem wi_445_85 : ri (rt_P sc fm) 445 85 (.invokevirtual 402) (88) := ri_of (by decide +kernel) rfl
theorem wi_445_88 : ri (rt_P sc fm) 445 88 (.aload_n 0) (89) := ri_of (by decide +kernel) rfl
theorem wi_445_89 : ri (rt_P sc fm) 445 89 (.getfield 131) (92) := ri_of (by decide +kernel) rfl
theorem wi_445_92 : ri (rt_P sc fm) 445 92 (.iload_n 3) (93) := ri_of (by decide +kernel) rfl
theorem wi_445_93 : ri (rt_P sc fm) 445 93 (.baload) (94) := ri_of (by decide +kernel) rfl
theorem wi_445_94 : ri (rt_P sc fm) 445 94 (.ifCond .ne 6) (97) := ri_of (by decide +kernel) rfl
theorem wi_445_97 : ri (rt_P sc fm) 445 97 (.goto 43) (100) := ri_of (by decide +kernel) rfl
theorem wk_445_20 : rx_kt (rt_P sc fm) 445 20 = some (.ref (rx_K 3)) := (by decide +kernel : rt_kt 445 20 = some (.ref (rx_K 3)))
theorem wk_445_22 : rx_kt (rt_P sc fm) 445 22 = some (.ref (rx_K 4)) := (by decide +kernel : rt_kt 445 22 = some (.ref (rx_K 4)))
theorem wk_445_24 : rx_kt (rt_P sc fm) 445 24 = some (.ref (rx_K 5)) := (by decide +kernel : rt_kt 445 24 = some (.ref (rx_K 5)))
theorem wk_445_26 : rx_kt (rt_P sc fm) 445 26 = some (.ref (rx_K 6)) := (by decide +kernel : rt_kt 445 26 = some (.ref (rx_K 6)))
theorem wk_445_28 : rx_kt (rt_P sc fm) 445 28 = some (.ref (rx_K 7)) := (by decide +kernel : rt_kt 445 28 = some (.ref (rx_K 7)))
theorem wk_445_34 : rx_kt (rt_P sc fm) 445 34 = some (.ref (rx_K 10)) := (by decide +kernel : rt_kt 445 34 = some (.ref (rx_K 10)))
theorem wk_445_36 : rx_kt (rt_P sc fm) 445 36 = some (.ref (rx_K 11)) := (by decide +kernel : rt_kt 445 36 = some (.ref (rx_K 11)))
theorem wk_445_38 : rx_kt (rt_P sc fm) 445 38 = some (.ref (rx_K 12)) := (by decide +kernel : rt_kt 445 38 = some (.ref (rx_K 12)))
theorem wk_445_42 : rx_kt (rt_P sc fm) 445 42 = some (.ref (rx_K 14)) := (by decide +kernel : rt_kt 445 42 = some (.ref (rx_K 14)))
theorem wk_445_44 : rx_kt (rt_P sc fm) 445 44 = some (.ref (rx_K 15)) := (by decide +kernel : rt_kt 445 44 = some (.ref (rx_K 15)))
theorem wk_445_774 : rx_kt (rt_P sc fm) 445 774 = some (.ref (rx_K 51)) := (by decide +kernel : rt_kt 445 774 = some (.ref (rx_K 51)))
theorem wk_445_776 : rx_kt (rt_P sc fm) 445 776 = some (.ref (rx_K 52)) := (by decide +kernel : rt_kt 445 776 = some (.ref (rx_K 52)))
theorem wk_445_778 : rx_kt (rt_P sc fm) 445 778 = some (.ref (rx_K 53)) := (by decide +kernel : rt_kt 445 778 = some (.ref (rx_K 53)))
theorem wk_445_786 : rx_kt (rt_P sc fm) 445 786 = some (.ref (rx_K 54)) := (by decide +kernel : rt_kt 445 786 = some (.ref (rx_K 54)))
theorem wk_445_794 : rx_kt (rt_P sc fm) 445 794 = some (.ref (rx_K 33)) := (by decide +kernel : rt_kt 445 794 = some (.ref (rx_K 33)))
theorem wk_445_801 : rx_kt (rt_P sc fm) 445 801 = some (.ref (rx_K 34)) := (by decide +kernel : rt_kt 445 801 = some (.ref (rx_K 34)))
theorem wm_442 : rx_ml (rt_P sc fm) 442 = 3 := (by decide +kernel : rt_ml 442 = 3)
theorem wr_445 : rx_rt (rt_P sc fm) 445 = none := (by decide +kernel : rt_rt 445 = none)
/-- MarkHouseModel.tellKind(I)V -/
def d_445 (n : Nat) (a1 : Int32) (c : cS) : Option (cS) :=
  Option.bind (d_362 n 3 c) (fun r1 =>
  if ib a1 12 then
  Option.bind (d_363 n (r1.2 189 (ix a1)) r1) (fun r3 =>
  Option.bind (whl (R := (cS)) (fun s5 : Int32 × cS =>
    if ib a1 12 then
    if (s5.2.1 190 (ix a1)) ≤ s5.1 then
      some (.inr s5.2)
    else
      lt (((4 * a1) + s5.1) : Int32) (fun v8 =>
      jn (fun p10 : Nat =>
        Option.bind (d_362 n p10 s5.2) (fun r11 =>
        if ib v8 48 then
        Option.bind (d_363 n (r11.2 191 (ix v8)) r11) (fun r13 =>
        Option.bind (d_362 n 33 r13) (fun r14 =>
        if ib v8 48 then
        jn (fun p16 : Nat =>
          Option.bind (d_362 n p16 r14) (fun r17 =>
          if ib v8 48 then
          jn (fun p19 : cS =>
            lt (s5.1 + 1 : Int32) (fun v21 =>
            some (.inl (v21, p19))))
          (fun j140 =>
          if (r17.1 193 (ix v8)) = 0 then
            j140 r17
          else
            Option.bind (d_362 n 53 r17) (fun r23 =>
            if ib v8 48 then
            if (r23.1 192 (ix v8)) = 0 then
              if ib v8 48 then
              Option.bind (d_365 n (((r23.2 194 (ix v8)) : Int64).toInt32) r23) (fun r26 =>
              j140 r26)
              else none
            else
              if ib v8 48 then
              Option.bind (d_366 n (r23.2 194 (ix v8)) r23) (fun r28 =>
              j140 r28)
              else none
            else none))
          else none))
        (fun j85 =>
        if (r14.1 192 (ix v8)) = 0 then
          j85 14
        else
          j85 15)
        else none))
        else none))
      (fun j48 =>
      if s5.1 = 0 then
        j48 52
      else
        j48 51))
    else none) n (0, r3))
  (fun x29 : cS =>
    if ib a1 12 then
    jn (fun p31 : cS =>
      if ib a1 12 then
      jn (fun p33 : cS =>
        if ib a1 12 then
        jn (fun p35 : cS =>
          if ib a1 12 then
          jn (fun p37 : cS =>
            if ib (1200 + a1) 1219 then
            jn (fun p39 : cS =>
              Option.bind (d_442 n (1200 + a1) p39) (fun r40 =>
              Option.bind (d_362 n 34 r40) (fun r41 =>
              some r41)))
            (fun j298 =>
            if (p37.1 222 (ix (1200 + a1))) ≤ 0 then
              j298 p37
            else
              Option.bind (d_362 n 53 p37) (fun r42 =>
              j298 r42))
            else none)
          (fun j278 =>
          if (p35.1 197 (ix a1)) = 0 then
            j278 p35
          else
            Option.bind (d_362 n 12 p35) (fun r43 =>
            j278 r43))
          else none)
        (fun j263 =>
        if (p33.1 196 (ix a1)) = 0 then
          j263 p33
        else
          Option.bind (d_362 n 11 p33) (fun r44 =>
          j263 r44))
        else none)
      (fun j248 =>
      if (p31.1 195 (ix a1)) = 15 then
        j248 p31
      else
        Option.bind (d_362 n 10 p31) (fun r45 =>
        if ib a1 12 then
        jn (fun p47 : cS =>
          if ib a1 12 then
          jn (fun p49 : cS =>
            if ib a1 12 then
            jn (fun p51 : cS =>
              if ib a1 12 then
              if ((p51.1 195 (ix a1)) &&& 8) = 0 then
                j248 p51
              else
                Option.bind (d_362 n 7 p51) (fun r53 =>
                j248 r53)
              else none)
            (fun j230 =>
            if ((p49.1 195 (ix a1)) &&& 4) = 0 then
              j230 p49
            else
              Option.bind (d_362 n 6 p49) (fun r54 =>
              j230 r54))
            else none)
          (fun j213 =>
          if ((p47.1 195 (ix a1)) &&& 2) = 0 then
            j213 p47
          else
            Option.bind (d_362 n 5 p47) (fun r55 =>
            j213 r55))
          else none)
        (fun j196 =>
        if ((r45.1 195 (ix a1)) &&& 1) = 0 then
          j196 r45
        else
          Option.bind (d_362 n 4 r45) (fun r56 =>
          j196 r56))
        else none))
      else none)
    (fun j162 =>
    if (x29.1 190 (ix a1)) ≤ 0 then
      j162 x29
    else
      Option.bind (d_362 n 54 x29) (fun r57 =>
      j162 r57))
    else none))
  else none)
set_option maxRecDepth 100000 in
set_option maxHeartbeats 4000000 in
theorem sp_445 {F Lo n : Nat} {a1 : Int32} {c y : cS} {w : cW} {K : cS → Prop} {Q : ((Option Value) ⊕ String) → List va_E → Prop} (hw : rOK fm w) (hF : 8 ≤ F) (hLo : 176 ≤ Lo)  (h : wp (d_445 n a1 c) K) (hQ : ∀ r, K r → Q (.inl none) (hq false r y w)) : rs (rt_P sc fm) 445 F Lo 0 [(0, .ref 174), (1, .int a1)] [] (hq false c y w) Q := by
  unfold d_445 at h
  obtain ⟨lv, elv⟩ : ∃ lv : rx_L, lv = [(0, .ref 174), (1, .int a1)] := ⟨_, rfl⟩
  rw [← elv]
  have l0 : rx_ld lv 0 = some (.ref 174) := by rw [elv]; rfl
  have l1 : rx_ld lv 1 = some (.int a1) := by rw [elv]; rfl
  refine rs_aldn wi_445_0 l0 ?_
  refine rs_ldcS wi_445_1 wk_445_20 ?_
  refine rs_V wi_445_3 wc_445_402 rfl (dq_isa tf_174_0 wa_15_362) (Nat.le_trans (by decide) hF) (ml_le wm_362 (Nat.le_trans (by decide) hLo)) rfl (sp_362 hw (Nat.le_trans (by decide : 4 ≤ 8 - 1) (Nat.sub_le_sub_right hF 1)) (ml_sub wm_362 (Nat.le_trans (by decide : 85 ≤ 176 - 22) (Nat.sub_le_sub_right hLo 22))) wsb_3 (wp_bind h) (fun r1 h => rs_back0 ?_))
  refine rs_aldn wi_445_6 l0 ?_
  refine rs_aldn wi_445_7 l0 ?_
  refine dq_gr wi_445_8 wf_445_119 tf_174_25 ?_
  refine rs_ildn wi_445_11 l1 ?_
  obtain ⟨g2, h⟩ := wp_gd h
  refine dq_lald wi_445_12 t_189 g2 ?_
  refine rs_V wi_445_13 wc_445_765 rfl (dq_isa tf_174_0 wa_15_363) (Nat.le_trans (by decide) hF) (ml_le wm_363 (Nat.le_trans (by decide) hLo)) rfl (sp_363 hw (Nat.le_trans (by decide : 2 ≤ 8 - 1) (Nat.sub_le_sub_right hF 1)) (ml_sub wm_363 (Nat.le_trans (by decide : 44 ≤ 176 - 22) (Nat.sub_le_sub_right hLo 22))) (wp_bind h) (fun r3 h => rs_back0 ?_))
  refine rs_pure wi_445_16 rfl ?_
  refine rs_topi (v := 0) (by decide) ?_
  refine dl_istn wi_445_17 rfl (fun lv l2 t4 => ?_)
  have l0 := t4 _ _ (by decide) (Or.inl rfl) l0
  have l1 := t4 _ _ (by decide) (Or.inl rfl) l1
  refine whl_ex (A := fun s5 : Int32 × cS => ∀ lv, rx_ld lv 0 = some (.ref 174) → rx_ld lv 1 = some (.int a1) → rx_ld lv 2 = some (.int s5.1) → rs (rt_P sc fm) 445 F Lo 18 lv [] (hq false s5.2 y w) Q) (B := (fun x29 : cS => ∀ lv, rx_ld lv 0 = some (.ref 174) → rx_ld lv 1 = some (.int a1) → rs (rt_P sc fm) 445 F Lo 146 lv [] (hq false x29 y w) Q)) ?_ ?_ _ _ (wp_bind h) _ l0 l1 l2
  · intro s5 h lv l0 l1 l2
    refine rs_ildn wi_445_18 l2 ?_
    refine rs_aldn wi_445_19 l0 ?_
    refine dq_gr wi_445_20 wf_445_122 tf_174_26 ?_
    refine rs_ildn wi_445_23 l1 ?_
    obtain ⟨g6, h⟩ := wp_gd h
    refine dq_iald wi_445_24 t_190 g6 ?_
    refine rs_icge (tg := 146) wi_445_25 ⟨by decide, by decide⟩ (fun q => ?_) (fun q => ?_)
    ·
      have h := wp_pos h q
      exact h _ l0 l1
    ·
      have h := wp_neg h q
      refine rs_pure wi_445_28 rfl ?_
      refine rs_topi (v := 4) (by decide) ?_
      refine rs_ildn wi_445_29 l1 ?_
      refine rs_pure wi_445_30 rfl ?_
      refine rs_ildn wi_445_31 l2 ?_
      refine rs_pure wi_445_32 rfl ?_
      obtain ⟨v8, e9, h⟩ := wp_lt h
      refine rs_topi e9 ?_
      refine dl_istn wi_445_33 rfl (fun lv l3 t7 => ?_)
      have l0 := t7 _ _ (by decide) (Or.inl rfl) l0
      have l1 := t7 _ _ (by decide) (Or.inl rfl) l1
      have l2 := t7 _ _ (by decide) (Or.inl rfl) l2
      refine rs_aldn wi_445_34 l0 ?_
      refine rs_ildn wi_445_35 l2 ?_
      refine wp_jn (B := fun p10 : Nat => ∀ lv, (rt_sb p10).isSome = true → rx_ld lv 0 = some (.ref 174) → rx_ld lv 1 = some (.int a1) → rx_ld lv 2 = some (.int s5.1) → rx_ld lv 3 = some (.int v8) → rs (rt_P sc fm) 445 F Lo 48 lv [.ref (rx_K p10), .ref 174] (hq false s5.2 y w) Q) h (fun p10 h lv hs48_0 l0 l1 l2 l3 => ?_) (fun j48 hj48 h => ?_)
      ·
        refine rs_V wi_445_48 wc_445_402 rfl (dq_isa tf_174_0 wa_15_362) (Nat.le_trans (by decide) hF) (ml_le wm_362 (Nat.le_trans (by decide) hLo)) rfl (sp_362 hw (Nat.le_trans (by decide : 4 ≤ 8 - 1) (Nat.sub_le_sub_right hF 1)) (ml_sub wm_362 (Nat.le_trans (by decide : 85 ≤ 176 - 22) (Nat.sub_le_sub_right hLo 22))) hs48_0 (wp_bind h) (fun r11 h => rs_back0 ?_))
        refine rs_aldn wi_445_51 l0 ?_
        refine rs_aldn wi_445_52 l0 ?_
        refine dq_gr wi_445_53 wf_445_125 tf_174_27 ?_
        refine rs_ildn wi_445_56 l3 ?_
        obtain ⟨g12, h⟩ := wp_gd h
        refine dq_lald wi_445_57 t_191 g12 ?_
        refine rs_V wi_445_58 wc_445_765 rfl (dq_isa tf_174_0 wa_15_363) (Nat.le_trans (by decide) hF) (ml_le wm_363 (Nat.le_trans (by decide) hLo)) rfl (sp_363 hw (Nat.le_trans (by decide : 2 ≤ 8 - 1) (Nat.sub_le_sub_right hF 1)) (ml_sub wm_363 (Nat.le_trans (by decide : 44 ≤ 176 - 22) (Nat.sub_le_sub_right hLo 22))) (wp_bind h) (fun r13 h => rs_back0 ?_))
        refine rs_aldn wi_445_61 l0 ?_
        refine rs_ldcwS wi_445_62 wk_445_794 ?_
        refine rs_V wi_445_65 wc_445_402 rfl (dq_isa tf_174_0 wa_15_362) (Nat.le_trans (by decide) hF) (ml_le wm_362 (Nat.le_trans (by decide) hLo)) rfl (sp_362 hw (Nat.le_trans (by decide : 4 ≤ 8 - 1) (Nat.sub_le_sub_right hF 1)) (ml_sub wm_362 (Nat.le_trans (by decide : 85 ≤ 176 - 22) (Nat.sub_le_sub_right hLo 22))) wsb_33 (wp_bind h) (fun r14 h => rs_back0 ?_))
        refine rs_aldn wi_445_68 l0 ?_
        refine rs_aldn wi_445_69 l0 ?_
        refine dq_gr wi_445_70 wf_445_128 tf_174_28 ?_
        refine rs_ildn wi_445_73 l3 ?_
        obtain ⟨g15, h⟩ := wp_gd h
        refine dq_zald wi_445_74 t_192 g15 ?_
        refine wp_jn (B := fun p16 : Nat => ∀ lv, (rt_sb p16).isSome = true → rx_ld lv 0 = some (.ref 174) → rx_ld lv 1 = some (.int a1) → rx_ld lv 2 = some (.int s5.1) → rx_ld lv 3 = some (.int v8) → rs (rt_P sc fm) 445 F Lo 85 lv [.ref (rx_K p16), .ref 174] (hq false r14 y w) Q) h (fun p16 h lv hs85_0 l0 l1 l2 l3 => ?_) (fun j85 hj85 h => ?_)
        ·
          refine rs_V wi_445_85 wc_445_402 rfl (dq_isa tf_174_0 wa_15_362) (Nat.le_trans (by decide) hF) (ml_le wm_362 (Nat.le_trans (by decide) hLo)) rfl (sp_362 hw (Nat.le_trans (by decide : 4 ≤ 8 - 1) (Nat.sub_le_sub_right hF 1)) (ml_sub wm_362 (Nat.le_trans (by decide : 85 ≤ 176 - 22) (Nat.sub_le_sub_right hLo 22))) hs85_0 (wp_bind h) (fun r17 h => rs_back0 ?_))
          refine rs_aldn wi_445_88 l0 ?_
          refine dq_gr wi_445_89 wf_445_131 tf_174_29 ?_
          refine rs_ildn wi_445_92 l3 ?_
          obtain ⟨g18, h⟩ := wp_gd h
          refine dq_zald wi_445_93 t_193 g18 ?_
          refine wp_jn (B := fun p19 : cS => ∀ lv, rx_ld lv 0 = some (.ref 174) → rx_ld lv 1 = some (.int a1) → rx_ld lv 2 = some (.int s5.1) → rs (rt_P sc fm) 445 F Lo 140 lv [] (hq false p19 y w) Q) h (fun p19 h lv l0 l1 l2 => ?_) (fun j140 hj140 h => ?_)
          ·
            obtain ⟨v21, e22, h⟩ := wp_lt h
            refine dl_inc wi_445_140 l2 rfl e22 (fun lv l2 t20 => ?_)
            have l0 := t20 _ _ (by decide) (Or.inl rfl) l0
            have l1 := t20 _ _ (by decide) (Or.inl rfl) l1
            refine rs_goto (tg := 18) wi_445_143 ⟨by decide, by decide⟩ ?_
            exact h _ l0 l1 l2
          refine rs_ifne (tg := 100) wi_445_94 ⟨by decide, by decide⟩ (fun q => ?_) (fun q => ?_)
          ·
            have h := wp_neg h q
            refine rs_aldn wi_445_100 l0 ?_
            refine rs_ldcwS wi_445_101 wk_445_778 ?_
            refine rs_V wi_445_104 wc_445_402 rfl (dq_isa tf_174_0 wa_15_362) (Nat.le_trans (by decide) hF) (ml_le wm_362 (Nat.le_trans (by decide) hLo)) rfl (sp_362 hw (Nat.le_trans (by decide : 4 ≤ 8 - 1) (Nat.sub_le_sub_right hF 1)) (ml_sub wm_362 (Nat.le_trans (by decide : 85 ≤ 176 - 22) (Nat.sub_le_sub_right hLo 22))) wsb_53 (wp_bind h) (fun r23 h => rs_back0 ?_))
            refine rs_aldn wi_445_107 l0 ?_
            refine dq_gr wi_445_108 wf_445_128 tf_174_28 ?_
            refine rs_ildn wi_445_111 l3 ?_
            obtain ⟨g24, h⟩ := wp_gd h
            refine dq_zald wi_445_112 t_192 g24 ?_
            refine rs_ifeq (tg := 129) wi_445_113 ⟨by decide, by decide⟩ (fun q => ?_) (fun q => ?_)
            ·
              have h := wp_pos h q
              refine rs_aldn wi_445_129 l0 ?_
              refine rs_aldn wi_445_130 l0 ?_
              refine dq_gr wi_445_131 wf_445_134 tf_174_30 ?_
              refine rs_ildn wi_445_134 l3 ?_
              obtain ⟨g25, h⟩ := wp_gd h
              refine dq_lald wi_445_135 t_194 g25 ?_
              refine rs_pure wi_445_136 rfl ?_
              refine rs_V wi_445_137 wc_445_783 rfl (dq_isa tf_174_0 wa_15_365) (Nat.le_trans (by decide) hF) (ml_le wm_365 (Nat.le_trans (by decide) hLo)) rfl (sp_365 hw (Nat.le_trans (by decide : 5 ≤ 8 - 1) (Nat.sub_le_sub_right hF 1)) (ml_sub wm_365 (Nat.le_trans (by decide : 107 ≤ 176 - 21) (Nat.sub_le_sub_right hLo 21))) (wp_bind h) (fun r26 h => rs_back0 ?_))
              exact hj140 _ h _ l0 l1 l2
            ·
              have h := wp_neg h q
              refine rs_aldn wi_445_116 l0 ?_
              refine rs_aldn wi_445_117 l0 ?_
              refine dq_gr wi_445_118 wf_445_134 tf_174_30 ?_
              refine rs_ildn wi_445_121 l3 ?_
              obtain ⟨g27, h⟩ := wp_gd h
              refine dq_lald wi_445_122 t_194 g27 ?_
              refine rs_V wi_445_123 wc_445_780 rfl (dq_isa tf_174_0 wa_15_366) (Nat.le_trans (by decide) hF) (ml_le wm_366 (Nat.le_trans (by decide) hLo)) rfl (sp_366 hw (Nat.le_trans (by decide : 2 ≤ 8 - 1) (Nat.sub_le_sub_right hF 1)) (ml_sub wm_366 (Nat.le_trans (by decide : 44 ≤ 176 - 22) (Nat.sub_le_sub_right hLo 22))) (wp_bind h) (fun r28 h => rs_back0 ?_))
              refine rs_goto (tg := 140) wi_445_126 ⟨by decide, by decide⟩ ?_
              exact hj140 _ h _ l0 l1 l2
          ·
            have h := wp_pos h q
            refine rs_goto (tg := 140) wi_445_97 ⟨by decide, by decide⟩ ?_
            exact hj140 _ h _ l0 l1 l2
        refine rs_ifeq (tg := 83) wi_445_75 ⟨by decide, by decide⟩ (fun q => ?_) (fun q => ?_)
        ·
          have h := wp_pos h q
          refine rs_ldcS wi_445_83 wk_445_42 ?_
          exact hj85 _ h _ wsb_14 l0 l1 l2 l3
        ·
          have h := wp_neg h q
          refine rs_ldcS wi_445_78 wk_445_44 ?_
          refine rs_goto (tg := 85) wi_445_80 ⟨by decide, by decide⟩ ?_
          exact hj85 _ h _ wsb_15 l0 l1 l2 l3
      refine rs_ifne (tg := 45) wi_445_36 ⟨by decide, by decide⟩ (fun q => ?_) (fun q => ?_)
      ·
        have h := wp_neg h q
        refine rs_ldcwS wi_445_45 wk_445_774 ?_
        exact hj48 _ h _ wsb_51 l0 l1 l2 l3
      ·
        have h := wp_pos h q
        refine rs_ldcwS wi_445_39 wk_445_776 ?_
        refine rs_goto (tg := 48) wi_445_42 ⟨by decide, by decide⟩ ?_
        exact hj48 _ h _ wsb_52 l0 l1 l2 l3
  ·
    intro x29 h lv l0 l1
    refine rs_aldn wi_445_146 l0 ?_
    refine dq_gr wi_445_147 wf_445_122 tf_174_26 ?_
    refine rs_ildn wi_445_150 l1 ?_
    obtain ⟨g30, h⟩ := wp_gd h
    refine dq_iald wi_445_151 t_190 g30 ?_
    refine wp_jn (B := fun p31 : cS => ∀ lv, rx_ld lv 0 = some (.ref 174) → rx_ld lv 1 = some (.int a1) → rs (rt_P sc fm) 445 F Lo 162 lv [] (hq false p31 y w) Q) h (fun p31 h lv l0 l1 => ?_) (fun j162 hj162 h => ?_)
    ·
      refine rs_aldn wi_445_162 l0 ?_
      refine dq_gr wi_445_163 wf_445_137 tf_174_31 ?_
      refine rs_ildn wi_445_166 l1 ?_
      obtain ⟨g32, h⟩ := wp_gd h
      refine dq_iald wi_445_167 t_195 g32 ?_
      refine rs_pure wi_445_168 rfl ?_
      refine rs_topi (v := 15) (by decide) ?_
      refine wp_jn (B := fun p33 : cS => ∀ lv, rx_ld lv 0 = some (.ref 174) → rx_ld lv 1 = some (.int a1) → rs (rt_P sc fm) 445 F Lo 248 lv [] (hq false p33 y w) Q) h (fun p33 h lv l0 l1 => ?_) (fun j248 hj248 h => ?_)
      ·
        refine rs_aldn wi_445_248 l0 ?_
        refine dq_gr wi_445_249 wf_445_140 tf_174_32 ?_
        refine rs_ildn wi_445_252 l1 ?_
        obtain ⟨g34, h⟩ := wp_gd h
        refine dq_zald wi_445_253 t_196 g34 ?_
        refine wp_jn (B := fun p35 : cS => ∀ lv, rx_ld lv 0 = some (.ref 174) → rx_ld lv 1 = some (.int a1) → rs (rt_P sc fm) 445 F Lo 263 lv [] (hq false p35 y w) Q) h (fun p35 h lv l0 l1 => ?_) (fun j263 hj263 h => ?_)
        ·
          refine rs_aldn wi_445_263 l0 ?_
          refine dq_gr wi_445_264 wf_445_143 tf_174_33 ?_
          refine rs_ildn wi_445_267 l1 ?_
          obtain ⟨g36, h⟩ := wp_gd h
          refine dq_zald wi_445_268 t_197 g36 ?_
          refine wp_jn (B := fun p37 : cS => ∀ lv, rx_ld lv 0 = some (.ref 174) → rx_ld lv 1 = some (.int a1) → rs (rt_P sc fm) 445 F Lo 278 lv [] (hq false p37 y w) Q) h (fun p37 h lv l0 l1 => ?_) (fun j278 hj278 h => ?_)
          ·
            refine rs_aldn wi_445_278 l0 ?_
            refine dq_gr wi_445_279 wf_445_218 tf_174_60 ?_
            refine rs_pure wi_445_282 rfl ?_
            refine rs_topi (v := 1200) (by decide) ?_
            refine rs_ildn wi_445_285 l1 ?_
            refine rs_pure wi_445_286 rfl ?_
            obtain ⟨g38, h⟩ := wp_gd h
            refine dq_iald wi_445_287 t_222 g38 ?_
            refine wp_jn (B := fun p39 : cS => ∀ lv, rx_ld lv 0 = some (.ref 174) → rx_ld lv 1 = some (.int a1) → rs (rt_P sc fm) 445 F Lo 298 lv [] (hq false p39 y w) Q) h (fun p39 h lv l0 l1 => ?_) (fun j298 hj298 h => ?_)
            ·
              refine rs_aldn wi_445_298 l0 ?_
              refine rs_pure wi_445_299 rfl ?_
              refine rs_topi (v := 1200) (by decide) ?_
              refine rs_ildn wi_445_302 l1 ?_
              refine rs_pure wi_445_303 rfl ?_
              refine rs_V wi_445_304 wc_445_803 rfl (dq_isa tf_174_0 wa_15_442) (Nat.le_trans (by decide) hF) (ml_le wm_442 (Nat.le_trans (by decide) hLo)) rfl (sp_442 hw (Nat.le_trans (by decide : 7 ≤ 8 - 1) (Nat.sub_le_sub_right hF 1)) (ml_sub wm_442 (Nat.le_trans (by decide : 154 ≤ 176 - 22) (Nat.sub_le_sub_right hLo 22))) (wp_bind h) (fun r40 h => rs_back0 ?_))
              refine rs_aldn wi_445_307 l0 ?_
              refine rs_ldcwS wi_445_308 wk_445_801 ?_
              refine rs_V wi_445_311 wc_445_402 rfl (dq_isa tf_174_0 wa_15_362) (Nat.le_trans (by decide) hF) (ml_le wm_362 (Nat.le_trans (by decide) hLo)) rfl (sp_362 hw (Nat.le_trans (by decide : 4 ≤ 8 - 1) (Nat.sub_le_sub_right hF 1)) (ml_sub wm_362 (Nat.le_trans (by decide : 85 ≤ 176 - 22) (Nat.sub_le_sub_right hLo 22))) wsb_34 (wp_bind h) (fun r41 h => rs_back0 ?_))
              exact rs_vret wi_445_314 wr_445 (hQ r41 h)
            refine rs_ifle (tg := 298) wi_445_288 ⟨by decide, by decide⟩ (fun q => ?_) (fun q => ?_)
            ·
              have h := wp_pos h q
              exact hj298 _ h _ l0 l1
            ·
              have h := wp_neg h q
              refine rs_aldn wi_445_291 l0 ?_
              refine rs_ldcwS wi_445_292 wk_445_778 ?_
              refine rs_V wi_445_295 wc_445_402 rfl (dq_isa tf_174_0 wa_15_362) (Nat.le_trans (by decide) hF) (ml_le wm_362 (Nat.le_trans (by decide) hLo)) rfl (sp_362 hw (Nat.le_trans (by decide : 4 ≤ 8 - 1) (Nat.sub_le_sub_right hF 1)) (ml_sub wm_362 (Nat.le_trans (by decide : 85 ≤ 176 - 22) (Nat.sub_le_sub_right hLo 22))) wsb_53 (wp_bind h) (fun r42 h => rs_back0 ?_))
              exact hj298 _ h _ l0 l1
          refine rs_ifeq (tg := 278) wi_445_269 ⟨by decide, by decide⟩ (fun q => ?_) (fun q => ?_)
          ·
            have h := wp_pos h q
            exact hj278 _ h _ l0 l1
          ·
            have h := wp_neg h q
            refine rs_aldn wi_445_272 l0 ?_
            refine rs_ldcS wi_445_273 wk_445_38 ?_
            refine rs_V wi_445_275 wc_445_402 rfl (dq_isa tf_174_0 wa_15_362) (Nat.le_trans (by decide) hF) (ml_le wm_362 (Nat.le_trans (by decide) hLo)) rfl (sp_362 hw (Nat.le_trans (by decide : 4 ≤ 8 - 1) (Nat.sub_le_sub_right hF 1)) (ml_sub wm_362 (Nat.le_trans (by decide : 85 ≤ 176 - 22) (Nat.sub_le_sub_right hLo 22))) wsb_12 (wp_bind h) (fun r43 h => rs_back0 ?_))
            exact hj278 _ h _ l0 l1
        refine rs_ifeq (tg := 263) wi_445_254 ⟨by decide, by decide⟩ (fun q => ?_) (fun q => ?_)
        ·
          have h := wp_pos h q
          exact hj263 _ h _ l0 l1
        ·
          have h := wp_neg h q
          refine rs_aldn wi_445_257 l0 ?_
          refine rs_ldcS wi_445_258 wk_445_36 ?_
          refine rs_V wi_445_260 wc_445_402 rfl (dq_isa tf_174_0 wa_15_362) (Nat.le_trans (by decide) hF) (ml_le wm_362 (Nat.le_trans (by decide) hLo)) rfl (sp_362 hw (Nat.le_trans (by decide : 4 ≤ 8 - 1) (Nat.sub_le_sub_right hF 1)) (ml_sub wm_362 (Nat.le_trans (by decide : 85 ≤ 176 - 22) (Nat.sub_le_sub_right hLo 22))) wsb_11 (wp_bind h) (fun r44 h => rs_back0 ?_))
          exact hj263 _ h _ l0 l1
      refine rs_iceq (tg := 248) wi_445_170 ⟨by decide, by decide⟩ (fun q => ?_) (fun q => ?_)
      ·
        have h := wp_pos h q
        exact hj248 _ h _ l0 l1
      ·
        have h := wp_neg h q
        refine rs_aldn wi_445_173 l0 ?_
        refine rs_ldcS wi_445_174 wk_445_34 ?_
        refine rs_V wi_445_176 wc_445_402 rfl (dq_isa tf_174_0 wa_15_362) (Nat.le_trans (by decide) hF) (ml_le wm_362 (Nat.le_trans (by decide) hLo)) rfl (sp_362 hw (Nat.le_trans (by decide : 4 ≤ 8 - 1) (Nat.sub_le_sub_right hF 1)) (ml_sub wm_362 (Nat.le_trans (by decide : 85 ≤ 176 - 22) (Nat.sub_le_sub_right hLo 22))) wsb_10 (wp_bind h) (fun r45 h => rs_back0 ?_))
        refine rs_aldn wi_445_179 l0 ?_
        refine dq_gr wi_445_180 wf_445_137 tf_174_31 ?_
        refine rs_ildn wi_445_183 l1 ?_
        obtain ⟨g46, h⟩ := wp_gd h
        refine dq_iald wi_445_184 t_195 g46 ?_
        refine rs_pure wi_445_185 rfl ?_
        refine rs_topi (v := 1) (by decide) ?_
        refine rs_pure wi_445_186 rfl ?_
        refine wp_jn (B := fun p47 : cS => ∀ lv, rx_ld lv 0 = some (.ref 174) → rx_ld lv 1 = some (.int a1) → rs (rt_P sc fm) 445 F Lo 196 lv [] (hq false p47 y w) Q) h (fun p47 h lv l0 l1 => ?_) (fun j196 hj196 h => ?_)
        ·
          refine rs_aldn wi_445_196 l0 ?_
          refine dq_gr wi_445_197 wf_445_137 tf_174_31 ?_
          refine rs_ildn wi_445_200 l1 ?_
          obtain ⟨g48, h⟩ := wp_gd h
          refine dq_iald wi_445_201 t_195 g48 ?_
          refine rs_pure wi_445_202 rfl ?_
          refine rs_topi (v := 2) (by decide) ?_
          refine rs_pure wi_445_203 rfl ?_
          refine wp_jn (B := fun p49 : cS => ∀ lv, rx_ld lv 0 = some (.ref 174) → rx_ld lv 1 = some (.int a1) → rs (rt_P sc fm) 445 F Lo 213 lv [] (hq false p49 y w) Q) h (fun p49 h lv l0 l1 => ?_) (fun j213 hj213 h => ?_)
          ·
            refine rs_aldn wi_445_213 l0 ?_
            refine dq_gr wi_445_214 wf_445_137 tf_174_31 ?_
            refine rs_ildn wi_445_217 l1 ?_
            obtain ⟨g50, h⟩ := wp_gd h
            refine dq_iald wi_445_218 t_195 g50 ?_
            refine rs_pure wi_445_219 rfl ?_
            refine rs_topi (v := 4) (by decide) ?_
            refine rs_pure wi_445_220 rfl ?_
            refine wp_jn (B := fun p51 : cS => ∀ lv, rx_ld lv 0 = some (.ref 174) → rx_ld lv 1 = some (.int a1) → rs (rt_P sc fm) 445 F Lo 230 lv [] (hq false p51 y w) Q) h (fun p51 h lv l0 l1 => ?_) (fun j230 hj230 h => ?_)
            ·
              refine rs_aldn wi_445_230 l0 ?_
              refine dq_gr wi_445_231 wf_445_137 tf_174_31 ?_
              refine rs_ildn wi_445_234 l1 ?_
              obtain ⟨g52, h⟩ := wp_gd h
              refine dq_iald wi_445_235 t_195 g52 ?_
              refine rs_pure wi_445_236 rfl ?_
              refine rs_topi (v := 8) (by decide) ?_
              refine rs_pure wi_445_238 rfl ?_
              refine rs_ifeq (tg := 248) wi_445_239 ⟨by decide, by decide⟩ (fun q => ?_) (fun q => ?_)
              ·
                have h := wp_pos h q
                exact hj248 _ h _ l0 l1
              ·
                have h := wp_neg h q
                refine rs_aldn wi_445_242 l0 ?_
                refine rs_ldcS wi_445_243 wk_445_28 ?_
                refine rs_V wi_445_245 wc_445_402 rfl (dq_isa tf_174_0 wa_15_362) (Nat.le_trans (by decide) hF) (ml_le wm_362 (Nat.le_trans (by decide) hLo)) rfl (sp_362 hw (Nat.le_trans (by decide : 4 ≤ 8 - 1) (Nat.sub_le_sub_right hF 1)) (ml_sub wm_362 (Nat.le_trans (by decide : 85 ≤ 176 - 22) (Nat.sub_le_sub_right hLo 22))) wsb_7 (wp_bind h) (fun r53 h => rs_back0 ?_))
                exact hj248 _ h _ l0 l1
            refine rs_ifeq (tg := 230) wi_445_221 ⟨by decide, by decide⟩ (fun q => ?_) (fun q => ?_)
            ·
              have h := wp_pos h q
              exact hj230 _ h _ l0 l1
            ·
              have h := wp_neg h q
              refine rs_aldn wi_445_224 l0 ?_
              refine rs_ldcS wi_445_225 wk_445_26 ?_
              refine rs_V wi_445_227 wc_445_402 rfl (dq_isa tf_174_0 wa_15_362) (Nat.le_trans (by decide) hF) (ml_le wm_362 (Nat.le_trans (by decide) hLo)) rfl (sp_362 hw (Nat.le_trans (by decide : 4 ≤ 8 - 1) (Nat.sub_le_sub_right hF 1)) (ml_sub wm_362 (Nat.le_trans (by decide : 85 ≤ 176 - 22) (Nat.sub_le_sub_right hLo 22))) wsb_6 (wp_bind h) (fun r54 h => rs_back0 ?_))
              exact hj230 _ h _ l0 l1
          refine rs_ifeq (tg := 213) wi_445_204 ⟨by decide, by decide⟩ (fun q => ?_) (fun q => ?_)
          ·
            have h := wp_pos h q
            exact hj213 _ h _ l0 l1
          ·
            have h := wp_neg h q
            refine rs_aldn wi_445_207 l0 ?_
            refine rs_ldcS wi_445_208 wk_445_24 ?_
            refine rs_V wi_445_210 wc_445_402 rfl (dq_isa tf_174_0 wa_15_362) (Nat.le_trans (by decide) hF) (ml_le wm_362 (Nat.le_trans (by decide) hLo)) rfl (sp_362 hw (Nat.le_trans (by decide : 4 ≤ 8 - 1) (Nat.sub_le_sub_right hF 1)) (ml_sub wm_362 (Nat.le_trans (by decide : 85 ≤ 176 - 22) (Nat.sub_le_sub_right hLo 22))) wsb_5 (wp_bind h) (fun r55 h => rs_back0 ?_))
            exact hj213 _ h _ l0 l1
        refine rs_ifeq (tg := 196) wi_445_187 ⟨by decide, by decide⟩ (fun q => ?_) (fun q => ?_)
        ·
          have h := wp_pos h q
          exact hj196 _ h _ l0 l1
        ·
          have h := wp_neg h q
          refine rs_aldn wi_445_190 l0 ?_
          refine rs_ldcS wi_445_191 wk_445_22 ?_
          refine rs_V wi_445_193 wc_445_402 rfl (dq_isa tf_174_0 wa_15_362) (Nat.le_trans (by decide) hF) (ml_le wm_362 (Nat.le_trans (by decide) hLo)) rfl (sp_362 hw (Nat.le_trans (by decide : 4 ≤ 8 - 1) (Nat.sub_le_sub_right hF 1)) (ml_sub wm_362 (Nat.le_trans (by decide : 85 ≤ 176 - 22) (Nat.sub_le_sub_right hLo 22))) wsb_4 (wp_bind h) (fun r56 h => rs_back0 ?_))
          exact hj196 _ h _ l0 l1
    refine rs_ifle (tg := 162) wi_445_152 ⟨by decide, by decide⟩ (fun q => ?_) (fun q => ?_)
    ·
      have h := wp_pos h q
      exact hj162 _ h _ l0 l1
    ·
      have h := wp_neg h q
      refine rs_aldn wi_445_155 l0 ?_
      refine rs_ldcwS wi_445_156 wk_445_786 ?_
      refine rs_V wi_445_159 wc_445_402 rfl (dq_isa tf_174_0 wa_15_362) (Nat.le_trans (by decide) hF) (ml_le wm_362 (Nat.le_trans (by decide) hLo)) rfl (sp_362 hw (Nat.le_trans (by decide : 4 ≤ 8 - 1) (Nat.sub_le_sub_right hF 1)) (ml_sub wm_362 (Nat.le_trans (by decide : 85 ≤ 176 - 22) (Nat.sub_le_sub_right hLo 22))) wsb_54 (wp_bind h) (fun r57 h => rs_back0 ?_))
      exact hj162 _ h _ l0 l1
theorem wc_448_402 : rx_ct (rt_P sc fm) 448 402 = some (0, 362, 1) := (by decide +kernel : rt_ct 448 402 = some (0, 362, 1))
theorem wc_448_765 : rx_ct (rt_P sc fm) 448 765 = some (0, 363, 1) := (by decide +kernel : rt_ct 448 765 = some (0, 363, 1))
theorem wf_448_100 : rx_ft (rt_P sc fm) 448 100 = some (15, 18) := (by decide +kernel : rt_ft 448 100 = some (15, 18))
theorem wf_448_94 : rx_ft (rt_P sc fm) 448 94 = some (15, 16) := (by decide +kernel : rt_ft 448 94 = some (15, 16))
theorem wi_448_0 : ri (rt_P sc fm) 448 0 (.aload_n 0) (1) := ri_of (by decide +kernel) rfl
theorem wi_448_1 : ri (rt_P sc fm) 448 1 (.aload_n 0) (2) := ri_of (by decide +kernel) rfl
theorem wi_448_10 : ri (rt_P sc fm) 448 10 (.aload_n 0) (11) := ri_of (by decide +kernel) rfl
theorem wi_448_11 : ri (rt_P sc fm) 448 11 (.ldc_w 768) (14) := ri_of (by decide +kernel) rfl
theorem wi_448_14 : ri (rt_P sc fm) 448 14 (.invokevirtual 402) (17) := ri_of (by decide +kernel) rfl
theorem wi_448_17 : ri (rt_P sc fm) 448 17 (.aload_n 0) (18) := ri_of (by decide +kernel) rfl
theorem wi_448_18 : ri (rt_P sc fm) 448 18 (.aload_n 0) (19) := ri_of (by decide +kernel) rfl
theorem wi_448_19 : ri (rt_P sc fm) 448 19 (.getfield 100) (22) := ri_of (by decide +kernel) rfl
theorem wi_448_2 : ri (rt_P sc fm) 448 2 (.getfield 94) (5) := ri_of (by decide +kernel) rfl
theorem wi_448_22 : ri (rt_P sc fm) 448 22 (.bipush 12) (24) := ri_of (by decide +kernel) rfl
theorem wi_448_24 : ri (rt_P sc fm) 448 24 (.iload_n 1) (25) := ri_of (by decide +kernel) rfl
theorem wi_448_25 : ri (rt_P sc fm) 448 25 (.imul) (26) := ri_of (by decide +kernel) rfl
theorem wi_448_26 : ri (rt_P sc fm) 448 26 (.iload_n 2) (27) := ri_of (by decide +kernel) rfl
theorem wi_448_27 : ri (rt_P sc fm) 448 27 (.iadd) (28) := ri_of (by decide +kernel) rfl
theorem wi_448_28 : ri (rt_P sc fm) 448 28 (.laload) (29) := ri_of (by decide +kernel) rfl
theorem wi_448_29 : ri (rt_P sc fm) 448 29 (.invokevirtual 765) (32) := ri_of (by decide +kernel) rfl
theorem wi_448_32 : ri (rt_P sc fm) 448 32 (.return_) (33) := ri_of (by decide +kernel) rfl
theorem wi_448_5 : ri (rt_P sc fm) 448 5 (.iload_n 1) (6) := ri_of (by decide +kernel) rfl
theorem wi_448_6 : ri (rt_P sc fm) 448 6 (.laload) (7) := ri_of (by decide +kernel) rfl
theorem wi_448_7 : ri (rt_P sc fm) 448 7 (.invokevirtual 765) (10) := ri_of (by decide +kernel) rfl
theorem wk_448_768 : rx_kt (rt_P sc fm) 448 768 = some (.ref (rx_K 50)) := (by decide +kernel : rt_kt 448 768 = some (.ref (rx_K 50)))
theorem wr_448 : rx_rt (rt_P sc fm) 448 = none := (by decide +kernel : rt_rt 448 = none)
/-- MarkHouseModel.sayElement(II)V -/
def d_448 (n : Nat) (a1 : Int32) (a2 : Int32) (c : cS) : Option (cS) :=
  if ib a1 4 then
  Option.bind (d_363 n (c.2 181 (ix a1)) c) (fun r2 =>
  Option.bind (d_362 n 50 r2) (fun r3 =>
  if ib ((12 * a1) + a2) 48 then
  Option.bind (d_363 n (r3.2 183 (ix ((12 * a1) + a2))) r3) (fun r5 =>
  some r5)
  else none))
  else none
set_option maxRecDepth 100000 in
set_option maxHeartbeats 4000000 in
theorem sp_448 {F Lo n : Nat} {a1 : Int32} {a2 : Int32} {c y : cS} {w : cW} {K : cS → Prop} {Q : ((Option Value) ⊕ String) → List va_E → Prop} (hw : rOK fm w) (hF : 5 ≤ F) (hLo : 107 ≤ Lo)  (h : wp (d_448 n a1 a2 c) K) (hQ : ∀ r, K r → Q (.inl none) (hq false r y w)) : rs (rt_P sc fm) 448 F Lo 0 [(0, .ref 174), (1, .int a1), (2, .int a2)] [] (hq false c y w) Q := by
  unfold d_448 at h
  obtain ⟨lv, elv⟩ : ∃ lv : rx_L, lv = [(0, .ref 174), (1, .int a1), (2, .int a2)] := ⟨_, rfl⟩
  rw [← elv]
  have l0 : rx_ld lv 0 = some (.ref 174) := by rw [elv]; rfl
  have l1 : rx_ld lv 1 = some (.int a1) := by rw [elv]; rfl
  have l2 : rx_ld lv 2 = some (.int a2) := by rw [elv]; rfl
  refine rs_aldn wi_448_0 l0 ?_
  refine rs_aldn wi_448_1 l0 ?_
  refine dq_gr wi_448_2 wf_448_94 tf_174_16 ?_
  refine rs_ildn wi_448_5 l1 ?_
  obtain ⟨g1, h⟩ := wp_gd h
  refine dq_lald wi_448_6 t_181 g1 ?_
  refine rs_V wi_448_7 wc_448_765 rfl (dq_isa tf_174_0 wa_15_363) (Nat.le_trans (by decide) hF) (ml_le wm_363 (Nat.le_trans (by decide) hLo)) rfl (sp_363 hw (Nat.le_trans (by decide : 2 ≤ 5 - 1) (Nat.sub_le_sub_right hF 1)) (ml_sub wm_363 (Nat.le_trans (by decide : 44 ≤ 107 - 22) (Nat.sub_le_sub_right hLo 22))) (wp_bind h) (fun r2 h => rs_back0 ?_))
  refine rs_aldn wi_448_10 l0 ?_
  refine rs_ldcwS wi_448_11 wk_448_768 ?_
  refine rs_V wi_448_14 wc_448_402 rfl (dq_isa tf_174_0 wa_15_362) (Nat.le_trans (by decide) hF) (ml_le wm_362 (Nat.le_trans (by decide) hLo)) rfl (sp_362 hw (Nat.le_trans (by decide : 4 ≤ 5 - 1) (Nat.sub_le_sub_right hF 1)) (ml_sub wm_362 (Nat.le_trans (by decide : 85 ≤ 107 - 22) (Nat.sub_le_sub_right hLo 22))) wsb_50 (wp_bind h) (fun r3 h => rs_back0 ?_))
  refine rs_aldn wi_448_17 l0 ?_
  refine rs_aldn wi_448_18 l0 ?_
  refine dq_gr wi_448_19 wf_448_100 tf_174_18 ?_
  refine rs_pure wi_448_22 rfl ?_
  refine rs_topi (v := 12) (by decide) ?_
  refine rs_ildn wi_448_24 l1 ?_
  refine rs_pure wi_448_25 rfl ?_
  refine rs_ildn wi_448_26 l2 ?_
  refine rs_pure wi_448_27 rfl ?_
  obtain ⟨g4, h⟩ := wp_gd h
  refine dq_lald wi_448_28 t_183 g4 ?_
  refine rs_V wi_448_29 wc_448_765 rfl (dq_isa tf_174_0 wa_15_363) (Nat.le_trans (by decide) hF) (ml_le wm_363 (Nat.le_trans (by decide) hLo)) rfl (sp_363 hw (Nat.le_trans (by decide : 2 ≤ 5 - 1) (Nat.sub_le_sub_right hF 1)) (ml_sub wm_363 (Nat.le_trans (by decide : 44 ≤ 107 - 22) (Nat.sub_le_sub_right hLo 22))) (wp_bind h) (fun r5 h => rs_back0 ?_))
  exact rs_vret wi_448_32 wr_448 (hQ r5 h)
theorem t_250 : ta false 250 0 61440 := ⟨rfl, by decide, by decide⟩
theorem tf_174_107 : fo false 174 15 107 (.ref 250) := ⟨_, rfl, rfl, by decide, by decide⟩
theorem wf_464_308 : rx_ft (rt_P sc fm) 464 308 = some (15, 107) := (by decide +kernel : rt_ft 464 308 = some (15, 107))
theorem wf_464_894 : rx_ft (rt_P sc fm) 464 894 = some (15, 106) := (by decide +kernel : rt_ft 464 894 = some (15, 106))
theorem wi_464_0 : ri (rt_P sc fm) 464 0 (.iconst 0) (1) := ri_of (by decide +kernel) rfl
theorem wi_464_1 : ri (rt_P sc fm) 464 1 (.istore_n 2) (2) := ri_of (by decide +kernel) rfl
theorem wi_464_10 : ri (rt_P sc fm) 464 10 (.aload_n 0) (11) := ri_of (by decide +kernel) rfl
theorem wi_464_11 : ri (rt_P sc fm) 464 11 (.getfield 894) (14) := ri_of (by decide +kernel) rfl
theorem wi_464_14 : ri (rt_P sc fm) 464 14 (.ifCond .eq 31) (17) := ri_of (by decide +kernel) rfl
theorem wi_464_17 : ri (rt_P sc fm) 464 17 (.iload_n 2) (18) := ri_of (by decide +kernel) rfl
theorem wi_464_18 : ri (rt_P sc fm) 464 18 (.aload_n 0) (19) := ri_of (by decide +kernel) rfl
theorem wi_464_19 : ri (rt_P sc fm) 464 19 (.getfield 308) (22) := ri_of (by decide +kernel) rfl
theorem wi_464_2 : ri (rt_P sc fm) 464 2 (.iconst 0) (3) := ri_of (by decide +kernel) rfl
theorem wi_464_22 : ri (rt_P sc fm) 464 22 (.bipush 16) (24) := ri_of (by decide +kernel) rfl
theorem wi_464_24 : ri (rt_P sc fm) 464 24 (.iload_n 1) (25) := ri_of (by decide +kernel) rfl
theorem wi_464_25 : ri (rt_P sc fm) 464 25 (.imul) (26) := ri_of (by decide +kernel) rfl
theorem wi_464_26 : ri (rt_P sc fm) 464 26 (.iload_n 3) (27) := ri_of (by decide +kernel) rfl
theorem wi_464_27 : ri (rt_P sc fm) 464 27 (.iadd) (28) := ri_of (by decide +kernel) rfl
theorem wi_464_28 : ri (rt_P sc fm) 464 28 (.iaload) (29) := ri_of (by decide +kernel) rfl
theorem wi_464_29 : ri (rt_P sc fm) 464 29 (.ifCond .lt 7) (32) := ri_of (by decide +kernel) rfl
theorem wi_464_3 : ri (rt_P sc fm) 464 3 (.istore_n 3) (4) := ri_of (by decide +kernel) rfl
theorem wi_464_32 : ri (rt_P sc fm) 464 32 (.iconst 1) (33) := ri_of (by decide +kernel) rfl
theorem wi_464_33 : ri (rt_P sc fm) 464 33 (.goto 4) (36) := ri_of (by decide +kernel) rfl
theorem wi_464_36 : ri (rt_P sc fm) 464 36 (.iconst 0) (37) := ri_of (by decide +kernel) rfl
theorem wi_464_37 : ri (rt_P sc fm) 464 37 (.iadd) (38) := ri_of (by decide +kernel) rfl
theorem wi_464_38 : ri (rt_P sc fm) 464 38 (.istore_n 2) (39) := ri_of (by decide +kernel) rfl
theorem wi_464_39 : ri (rt_P sc fm) 464 39 (.iinc 3 1) (42) := ri_of (by decide +kernel) rfl
theorem wi_464_4 : ri (rt_P sc fm) 464 4 (.iload_n 3) (5) := ri_of (by decide +kernel) rfl
theorem wi_464_42 : ri (rt_P sc fm) 464 42 (.goto (-38)) (45) := ri_of (by decide +kernel) rfl
theorem wi_464_45 : ri (rt_P sc fm) 464 45 (.iload_n 2) (46) := ri_of (by decide +kernel) rfl
theorem wi_464_46 : ri (rt_P sc fm) 464 46 (.ireturn) (47) := ri_of (by decide +kernel) rfl
theorem wi_464_5 : ri (rt_P sc fm) 464 5 (.bipush 16) (7) := ri_of (by decide +kernel) rfl
theorem wi_464_7 : ri (rt_P sc fm) 464 7 (.if_icmp .ge 38) (10) := ri_of (by decide +kernel) rfl
theorem wr_464 : rx_rt (rt_P sc fm) 464 = (some FieldType.int) := (by decide +kernel : rt_rt 464 = (some FieldType.int))
/-- MarkHouseModel.checksOf(I)I -/
def d_464 (n : Nat) (a1 : Int32) (c : cS) : Option (Int32) :=
  Option.bind (whl (R := (Int32)) (fun s3 : Int32 × Int32 =>
    if 16 ≤ s3.2 then
      some (.inr s3.1)
    else
      if (c.1 174 106) = 0 then
        some (.inr s3.1)
      else
        if ib ((16 * a1) + s3.2) 61440 then
        jn (fun p5 : Int32 =>
          lt ((s3.1 + p5) : Int32) (fun v7 =>
          lt (s3.2 + 1 : Int32) (fun v10 =>
          some (.inl (v7, v10)))))
        (fun j37 =>
        if (c.1 250 (ix ((16 * a1) + s3.2))) < 0 then
          j37 0
        else
          j37 1)
        else none) n (0, 0))
  (fun x12 : Int32 =>
    some x12)
set_option maxRecDepth 100000 in
set_option maxHeartbeats 4000000 in
theorem sp_464 {F Lo n : Nat} {a1 : Int32} {c y : cS} {w : cW} {K : Int32 → Prop} {Q : ((Option Value) ⊕ String) → List va_E → Prop} (hw : rOK fm w) (hF : 0 ≤ F) (hLo : 0 ≤ Lo)  (h : wp (d_464 n a1 c) K) (hQ : ∀ r, K r → Q (.inl (some (.int r))) (hq false c y w)) : rs (rt_P sc fm) 464 F Lo 0 [(0, .ref 174), (1, .int a1)] [] (hq false c y w) Q := by
  unfold d_464 at h
  obtain ⟨lv, elv⟩ : ∃ lv : rx_L, lv = [(0, .ref 174), (1, .int a1)] := ⟨_, rfl⟩
  rw [← elv]
  have l0 : rx_ld lv 0 = some (.ref 174) := by rw [elv]; rfl
  have l1 : rx_ld lv 1 = some (.int a1) := by rw [elv]; rfl
  refine rs_pure wi_464_0 rfl ?_
  refine rs_topi (v := 0) (by decide) ?_
  refine dl_istn wi_464_1 rfl (fun lv l2 t1 => ?_)
  have l0 := t1 _ _ (by decide) (Or.inl rfl) l0
  have l1 := t1 _ _ (by decide) (Or.inl rfl) l1
  refine rs_pure wi_464_2 rfl ?_
  refine rs_topi (v := 0) (by decide) ?_
  refine dl_istn wi_464_3 rfl (fun lv l3 t2 => ?_)
  have l0 := t2 _ _ (by decide) (Or.inl rfl) l0
  have l1 := t2 _ _ (by decide) (Or.inl rfl) l1
  have l2 := t2 _ _ (by decide) (Or.inl rfl) l2
  refine whl_ex (A := fun s3 : Int32 × Int32 => ∀ lv, rx_ld lv 0 = some (.ref 174) → rx_ld lv 1 = some (.int a1) → rx_ld lv 2 = some (.int s3.1) → rx_ld lv 3 = some (.int s3.2) → rs (rt_P sc fm) 464 F Lo 4 lv [] (hq false c y w) Q) (B := (fun x12 : Int32 => ∀ lv, rx_ld lv 2 = some (.int x12) → rs (rt_P sc fm) 464 F Lo 45 lv [] (hq false c y w) Q)) ?_ ?_ _ _ (wp_bind h) _ l0 l1 l2 l3
  · intro s3 h lv l0 l1 l2 l3
    refine rs_ildn wi_464_4 l3 ?_
    refine rs_pure wi_464_5 rfl ?_
    refine rs_topi (v := 16) (by decide) ?_
    refine rs_icge (tg := 45) wi_464_7 ⟨by decide, by decide⟩ (fun q => ?_) (fun q => ?_)
    ·
      have h := wp_pos h q
      exact h _ l2
    ·
      have h := wp_neg h q
      refine rs_aldn wi_464_10 l0 ?_
      refine dq_gi wi_464_11 wf_464_894 tf_174_106 ?_
      refine rs_ifeq (tg := 45) wi_464_14 ⟨by decide, by decide⟩ (fun q => ?_) (fun q => ?_)
      ·
        have h := wp_pos h q
        exact h _ l2
      ·
        have h := wp_neg h q
        refine rs_ildn wi_464_17 l2 ?_
        refine rs_aldn wi_464_18 l0 ?_
        refine dq_gr wi_464_19 wf_464_308 tf_174_107 ?_
        refine rs_pure wi_464_22 rfl ?_
        refine rs_topi (v := 16) (by decide) ?_
        refine rs_ildn wi_464_24 l1 ?_
        refine rs_pure wi_464_25 rfl ?_
        refine rs_ildn wi_464_26 l3 ?_
        refine rs_pure wi_464_27 rfl ?_
        obtain ⟨g4, h⟩ := wp_gd h
        refine dq_iald wi_464_28 t_250 g4 ?_
        refine wp_jn (B := fun p5 : Int32 => ∀ lv, rx_ld lv 0 = some (.ref 174) → rx_ld lv 1 = some (.int a1) → rx_ld lv 3 = some (.int s3.2) → rs (rt_P sc fm) 464 F Lo 37 lv [.int p5, .int s3.1] (hq false c y w) Q) h (fun p5 h lv l0 l1 l3 => ?_) (fun j37 hj37 h => ?_)
        ·
          refine rs_pure wi_464_37 rfl ?_
          obtain ⟨v7, e8, h⟩ := wp_lt h
          refine rs_topi e8 ?_
          refine dl_istn wi_464_38 rfl (fun lv l2 t6 => ?_)
          have l0 := t6 _ _ (by decide) (Or.inl rfl) l0
          have l1 := t6 _ _ (by decide) (Or.inl rfl) l1
          have l3 := t6 _ _ (by decide) (Or.inl rfl) l3
          obtain ⟨v10, e11, h⟩ := wp_lt h
          refine dl_inc wi_464_39 l3 rfl e11 (fun lv l3 t9 => ?_)
          have l0 := t9 _ _ (by decide) (Or.inl rfl) l0
          have l1 := t9 _ _ (by decide) (Or.inl rfl) l1
          have l2 := t9 _ _ (by decide) (Or.inl rfl) l2
          refine rs_goto (tg := 4) wi_464_42 ⟨by decide, by decide⟩ ?_
          exact h _ l0 l1 l2 l3
        refine rs_iflt (tg := 36) wi_464_29 ⟨by decide, by decide⟩ (fun q => ?_) (fun q => ?_)
        ·
          have h := wp_pos h q
          refine rs_pure wi_464_36 rfl ?_
          refine rs_topi (v := 0) (by decide) ?_
          exact hj37 _ h _ l0 l1 l3
        ·
          have h := wp_neg h q
          refine rs_pure wi_464_32 rfl ?_
          refine rs_topi (v := 1) (by decide) ?_
          refine rs_goto (tg := 37) wi_464_33 ⟨by decide, by decide⟩ ?_
          exact hj37 _ h _ l0 l1 l3
  ·
    intro x12 h lv l2
    refine rs_ildn wi_464_45 l2 ?_
    exact rs_iret wi_464_46 wr_464 rfl (hQ x12 h)
theorem wa_15_464 : rz_cn 15 (rx_yn (rt_P sc fm) 464).cls = true := (by decide +kernel : rz_cn 15 (rt_yn 464).cls = true)
set_option maxRecDepth 100000 in
theorem wc_465_906 : rx_ct (rt_P sc fm) 465 906 = some (0, 464, 1) := (by decide +kernel : rt_ct 465 906 = some (0, 464, 1))
theorem wi_465_0 : ri (rt_P sc fm) 465 0 (.iload_n 2) (1) := ri_of (by decide +kernel) rfl
theorem wi_465_1 : ri (rt_P sc fm) 465 1 (.istore 4) (3) := ri_of (by decide +kernel) rfl
theorem wi_465_12 : ri (rt_P sc fm) 465 12 (.iload_n 3) (13) := ri_of (by decide +kernel) rfl
theorem wi_465_13 : ri (rt_P sc fm) 465 13 (.ifCond .eq 25) (16) := ri_of (by decide +kernel) rfl
theorem wi_465_16 : ri (rt_P sc fm) 465 16 (.iload 4) (18) := ri_of (by decide +kernel) rfl
theorem wi_465_18 : ri (rt_P sc fm) 465 18 (.aload_n 0) (19) := ri_of (by decide +kernel) rfl
theorem wi_465_19 : ri (rt_P sc fm) 465 19 (.bipush 40) (21) := ri_of (by decide +kernel) rfl
theorem wi_465_21 : ri (rt_P sc fm) 465 21 (.iload_n 1) (22) := ri_of (by decide +kernel) rfl
theorem wi_465_22 : ri (rt_P sc fm) 465 22 (.imul) (23) := ri_of (by decide +kernel) rfl
theorem wi_465_23 : ri (rt_P sc fm) 465 23 (.iload 5) (25) := ri_of (by decide +kernel) rfl
theorem wi_465_25 : ri (rt_P sc fm) 465 25 (.iadd) (26) := ri_of (by decide +kernel) rfl
theorem wi_465_26 : ri (rt_P sc fm) 465 26 (.invokevirtual 906) (29) := ri_of (by decide +kernel) rfl
theorem wi_465_29 : ri (rt_P sc fm) 465 29 (.iadd) (30) := ri_of (by decide +kernel) rfl
theorem wi_465_3 : ri (rt_P sc fm) 465 3 (.iconst 0) (4) := ri_of (by decide +kernel) rfl
theorem wi_465_30 : ri (rt_P sc fm) 465 30 (.istore 4) (32) := ri_of (by decide +kernel) rfl
theorem wi_465_32 : ri (rt_P sc fm) 465 32 (.iinc 5 1) (35) := ri_of (by decide +kernel) rfl
theorem wi_465_35 : ri (rt_P sc fm) 465 35 (.goto (-29)) (38) := ri_of (by decide +kernel) rfl
theorem wi_465_38 : ri (rt_P sc fm) 465 38 (.iload 4) (40) := ri_of (by decide +kernel) rfl
theorem wi_465_4 : ri (rt_P sc fm) 465 4 (.istore 5) (6) := ri_of (by decide +kernel) rfl
theorem wi_465_40 : ri (rt_P sc fm) 465 40 (.ireturn) (41) := ri_of (by decide +kernel) rfl
theorem wi_465_6 : ri (rt_P sc fm) 465 6 (.iload 5) (8) := ri_of (by decide +kernel) rfl
theorem wi_465_8 : ri (rt_P sc fm) 465 8 (.iload_n 2) (9) := ri_of (by decide +kernel) rfl
theorem wi_465_9 : ri (rt_P sc fm) 465 9 (.if_icmp .ge 29) (12) := ri_of (by decide +kernel) rfl
theorem wm_464 : rx_ml (rt_P sc fm) 464 = 4 := (by decide +kernel : rt_ml 464 = 4)
theorem wr_465 : rx_rt (rt_P sc fm) 465 = (some FieldType.int) := (by decide +kernel : rt_rt 465 = (some FieldType.int))
/-- MarkHouseModel.numberOf(IIZ)I -/
def d_465 (n : Nat) (a1 : Int32) (a2 : Int32) (a3 : Int32) (c : cS) : Option (Int32) :=
  Option.bind (whl (R := (Int32)) (fun s3 : Int32 × Int32 =>
    if a2 ≤ s3.2 then
      some (.inr s3.1)
    else
      if a3 = 0 then
        some (.inr s3.1)
      else
        Option.bind (d_464 n ((40 * a1) + s3.2) c) (fun v4 =>
        lt ((s3.1 + v4) : Int32) (fun v6 =>
        lt (s3.2 + 1 : Int32) (fun v9 =>
        some (.inl (v6, v9)))))) n (a2, 0))
  (fun x11 : Int32 =>
    some x11)
set_option maxRecDepth 100000 in
set_option maxHeartbeats 4000000 in
theorem sp_465 {F Lo n : Nat} {a1 : Int32} {a2 : Int32} {a3 : Int32} {c y : cS} {w : cW} {K : Int32 → Prop} {Q : ((Option Value) ⊕ String) → List va_E → Prop} (hw : rOK fm w) (hF : 1 ≤ F) (hLo : 23 ≤ Lo)  (h : wp (d_465 n a1 a2 a3 c) K) (hQ : ∀ r, K r → Q (.inl (some (.int r))) (hq false c y w)) : rs (rt_P sc fm) 465 F Lo 0 [(0, .ref 174), (1, .int a1), (2, .int a2), (3, .int a3)] [] (hq false c y w) Q := by
  unfold d_465 at h
  obtain ⟨lv, elv⟩ : ∃ lv : rx_L, lv = [(0, .ref 174), (1, .int a1), (2, .int a2), (3, .int a3)] := ⟨_, rfl⟩
  rw [← elv]
  have l0 : rx_ld lv 0 = some (.ref 174) := by rw [elv]; rfl
  have l1 : rx_ld lv 1 = some (.int a1) := by rw [elv]; rfl
  have l2 : rx_ld lv 2 = some (.int a2) := by rw [elv]; rfl
  have l3 : rx_ld lv 3 = some (.int a3) := by rw [elv]; rfl
  refine rs_ildn wi_465_0 l2 ?_
  refine dl_ist wi_465_1 rfl (fun lv l4 t1 => ?_)
  have l0 := t1 _ _ (by decide) (Or.inl rfl) l0
  have l1 := t1 _ _ (by decide) (Or.inl rfl) l1
  have l2 := t1 _ _ (by decide) (Or.inl rfl) l2
  have l3 := t1 _ _ (by decide) (Or.inl rfl) l3
  refine rs_pure wi_465_3 rfl ?_
  refine rs_topi (v := 0) (by decide) ?_
  refine dl_ist wi_465_4 rfl (fun lv l5 t2 => ?_)
  have l0 := t2 _ _ (by decide) (Or.inl rfl) l0
  have l1 := t2 _ _ (by decide) (Or.inl rfl) l1
  have l2 := t2 _ _ (by decide) (Or.inl rfl) l2
  have l3 := t2 _ _ (by decide) (Or.inl rfl) l3
  have l4 := t2 _ _ (by decide) (Or.inl rfl) l4
  refine whl_ex (A := fun s3 : Int32 × Int32 => ∀ lv, rx_ld lv 0 = some (.ref 174) → rx_ld lv 1 = some (.int a1) → rx_ld lv 2 = some (.int a2) → rx_ld lv 3 = some (.int a3) → rx_ld lv 4 = some (.int s3.1) → rx_ld lv 5 = some (.int s3.2) → rs (rt_P sc fm) 465 F Lo 6 lv [] (hq false c y w) Q) (B := (fun x11 : Int32 => ∀ lv, rx_ld lv 4 = some (.int x11) → rs (rt_P sc fm) 465 F Lo 38 lv [] (hq false c y w) Q)) ?_ ?_ _ _ (wp_bind h) _ l0 l1 l2 l3 l4 l5
  · intro s3 h lv l0 l1 l2 l3 l4 l5
    refine rs_ild wi_465_6 l5 ?_
    refine rs_ildn wi_465_8 l2 ?_
    refine rs_icge (tg := 38) wi_465_9 ⟨by decide, by decide⟩ (fun q => ?_) (fun q => ?_)
    ·
      have h := wp_pos h q
      exact h _ l4
    ·
      have h := wp_neg h q
      refine rs_ildn wi_465_12 l3 ?_
      refine rs_ifeq (tg := 38) wi_465_13 ⟨by decide, by decide⟩ (fun q => ?_) (fun q => ?_)
      ·
        have h := wp_pos h q
        exact h _ l4
      ·
        have h := wp_neg h q
        refine rs_ild wi_465_16 l4 ?_
        refine rs_aldn wi_465_18 l0 ?_
        refine rs_pure wi_465_19 rfl ?_
        refine rs_topi (v := 40) (by decide) ?_
        refine rs_ildn wi_465_21 l1 ?_
        refine rs_pure wi_465_22 rfl ?_
        refine rs_ild wi_465_23 l5 ?_
        refine rs_pure wi_465_25 rfl ?_
        refine rs_V wi_465_26 wc_465_906 rfl (dq_isa tf_174_0 wa_15_464) (Nat.le_trans (by decide) hF) (ml_le wm_464 (Nat.le_trans (by decide) hLo)) rfl (sp_464 hw (Nat.le_trans (by decide : 0 ≤ 1 - 1) (Nat.sub_le_sub_right hF 1)) (ml_sub wm_464 (Nat.le_trans (by decide : 0 ≤ 23 - 23) (Nat.sub_le_sub_right hLo 23))) (wp_bind h) (fun v4 h => rs_back1 ?_))
        refine rs_pure wi_465_29 rfl ?_
        obtain ⟨v6, e7, h⟩ := wp_lt h
        refine rs_topi e7 ?_
        refine dl_ist wi_465_30 rfl (fun lv l4 t5 => ?_)
        have l0 := t5 _ _ (by decide) (Or.inl rfl) l0
        have l1 := t5 _ _ (by decide) (Or.inl rfl) l1
        have l2 := t5 _ _ (by decide) (Or.inl rfl) l2
        have l3 := t5 _ _ (by decide) (Or.inl rfl) l3
        have l5 := t5 _ _ (by decide) (Or.inl rfl) l5
        obtain ⟨v9, e10, h⟩ := wp_lt h
        refine dl_inc wi_465_32 l5 rfl e10 (fun lv l5 t8 => ?_)
        have l0 := t8 _ _ (by decide) (Or.inl rfl) l0
        have l1 := t8 _ _ (by decide) (Or.inl rfl) l1
        have l2 := t8 _ _ (by decide) (Or.inl rfl) l2
        have l3 := t8 _ _ (by decide) (Or.inl rfl) l3
        have l4 := t8 _ _ (by decide) (Or.inl rfl) l4
        refine rs_goto (tg := 6) wi_465_35 ⟨by decide, by decide⟩ ?_
        exact h _ l0 l1 l2 l3 l4 l5
  ·
    intro x11 h lv l4
    refine rs_ild wi_465_38 l4 ?_
    exact rs_iret wi_465_40 wr_465 rfl (hQ x11 h)
theorem wa_15_448 : rz_cn 15 (rx_yn (rt_P sc fm) 448).cls = true := (by decide +kernel : rz_cn 15 (rt_yn 448).cls = true)
theorem wa_15_465 : rz_cn 15 (rx_yn (rt_P sc fm) 465).cls = true := (by decide +kernel : rz_cn 15 (rt_yn 465).cls = true)
theorem wc_447_402 : rx_ct (rt_P sc fm) 447 402 = some (0, 362, 1) := (by decide +kernel : rt_ct 447 402 = some (0, 362, 1))
theorem wc_447_406 : rx_ct (rt_P sc fm) 447 406 = some (0, 364, 1) := (by decide +kernel : rt_ct 447 406 = some (0, 364, 1))
theorem wc_447_765 : rx_ct (rt_P sc fm) 447 765 = some (0, 363, 1) := (by decide +kernel : rt_ct 447 765 = some (0, 363, 1))
theorem wc_447_783 : rx_ct (rt_P sc fm) 447 783 = some (0, 365, 1) := (by decide +kernel : rt_ct 447 783 = some (0, 365, 1))
theorem wc_447_813 : rx_ct (rt_P sc fm) 447 813 = some (0, 448, 2) := (by decide +kernel : rt_ct 447 813 = some (0, 448, 2))
theorem wc_447_816 : rx_ct (rt_P sc fm) 447 816 = some (0, 465, 3) := (by decide +kernel : rt_ct 447 816 = some (0, 465, 3))
theorem wf_447_152 : rx_ft (rt_P sc fm) 447 152 = some (15, 38) := (by decide +kernel : rt_ft 447 152 = some (15, 38))
theorem wf_447_164 : rx_ft (rt_P sc fm) 447 164 = some (15, 42) := (by decide +kernel : rt_ft 447 164 = some (15, 42))
theorem wf_447_170 : rx_ft (rt_P sc fm) 447 170 = some (15, 44) := (by decide +kernel : rt_ft 447 170 = some (15, 44))
theorem wf_447_179 : rx_ft (rt_P sc fm) 447 179 = some (15, 47) := (by decide +kernel : rt_ft 447 179 = some (15, 47))
theorem wf_447_185 : rx_ft (rt_P sc fm) 447 185 = some (15, 49) := (by decide +kernel : rt_ft 447 185 = some (15, 49))
theorem wf_447_188 : rx_ft (rt_P sc fm) 447 188 = some (15, 50) := (by decide +kernel : rt_ft 447 188 = some (15, 50))
theorem wf_447_194 : rx_ft (rt_P sc fm) 447 194 = some (15, 52) := (by decide +kernel : rt_ft 447 194 = some (15, 52))
theorem wf_447_197 : rx_ft (rt_P sc fm) 447 197 = some (15, 53) := (by decide +kernel : rt_ft 447 197 = some (15, 53))
theorem wf_447_200 : rx_ft (rt_P sc fm) 447 200 = some (15, 54) := (by decide +kernel : rt_ft 447 200 = some (15, 54))
theorem wf_447_209 : rx_ft (rt_P sc fm) 447 209 = some (15, 57) := (by decide +kernel : rt_ft 447 209 = some (15, 57))
theorem wf_447_212 : rx_ft (rt_P sc fm) 447 212 = some (15, 58) := (by decide +kernel : rt_ft 447 212 = some (15, 58))
theorem wf_447_215 : rx_ft (rt_P sc fm) 447 215 = some (15, 59) := (by decide +kernel : rt_ft 447 215 = some (15, 59))
theorem wf_447_240 : rx_ft (rt_P sc fm) 447 240 = some (15, 69) := (by decide +kernel : rt_ft 447 240 = some (15, 69))
theorem wf_447_80 : rx_ft (rt_P sc fm) 447 80 = some (15, 6) := (by decide +kernel : rt_ft 447 80 = some (15, 6))
theorem wi_447_0 : ri (rt_P sc fm) 447 0 (.aload_n 0) (1) := ri_of (by decide +kernel) rfl
theorem wi_447_1 : ri (rt_P sc fm) 447 1 (.aload_n 0) (2) := ri_of (by decide +kernel) rfl
theorem wi_447_10 : ri (rt_P sc fm) 447 10 (.iaload) (11) := ri_of (by decide +kernel) rfl
theorem wi_447_104 : ri (rt_P sc fm) 447 104 (.aload_n 0) (105) := ri_of (by decide +kernel) rfl
theorem wi_447_105 : ri (rt_P sc fm) 447 105 (.getfield 185) (108) := ri_of (by decide +kernel) rfl
theorem wi_447_108 : ri (rt_P sc fm) 447 108 (.iload_n 2) (109) := ri_of (by decide +kernel) rfl
theorem wi_447_109 : ri (rt_P sc fm) 447 109 (.iaload) (110) := ri_of (by decide +kernel) rfl
theorem wi_447_11 : ri (rt_P sc fm) 447 11 (.aaload) (12) := ri_of (by decide +kernel) rfl
theorem wi_447_110 : ri (rt_P sc fm) 447 110 (.bipush 14) (112) := ri_of (by decide +kernel) rfl
theorem wi_447_112 : ri (rt_P sc fm) 447 112 (.if_icmp .ne 13) (115) := ri_of (by decide +kernel) rfl
theorem wi_447_115 : ri (rt_P sc fm) 447 115 (.aload_n 0) (116) := ri_of (by decide +kernel) rfl
theorem wi_447_116 : ri (rt_P sc fm) 447 116 (.aload_n 0) (117) := ri_of (by decide +kernel) rfl
theorem wi_447_117 : ri (rt_P sc fm) 447 117 (.getfield 194) (120) := ri_of (by decide +kernel) rfl
theorem wi_447_12 : ri (rt_P sc fm) 447 12 (.invokevirtual 402) (15) := ri_of (by decide +kernel) rfl
theorem wi_447_120 : ri (rt_P sc fm) 447 120 (.iload_n 2) (121) := ri_of (by decide +kernel) rfl
theorem wi_447_121 : ri (rt_P sc fm) 447 121 (.iaload) (122) := ri_of (by decide +kernel) rfl
theorem wi_447_122 : ri (rt_P sc fm) 447 122 (.invokevirtual 783) (125) := ri_of (by decide +kernel) rfl
theorem wi_447_125 : ri (rt_P sc fm) 447 125 (.iconst 0) (126) := ri_of (by decide +kernel) rfl
theorem wi_447_126 : ri (rt_P sc fm) 447 126 (.istore 5) (128) := ri_of (by decide +kernel) rfl
theorem wi_447_128 : ri (rt_P sc fm) 447 128 (.iload 5) (130) := ri_of (by decide +kernel) rfl
theorem wi_447_130 : ri (rt_P sc fm) 447 130 (.aload_n 0) (131) := ri_of (by decide +kernel) rfl
theorem wi_447_131 : ri (rt_P sc fm) 447 131 (.getfield 209) (134) := ri_of (by decide +kernel) rfl
theorem wi_447_134 : ri (rt_P sc fm) 447 134 (.iload_n 2) (135) := ri_of (by decide +kernel) rfl
theorem wi_447_135 : ri (rt_P sc fm) 447 135 (.iaload) (136) := ri_of (by decide +kernel) rfl
theorem wi_447_136 : ri (rt_P sc fm) 447 136 (.if_icmp .ge 42) (139) := ri_of (by decide +kernel) rfl
theorem wi_447_139 : ri (rt_P sc fm) 447 139 (.aload_n 0) (140) := ri_of (by decide +kernel) rfl
theorem wi_447_140 : ri (rt_P sc fm) 447 140 (.ldc_w 763) (143) := ri_of (by decide +kernel) rfl
theorem wi_447_143 : ri (rt_P sc fm) 447 143 (.invokevirtual 402) (146) := ri_of (by decide +kernel) rfl
theorem wi_447_146 : ri (rt_P sc fm) 447 146 (.aload_n 0) (147) := ri_of (by decide +kernel) rfl
theorem wi_447_147 : ri (rt_P sc fm) 447 147 (.aload_n 0) (148) := ri_of (by decide +kernel) rfl
theorem wi_447_148 : ri (rt_P sc fm) 447 148 (.getfield 212) (151) := ri_of (by decide +kernel) rfl
theorem wi_447_15 : ri (rt_P sc fm) 447 15 (.aload_n 0) (16) := ri_of (by decide +kernel) rfl
theorem wi_447_151 : ri (rt_P sc fm) 447 151 (.iconst 4) (152) := ri_of (by decide +kernel) rfl
theorem wi_447_152 : ri (rt_P sc fm) 447 152 (.iload_n 2) (153) := ri_of (by decide +kernel) rfl
theorem wi_447_153 : ri (rt_P sc fm) 447 153 (.imul) (154) := ri_of (by decide +kernel) rfl
theorem wi_447_154 : ri (rt_P sc fm) 447 154 (.iload 5) (156) := ri_of (by decide +kernel) rfl
theorem wi_447_156 : ri (rt_P sc fm) 447 156 (.iadd) (157) := ri_of (by decide +kernel) rfl
theorem wi_447_157 : ri (rt_P sc fm) 447 157 (.iaload) (158) := ri_of (by decide +kernel) rfl
theorem wi_447_158 : ri (rt_P sc fm) 447 158 (.aload_n 0) (159) := ri_of (by decide +kernel) rfl
theorem wi_447_159 : ri (rt_P sc fm) 447 159 (.getfield 215) (162) := ri_of (by decide +kernel) rfl
theorem wi_447_16 : ri (rt_P sc fm) 447 16 (.getfield 185) (19) := ri_of (by decide +kernel) rfl
theorem wi_447_162 : ri (rt_P sc fm) 447 162 (.iconst 4) (163) := ri_of (by decide +kernel) rfl
theorem wi_447_163 : ri (rt_P sc fm) 447 163 (.iload_n 2) (164) := ri_of (by decide +kernel) rfl
theorem wi_447_164 : ri (rt_P sc fm) 447 164 (.imul) (165) := ri_of (by decide +kernel) rfl
theorem wi_447_165 : ri (rt_P sc fm) 447 165 (.iload 5) (167) := ri_of (by decide +kernel) rfl
theorem wi_447_167 : ri (rt_P sc fm) 447 167 (.iadd) (168) := ri_of (by decide +kernel) rfl
theorem wi_447_168 : ri (rt_P sc fm) 447 168 (.iaload) (169) := ri_of (by decide +kernel) rfl
theorem wi_447_169 : ri (rt_P sc fm) 447 169 (.invokevirtual 813) (172) := ri_of (by decide +kernel) rfl
theorem wi_447_172 : ri (rt_P sc fm) 447 172 (.iinc 5 1) (175) := ri_of (by decide +kernel) rfl
theorem wi_447_175 : ri (rt_P sc fm) 447 175 (.goto (-47)) (178) := ri_of (by decide +kernel) rfl
theorem wi_447_178 : ri (rt_P sc fm) 447 178 (.goto 130) (181) := ri_of (by decide +kernel) rfl
theorem wi_447_181 : ri (rt_P sc fm) 447 181 (.aload_n 0) (182) := ri_of (by decide +kernel) rfl
theorem wi_447_182 : ri (rt_P sc fm) 447 182 (.aload_n 0) (183) := ri_of (by decide +kernel) rfl
theorem wi_447_183 : ri (rt_P sc fm) 447 183 (.getfield 179) (186) := ri_of (by decide +kernel) rfl
theorem wi_447_186 : ri (rt_P sc fm) 447 186 (.bipush 8) (188) := ri_of (by decide +kernel) rfl
theorem wi_447_188 : ri (rt_P sc fm) 447 188 (.iload_n 1) (189) := ri_of (by decide +kernel) rfl
theorem wi_447_189 : ri (rt_P sc fm) 447 189 (.imul) (190) := ri_of (by decide +kernel) rfl
theorem wi_447_19 : ri (rt_P sc fm) 447 19 (.iload_n 2) (20) := ri_of (by decide +kernel) rfl
theorem wi_447_190 : ri (rt_P sc fm) 447 190 (.aload_n 0) (191) := ri_of (by decide +kernel) rfl
theorem wi_447_191 : ri (rt_P sc fm) 447 191 (.getfield 194) (194) := ri_of (by decide +kernel) rfl
theorem wi_447_194 : ri (rt_P sc fm) 447 194 (.iload_n 2) (195) := ri_of (by decide +kernel) rfl
theorem wi_447_195 : ri (rt_P sc fm) 447 195 (.iaload) (196) := ri_of (by decide +kernel) rfl
theorem wi_447_196 : ri (rt_P sc fm) 447 196 (.iadd) (197) := ri_of (by decide +kernel) rfl
theorem wi_447_197 : ri (rt_P sc fm) 447 197 (.laload) (198) := ri_of (by decide +kernel) rfl
theorem wi_447_198 : ri (rt_P sc fm) 447 198 (.invokevirtual 765) (201) := ri_of (by decide +kernel) rfl
theorem wi_447_2 : ri (rt_P sc fm) 447 2 (.getfield 80) (5) := ri_of (by decide +kernel) rfl
theorem wi_447_20 : ri (rt_P sc fm) 447 20 (.iaload) (21) := ri_of (by decide +kernel) rfl
theorem wi_447_201 : ri (rt_P sc fm) 447 201 (.goto 107) (204) := ri_of (by decide +kernel) rfl
theorem wi_447_204 : ri (rt_P sc fm) 447 204 (.aload_n 0) (205) := ri_of (by decide +kernel) rfl
theorem wi_447_205 : ri (rt_P sc fm) 447 205 (.aload_n 0) (206) := ri_of (by decide +kernel) rfl
theorem wi_447_206 : ri (rt_P sc fm) 447 206 (.getfield 152) (209) := ri_of (by decide +kernel) rfl
theorem wi_447_209 : ri (rt_P sc fm) 447 209 (.aload_n 0) (210) := ri_of (by decide +kernel) rfl
theorem wi_447_21 : ri (rt_P sc fm) 447 21 (.tableswitch 287 14 30 #[83, 83, 160, 160, 183, 183, 183, 287, 287, 287, 287, 287, 287, 287, 287, 268, 268]) (21 + rx_len (.tableswitch 287 14 30 #[83, 83, 160, 160, 183, 183, 183, 287, 287, 287, 287, 287, 287, 287, 287, 268, 268])) := ri_of (by decide +kernel) rfl
theorem wi_447_210 : ri (rt_P sc fm) 447 210 (.getfield 240) (213) := ri_of (by decide +kernel) rfl
theorem wi_447_213 : ri (rt_P sc fm) 447 213 (.iload_n 2) (214) := ri_of (by decide +kernel) rfl
theorem wi_447_214 : ri (rt_P sc fm) 447 214 (.iaload) (215) := ri_of (by decide +kernel) rfl
theorem wi_447_215 : ri (rt_P sc fm) 447 215 (.laload) (216) := ri_of (by decide +kernel) rfl
theorem wi_447_216 : ri (rt_P sc fm) 447 216 (.invokevirtual 765) (219) := ri_of (by decide +kernel) rfl
theorem wi_447_219 : ri (rt_P sc fm) 447 219 (.aload_n 0) (220) := ri_of (by decide +kernel) rfl
theorem wi_447_220 : ri (rt_P sc fm) 447 220 (.ldc_w 768) (223) := ri_of (by decide +kernel) rfl
theorem wi_447_223 : ri (rt_P sc fm) 447 223 (.invokevirtual 402) (226) := ri_of (by decide +kernel) rfl
theorem wi_447_226 : ri (rt_P sc fm) 447 226 (.aload_n 0) (227) := ri_of (by decide +kernel) rfl
theorem wi_447_227 : ri (rt_P sc fm) 447 227 (.aload_n 0) (228) := ri_of (by decide +kernel) rfl
theorem wi_447_228 : ri (rt_P sc fm) 447 228 (.getfield 185) (231) := ri_of (by decide +kernel) rfl
theorem wi_447_231 : ri (rt_P sc fm) 447 231 (.iload_n 2) (232) := ri_of (by decide +kernel) rfl
theorem wi_447_232 : ri (rt_P sc fm) 447 232 (.iaload) (233) := ri_of (by decide +kernel) rfl
theorem wi_447_233 : ri (rt_P sc fm) 447 233 (.bipush 20) (235) := ri_of (by decide +kernel) rfl
theorem wi_447_235 : ri (rt_P sc fm) 447 235 (.if_icmp .ne 27) (238) := ri_of (by decide +kernel) rfl
theorem wi_447_238 : ri (rt_P sc fm) 447 238 (.aload_n 0) (239) := ri_of (by decide +kernel) rfl
theorem wi_447_239 : ri (rt_P sc fm) 447 239 (.getfield 170) (242) := ri_of (by decide +kernel) rfl
theorem wi_447_242 : ri (rt_P sc fm) 447 242 (.bipush 8) (244) := ri_of (by decide +kernel) rfl
theorem wi_447_244 : ri (rt_P sc fm) 447 244 (.aload_n 0) (245) := ri_of (by decide +kernel) rfl
theorem wi_447_245 : ri (rt_P sc fm) 447 245 (.getfield 194) (248) := ri_of (by decide +kernel) rfl
theorem wi_447_248 : ri (rt_P sc fm) 447 248 (.iload_n 2) (249) := ri_of (by decide +kernel) rfl
theorem wi_447_249 : ri (rt_P sc fm) 447 249 (.iaload) (250) := ri_of (by decide +kernel) rfl
theorem wi_447_250 : ri (rt_P sc fm) 447 250 (.imul) (251) := ri_of (by decide +kernel) rfl
theorem wi_447_251 : ri (rt_P sc fm) 447 251 (.aload_n 0) (252) := ri_of (by decide +kernel) rfl
theorem wi_447_252 : ri (rt_P sc fm) 447 252 (.getfield 197) (255) := ri_of (by decide +kernel) rfl
theorem wi_447_255 : ri (rt_P sc fm) 447 255 (.iload_n 2) (256) := ri_of (by decide +kernel) rfl
theorem wi_447_256 : ri (rt_P sc fm) 447 256 (.iaload) (257) := ri_of (by decide +kernel) rfl
theorem wi_447_257 : ri (rt_P sc fm) 447 257 (.iadd) (258) := ri_of (by decide +kernel) rfl
theorem wi_447_258 : ri (rt_P sc fm) 447 258 (.laload) (259) := ri_of (by decide +kernel) rfl
theorem wi_447_259 : ri (rt_P sc fm) 447 259 (.goto 24) (262) := ri_of (by decide +kernel) rfl
theorem wi_447_262 : ri (rt_P sc fm) 447 262 (.aload_n 0) (263) := ri_of (by decide +kernel) rfl
theorem wi_447_263 : ri (rt_P sc fm) 447 263 (.getfield 164) (266) := ri_of (by decide +kernel) rfl
theorem wi_447_266 : ri (rt_P sc fm) 447 266 (.bipush 8) (268) := ri_of (by decide +kernel) rfl
theorem wi_447_268 : ri (rt_P sc fm) 447 268 (.aload_n 0) (269) := ri_of (by decide +kernel) rfl
theorem wi_447_269 : ri (rt_P sc fm) 447 269 (.getfield 194) (272) := ri_of (by decide +kernel) rfl
theorem wi_447_272 : ri (rt_P sc fm) 447 272 (.iload_n 2) (273) := ri_of (by decide +kernel) rfl
theorem wi_447_273 : ri (rt_P sc fm) 447 273 (.iaload) (274) := ri_of (by decide +kernel) rfl
theorem wi_447_274 : ri (rt_P sc fm) 447 274 (.imul) (275) := ri_of (by decide +kernel) rfl
theorem wi_447_275 : ri (rt_P sc fm) 447 275 (.aload_n 0) (276) := ri_of (by decide +kernel) rfl
theorem wi_447_276 : ri (rt_P sc fm) 447 276 (.getfield 197) (279) := ri_of (by decide +kernel) rfl
theorem wi_447_279 : ri (rt_P sc fm) 447 279 (.iload_n 2) (280) := ri_of (by decide +kernel) rfl
theorem wi_447_280 : ri (rt_P sc fm) 447 280 (.iaload) (281) := ri_of (by decide +kernel) rfl
theorem wi_447_281 : ri (rt_P sc fm) 447 281 (.iadd) (282) := ri_of (by decide +kernel) rfl
theorem wi_447_282 : ri (rt_P sc fm) 447 282 (.laload) (283) := ri_of (by decide +kernel) rfl
theorem wi_447_283 : ri (rt_P sc fm) 447 283 (.invokevirtual 765) (286) := ri_of (by decide +kernel) rfl
theorem wi_447_286 : ri (rt_P sc fm) 447 286 (.goto 22) (289) := ri_of (by decide +kernel) rfl
theorem wi_447_289 : ri (rt_P sc fm) 447 289 (.aload_n 0) (290) := ri_of (by decide +kernel) rfl
theorem wi_447_290 : ri (rt_P sc fm) 447 290 (.aload_n 0) (291) := ri_of (by decide +kernel) rfl
theorem wi_447_291 : ri (rt_P sc fm) 447 291 (.getfield 194) (294) := ri_of (by decide +kernel) rfl
theorem wi_447_294 : ri (rt_P sc fm) 447 294 (.iload_n 2) (295) := ri_of (by decide +kernel) rfl
theorem wi_447_295 : ri (rt_P sc fm) 447 295 (.iaload) (296) := ri_of (by decide +kernel) rfl
theorem wi_447_296 : ri (rt_P sc fm) 447 296 (.aload_n 0) (297) := ri_of (by decide +kernel) rfl
theorem wi_447_297 : ri (rt_P sc fm) 447 297 (.getfield 197) (300) := ri_of (by decide +kernel) rfl
theorem wi_447_300 : ri (rt_P sc fm) 447 300 (.iload_n 2) (301) := ri_of (by decide +kernel) rfl
theorem wi_447_301 : ri (rt_P sc fm) 447 301 (.iaload) (302) := ri_of (by decide +kernel) rfl
theorem wi_447_302 : ri (rt_P sc fm) 447 302 (.invokevirtual 813) (305) := ri_of (by decide +kernel) rfl
theorem wi_447_305 : ri (rt_P sc fm) 447 305 (.goto 3) (308) := ri_of (by decide +kernel) rfl
theorem wi_447_308 : ri (rt_P sc fm) 447 308 (.aload_n 0) (309) := ri_of (by decide +kernel) rfl
theorem wi_447_309 : ri (rt_P sc fm) 447 309 (.getfield 200) (312) := ri_of (by decide +kernel) rfl
theorem wi_447_312 : ri (rt_P sc fm) 447 312 (.iload_n 2) (313) := ri_of (by decide +kernel) rfl
theorem wi_447_313 : ri (rt_P sc fm) 447 313 (.iaload) (314) := ri_of (by decide +kernel) rfl
theorem wi_447_314 : ri (rt_P sc fm) 447 314 (.ifCond .ge 4) (317) := ri_of (by decide +kernel) rfl
theorem wi_447_317 : ri (rt_P sc fm) 447 317 (.return_) (318) := ri_of (by decide +kernel) rfl
theorem wi_447_318 : ri (rt_P sc fm) 447 318 (.iload_n 3) (319) := ri_of (by decide +kernel) rfl
theorem wi_447_319 : ri (rt_P sc fm) 447 319 (.ifCond .eq 24) (322) := ri_of (by decide +kernel) rfl
theorem wi_447_322 : ri (rt_P sc fm) 447 322 (.aload_n 0) (323) := ri_of (by decide +kernel) rfl
theorem wi_447_323 : ri (rt_P sc fm) 447 323 (.aload_n 0) (324) := ri_of (by decide +kernel) rfl
theorem wi_447_324 : ri (rt_P sc fm) 447 324 (.iload_n 1) (325) := ri_of (by decide +kernel) rfl
theorem wi_447_325 : ri (rt_P sc fm) 447 325 (.aload_n 0) (326) := ri_of (by decide +kernel) rfl
theorem wi_447_326 : ri (rt_P sc fm) 447 326 (.getfield 200) (329) := ri_of (by decide +kernel) rfl
theorem wi_447_329 : ri (rt_P sc fm) 447 329 (.iload_n 2) (330) := ri_of (by decide +kernel) rfl
theorem wi_447_330 : ri (rt_P sc fm) 447 330 (.iaload) (331) := ri_of (by decide +kernel) rfl
theorem wi_447_331 : ri (rt_P sc fm) 447 331 (.iload 4) (333) := ri_of (by decide +kernel) rfl
theorem wi_447_333 : ri (rt_P sc fm) 447 333 (.invokevirtual 816) (336) := ri_of (by decide +kernel) rfl
theorem wi_447_336 : ri (rt_P sc fm) 447 336 (.i2l) (337) := ri_of (by decide +kernel) rfl
theorem wi_447_337 : ri (rt_P sc fm) 447 337 (.invokevirtual 406) (340) := ri_of (by decide +kernel) rfl
theorem wi_447_340 : ri (rt_P sc fm) 447 340 (.goto 23) (343) := ri_of (by decide +kernel) rfl
theorem wi_447_343 : ri (rt_P sc fm) 447 343 (.aload_n 0) (344) := ri_of (by decide +kernel) rfl
theorem wi_447_344 : ri (rt_P sc fm) 447 344 (.aload_n 0) (345) := ri_of (by decide +kernel) rfl
theorem wi_447_345 : ri (rt_P sc fm) 447 345 (.getfield 188) (348) := ri_of (by decide +kernel) rfl
theorem wi_447_348 : ri (rt_P sc fm) 447 348 (.bipush 40) (350) := ri_of (by decide +kernel) rfl
theorem wi_447_350 : ri (rt_P sc fm) 447 350 (.iload_n 1) (351) := ri_of (by decide +kernel) rfl
theorem wi_447_351 : ri (rt_P sc fm) 447 351 (.imul) (352) := ri_of (by decide +kernel) rfl
theorem wi_447_352 : ri (rt_P sc fm) 447 352 (.aload_n 0) (353) := ri_of (by decide +kernel) rfl
theorem wi_447_353 : ri (rt_P sc fm) 447 353 (.getfield 200) (356) := ri_of (by decide +kernel) rfl
theorem wi_447_356 : ri (rt_P sc fm) 447 356 (.iload_n 2) (357) := ri_of (by decide +kernel) rfl
theorem wi_447_357 : ri (rt_P sc fm) 447 357 (.iaload) (358) := ri_of (by decide +kernel) rfl
theorem wi_447_358 : ri (rt_P sc fm) 447 358 (.iadd) (359) := ri_of (by decide +kernel) rfl
theorem wi_447_359 : ri (rt_P sc fm) 447 359 (.laload) (360) := ri_of (by decide +kernel) rfl
theorem wi_447_360 : ri (rt_P sc fm) 447 360 (.invokevirtual 765) (363) := ri_of (by decide +kernel) rfl
theorem wi_447_363 : ri (rt_P sc fm) 447 363 (.return_) (364) := ri_of (by decide +kernel) rfl
theorem wi_447_5 : ri (rt_P sc fm) 447 5 (.aload_n 0) (6) := ri_of (by decide +kernel) rfl
theorem wi_447_6 : ri (rt_P sc fm) 447 6 (.getfield 185) (9) := ri_of (by decide +kernel) rfl
theorem wi_447_9 : ri (rt_P sc fm) 447 9 (.iload_n 2) (10) := ri_of (by decide +kernel) rfl
theorem wk_447_763 : rx_kt (rt_P sc fm) 447 763 = some (.ref (rx_K 49)) := (by decide +kernel : rt_kt 447 763 = some (.ref (rx_K 49)))
theorem wk_447_768 : rx_kt (rt_P sc fm) 447 768 = some (.ref (rx_K 50)) := (by decide +kernel : rt_kt 447 768 = some (.ref (rx_K 50)))
theorem wm_448 : rx_ml (rt_P sc fm) 448 = 3 := (by decide +kernel : rt_ml 448 = 3)
theorem wm_465 : rx_ml (rt_P sc fm) 465 = 6 := (by decide +kernel : rt_ml 465 = 6)
theorem wr_447 : rx_rt (rt_P sc fm) 447 = none := (by decide +kernel : rt_rt 447 = none)
/-- MarkHouseModel.sayAct(IIZZ)V -/
def d_447 (n : Nat) (a1 : Int32) (a2 : Int32) (a3 : Int32) (a4 : Int32) (c : cS) : Option (cS) :=
  if ib a2 3840 then
  if ib (c.1 211 (ix a2)) 31 then
  Option.bind (d_362 n (2 + (ix (c.1 211 (ix a2)))) c) (fun r3 =>
  if ib a2 3840 then
  jn (fun p5 : cS =>
    if ib a2 3840 then
    if 0 ≤ (p5.1 216 (ix a2)) then
      jn (fun p7 : cS =>
        some p7)
      (fun j363 =>
      if a3 = 0 then
        if ib a2 3840 then
        if ib ((40 * a1) + (p5.1 216 (ix a2))) 3840 then
        Option.bind (d_363 n (p5.2 212 (ix ((40 * a1) + (p5.1 216 (ix a2))))) p5) (fun r10 =>
        j363 r10)
        else none
        else none
      else
        if ib a2 3840 then
        Option.bind (d_465 n a1 (p5.1 216 (ix a2)) a4 p5) (fun v12 =>
        Option.bind (d_364 n ((v12 : Int32).toInt64) p5) (fun r13 =>
        j363 r13))
        else none)
    else
      some p5
    else none)
  (fun j308 =>
  jn (fun p14 : Unit =>
    if ib a2 3840 then
    jn (fun p16 : cS =>
      Option.bind (whl (R := (cS)) (fun s18 : Int32 × cS =>
        if ib a2 3840 then
        if (s18.2.1 219 (ix a2)) ≤ s18.1 then
          some (.inr s18.2)
        else
          Option.bind (d_362 n 49 s18.2) (fun r20 =>
          if ib ((4 * a2) + s18.1) 15360 then
          if ib ((4 * a2) + s18.1) 15360 then
          Option.bind (d_448 n (r20.1 220 (ix ((4 * a2) + s18.1))) (r20.1 221 (ix ((4 * a2) + s18.1))) r20) (fun r23 =>
          lt (s18.1 + 1 : Int32) (fun v25 =>
          some (.inl (v25, r23))))
          else none
          else none)
        else none) n (0, p16))
      (fun x27 : cS =>
        j308 x27))
    (fun j125 =>
    if (r3.1 211 (ix a2)) = 14 then
      if ib a2 3840 then
      Option.bind (d_365 n (r3.1 214 (ix a2)) r3) (fun r29 =>
      j125 r29)
      else none
    else
      j125 r3)
    else none)
  (fun j104 =>
  jn (fun p30 : Unit =>
    if ib a2 3840 then
    if ib ((8 * a1) + (r3.1 214 (ix a2))) 768 then
    Option.bind (d_363 n (r3.2 209 (ix ((8 * a1) + (r3.1 214 (ix a2))))) r3) (fun r33 =>
    j308 r33)
    else none
    else none)
  (fun j181 =>
  jn (fun p34 : Unit =>
    if ib a2 3840 then
    if ib (r3.1 229 (ix a2)) 12 then
    Option.bind (d_363 n (r3.2 200 (ix (r3.1 229 (ix a2)))) r3) (fun r37 =>
    Option.bind (d_362 n 50 r37) (fun r38 =>
    if ib a2 3840 then
    jn (fun p40 : Int64 =>
      Option.bind (d_363 n p40 r38) (fun r41 =>
      j308 r41))
    (fun j283 =>
    if (r38.1 211 (ix a2)) = 20 then
      if ib a2 3840 then
      if ib a2 3840 then
      if ib ((8 * (r38.1 214 (ix a2))) + (r38.1 215 (ix a2))) 96 then
      j283 (r38.2 206 (ix ((8 * (r38.1 214 (ix a2))) + (r38.1 215 (ix a2)))))
      else none
      else none
      else none
    else
      if ib a2 3840 then
      if ib a2 3840 then
      if ib ((8 * (r38.1 214 (ix a2))) + (r38.1 215 (ix a2))) 96 then
      j283 (r38.2 204 (ix ((8 * (r38.1 214 (ix a2))) + (r38.1 215 (ix a2)))))
      else none
      else none
      else none)
    else none))
    else none
    else none)
  (fun j204 =>
  jn (fun p48 : Unit =>
    if ib a2 3840 then
    if ib a2 3840 then
    Option.bind (d_448 n (r3.1 214 (ix a2)) (r3.1 215 (ix a2)) r3) (fun r51 =>
    j308 r51)
    else none
    else none)
  (fun j289 =>
  if (r3.1 211 (ix a2)) = 14 then
    j104 ()
  else
  if (r3.1 211 (ix a2)) = 15 then
    j104 ()
  else
  if (r3.1 211 (ix a2)) = 16 then
    j181 ()
  else
  if (r3.1 211 (ix a2)) = 17 then
    j181 ()
  else
  if (r3.1 211 (ix a2)) = 18 then
    j204 ()
  else
  if (r3.1 211 (ix a2)) = 19 then
    j204 ()
  else
  if (r3.1 211 (ix a2)) = 20 then
    j204 ()
  else
  if (r3.1 211 (ix a2)) = 21 then
    j308 r3
  else
  if (r3.1 211 (ix a2)) = 22 then
    j308 r3
  else
  if (r3.1 211 (ix a2)) = 23 then
    j308 r3
  else
  if (r3.1 211 (ix a2)) = 24 then
    j308 r3
  else
  if (r3.1 211 (ix a2)) = 25 then
    j308 r3
  else
  if (r3.1 211 (ix a2)) = 26 then
    j308 r3
  else
  if (r3.1 211 (ix a2)) = 27 then
    j308 r3
  else
  if (r3.1 211 (ix a2)) = 28 then
    j308 r3
  else
  if (r3.1 211 (ix a2)) = 29 then
    j289 ()
  else
  if (r3.1 211 (ix a2)) = 30 then
    j289 ()
  else
  j308 r3)))))
  else none)
  else none
  else none
set_option maxRecDepth 100000 in
set_option maxHeartbeats 4000000 in
theorem sp_447 {F Lo n : Nat} {a1 : Int32} {a2 : Int32} {a3 : Int32} {a4 : Int32} {c y : cS} {w : cW} {K : cS → Prop} {Q : ((Option Value) ⊕ String) → List va_E → Prop} (hw : rOK fm w) (hF : 6 ≤ F) (hLo : 129 ≤ Lo)  (h : wp (d_447 n a1 a2 a3 a4 c) K) (hQ : ∀ r, K r → Q (.inl none) (hq false r y w)) : rs (rt_P sc fm) 447 F Lo 0 [(0, .ref 174), (1, .int a1), (2, .int a2), (3, .int a3), (4, .int a4)] [] (hq false c y w) Q := by
  unfold d_447 at h
  obtain ⟨lv, elv⟩ : ∃ lv : rx_L, lv = [(0, .ref 174), (1, .int a1), (2, .int a2), (3, .int a3), (4, .int a4)] := ⟨_, rfl⟩
  rw [← elv]
  have l0 : rx_ld lv 0 = some (.ref 174) := by rw [elv]; rfl
  have l1 : rx_ld lv 1 = some (.int a1) := by rw [elv]; rfl
  have l2 : rx_ld lv 2 = some (.int a2) := by rw [elv]; rfl
  have l3 : rx_ld lv 3 = some (.int a3) := by rw [elv]; rfl
  have l4 : rx_ld lv 4 = some (.int a4) := by rw [elv]; rfl
  refine rs_aldn wi_447_0 l0 ?_
  refine rs_aldn wi_447_1 l0 ?_
  refine dq_gr wi_447_2 wf_447_80 tf_174_6 ?_
  refine rs_aldn wi_447_5 l0 ?_
  refine dq_gr wi_447_6 wf_447_185 tf_174_49 ?_
  refine rs_ildn wi_447_9 l2 ?_
  obtain ⟨g1, h⟩ := wp_gd h
  refine dq_iald wi_447_10 t_211 g1 ?_
  obtain ⟨g2, h⟩ := wp_gd h
  refine dq_aald wi_447_11 (by decide) t_177 g2 (hw.2.2.1 _ (ib_lt g2)) ?_
  refine rs_V wi_447_12 wc_447_402 rfl (dq_isa tf_174_0 wa_15_362) (Nat.le_trans (by decide) hF) (ml_le wm_362 (Nat.le_trans (by decide) hLo)) rfl (sp_362 hw (Nat.le_trans (by decide : 4 ≤ 6 - 1) (Nat.sub_le_sub_right hF 1)) (ml_sub wm_362 (Nat.le_trans (by decide : 85 ≤ 129 - 22) (Nat.sub_le_sub_right hLo 22))) (rw_some (ib_lt g2)) (wp_bind h) (fun r3 h => rs_back0 ?_))
  refine rs_aldn wi_447_15 l0 ?_
  refine dq_gr wi_447_16 wf_447_185 tf_174_49 ?_
  refine rs_ildn wi_447_19 l2 ?_
  obtain ⟨g4, h⟩ := wp_gd h
  refine dq_iald wi_447_20 t_211 g4 ?_
  refine wp_jn (B := fun p5 : cS => ∀ lv, rx_ld lv 0 = some (.ref 174) → rx_ld lv 1 = some (.int a1) → rx_ld lv 2 = some (.int a2) → rx_ld lv 3 = some (.int a3) → rx_ld lv 4 = some (.int a4) → rs (rt_P sc fm) 447 F Lo 308 lv [] (hq false p5 y w) Q) h (fun p5 h lv l0 l1 l2 l3 l4 => ?_) (fun j308 hj308 h => ?_)
  ·
    refine rs_aldn wi_447_308 l0 ?_
    refine dq_gr wi_447_309 wf_447_200 tf_174_54 ?_
    refine rs_ildn wi_447_312 l2 ?_
    obtain ⟨g6, h⟩ := wp_gd h
    refine dq_iald wi_447_313 t_216 g6 ?_
    refine rs_ifge (tg := 318) wi_447_314 ⟨by decide, by decide⟩ (fun q => ?_) (fun q => ?_)
    ·
      have h := wp_pos h q
      refine rs_ildn wi_447_318 l3 ?_
      refine wp_jn (B := fun p7 : cS => ∀ lv, rs (rt_P sc fm) 447 F Lo 363 lv [] (hq false p7 y w) Q) h (fun p7 h lv => ?_) (fun j363 hj363 h => ?_)
      ·
        exact rs_vret wi_447_363 wr_447 (hQ p7 h)
      refine rs_ifeq (tg := 343) wi_447_319 ⟨by decide, by decide⟩ (fun q => ?_) (fun q => ?_)
      ·
        have h := wp_pos h q
        refine rs_aldn wi_447_343 l0 ?_
        refine rs_aldn wi_447_344 l0 ?_
        refine dq_gr wi_447_345 wf_447_188 tf_174_50 ?_
        refine rs_pure wi_447_348 rfl ?_
        refine rs_topi (v := 40) (by decide) ?_
        refine rs_ildn wi_447_350 l1 ?_
        refine rs_pure wi_447_351 rfl ?_
        refine rs_aldn wi_447_352 l0 ?_
        refine dq_gr wi_447_353 wf_447_200 tf_174_54 ?_
        refine rs_ildn wi_447_356 l2 ?_
        obtain ⟨g8, h⟩ := wp_gd h
        refine dq_iald wi_447_357 t_216 g8 ?_
        refine rs_pure wi_447_358 rfl ?_
        obtain ⟨g9, h⟩ := wp_gd h
        refine dq_lald wi_447_359 t_212 g9 ?_
        refine rs_V wi_447_360 wc_447_765 rfl (dq_isa tf_174_0 wa_15_363) (Nat.le_trans (by decide) hF) (ml_le wm_363 (Nat.le_trans (by decide) hLo)) rfl (sp_363 hw (Nat.le_trans (by decide : 2 ≤ 6 - 1) (Nat.sub_le_sub_right hF 1)) (ml_sub wm_363 (Nat.le_trans (by decide : 44 ≤ 129 - 22) (Nat.sub_le_sub_right hLo 22))) (wp_bind h) (fun r10 h => rs_back0 ?_))
        exact hj363 _ h _
      ·
        have h := wp_neg h q
        refine rs_aldn wi_447_322 l0 ?_
        refine rs_aldn wi_447_323 l0 ?_
        refine rs_ildn wi_447_324 l1 ?_
        refine rs_aldn wi_447_325 l0 ?_
        refine dq_gr wi_447_326 wf_447_200 tf_174_54 ?_
        refine rs_ildn wi_447_329 l2 ?_
        obtain ⟨g11, h⟩ := wp_gd h
        refine dq_iald wi_447_330 t_216 g11 ?_
        refine rs_ild wi_447_331 l4 ?_
        refine rs_V wi_447_333 wc_447_816 rfl (dq_isa tf_174_0 wa_15_465) (Nat.le_trans (by decide) hF) (ml_le wm_465 (Nat.le_trans (by decide) hLo)) rfl (sp_465 hw (Nat.le_trans (by decide : 1 ≤ 6 - 1) (Nat.sub_le_sub_right hF 1)) (ml_sub wm_465 (Nat.le_trans (by decide : 23 ≤ 129 - 25) (Nat.sub_le_sub_right hLo 25))) (wp_bind h) (fun v12 h => rs_back1 ?_))
        refine rs_pure wi_447_336 rfl ?_
        refine rs_V wi_447_337 wc_447_406 rfl (dq_isa tf_174_0 wa_15_364) (Nat.le_trans (by decide) hF) (ml_le wm_364 (Nat.le_trans (by decide) hLo)) rfl (sp_364 hw (Nat.le_trans (by decide : 2 ≤ 6 - 1) (Nat.sub_le_sub_right hF 1)) (ml_sub wm_364 (Nat.le_trans (by decide : 45 ≤ 129 - 22) (Nat.sub_le_sub_right hLo 22))) (wp_bind h) (fun r13 h => rs_back0 ?_))
        refine rs_goto (tg := 363) wi_447_340 ⟨by decide, by decide⟩ ?_
        exact hj363 _ h _
    ·
      have h := wp_neg h q
      exact rs_vret wi_447_317 wr_447 (hQ p5 h)
  refine wp_jn (B := fun p14 : Unit => ∀ lv, rx_ld lv 0 = some (.ref 174) → rx_ld lv 1 = some (.int a1) → rx_ld lv 2 = some (.int a2) → rx_ld lv 3 = some (.int a3) → rx_ld lv 4 = some (.int a4) → rs (rt_P sc fm) 447 F Lo 104 lv [] (hq false r3 y w) Q) h (fun p14 h lv l0 l1 l2 l3 l4 => ?_) (fun j104 hj104 h => ?_)
  ·
    refine rs_aldn wi_447_104 l0 ?_
    refine dq_gr wi_447_105 wf_447_185 tf_174_49 ?_
    refine rs_ildn wi_447_108 l2 ?_
    obtain ⟨g15, h⟩ := wp_gd h
    refine dq_iald wi_447_109 t_211 g15 ?_
    refine rs_pure wi_447_110 rfl ?_
    refine rs_topi (v := 14) (by decide) ?_
    refine wp_jn (B := fun p16 : cS => ∀ lv, rx_ld lv 0 = some (.ref 174) → rx_ld lv 1 = some (.int a1) → rx_ld lv 2 = some (.int a2) → rx_ld lv 3 = some (.int a3) → rx_ld lv 4 = some (.int a4) → rs (rt_P sc fm) 447 F Lo 125 lv [] (hq false p16 y w) Q) h (fun p16 h lv l0 l1 l2 l3 l4 => ?_) (fun j125 hj125 h => ?_)
    ·
      refine rs_pure wi_447_125 rfl ?_
      refine rs_topi (v := 0) (by decide) ?_
      refine dl_ist wi_447_126 rfl (fun lv l5 t17 => ?_)
      have l0 := t17 _ _ (by decide) (Or.inl rfl) l0
      have l1 := t17 _ _ (by decide) (Or.inl rfl) l1
      have l2 := t17 _ _ (by decide) (Or.inl rfl) l2
      have l3 := t17 _ _ (by decide) (Or.inl rfl) l3
      have l4 := t17 _ _ (by decide) (Or.inl rfl) l4
      refine whl_ex (A := fun s18 : Int32 × cS => ∀ lv, rx_ld lv 0 = some (.ref 174) → rx_ld lv 1 = some (.int a1) → rx_ld lv 2 = some (.int a2) → rx_ld lv 3 = some (.int a3) → rx_ld lv 4 = some (.int a4) → rx_ld lv 5 = some (.int s18.1) → rs (rt_P sc fm) 447 F Lo 128 lv [] (hq false s18.2 y w) Q) (B := (fun x27 : cS => ∀ lv, rx_ld lv 0 = some (.ref 174) → rx_ld lv 1 = some (.int a1) → rx_ld lv 2 = some (.int a2) → rx_ld lv 3 = some (.int a3) → rx_ld lv 4 = some (.int a4) → rs (rt_P sc fm) 447 F Lo 178 lv [] (hq false x27 y w) Q)) ?_ ?_ _ _ (wp_bind h) _ l0 l1 l2 l3 l4 l5
      · intro s18 h lv l0 l1 l2 l3 l4 l5
        refine rs_ild wi_447_128 l5 ?_
        refine rs_aldn wi_447_130 l0 ?_
        refine dq_gr wi_447_131 wf_447_209 tf_174_57 ?_
        refine rs_ildn wi_447_134 l2 ?_
        obtain ⟨g19, h⟩ := wp_gd h
        refine dq_iald wi_447_135 t_219 g19 ?_
        refine rs_icge (tg := 178) wi_447_136 ⟨by decide, by decide⟩ (fun q => ?_) (fun q => ?_)
        ·
          have h := wp_pos h q
          exact h _ l0 l1 l2 l3 l4
        ·
          have h := wp_neg h q
          refine rs_aldn wi_447_139 l0 ?_
          refine rs_ldcwS wi_447_140 wk_447_763 ?_
          refine rs_V wi_447_143 wc_447_402 rfl (dq_isa tf_174_0 wa_15_362) (Nat.le_trans (by decide) hF) (ml_le wm_362 (Nat.le_trans (by decide) hLo)) rfl (sp_362 hw (Nat.le_trans (by decide : 4 ≤ 6 - 1) (Nat.sub_le_sub_right hF 1)) (ml_sub wm_362 (Nat.le_trans (by decide : 85 ≤ 129 - 22) (Nat.sub_le_sub_right hLo 22))) wsb_49 (wp_bind h) (fun r20 h => rs_back0 ?_))
          refine rs_aldn wi_447_146 l0 ?_
          refine rs_aldn wi_447_147 l0 ?_
          refine dq_gr wi_447_148 wf_447_212 tf_174_58 ?_
          refine rs_pure wi_447_151 rfl ?_
          refine rs_topi (v := 4) (by decide) ?_
          refine rs_ildn wi_447_152 l2 ?_
          refine rs_pure wi_447_153 rfl ?_
          refine rs_ild wi_447_154 l5 ?_
          refine rs_pure wi_447_156 rfl ?_
          obtain ⟨g21, h⟩ := wp_gd h
          refine dq_iald wi_447_157 t_220 g21 ?_
          refine rs_aldn wi_447_158 l0 ?_
          refine dq_gr wi_447_159 wf_447_215 tf_174_59 ?_
          refine rs_pure wi_447_162 rfl ?_
          refine rs_topi (v := 4) (by decide) ?_
          refine rs_ildn wi_447_163 l2 ?_
          refine rs_pure wi_447_164 rfl ?_
          refine rs_ild wi_447_165 l5 ?_
          refine rs_pure wi_447_167 rfl ?_
          obtain ⟨g22, h⟩ := wp_gd h
          refine dq_iald wi_447_168 t_221 g22 ?_
          refine rs_V wi_447_169 wc_447_813 rfl (dq_isa tf_174_0 wa_15_448) (Nat.le_trans (by decide) hF) (ml_le wm_448 (Nat.le_trans (by decide) hLo)) rfl (sp_448 hw (Nat.le_trans (by decide : 5 ≤ 6 - 1) (Nat.sub_le_sub_right hF 1)) (ml_sub wm_448 (Nat.le_trans (by decide : 107 ≤ 129 - 22) (Nat.sub_le_sub_right hLo 22))) (wp_bind h) (fun r23 h => rs_back0 ?_))
          obtain ⟨v25, e26, h⟩ := wp_lt h
          refine dl_inc wi_447_172 l5 rfl e26 (fun lv l5 t24 => ?_)
          have l0 := t24 _ _ (by decide) (Or.inl rfl) l0
          have l1 := t24 _ _ (by decide) (Or.inl rfl) l1
          have l2 := t24 _ _ (by decide) (Or.inl rfl) l2
          have l3 := t24 _ _ (by decide) (Or.inl rfl) l3
          have l4 := t24 _ _ (by decide) (Or.inl rfl) l4
          refine rs_goto (tg := 128) wi_447_175 ⟨by decide, by decide⟩ ?_
          exact h _ l0 l1 l2 l3 l4 l5
      ·
        intro x27 h lv l0 l1 l2 l3 l4
        refine rs_goto (tg := 308) wi_447_178 ⟨by decide, by decide⟩ ?_
        exact hj308 _ h _ l0 l1 l2 l3 l4
    refine rs_icne (tg := 125) wi_447_112 ⟨by decide, by decide⟩ (fun q => ?_) (fun q => ?_)
    ·
      have h := wp_neg h q
      exact hj125 _ h _ l0 l1 l2 l3 l4
    ·
      have h := wp_pos h q
      refine rs_aldn wi_447_115 l0 ?_
      refine rs_aldn wi_447_116 l0 ?_
      refine dq_gr wi_447_117 wf_447_194 tf_174_52 ?_
      refine rs_ildn wi_447_120 l2 ?_
      obtain ⟨g28, h⟩ := wp_gd h
      refine dq_iald wi_447_121 t_214 g28 ?_
      refine rs_V wi_447_122 wc_447_783 rfl (dq_isa tf_174_0 wa_15_365) (Nat.le_trans (by decide) hF) (ml_le wm_365 (Nat.le_trans (by decide) hLo)) rfl (sp_365 hw (Nat.le_trans (by decide : 5 ≤ 6 - 1) (Nat.sub_le_sub_right hF 1)) (ml_sub wm_365 (Nat.le_trans (by decide : 107 ≤ 129 - 21) (Nat.sub_le_sub_right hLo 21))) (wp_bind h) (fun r29 h => rs_back0 ?_))
      exact hj125 _ h _ l0 l1 l2 l3 l4
  refine wp_jn (B := fun p30 : Unit => ∀ lv, rx_ld lv 0 = some (.ref 174) → rx_ld lv 1 = some (.int a1) → rx_ld lv 2 = some (.int a2) → rx_ld lv 3 = some (.int a3) → rx_ld lv 4 = some (.int a4) → rs (rt_P sc fm) 447 F Lo 181 lv [] (hq false r3 y w) Q) h (fun p30 h lv l0 l1 l2 l3 l4 => ?_) (fun j181 hj181 h => ?_)
  ·
    refine rs_aldn wi_447_181 l0 ?_
    refine rs_aldn wi_447_182 l0 ?_
    refine dq_gr wi_447_183 wf_447_179 tf_174_47 ?_
    refine rs_pure wi_447_186 rfl ?_
    refine rs_topi (v := 8) (by decide) ?_
    refine rs_ildn wi_447_188 l1 ?_
    refine rs_pure wi_447_189 rfl ?_
    refine rs_aldn wi_447_190 l0 ?_
    refine dq_gr wi_447_191 wf_447_194 tf_174_52 ?_
    refine rs_ildn wi_447_194 l2 ?_
    obtain ⟨g31, h⟩ := wp_gd h
    refine dq_iald wi_447_195 t_214 g31 ?_
    refine rs_pure wi_447_196 rfl ?_
    obtain ⟨g32, h⟩ := wp_gd h
    refine dq_lald wi_447_197 t_209 g32 ?_
    refine rs_V wi_447_198 wc_447_765 rfl (dq_isa tf_174_0 wa_15_363) (Nat.le_trans (by decide) hF) (ml_le wm_363 (Nat.le_trans (by decide) hLo)) rfl (sp_363 hw (Nat.le_trans (by decide : 2 ≤ 6 - 1) (Nat.sub_le_sub_right hF 1)) (ml_sub wm_363 (Nat.le_trans (by decide : 44 ≤ 129 - 22) (Nat.sub_le_sub_right hLo 22))) (wp_bind h) (fun r33 h => rs_back0 ?_))
    refine rs_goto (tg := 308) wi_447_201 ⟨by decide, by decide⟩ ?_
    exact hj308 _ h _ l0 l1 l2 l3 l4
  refine wp_jn (B := fun p34 : Unit => ∀ lv, rx_ld lv 0 = some (.ref 174) → rx_ld lv 1 = some (.int a1) → rx_ld lv 2 = some (.int a2) → rx_ld lv 3 = some (.int a3) → rx_ld lv 4 = some (.int a4) → rs (rt_P sc fm) 447 F Lo 204 lv [] (hq false r3 y w) Q) h (fun p34 h lv l0 l1 l2 l3 l4 => ?_) (fun j204 hj204 h => ?_)
  ·
    refine rs_aldn wi_447_204 l0 ?_
    refine rs_aldn wi_447_205 l0 ?_
    refine dq_gr wi_447_206 wf_447_152 tf_174_38 ?_
    refine rs_aldn wi_447_209 l0 ?_
    refine dq_gr wi_447_210 wf_447_240 tf_174_69 ?_
    refine rs_ildn wi_447_213 l2 ?_
    obtain ⟨g35, h⟩ := wp_gd h
    refine dq_iald wi_447_214 t_229 g35 ?_
    obtain ⟨g36, h⟩ := wp_gd h
    refine dq_lald wi_447_215 t_200 g36 ?_
    refine rs_V wi_447_216 wc_447_765 rfl (dq_isa tf_174_0 wa_15_363) (Nat.le_trans (by decide) hF) (ml_le wm_363 (Nat.le_trans (by decide) hLo)) rfl (sp_363 hw (Nat.le_trans (by decide : 2 ≤ 6 - 1) (Nat.sub_le_sub_right hF 1)) (ml_sub wm_363 (Nat.le_trans (by decide : 44 ≤ 129 - 22) (Nat.sub_le_sub_right hLo 22))) (wp_bind h) (fun r37 h => rs_back0 ?_))
    refine rs_aldn wi_447_219 l0 ?_
    refine rs_ldcwS wi_447_220 wk_447_768 ?_
    refine rs_V wi_447_223 wc_447_402 rfl (dq_isa tf_174_0 wa_15_362) (Nat.le_trans (by decide) hF) (ml_le wm_362 (Nat.le_trans (by decide) hLo)) rfl (sp_362 hw (Nat.le_trans (by decide : 4 ≤ 6 - 1) (Nat.sub_le_sub_right hF 1)) (ml_sub wm_362 (Nat.le_trans (by decide : 85 ≤ 129 - 22) (Nat.sub_le_sub_right hLo 22))) wsb_50 (wp_bind h) (fun r38 h => rs_back0 ?_))
    refine rs_aldn wi_447_226 l0 ?_
    refine rs_aldn wi_447_227 l0 ?_
    refine dq_gr wi_447_228 wf_447_185 tf_174_49 ?_
    refine rs_ildn wi_447_231 l2 ?_
    obtain ⟨g39, h⟩ := wp_gd h
    refine dq_iald wi_447_232 t_211 g39 ?_
    refine rs_pure wi_447_233 rfl ?_
    refine rs_topi (v := 20) (by decide) ?_
    refine wp_jn (B := fun p40 : Int64 => ∀ lv, rx_ld lv 0 = some (.ref 174) → rx_ld lv 1 = some (.int a1) → rx_ld lv 2 = some (.int a2) → rx_ld lv 3 = some (.int a3) → rx_ld lv 4 = some (.int a4) → rs (rt_P sc fm) 447 F Lo 283 lv [.long p40, .ref 174] (hq false r38 y w) Q) h (fun p40 h lv l0 l1 l2 l3 l4 => ?_) (fun j283 hj283 h => ?_)
    ·
      refine rs_V wi_447_283 wc_447_765 rfl (dq_isa tf_174_0 wa_15_363) (Nat.le_trans (by decide) hF) (ml_le wm_363 (Nat.le_trans (by decide) hLo)) rfl (sp_363 hw (Nat.le_trans (by decide : 2 ≤ 6 - 1) (Nat.sub_le_sub_right hF 1)) (ml_sub wm_363 (Nat.le_trans (by decide : 44 ≤ 129 - 22) (Nat.sub_le_sub_right hLo 22))) (wp_bind h) (fun r41 h => rs_back0 ?_))
      refine rs_goto (tg := 308) wi_447_286 ⟨by decide, by decide⟩ ?_
      exact hj308 _ h _ l0 l1 l2 l3 l4
    refine rs_icne (tg := 262) wi_447_235 ⟨by decide, by decide⟩ (fun q => ?_) (fun q => ?_)
    ·
      have h := wp_neg h q
      refine rs_aldn wi_447_262 l0 ?_
      refine dq_gr wi_447_263 wf_447_164 tf_174_42 ?_
      refine rs_pure wi_447_266 rfl ?_
      refine rs_topi (v := 8) (by decide) ?_
      refine rs_aldn wi_447_268 l0 ?_
      refine dq_gr wi_447_269 wf_447_194 tf_174_52 ?_
      refine rs_ildn wi_447_272 l2 ?_
      obtain ⟨g42, h⟩ := wp_gd h
      refine dq_iald wi_447_273 t_214 g42 ?_
      refine rs_pure wi_447_274 rfl ?_
      refine rs_aldn wi_447_275 l0 ?_
      refine dq_gr wi_447_276 wf_447_197 tf_174_53 ?_
      refine rs_ildn wi_447_279 l2 ?_
      obtain ⟨g43, h⟩ := wp_gd h
      refine dq_iald wi_447_280 t_215 g43 ?_
      refine rs_pure wi_447_281 rfl ?_
      obtain ⟨g44, h⟩ := wp_gd h
      refine dq_lald wi_447_282 t_204 g44 ?_
      exact hj283 _ h _ l0 l1 l2 l3 l4
    ·
      have h := wp_pos h q
      refine rs_aldn wi_447_238 l0 ?_
      refine dq_gr wi_447_239 wf_447_170 tf_174_44 ?_
      refine rs_pure wi_447_242 rfl ?_
      refine rs_topi (v := 8) (by decide) ?_
      refine rs_aldn wi_447_244 l0 ?_
      refine dq_gr wi_447_245 wf_447_194 tf_174_52 ?_
      refine rs_ildn wi_447_248 l2 ?_
      obtain ⟨g45, h⟩ := wp_gd h
      refine dq_iald wi_447_249 t_214 g45 ?_
      refine rs_pure wi_447_250 rfl ?_
      refine rs_aldn wi_447_251 l0 ?_
      refine dq_gr wi_447_252 wf_447_197 tf_174_53 ?_
      refine rs_ildn wi_447_255 l2 ?_
      obtain ⟨g46, h⟩ := wp_gd h
      refine dq_iald wi_447_256 t_215 g46 ?_
      refine rs_pure wi_447_257 rfl ?_
      obtain ⟨g47, h⟩ := wp_gd h
      refine dq_lald wi_447_258 t_206 g47 ?_
      refine rs_goto (tg := 283) wi_447_259 ⟨by decide, by decide⟩ ?_
      exact hj283 _ h _ l0 l1 l2 l3 l4
  refine wp_jn (B := fun p48 : Unit => ∀ lv, rx_ld lv 0 = some (.ref 174) → rx_ld lv 1 = some (.int a1) → rx_ld lv 2 = some (.int a2) → rx_ld lv 3 = some (.int a3) → rx_ld lv 4 = some (.int a4) → rs (rt_P sc fm) 447 F Lo 289 lv [] (hq false r3 y w) Q) h (fun p48 h lv l0 l1 l2 l3 l4 => ?_) (fun j289 hj289 h => ?_)
  ·
    refine rs_aldn wi_447_289 l0 ?_
    refine rs_aldn wi_447_290 l0 ?_
    refine dq_gr wi_447_291 wf_447_194 tf_174_52 ?_
    refine rs_ildn wi_447_294 l2 ?_
    obtain ⟨g49, h⟩ := wp_gd h
    refine dq_iald wi_447_295 t_214 g49 ?_
    refine rs_aldn wi_447_296 l0 ?_
    refine dq_gr wi_447_297 wf_447_197 tf_174_53 ?_
    refine rs_ildn wi_447_300 l2 ?_
    obtain ⟨g50, h⟩ := wp_gd h
    refine dq_iald wi_447_301 t_215 g50 ?_
    refine rs_V wi_447_302 wc_447_813 rfl (dq_isa tf_174_0 wa_15_448) (Nat.le_trans (by decide) hF) (ml_le wm_448 (Nat.le_trans (by decide) hLo)) rfl (sp_448 hw (Nat.le_trans (by decide : 5 ≤ 6 - 1) (Nat.sub_le_sub_right hF 1)) (ml_sub wm_448 (Nat.le_trans (by decide : 107 ≤ 129 - 22) (Nat.sub_le_sub_right hLo 22))) (wp_bind h) (fun r51 h => rs_back0 ?_))
    refine rs_goto (tg := 308) wi_447_305 ⟨by decide, by decide⟩ ?_
    exact hj308 _ h _ l0 l1 l2 l3 l4
  by_cases q52 : (r3.1 211 (ix a2)) = 14
  ·
    have h := wp_pos h q52
    refine rs_tsk (tg := 104) (off := 83) (v := 14) wi_447_21 q52 (by decide) (by decide) ⟨by decide, by decide⟩ ?_
    exact hj104 _ h _ l0 l1 l2 l3 l4
  have h := wp_neg h q52
  by_cases q53 : (r3.1 211 (ix a2)) = 15
  ·
    have h := wp_pos h q53
    refine rs_tsk (tg := 104) (off := 83) (v := 15) wi_447_21 q53 (by decide) (by decide) ⟨by decide, by decide⟩ ?_
    exact hj104 _ h _ l0 l1 l2 l3 l4
  have h := wp_neg h q53
  by_cases q54 : (r3.1 211 (ix a2)) = 16
  ·
    have h := wp_pos h q54
    refine rs_tsk (tg := 181) (off := 160) (v := 16) wi_447_21 q54 (by decide) (by decide) ⟨by decide, by decide⟩ ?_
    exact hj181 _ h _ l0 l1 l2 l3 l4
  have h := wp_neg h q54
  by_cases q55 : (r3.1 211 (ix a2)) = 17
  ·
    have h := wp_pos h q55
    refine rs_tsk (tg := 181) (off := 160) (v := 17) wi_447_21 q55 (by decide) (by decide) ⟨by decide, by decide⟩ ?_
    exact hj181 _ h _ l0 l1 l2 l3 l4
  have h := wp_neg h q55
  by_cases q56 : (r3.1 211 (ix a2)) = 18
  ·
    have h := wp_pos h q56
    refine rs_tsk (tg := 204) (off := 183) (v := 18) wi_447_21 q56 (by decide) (by decide) ⟨by decide, by decide⟩ ?_
    exact hj204 _ h _ l0 l1 l2 l3 l4
  have h := wp_neg h q56
  by_cases q57 : (r3.1 211 (ix a2)) = 19
  ·
    have h := wp_pos h q57
    refine rs_tsk (tg := 204) (off := 183) (v := 19) wi_447_21 q57 (by decide) (by decide) ⟨by decide, by decide⟩ ?_
    exact hj204 _ h _ l0 l1 l2 l3 l4
  have h := wp_neg h q57
  by_cases q58 : (r3.1 211 (ix a2)) = 20
  ·
    have h := wp_pos h q58
    refine rs_tsk (tg := 204) (off := 183) (v := 20) wi_447_21 q58 (by decide) (by decide) ⟨by decide, by decide⟩ ?_
    exact hj204 _ h _ l0 l1 l2 l3 l4
  have h := wp_neg h q58
  by_cases q59 : (r3.1 211 (ix a2)) = 21
  ·
    have h := wp_pos h q59
    refine rs_tsk (tg := 308) (off := 287) (v := 21) wi_447_21 q59 (by decide) (by decide) ⟨by decide, by decide⟩ ?_
    exact hj308 _ h _ l0 l1 l2 l3 l4
  have h := wp_neg h q59
  by_cases q60 : (r3.1 211 (ix a2)) = 22
  ·
    have h := wp_pos h q60
    refine rs_tsk (tg := 308) (off := 287) (v := 22) wi_447_21 q60 (by decide) (by decide) ⟨by decide, by decide⟩ ?_
    exact hj308 _ h _ l0 l1 l2 l3 l4
  have h := wp_neg h q60
  by_cases q61 : (r3.1 211 (ix a2)) = 23
  ·
    have h := wp_pos h q61
    refine rs_tsk (tg := 308) (off := 287) (v := 23) wi_447_21 q61 (by decide) (by decide) ⟨by decide, by decide⟩ ?_
    exact hj308 _ h _ l0 l1 l2 l3 l4
  have h := wp_neg h q61
  by_cases q62 : (r3.1 211 (ix a2)) = 24
  ·
    have h := wp_pos h q62
    refine rs_tsk (tg := 308) (off := 287) (v := 24) wi_447_21 q62 (by decide) (by decide) ⟨by decide, by decide⟩ ?_
    exact hj308 _ h _ l0 l1 l2 l3 l4
  have h := wp_neg h q62
  by_cases q63 : (r3.1 211 (ix a2)) = 25
  ·
    have h := wp_pos h q63
    refine rs_tsk (tg := 308) (off := 287) (v := 25) wi_447_21 q63 (by decide) (by decide) ⟨by decide, by decide⟩ ?_
    exact hj308 _ h _ l0 l1 l2 l3 l4
  have h := wp_neg h q63
  by_cases q64 : (r3.1 211 (ix a2)) = 26
  ·
    have h := wp_pos h q64
    refine rs_tsk (tg := 308) (off := 287) (v := 26) wi_447_21 q64 (by decide) (by decide) ⟨by decide, by decide⟩ ?_
    exact hj308 _ h _ l0 l1 l2 l3 l4
  have h := wp_neg h q64
  by_cases q65 : (r3.1 211 (ix a2)) = 27
  ·
    have h := wp_pos h q65
    refine rs_tsk (tg := 308) (off := 287) (v := 27) wi_447_21 q65 (by decide) (by decide) ⟨by decide, by decide⟩ ?_
    exact hj308 _ h _ l0 l1 l2 l3 l4
  have h := wp_neg h q65
  by_cases q66 : (r3.1 211 (ix a2)) = 28
  ·
    have h := wp_pos h q66
    refine rs_tsk (tg := 308) (off := 287) (v := 28) wi_447_21 q66 (by decide) (by decide) ⟨by decide, by decide⟩ ?_
    exact hj308 _ h _ l0 l1 l2 l3 l4
  have h := wp_neg h q66
  by_cases q67 : (r3.1 211 (ix a2)) = 29
  ·
    have h := wp_pos h q67
    refine rs_tsk (tg := 289) (off := 268) (v := 29) wi_447_21 q67 (by decide) (by decide) ⟨by decide, by decide⟩ ?_
    exact hj289 _ h _ l0 l1 l2 l3 l4
  have h := wp_neg h q67
  by_cases q68 : (r3.1 211 (ix a2)) = 30
  ·
    have h := wp_pos h q68
    refine rs_tsk (tg := 289) (off := 268) (v := 30) wi_447_21 q68 (by decide) (by decide) ⟨by decide, by decide⟩ ?_
    exact hj289 _ h _ l0 l1 l2 l3 l4
  have h := wp_neg h q68
  refine rs_tsd (tg := 308) wi_447_21 (rz_sw fun k k1 k2 => by
    have kk : k = 14 ∨ k = 15 ∨ k = 16 ∨ k = 17 ∨ k = 18 ∨ k = 19 ∨ k = 20 ∨ k = 21 ∨ k = 22 ∨ k = 23 ∨ k = 24 ∨ k = 25 ∨ k = 26 ∨ k = 27 ∨ k = 28 ∨ k = 29 ∨ k = 30 := by omega
    rcases kk with rfl | rfl | rfl | rfl | rfl | rfl | rfl | rfl | rfl | rfl | rfl | rfl | rfl | rfl | rfl | rfl | rfl
    · exact q52
    · exact q53
    · exact q54
    · exact q55
    · exact q56
    · exact q57
    · exact q58
    · exact q59
    · exact q60
    · exact q61
    · exact q62
    · exact q63
    · exact q64
    · exact q65
    · exact q66
    · exact q67
    · exact q68
    ) ⟨by decide, by decide⟩ ?_
  exact hj308 _ h _ l0 l1 l2 l3 l4
theorem wsb_56 : (rt_sb 56).isSome = true := by decide +kernel
theorem wsb_57 : (rt_sb 57).isSome = true := by decide +kernel
theorem wa_15_447 : rz_cn 15 (rx_yn (rt_P sc fm) 447).cls = true := (by decide +kernel : rz_cn 15 (rt_yn 447).cls = true)
theorem wc_446_402 : rx_ct (rt_P sc fm) 446 402 = some (0, 362, 1) := (by decide +kernel : rt_ct 446 402 = some (0, 362, 1))
theorem wc_446_661 : rx_ct (rt_P sc fm) 446 661 = some (1, 422, 1) := (by decide +kernel : rt_ct 446 661 = some (1, 422, 1))
theorem wc_446_765 : rx_ct (rt_P sc fm) 446 765 = some (0, 363, 1) := (by decide +kernel : rt_ct 446 765 = some (0, 363, 1))
theorem wc_446_783 : rx_ct (rt_P sc fm) 446 783 = some (0, 365, 1) := (by decide +kernel : rt_ct 446 783 = some (0, 365, 1))
theorem wc_446_803 : rx_ct (rt_P sc fm) 446 803 = some (0, 442, 1) := (by decide +kernel : rt_ct 446 803 = some (0, 442, 1))
theorem wc_446_808 : rx_ct (rt_P sc fm) 446 808 = some (0, 447, 4) := (by decide +kernel : rt_ct 446 808 = some (0, 447, 4))
theorem wf_446_152 : rx_ft (rt_P sc fm) 446 152 = some (15, 38) := (by decide +kernel : rt_ft 446 152 = some (15, 38))
theorem wf_446_155 : rx_ft (rt_P sc fm) 446 155 = some (15, 39) := (by decide +kernel : rt_ft 446 155 = some (15, 39))
theorem wf_446_158 : rx_ft (rt_P sc fm) 446 158 = some (15, 40) := (by decide +kernel : rt_ft 446 158 = some (15, 40))
theorem wf_446_161 : rx_ft (rt_P sc fm) 446 161 = some (15, 41) := (by decide +kernel : rt_ft 446 161 = some (15, 41))
theorem wf_446_164 : rx_ft (rt_P sc fm) 446 164 = some (15, 42) := (by decide +kernel : rt_ft 446 164 = some (15, 42))
theorem wf_446_167 : rx_ft (rt_P sc fm) 446 167 = some (15, 43) := (by decide +kernel : rt_ft 446 167 = some (15, 43))
theorem wf_446_170 : rx_ft (rt_P sc fm) 446 170 = some (15, 44) := (by decide +kernel : rt_ft 446 170 = some (15, 44))
theorem wf_446_173 : rx_ft (rt_P sc fm) 446 173 = some (15, 45) := (by decide +kernel : rt_ft 446 173 = some (15, 45))
theorem wf_446_179 : rx_ft (rt_P sc fm) 446 179 = some (15, 47) := (by decide +kernel : rt_ft 446 179 = some (15, 47))
theorem wf_446_182 : rx_ft (rt_P sc fm) 446 182 = some (15, 48) := (by decide +kernel : rt_ft 446 182 = some (15, 48))
theorem wf_446_188 : rx_ft (rt_P sc fm) 446 188 = some (15, 50) := (by decide +kernel : rt_ft 446 188 = some (15, 50))
theorem wi_446_0 : ri (rt_P sc fm) 446 0 (.aload_n 0) (1) := ri_of (by decide +kernel) rfl
theorem wi_446_1 : ri (rt_P sc fm) 446 1 (.ldc 22) (3) := ri_of (by decide +kernel) rfl
theorem wi_446_100 : ri (rt_P sc fm) 446 100 (.iconst 1) (101) := ri_of (by decide +kernel) rfl
theorem wi_446_101 : ri (rt_P sc fm) 446 101 (.iadd) (102) := ri_of (by decide +kernel) rfl
theorem wi_446_102 : ri (rt_P sc fm) 446 102 (.iload_n 2) (103) := ri_of (by decide +kernel) rfl
theorem wi_446_103 : ri (rt_P sc fm) 446 103 (.iadd) (104) := ri_of (by decide +kernel) rfl
theorem wi_446_104 : ri (rt_P sc fm) 446 104 (.invokevirtual 803) (107) := ri_of (by decide +kernel) rfl
theorem wi_446_107 : ri (rt_P sc fm) 446 107 (.aload_n 0) (108) := ri_of (by decide +kernel) rfl
theorem wi_446_108 : ri (rt_P sc fm) 446 108 (.getfield 167) (111) := ri_of (by decide +kernel) rfl
theorem wi_446_11 : ri (rt_P sc fm) 446 11 (.iload_n 1) (12) := ri_of (by decide +kernel) rfl
theorem wi_446_111 : ri (rt_P sc fm) 446 111 (.bipush 8) (113) := ri_of (by decide +kernel) rfl
theorem wi_446_113 : ri (rt_P sc fm) 446 113 (.iload_n 1) (114) := ri_of (by decide +kernel) rfl
theorem wi_446_114 : ri (rt_P sc fm) 446 114 (.imul) (115) := ri_of (by decide +kernel) rfl
theorem wi_446_115 : ri (rt_P sc fm) 446 115 (.iload_n 2) (116) := ri_of (by decide +kernel) rfl
theorem wi_446_116 : ri (rt_P sc fm) 446 116 (.iadd) (117) := ri_of (by decide +kernel) rfl
theorem wi_446_117 : ri (rt_P sc fm) 446 117 (.iaload) (118) := ri_of (by decide +kernel) rfl
theorem wi_446_118 : ri (rt_P sc fm) 446 118 (.ifCond .eq 25) (121) := ri_of (by decide +kernel) rfl
theorem wi_446_12 : ri (rt_P sc fm) 446 12 (.laload) (13) := ri_of (by decide +kernel) rfl
theorem wi_446_121 : ri (rt_P sc fm) 446 121 (.aload_n 0) (122) := ri_of (by decide +kernel) rfl
theorem wi_446_122 : ri (rt_P sc fm) 446 122 (.ldc_w 778) (125) := ri_of (by decide +kernel) rfl
theorem wi_446_125 : ri (rt_P sc fm) 446 125 (.invokevirtual 402) (128) := ri_of (by decide +kernel) rfl
theorem wi_446_128 : ri (rt_P sc fm) 446 128 (.aload_n 0) (129) := ri_of (by decide +kernel) rfl
theorem wi_446_129 : ri (rt_P sc fm) 446 129 (.aload_n 0) (130) := ri_of (by decide +kernel) rfl
theorem wi_446_13 : ri (rt_P sc fm) 446 13 (.invokevirtual 765) (16) := ri_of (by decide +kernel) rfl
theorem wi_446_130 : ri (rt_P sc fm) 446 130 (.getfield 167) (133) := ri_of (by decide +kernel) rfl
theorem wi_446_133 : ri (rt_P sc fm) 446 133 (.bipush 8) (135) := ri_of (by decide +kernel) rfl
theorem wi_446_135 : ri (rt_P sc fm) 446 135 (.iload_n 1) (136) := ri_of (by decide +kernel) rfl
theorem wi_446_136 : ri (rt_P sc fm) 446 136 (.imul) (137) := ri_of (by decide +kernel) rfl
theorem wi_446_137 : ri (rt_P sc fm) 446 137 (.iload_n 2) (138) := ri_of (by decide +kernel) rfl
theorem wi_446_138 : ri (rt_P sc fm) 446 138 (.iadd) (139) := ri_of (by decide +kernel) rfl
theorem wi_446_139 : ri (rt_P sc fm) 446 139 (.iaload) (140) := ri_of (by decide +kernel) rfl
theorem wi_446_140 : ri (rt_P sc fm) 446 140 (.invokevirtual 783) (143) := ri_of (by decide +kernel) rfl
theorem wi_446_143 : ri (rt_P sc fm) 446 143 (.aload_n 0) (144) := ri_of (by decide +kernel) rfl
theorem wi_446_144 : ri (rt_P sc fm) 446 144 (.ldc_w 801) (147) := ri_of (by decide +kernel) rfl
theorem wi_446_147 : ri (rt_P sc fm) 446 147 (.invokevirtual 402) (150) := ri_of (by decide +kernel) rfl
theorem wi_446_150 : ri (rt_P sc fm) 446 150 (.iinc 2 1) (153) := ri_of (by decide +kernel) rfl
theorem wi_446_153 : ri (rt_P sc fm) 446 153 (.goto (-89)) (156) := ri_of (by decide +kernel) rfl
theorem wi_446_156 : ri (rt_P sc fm) 446 156 (.bipush 8) (158) := ri_of (by decide +kernel) rfl
theorem wi_446_158 : ri (rt_P sc fm) 446 158 (.iload_n 1) (159) := ri_of (by decide +kernel) rfl
theorem wi_446_159 : ri (rt_P sc fm) 446 159 (.imul) (160) := ri_of (by decide +kernel) rfl
theorem wi_446_16 : ri (rt_P sc fm) 446 16 (.aload_n 0) (17) := ri_of (by decide +kernel) rfl
theorem wi_446_160 : ri (rt_P sc fm) 446 160 (.istore_n 2) (161) := ri_of (by decide +kernel) rfl
theorem wi_446_161 : ri (rt_P sc fm) 446 161 (.iload_n 2) (162) := ri_of (by decide +kernel) rfl
theorem wi_446_162 : ri (rt_P sc fm) 446 162 (.bipush 8) (164) := ri_of (by decide +kernel) rfl
theorem wi_446_164 : ri (rt_P sc fm) 446 164 (.iload_n 1) (165) := ri_of (by decide +kernel) rfl
theorem wi_446_165 : ri (rt_P sc fm) 446 165 (.imul) (166) := ri_of (by decide +kernel) rfl
theorem wi_446_166 : ri (rt_P sc fm) 446 166 (.aload_n 0) (167) := ri_of (by decide +kernel) rfl
theorem wi_446_167 : ri (rt_P sc fm) 446 167 (.getfield 161) (170) := ri_of (by decide +kernel) rfl
theorem wi_446_17 : ri (rt_P sc fm) 446 17 (.getfield 155) (20) := ri_of (by decide +kernel) rfl
theorem wi_446_170 : ri (rt_P sc fm) 446 170 (.iload_n 1) (171) := ri_of (by decide +kernel) rfl
theorem wi_446_171 : ri (rt_P sc fm) 446 171 (.iaload) (172) := ri_of (by decide +kernel) rfl
theorem wi_446_172 : ri (rt_P sc fm) 446 172 (.iadd) (173) := ri_of (by decide +kernel) rfl
theorem wi_446_173 : ri (rt_P sc fm) 446 173 (.if_icmp .ge 189) (176) := ri_of (by decide +kernel) rfl
theorem wi_446_176 : ri (rt_P sc fm) 446 176 (.aload_n 0) (177) := ri_of (by decide +kernel) rfl
theorem wi_446_177 : ri (rt_P sc fm) 446 177 (.ldc 26) (179) := ri_of (by decide +kernel) rfl
theorem wi_446_179 : ri (rt_P sc fm) 446 179 (.invokevirtual 402) (182) := ri_of (by decide +kernel) rfl
theorem wi_446_182 : ri (rt_P sc fm) 446 182 (.aload_n 0) (183) := ri_of (by decide +kernel) rfl
theorem wi_446_183 : ri (rt_P sc fm) 446 183 (.aload_n 0) (184) := ri_of (by decide +kernel) rfl
theorem wi_446_184 : ri (rt_P sc fm) 446 184 (.getfield 170) (187) := ri_of (by decide +kernel) rfl
theorem wi_446_187 : ri (rt_P sc fm) 446 187 (.iload_n 2) (188) := ri_of (by decide +kernel) rfl
theorem wi_446_188 : ri (rt_P sc fm) 446 188 (.laload) (189) := ri_of (by decide +kernel) rfl
theorem wi_446_189 : ri (rt_P sc fm) 446 189 (.invokevirtual 765) (192) := ri_of (by decide +kernel) rfl
theorem wi_446_192 : ri (rt_P sc fm) 446 192 (.aload_n 0) (193) := ri_of (by decide +kernel) rfl
theorem wi_446_193 : ri (rt_P sc fm) 446 193 (.ldc_w 776) (196) := ri_of (by decide +kernel) rfl
theorem wi_446_196 : ri (rt_P sc fm) 446 196 (.invokevirtual 402) (199) := ri_of (by decide +kernel) rfl
theorem wi_446_199 : ri (rt_P sc fm) 446 199 (.iconst 0) (200) := ri_of (by decide +kernel) rfl
theorem wi_446_20 : ri (rt_P sc fm) 446 20 (.iload_n 1) (21) := ri_of (by decide +kernel) rfl
theorem wi_446_200 : ri (rt_P sc fm) 446 200 (.istore_n 3) (201) := ri_of (by decide +kernel) rfl
theorem wi_446_201 : ri (rt_P sc fm) 446 201 (.iload_n 3) (202) := ri_of (by decide +kernel) rfl
theorem wi_446_202 : ri (rt_P sc fm) 446 202 (.aload_n 0) (203) := ri_of (by decide +kernel) rfl
theorem wi_446_203 : ri (rt_P sc fm) 446 203 (.getfield 173) (206) := ri_of (by decide +kernel) rfl
theorem wi_446_206 : ri (rt_P sc fm) 446 206 (.iload_n 2) (207) := ri_of (by decide +kernel) rfl
theorem wi_446_207 : ri (rt_P sc fm) 446 207 (.iaload) (208) := ri_of (by decide +kernel) rfl
theorem wi_446_208 : ri (rt_P sc fm) 446 208 (.if_icmp .ge 47) (211) := ri_of (by decide +kernel) rfl
theorem wi_446_21 : ri (rt_P sc fm) 446 21 (.iaload) (22) := ri_of (by decide +kernel) rfl
theorem wi_446_211 : ri (rt_P sc fm) 446 211 (.iload_n 3) (212) := ri_of (by decide +kernel) rfl
theorem wi_446_212 : ri (rt_P sc fm) 446 212 (.ifCond .le 10) (215) := ri_of (by decide +kernel) rfl
theorem wi_446_215 : ri (rt_P sc fm) 446 215 (.aload_n 0) (216) := ri_of (by decide +kernel) rfl
theorem wi_446_216 : ri (rt_P sc fm) 446 216 (.ldc_w 774) (219) := ri_of (by decide +kernel) rfl
theorem wi_446_219 : ri (rt_P sc fm) 446 219 (.invokevirtual 402) (222) := ri_of (by decide +kernel) rfl
theorem wi_446_22 : ri (rt_P sc fm) 446 22 (.ifCond .lt 25) (25) := ri_of (by decide +kernel) rfl
theorem wi_446_222 : ri (rt_P sc fm) 446 222 (.aload_n 0) (223) := ri_of (by decide +kernel) rfl
theorem wi_446_223 : ri (rt_P sc fm) 446 223 (.aload_n 0) (224) := ri_of (by decide +kernel) rfl
theorem wi_446_224 : ri (rt_P sc fm) 446 224 (.getfield 179) (227) := ri_of (by decide +kernel) rfl
theorem wi_446_227 : ri (rt_P sc fm) 446 227 (.bipush 8) (229) := ri_of (by decide +kernel) rfl
theorem wi_446_229 : ri (rt_P sc fm) 446 229 (.iload_n 2) (230) := ri_of (by decide +kernel) rfl
theorem wi_446_230 : ri (rt_P sc fm) 446 230 (.imul) (231) := ri_of (by decide +kernel) rfl
theorem wi_446_231 : ri (rt_P sc fm) 446 231 (.iload_n 3) (232) := ri_of (by decide +kernel) rfl
theorem wi_446_232 : ri (rt_P sc fm) 446 232 (.iadd) (233) := ri_of (by decide +kernel) rfl
theorem wi_446_233 : ri (rt_P sc fm) 446 233 (.laload) (234) := ri_of (by decide +kernel) rfl
theorem wi_446_234 : ri (rt_P sc fm) 446 234 (.invokevirtual 765) (237) := ri_of (by decide +kernel) rfl
theorem wi_446_237 : ri (rt_P sc fm) 446 237 (.aload_n 0) (238) := ri_of (by decide +kernel) rfl
theorem wi_446_238 : ri (rt_P sc fm) 446 238 (.iload_n 2) (239) := ri_of (by decide +kernel) rfl
theorem wi_446_239 : ri (rt_P sc fm) 446 239 (.invokestatic 661) (242) := ri_of (by decide +kernel) rfl
theorem wi_446_242 : ri (rt_P sc fm) 446 242 (.iconst 1) (243) := ri_of (by decide +kernel) rfl
theorem wi_446_243 : ri (rt_P sc fm) 446 243 (.iadd) (244) := ri_of (by decide +kernel) rfl
theorem wi_446_244 : ri (rt_P sc fm) 446 244 (.iload_n 3) (245) := ri_of (by decide +kernel) rfl
theorem wi_446_245 : ri (rt_P sc fm) 446 245 (.iadd) (246) := ri_of (by decide +kernel) rfl
theorem wi_446_246 : ri (rt_P sc fm) 446 246 (.invokevirtual 803) (249) := ri_of (by decide +kernel) rfl
theorem wi_446_249 : ri (rt_P sc fm) 446 249 (.iinc 3 1) (252) := ri_of (by decide +kernel) rfl
theorem wi_446_25 : ri (rt_P sc fm) 446 25 (.aload_n 0) (26) := ri_of (by decide +kernel) rfl
theorem wi_446_252 : ri (rt_P sc fm) 446 252 (.goto (-51)) (255) := ri_of (by decide +kernel) rfl
theorem wi_446_255 : ri (rt_P sc fm) 446 255 (.aload_n 0) (256) := ri_of (by decide +kernel) rfl
theorem wi_446_256 : ri (rt_P sc fm) 446 256 (.ldc_w 786) (259) := ri_of (by decide +kernel) rfl
theorem wi_446_259 : ri (rt_P sc fm) 446 259 (.invokevirtual 402) (262) := ri_of (by decide +kernel) rfl
theorem wi_446_26 : ri (rt_P sc fm) 446 26 (.ldc_w 794) (29) := ri_of (by decide +kernel) rfl
theorem wi_446_262 : ri (rt_P sc fm) 446 262 (.aload_n 0) (263) := ri_of (by decide +kernel) rfl
theorem wi_446_263 : ri (rt_P sc fm) 446 263 (.iload_n 2) (264) := ri_of (by decide +kernel) rfl
theorem wi_446_264 : ri (rt_P sc fm) 446 264 (.invokestatic 661) (267) := ri_of (by decide +kernel) rfl
theorem wi_446_267 : ri (rt_P sc fm) 446 267 (.invokevirtual 803) (270) := ri_of (by decide +kernel) rfl
theorem wi_446_270 : ri (rt_P sc fm) 446 270 (.aload_n 0) (271) := ri_of (by decide +kernel) rfl
theorem wi_446_271 : ri (rt_P sc fm) 446 271 (.ldc_w 806) (274) := ri_of (by decide +kernel) rfl
theorem wi_446_274 : ri (rt_P sc fm) 446 274 (.invokevirtual 402) (277) := ri_of (by decide +kernel) rfl
theorem wi_446_277 : ri (rt_P sc fm) 446 277 (.iconst 0) (278) := ri_of (by decide +kernel) rfl
theorem wi_446_278 : ri (rt_P sc fm) 446 278 (.istore_n 3) (279) := ri_of (by decide +kernel) rfl
theorem wi_446_279 : ri (rt_P sc fm) 446 279 (.iload_n 3) (280) := ri_of (by decide +kernel) rfl
theorem wi_446_280 : ri (rt_P sc fm) 446 280 (.aload_n 0) (281) := ri_of (by decide +kernel) rfl
theorem wi_446_281 : ri (rt_P sc fm) 446 281 (.getfield 182) (284) := ri_of (by decide +kernel) rfl
theorem wi_446_284 : ri (rt_P sc fm) 446 284 (.iload_n 2) (285) := ri_of (by decide +kernel) rfl
theorem wi_446_285 : ri (rt_P sc fm) 446 285 (.iaload) (286) := ri_of (by decide +kernel) rfl
theorem wi_446_286 : ri (rt_P sc fm) 446 286 (.if_icmp .ge 63) (289) := ri_of (by decide +kernel) rfl
theorem wi_446_289 : ri (rt_P sc fm) 446 289 (.bipush 40) (291) := ri_of (by decide +kernel) rfl
theorem wi_446_29 : ri (rt_P sc fm) 446 29 (.invokevirtual 402) (32) := ri_of (by decide +kernel) rfl
theorem wi_446_291 : ri (rt_P sc fm) 446 291 (.iload_n 2) (292) := ri_of (by decide +kernel) rfl
theorem wi_446_292 : ri (rt_P sc fm) 446 292 (.imul) (293) := ri_of (by decide +kernel) rfl
theorem wi_446_293 : ri (rt_P sc fm) 446 293 (.iload_n 3) (294) := ri_of (by decide +kernel) rfl
theorem wi_446_294 : ri (rt_P sc fm) 446 294 (.iadd) (295) := ri_of (by decide +kernel) rfl
theorem wi_446_295 : ri (rt_P sc fm) 446 295 (.istore 4) (297) := ri_of (by decide +kernel) rfl
theorem wi_446_297 : ri (rt_P sc fm) 446 297 (.aload_n 0) (298) := ri_of (by decide +kernel) rfl
theorem wi_446_298 : ri (rt_P sc fm) 446 298 (.getfield 188) (301) := ri_of (by decide +kernel) rfl
theorem wi_446_3 : ri (rt_P sc fm) 446 3 (.invokevirtual 402) (6) := ri_of (by decide +kernel) rfl
theorem wi_446_301 : ri (rt_P sc fm) 446 301 (.iload 4) (303) := ri_of (by decide +kernel) rfl
theorem wi_446_303 : ri (rt_P sc fm) 446 303 (.laload) (304) := ri_of (by decide +kernel) rfl
theorem wi_446_304 : ri (rt_P sc fm) 446 304 (.lconst 0) (305) := ri_of (by decide +kernel) rfl
theorem wi_446_305 : ri (rt_P sc fm) 446 305 (.lcmp) (306) := ri_of (by decide +kernel) rfl
theorem wi_446_306 : ri (rt_P sc fm) 446 306 (.ifCond .eq 21) (309) := ri_of (by decide +kernel) rfl
theorem wi_446_309 : ri (rt_P sc fm) 446 309 (.aload_n 0) (310) := ri_of (by decide +kernel) rfl
theorem wi_446_310 : ri (rt_P sc fm) 446 310 (.aload_n 0) (311) := ri_of (by decide +kernel) rfl
theorem wi_446_311 : ri (rt_P sc fm) 446 311 (.getfield 188) (314) := ri_of (by decide +kernel) rfl
theorem wi_446_314 : ri (rt_P sc fm) 446 314 (.iload 4) (316) := ri_of (by decide +kernel) rfl
theorem wi_446_316 : ri (rt_P sc fm) 446 316 (.laload) (317) := ri_of (by decide +kernel) rfl
theorem wi_446_317 : ri (rt_P sc fm) 446 317 (.invokevirtual 765) (320) := ri_of (by decide +kernel) rfl
theorem wi_446_32 : ri (rt_P sc fm) 446 32 (.aload_n 0) (33) := ri_of (by decide +kernel) rfl
theorem wi_446_320 : ri (rt_P sc fm) 446 320 (.aload_n 0) (321) := ri_of (by decide +kernel) rfl
theorem wi_446_321 : ri (rt_P sc fm) 446 321 (.ldc_w 794) (324) := ri_of (by decide +kernel) rfl
theorem wi_446_324 : ri (rt_P sc fm) 446 324 (.invokevirtual 402) (327) := ri_of (by decide +kernel) rfl
theorem wi_446_327 : ri (rt_P sc fm) 446 327 (.aload_n 0) (328) := ri_of (by decide +kernel) rfl
theorem wi_446_328 : ri (rt_P sc fm) 446 328 (.iload_n 2) (329) := ri_of (by decide +kernel) rfl
theorem wi_446_329 : ri (rt_P sc fm) 446 329 (.iload 4) (331) := ri_of (by decide +kernel) rfl
theorem wi_446_33 : ri (rt_P sc fm) 446 33 (.aload_n 0) (34) := ri_of (by decide +kernel) rfl
theorem wi_446_331 : ri (rt_P sc fm) 446 331 (.iconst 0) (332) := ri_of (by decide +kernel) rfl
theorem wi_446_332 : ri (rt_P sc fm) 446 332 (.iconst 0) (333) := ri_of (by decide +kernel) rfl
theorem wi_446_333 : ri (rt_P sc fm) 446 333 (.invokevirtual 808) (336) := ri_of (by decide +kernel) rfl
theorem wi_446_336 : ri (rt_P sc fm) 446 336 (.aload_n 0) (337) := ri_of (by decide +kernel) rfl
theorem wi_446_337 : ri (rt_P sc fm) 446 337 (.ldc_w 801) (340) := ri_of (by decide +kernel) rfl
theorem wi_446_34 : ri (rt_P sc fm) 446 34 (.getfield 152) (37) := ri_of (by decide +kernel) rfl
theorem wi_446_340 : ri (rt_P sc fm) 446 340 (.invokevirtual 402) (343) := ri_of (by decide +kernel) rfl
theorem wi_446_343 : ri (rt_P sc fm) 446 343 (.iinc 3 1) (346) := ri_of (by decide +kernel) rfl
theorem wi_446_346 : ri (rt_P sc fm) 446 346 (.goto (-67)) (349) := ri_of (by decide +kernel) rfl
theorem wi_446_349 : ri (rt_P sc fm) 446 349 (.aload_n 0) (350) := ri_of (by decide +kernel) rfl
theorem wi_446_350 : ri (rt_P sc fm) 446 350 (.ldc_w 811) (353) := ri_of (by decide +kernel) rfl
theorem wi_446_353 : ri (rt_P sc fm) 446 353 (.invokevirtual 402) (356) := ri_of (by decide +kernel) rfl
theorem wi_446_356 : ri (rt_P sc fm) 446 356 (.iinc 2 1) (359) := ri_of (by decide +kernel) rfl
theorem wi_446_359 : ri (rt_P sc fm) 446 359 (.goto (-198)) (362) := ri_of (by decide +kernel) rfl
theorem wi_446_362 : ri (rt_P sc fm) 446 362 (.aload_n 0) (363) := ri_of (by decide +kernel) rfl
theorem wi_446_363 : ri (rt_P sc fm) 446 363 (.ldc_w 811) (366) := ri_of (by decide +kernel) rfl
theorem wi_446_366 : ri (rt_P sc fm) 446 366 (.invokevirtual 402) (369) := ri_of (by decide +kernel) rfl
theorem wi_446_369 : ri (rt_P sc fm) 446 369 (.return_) (370) := ri_of (by decide +kernel) rfl
theorem wi_446_37 : ri (rt_P sc fm) 446 37 (.aload_n 0) (38) := ri_of (by decide +kernel) rfl
theorem wi_446_38 : ri (rt_P sc fm) 446 38 (.getfield 155) (41) := ri_of (by decide +kernel) rfl
theorem wi_446_41 : ri (rt_P sc fm) 446 41 (.iload_n 1) (42) := ri_of (by decide +kernel) rfl
theorem wi_446_42 : ri (rt_P sc fm) 446 42 (.iaload) (43) := ri_of (by decide +kernel) rfl
theorem wi_446_43 : ri (rt_P sc fm) 446 43 (.laload) (44) := ri_of (by decide +kernel) rfl
theorem wi_446_44 : ri (rt_P sc fm) 446 44 (.invokevirtual 765) (47) := ri_of (by decide +kernel) rfl
theorem wi_446_47 : ri (rt_P sc fm) 446 47 (.aload_n 0) (48) := ri_of (by decide +kernel) rfl
theorem wi_446_48 : ri (rt_P sc fm) 446 48 (.bipush 100) (50) := ri_of (by decide +kernel) rfl
theorem wi_446_50 : ri (rt_P sc fm) 446 50 (.iload_n 1) (51) := ri_of (by decide +kernel) rfl
theorem wi_446_51 : ri (rt_P sc fm) 446 51 (.imul) (52) := ri_of (by decide +kernel) rfl
theorem wi_446_52 : ri (rt_P sc fm) 446 52 (.invokevirtual 803) (55) := ri_of (by decide +kernel) rfl
theorem wi_446_55 : ri (rt_P sc fm) 446 55 (.aload_n 0) (56) := ri_of (by decide +kernel) rfl
theorem wi_446_56 : ri (rt_P sc fm) 446 56 (.ldc_w 806) (59) := ri_of (by decide +kernel) rfl
theorem wi_446_59 : ri (rt_P sc fm) 446 59 (.invokevirtual 402) (62) := ri_of (by decide +kernel) rfl
theorem wi_446_6 : ri (rt_P sc fm) 446 6 (.aload_n 0) (7) := ri_of (by decide +kernel) rfl
theorem wi_446_62 : ri (rt_P sc fm) 446 62 (.iconst 0) (63) := ri_of (by decide +kernel) rfl
theorem wi_446_63 : ri (rt_P sc fm) 446 63 (.istore_n 2) (64) := ri_of (by decide +kernel) rfl
theorem wi_446_64 : ri (rt_P sc fm) 446 64 (.iload_n 2) (65) := ri_of (by decide +kernel) rfl
theorem wi_446_65 : ri (rt_P sc fm) 446 65 (.aload_n 0) (66) := ri_of (by decide +kernel) rfl
theorem wi_446_66 : ri (rt_P sc fm) 446 66 (.getfield 158) (69) := ri_of (by decide +kernel) rfl
theorem wi_446_69 : ri (rt_P sc fm) 446 69 (.iload_n 1) (70) := ri_of (by decide +kernel) rfl
theorem wi_446_7 : ri (rt_P sc fm) 446 7 (.aload_n 0) (8) := ri_of (by decide +kernel) rfl
theorem wi_446_70 : ri (rt_P sc fm) 446 70 (.iaload) (71) := ri_of (by decide +kernel) rfl
theorem wi_446_71 : ri (rt_P sc fm) 446 71 (.if_icmp .ge 85) (74) := ri_of (by decide +kernel) rfl
theorem wi_446_74 : ri (rt_P sc fm) 446 74 (.aload_n 0) (75) := ri_of (by decide +kernel) rfl
theorem wi_446_75 : ri (rt_P sc fm) 446 75 (.ldc 24) (77) := ri_of (by decide +kernel) rfl
theorem wi_446_77 : ri (rt_P sc fm) 446 77 (.invokevirtual 402) (80) := ri_of (by decide +kernel) rfl
theorem wi_446_8 : ri (rt_P sc fm) 446 8 (.getfield 152) (11) := ri_of (by decide +kernel) rfl
theorem wi_446_80 : ri (rt_P sc fm) 446 80 (.aload_n 0) (81) := ri_of (by decide +kernel) rfl
theorem wi_446_81 : ri (rt_P sc fm) 446 81 (.aload_n 0) (82) := ri_of (by decide +kernel) rfl
theorem wi_446_82 : ri (rt_P sc fm) 446 82 (.getfield 164) (85) := ri_of (by decide +kernel) rfl
theorem wi_446_85 : ri (rt_P sc fm) 446 85 (.bipush 8) (87) := ri_of (by decide +kernel) rfl
theorem wi_446_87 : ri (rt_P sc fm) 446 87 (.iload_n 1) (88) := ri_of (by decide +kernel) rfl
theorem wi_446_88 : ri (rt_P sc fm) 446 88 (.imul) (89) := ri_of (by decide +kernel) rfl
theorem wi_446_89 : ri (rt_P sc fm) 446 89 (.iload_n 2) (90) := ri_of (by decide +kernel) rfl
theorem wi_446_90 : ri (rt_P sc fm) 446 90 (.iadd) (91) := ri_of (by decide +kernel) rfl
theorem wi_446_91 : ri (rt_P sc fm) 446 91 (.laload) (92) := ri_of (by decide +kernel) rfl
theorem wi_446_92 : ri (rt_P sc fm) 446 92 (.invokevirtual 765) (95) := ri_of (by decide +kernel) rfl
theorem wi_446_95 : ri (rt_P sc fm) 446 95 (.aload_n 0) (96) := ri_of (by decide +kernel) rfl
theorem wi_446_96 : ri (rt_P sc fm) 446 96 (.bipush 100) (98) := ri_of (by decide +kernel) rfl
theorem wi_446_98 : ri (rt_P sc fm) 446 98 (.iload_n 1) (99) := ri_of (by decide +kernel) rfl
theorem wi_446_99 : ri (rt_P sc fm) 446 99 (.imul) (100) := ri_of (by decide +kernel) rfl
theorem wk_446_22 : rx_kt (rt_P sc fm) 446 22 = some (.ref (rx_K 4)) := (by decide +kernel : rt_kt 446 22 = some (.ref (rx_K 4)))
theorem wk_446_24 : rx_kt (rt_P sc fm) 446 24 = some (.ref (rx_K 5)) := (by decide +kernel : rt_kt 446 24 = some (.ref (rx_K 5)))
theorem wk_446_26 : rx_kt (rt_P sc fm) 446 26 = some (.ref (rx_K 6)) := (by decide +kernel : rt_kt 446 26 = some (.ref (rx_K 6)))
theorem wk_446_774 : rx_kt (rt_P sc fm) 446 774 = some (.ref (rx_K 51)) := (by decide +kernel : rt_kt 446 774 = some (.ref (rx_K 51)))
theorem wk_446_776 : rx_kt (rt_P sc fm) 446 776 = some (.ref (rx_K 52)) := (by decide +kernel : rt_kt 446 776 = some (.ref (rx_K 52)))
theorem wk_446_778 : rx_kt (rt_P sc fm) 446 778 = some (.ref (rx_K 53)) := (by decide +kernel : rt_kt 446 778 = some (.ref (rx_K 53)))
theorem wk_446_786 : rx_kt (rt_P sc fm) 446 786 = some (.ref (rx_K 54)) := (by decide +kernel : rt_kt 446 786 = some (.ref (rx_K 54)))
theorem wk_446_794 : rx_kt (rt_P sc fm) 446 794 = some (.ref (rx_K 33)) := (by decide +kernel : rt_kt 446 794 = some (.ref (rx_K 33)))
theorem wk_446_801 : rx_kt (rt_P sc fm) 446 801 = some (.ref (rx_K 34)) := (by decide +kernel : rt_kt 446 801 = some (.ref (rx_K 34)))
theorem wk_446_806 : rx_kt (rt_P sc fm) 446 806 = some (.ref (rx_K 56)) := (by decide +kernel : rt_kt 446 806 = some (.ref (rx_K 56)))
theorem wk_446_811 : rx_kt (rt_P sc fm) 446 811 = some (.ref (rx_K 57)) := (by decide +kernel : rt_kt 446 811 = some (.ref (rx_K 57)))
theorem wm_447 : rx_ml (rt_P sc fm) 447 = 6 := (by decide +kernel : rt_ml 447 = 6)
theorem wr_446 : rx_rt (rt_P sc fm) 446 = none := (by decide +kernel : rt_rt 446 = none)
/-- MarkHouseModel.tellClass(I)V -/
def d_446 (n : Nat) (a1 : Int32) (c : cS) : Option (cS) :=
  Option.bind (d_362 n 4 c) (fun r1 =>
  if ib a1 12 then
  Option.bind (d_363 n (r1.2 200 (ix a1)) r1) (fun r3 =>
  if ib a1 12 then
  jn (fun p5 : cS =>
    Option.bind (d_442 n (100 * a1) p5) (fun r6 =>
    Option.bind (d_362 n 56 r6) (fun r7 =>
    Option.bind (whl (R := (cS)) (fun s9 : Int32 × cS =>
      if ib a1 12 then
      if (s9.2.1 202 (ix a1)) ≤ s9.1 then
        some (.inr s9.2)
      else
        Option.bind (d_362 n 5 s9.2) (fun r11 =>
        if ib ((8 * a1) + s9.1) 96 then
        Option.bind (d_363 n (r11.2 204 (ix ((8 * a1) + s9.1))) r11) (fun r13 =>
        Option.bind (d_442 n (((100 * a1) + 1) + s9.1) r13) (fun r14 =>
        if ib ((8 * a1) + s9.1) 96 then
        jn (fun p16 : cS =>
          Option.bind (d_362 n 34 p16) (fun r17 =>
          lt (s9.1 + 1 : Int32) (fun v19 =>
          some (.inl (v19, r17)))))
        (fun j143 =>
        if (r14.1 205 (ix ((8 * a1) + s9.1))) = 0 then
          j143 r14
        else
          Option.bind (d_362 n 53 r14) (fun r21 =>
          if ib ((8 * a1) + s9.1) 96 then
          Option.bind (d_365 n (r21.1 205 (ix ((8 * a1) + s9.1))) r21) (fun r23 =>
          j143 r23)
          else none))
        else none))
        else none)
      else none) n (0, r7))
    (fun x24 : cS =>
      lt ((8 * a1) : Int32) (fun v26 =>
      Option.bind (whl (R := (cS)) (fun s28 : Int32 × cS =>
        if ib a1 12 then
        if ((8 * a1) + (s28.2.1 203 (ix a1))) ≤ s28.1 then
          some (.inr s28.2)
        else
          Option.bind (d_362 n 6 s28.2) (fun r30 =>
          if ib s28.1 96 then
          Option.bind (d_363 n (r30.2 206 (ix s28.1)) r30) (fun r32 =>
          Option.bind (d_362 n 52 r32) (fun r33 =>
          Option.bind (whl (R := (cS)) (fun s35 : Int32 × cS =>
            if ib s28.1 96 then
            if (s35.2.1 207 (ix s28.1)) ≤ s35.1 then
              some (.inr s35.2)
            else
              jn (fun p37 : cS =>
                if ib ((8 * s28.1) + s35.1) 768 then
                Option.bind (d_363 n (p37.2 209 (ix ((8 * s28.1) + s35.1))) p37) (fun r39 =>
                Option.bind (d_422 n s28.1) (fun v40 =>
                Option.bind (d_442 n ((v40 + 1) + s35.1) r39) (fun r41 =>
                lt (s35.1 + 1 : Int32) (fun v43 =>
                some (.inl (v43, r41))))))
                else none)
              (fun j222 =>
              if s35.1 ≤ 0 then
                j222 s35.2
              else
                Option.bind (d_362 n 51 s35.2) (fun r45 =>
                j222 r45))
            else none) n (0, r33))
          (fun x46 : cS =>
            Option.bind (d_362 n 54 x46) (fun r47 =>
            Option.bind (d_422 n s28.1) (fun v48 =>
            Option.bind (d_442 n v48 r47) (fun r49 =>
            Option.bind (d_362 n 56 r49) (fun r50 =>
            Option.bind (whl (R := (cS)) (fun s52 : Int32 × cS =>
              if ib s28.1 96 then
              if (s52.2.1 210 (ix s28.1)) ≤ s52.1 then
                some (.inr s52.2)
              else
                lt (((40 * s28.1) + s52.1) : Int32) (fun v55 =>
                if ib v55 3840 then
                jn (fun p58 : cS =>
                  Option.bind (d_447 n s28.1 v55 0 0 p58) (fun r59 =>
                  Option.bind (d_362 n 34 r59) (fun r60 =>
                  lt (s52.1 + 1 : Int32) (fun v62 =>
                  some (.inl (v62, r60))))))
                (fun j327 =>
                if (lg_cmp (s52.2.2 212 (ix v55)) 0) = 0 then
                  j327 s52.2
                else
                  if ib v55 3840 then
                  Option.bind (d_363 n (s52.2.2 212 (ix v55)) s52.2) (fun r65 =>
                  Option.bind (d_362 n 33 r65) (fun r66 =>
                  j327 r66))
                  else none)
                else none)
              else none) n (0, r50))
            (fun x67 : cS =>
              Option.bind (d_362 n 57 x67) (fun r68 =>
              lt (s28.1 + 1 : Int32) (fun v70 =>
              some (.inl (v70, r68))))))))))))
          else none)
        else none) n (v26, x24))
      (fun x72 : cS =>
        Option.bind (d_362 n 57 x72) (fun r73 =>
        some r73)))))))
  (fun j47 =>
  if (r3.1 201 (ix a1)) < 0 then
    j47 r3
  else
    Option.bind (d_362 n 33 r3) (fun r74 =>
    if ib a1 12 then
    if ib (r74.1 201 (ix a1)) 12 then
    Option.bind (d_363 n (r74.2 200 (ix (r74.1 201 (ix a1)))) r74) (fun r77 =>
    j47 r77)
    else none
    else none))
  else none)
  else none)
set_option maxRecDepth 100000 in
set_option maxHeartbeats 4000000 in
theorem sp_446 {F Lo n : Nat} {a1 : Int32} {c y : cS} {w : cW} {K : cS → Prop} {Q : ((Option Value) ⊕ String) → List va_E → Prop} (hw : rOK fm w) (hF : 8 ≤ F) (hLo : 176 ≤ Lo)  (h : wp (d_446 n a1 c) K) (hQ : ∀ r, K r → Q (.inl none) (hq false r y w)) : rs (rt_P sc fm) 446 F Lo 0 [(0, .ref 174), (1, .int a1)] [] (hq false c y w) Q := by
  unfold d_446 at h
  obtain ⟨lv, elv⟩ : ∃ lv : rx_L, lv = [(0, .ref 174), (1, .int a1)] := ⟨_, rfl⟩
  rw [← elv]
  have l0 : rx_ld lv 0 = some (.ref 174) := by rw [elv]; rfl
  have l1 : rx_ld lv 1 = some (.int a1) := by rw [elv]; rfl
  refine rs_aldn wi_446_0 l0 ?_
  refine rs_ldcS wi_446_1 wk_446_22 ?_
  refine rs_V wi_446_3 wc_446_402 rfl (dq_isa tf_174_0 wa_15_362) (Nat.le_trans (by decide) hF) (ml_le wm_362 (Nat.le_trans (by decide) hLo)) rfl (sp_362 hw (Nat.le_trans (by decide : 4 ≤ 8 - 1) (Nat.sub_le_sub_right hF 1)) (ml_sub wm_362 (Nat.le_trans (by decide : 85 ≤ 176 - 22) (Nat.sub_le_sub_right hLo 22))) wsb_4 (wp_bind h) (fun r1 h => rs_back0 ?_))
  refine rs_aldn wi_446_6 l0 ?_
  refine rs_aldn wi_446_7 l0 ?_
  refine dq_gr wi_446_8 wf_446_152 tf_174_38 ?_
  refine rs_ildn wi_446_11 l1 ?_
  obtain ⟨g2, h⟩ := wp_gd h
  refine dq_lald wi_446_12 t_200 g2 ?_
  refine rs_V wi_446_13 wc_446_765 rfl (dq_isa tf_174_0 wa_15_363) (Nat.le_trans (by decide) hF) (ml_le wm_363 (Nat.le_trans (by decide) hLo)) rfl (sp_363 hw (Nat.le_trans (by decide : 2 ≤ 8 - 1) (Nat.sub_le_sub_right hF 1)) (ml_sub wm_363 (Nat.le_trans (by decide : 44 ≤ 176 - 22) (Nat.sub_le_sub_right hLo 22))) (wp_bind h) (fun r3 h => rs_back0 ?_))
  refine rs_aldn wi_446_16 l0 ?_
  refine dq_gr wi_446_17 wf_446_155 tf_174_39 ?_
  refine rs_ildn wi_446_20 l1 ?_
  obtain ⟨g4, h⟩ := wp_gd h
  refine dq_iald wi_446_21 t_201 g4 ?_
  refine wp_jn (B := fun p5 : cS => ∀ lv, rx_ld lv 0 = some (.ref 174) → rx_ld lv 1 = some (.int a1) → rs (rt_P sc fm) 446 F Lo 47 lv [] (hq false p5 y w) Q) h (fun p5 h lv l0 l1 => ?_) (fun j47 hj47 h => ?_)
  ·
    refine rs_aldn wi_446_47 l0 ?_
    refine rs_pure wi_446_48 rfl ?_
    refine rs_topi (v := 100) (by decide) ?_
    refine rs_ildn wi_446_50 l1 ?_
    refine rs_pure wi_446_51 rfl ?_
    refine rs_V wi_446_52 wc_446_803 rfl (dq_isa tf_174_0 wa_15_442) (Nat.le_trans (by decide) hF) (ml_le wm_442 (Nat.le_trans (by decide) hLo)) rfl (sp_442 hw (Nat.le_trans (by decide : 7 ≤ 8 - 1) (Nat.sub_le_sub_right hF 1)) (ml_sub wm_442 (Nat.le_trans (by decide : 154 ≤ 176 - 22) (Nat.sub_le_sub_right hLo 22))) (wp_bind h) (fun r6 h => rs_back0 ?_))
    refine rs_aldn wi_446_55 l0 ?_
    refine rs_ldcwS wi_446_56 wk_446_806 ?_
    refine rs_V wi_446_59 wc_446_402 rfl (dq_isa tf_174_0 wa_15_362) (Nat.le_trans (by decide) hF) (ml_le wm_362 (Nat.le_trans (by decide) hLo)) rfl (sp_362 hw (Nat.le_trans (by decide : 4 ≤ 8 - 1) (Nat.sub_le_sub_right hF 1)) (ml_sub wm_362 (Nat.le_trans (by decide : 85 ≤ 176 - 22) (Nat.sub_le_sub_right hLo 22))) wsb_56 (wp_bind h) (fun r7 h => rs_back0 ?_))
    refine rs_pure wi_446_62 rfl ?_
    refine rs_topi (v := 0) (by decide) ?_
    refine dl_istn wi_446_63 rfl (fun lv l2 t8 => ?_)
    have l0 := t8 _ _ (by decide) (Or.inl rfl) l0
    have l1 := t8 _ _ (by decide) (Or.inl rfl) l1
    refine whl_ex (A := fun s9 : Int32 × cS => ∀ lv, rx_ld lv 0 = some (.ref 174) → rx_ld lv 1 = some (.int a1) → rx_ld lv 2 = some (.int s9.1) → rs (rt_P sc fm) 446 F Lo 64 lv [] (hq false s9.2 y w) Q) (B := (fun x24 : cS => ∀ lv, rx_ld lv 0 = some (.ref 174) → rx_ld lv 1 = some (.int a1) → rs (rt_P sc fm) 446 F Lo 156 lv [] (hq false x24 y w) Q)) ?_ ?_ _ _ (wp_bind h) _ l0 l1 l2
    · intro s9 h lv l0 l1 l2
      refine rs_ildn wi_446_64 l2 ?_
      refine rs_aldn wi_446_65 l0 ?_
      refine dq_gr wi_446_66 wf_446_158 tf_174_40 ?_
      refine rs_ildn wi_446_69 l1 ?_
      obtain ⟨g10, h⟩ := wp_gd h
      refine dq_iald wi_446_70 t_202 g10 ?_
      refine rs_icge (tg := 156) wi_446_71 ⟨by decide, by decide⟩ (fun q => ?_) (fun q => ?_)
      ·
        have h := wp_pos h q
        exact h _ l0 l1
      ·
        have h := wp_neg h q
        refine rs_aldn wi_446_74 l0 ?_
        refine rs_ldcS wi_446_75 wk_446_24 ?_
        refine rs_V wi_446_77 wc_446_402 rfl (dq_isa tf_174_0 wa_15_362) (Nat.le_trans (by decide) hF) (ml_le wm_362 (Nat.le_trans (by decide) hLo)) rfl (sp_362 hw (Nat.le_trans (by decide : 4 ≤ 8 - 1) (Nat.sub_le_sub_right hF 1)) (ml_sub wm_362 (Nat.le_trans (by decide : 85 ≤ 176 - 22) (Nat.sub_le_sub_right hLo 22))) wsb_5 (wp_bind h) (fun r11 h => rs_back0 ?_))
        refine rs_aldn wi_446_80 l0 ?_
        refine rs_aldn wi_446_81 l0 ?_
        refine dq_gr wi_446_82 wf_446_164 tf_174_42 ?_
        refine rs_pure wi_446_85 rfl ?_
        refine rs_topi (v := 8) (by decide) ?_
        refine rs_ildn wi_446_87 l1 ?_
        refine rs_pure wi_446_88 rfl ?_
        refine rs_ildn wi_446_89 l2 ?_
        refine rs_pure wi_446_90 rfl ?_
        obtain ⟨g12, h⟩ := wp_gd h
        refine dq_lald wi_446_91 t_204 g12 ?_
        refine rs_V wi_446_92 wc_446_765 rfl (dq_isa tf_174_0 wa_15_363) (Nat.le_trans (by decide) hF) (ml_le wm_363 (Nat.le_trans (by decide) hLo)) rfl (sp_363 hw (Nat.le_trans (by decide : 2 ≤ 8 - 1) (Nat.sub_le_sub_right hF 1)) (ml_sub wm_363 (Nat.le_trans (by decide : 44 ≤ 176 - 22) (Nat.sub_le_sub_right hLo 22))) (wp_bind h) (fun r13 h => rs_back0 ?_))
        refine rs_aldn wi_446_95 l0 ?_
        refine rs_pure wi_446_96 rfl ?_
        refine rs_topi (v := 100) (by decide) ?_
        refine rs_ildn wi_446_98 l1 ?_
        refine rs_pure wi_446_99 rfl ?_
        refine rs_pure wi_446_100 rfl ?_
        refine rs_topi (v := 1) (by decide) ?_
        refine rs_pure wi_446_101 rfl ?_
        refine rs_ildn wi_446_102 l2 ?_
        refine rs_pure wi_446_103 rfl ?_
        refine rs_V wi_446_104 wc_446_803 rfl (dq_isa tf_174_0 wa_15_442) (Nat.le_trans (by decide) hF) (ml_le wm_442 (Nat.le_trans (by decide) hLo)) rfl (sp_442 hw (Nat.le_trans (by decide : 7 ≤ 8 - 1) (Nat.sub_le_sub_right hF 1)) (ml_sub wm_442 (Nat.le_trans (by decide : 154 ≤ 176 - 22) (Nat.sub_le_sub_right hLo 22))) (wp_bind h) (fun r14 h => rs_back0 ?_))
        refine rs_aldn wi_446_107 l0 ?_
        refine dq_gr wi_446_108 wf_446_167 tf_174_43 ?_
        refine rs_pure wi_446_111 rfl ?_
        refine rs_topi (v := 8) (by decide) ?_
        refine rs_ildn wi_446_113 l1 ?_
        refine rs_pure wi_446_114 rfl ?_
        refine rs_ildn wi_446_115 l2 ?_
        refine rs_pure wi_446_116 rfl ?_
        obtain ⟨g15, h⟩ := wp_gd h
        refine dq_iald wi_446_117 t_205 g15 ?_
        refine wp_jn (B := fun p16 : cS => ∀ lv, rx_ld lv 0 = some (.ref 174) → rx_ld lv 1 = some (.int a1) → rx_ld lv 2 = some (.int s9.1) → rs (rt_P sc fm) 446 F Lo 143 lv [] (hq false p16 y w) Q) h (fun p16 h lv l0 l1 l2 => ?_) (fun j143 hj143 h => ?_)
        ·
          refine rs_aldn wi_446_143 l0 ?_
          refine rs_ldcwS wi_446_144 wk_446_801 ?_
          refine rs_V wi_446_147 wc_446_402 rfl (dq_isa tf_174_0 wa_15_362) (Nat.le_trans (by decide) hF) (ml_le wm_362 (Nat.le_trans (by decide) hLo)) rfl (sp_362 hw (Nat.le_trans (by decide : 4 ≤ 8 - 1) (Nat.sub_le_sub_right hF 1)) (ml_sub wm_362 (Nat.le_trans (by decide : 85 ≤ 176 - 22) (Nat.sub_le_sub_right hLo 22))) wsb_34 (wp_bind h) (fun r17 h => rs_back0 ?_))
          obtain ⟨v19, e20, h⟩ := wp_lt h
          refine dl_inc wi_446_150 l2 rfl e20 (fun lv l2 t18 => ?_)
          have l0 := t18 _ _ (by decide) (Or.inl rfl) l0
          have l1 := t18 _ _ (by decide) (Or.inl rfl) l1
          refine rs_goto (tg := 64) wi_446_153 ⟨by decide, by decide⟩ ?_
          exact h _ l0 l1 l2
        refine rs_ifeq (tg := 143) wi_446_118 ⟨by decide, by decide⟩ (fun q => ?_) (fun q => ?_)
        ·
          have h := wp_pos h q
          exact hj143 _ h _ l0 l1 l2
        ·
          have h := wp_neg h q
          refine rs_aldn wi_446_121 l0 ?_
          refine rs_ldcwS wi_446_122 wk_446_778 ?_
          refine rs_V wi_446_125 wc_446_402 rfl (dq_isa tf_174_0 wa_15_362) (Nat.le_trans (by decide) hF) (ml_le wm_362 (Nat.le_trans (by decide) hLo)) rfl (sp_362 hw (Nat.le_trans (by decide : 4 ≤ 8 - 1) (Nat.sub_le_sub_right hF 1)) (ml_sub wm_362 (Nat.le_trans (by decide : 85 ≤ 176 - 22) (Nat.sub_le_sub_right hLo 22))) wsb_53 (wp_bind h) (fun r21 h => rs_back0 ?_))
          refine rs_aldn wi_446_128 l0 ?_
          refine rs_aldn wi_446_129 l0 ?_
          refine dq_gr wi_446_130 wf_446_167 tf_174_43 ?_
          refine rs_pure wi_446_133 rfl ?_
          refine rs_topi (v := 8) (by decide) ?_
          refine rs_ildn wi_446_135 l1 ?_
          refine rs_pure wi_446_136 rfl ?_
          refine rs_ildn wi_446_137 l2 ?_
          refine rs_pure wi_446_138 rfl ?_
          obtain ⟨g22, h⟩ := wp_gd h
          refine dq_iald wi_446_139 t_205 g22 ?_
          refine rs_V wi_446_140 wc_446_783 rfl (dq_isa tf_174_0 wa_15_365) (Nat.le_trans (by decide) hF) (ml_le wm_365 (Nat.le_trans (by decide) hLo)) rfl (sp_365 hw (Nat.le_trans (by decide : 5 ≤ 8 - 1) (Nat.sub_le_sub_right hF 1)) (ml_sub wm_365 (Nat.le_trans (by decide : 107 ≤ 176 - 21) (Nat.sub_le_sub_right hLo 21))) (wp_bind h) (fun r23 h => rs_back0 ?_))
          exact hj143 _ h _ l0 l1 l2
    ·
      intro x24 h lv l0 l1
      refine rs_pure wi_446_156 rfl ?_
      refine rs_topi (v := 8) (by decide) ?_
      refine rs_ildn wi_446_158 l1 ?_
      refine rs_pure wi_446_159 rfl ?_
      obtain ⟨v26, e27, h⟩ := wp_lt h
      refine rs_topi e27 ?_
      refine dl_istn wi_446_160 rfl (fun lv l2 t25 => ?_)
      have l0 := t25 _ _ (by decide) (Or.inl rfl) l0
      have l1 := t25 _ _ (by decide) (Or.inl rfl) l1
      refine whl_ex (A := fun s28 : Int32 × cS => ∀ lv, rx_ld lv 0 = some (.ref 174) → rx_ld lv 1 = some (.int a1) → rx_ld lv 2 = some (.int s28.1) → rs (rt_P sc fm) 446 F Lo 161 lv [] (hq false s28.2 y w) Q) (B := (fun x72 : cS => ∀ lv, rx_ld lv 0 = some (.ref 174) → rs (rt_P sc fm) 446 F Lo 362 lv [] (hq false x72 y w) Q)) ?_ ?_ _ _ (wp_bind h) _ l0 l1 l2
      · intro s28 h lv l0 l1 l2
        refine rs_ildn wi_446_161 l2 ?_
        refine rs_pure wi_446_162 rfl ?_
        refine rs_topi (v := 8) (by decide) ?_
        refine rs_ildn wi_446_164 l1 ?_
        refine rs_pure wi_446_165 rfl ?_
        refine rs_aldn wi_446_166 l0 ?_
        refine dq_gr wi_446_167 wf_446_161 tf_174_41 ?_
        refine rs_ildn wi_446_170 l1 ?_
        obtain ⟨g29, h⟩ := wp_gd h
        refine dq_iald wi_446_171 t_203 g29 ?_
        refine rs_pure wi_446_172 rfl ?_
        refine rs_icge (tg := 362) wi_446_173 ⟨by decide, by decide⟩ (fun q => ?_) (fun q => ?_)
        ·
          have h := wp_pos h q
          exact h _ l0
        ·
          have h := wp_neg h q
          refine rs_aldn wi_446_176 l0 ?_
          refine rs_ldcS wi_446_177 wk_446_26 ?_
          refine rs_V wi_446_179 wc_446_402 rfl (dq_isa tf_174_0 wa_15_362) (Nat.le_trans (by decide) hF) (ml_le wm_362 (Nat.le_trans (by decide) hLo)) rfl (sp_362 hw (Nat.le_trans (by decide : 4 ≤ 8 - 1) (Nat.sub_le_sub_right hF 1)) (ml_sub wm_362 (Nat.le_trans (by decide : 85 ≤ 176 - 22) (Nat.sub_le_sub_right hLo 22))) wsb_6 (wp_bind h) (fun r30 h => rs_back0 ?_))
          refine rs_aldn wi_446_182 l0 ?_
          refine rs_aldn wi_446_183 l0 ?_
          refine dq_gr wi_446_184 wf_446_170 tf_174_44 ?_
          refine rs_ildn wi_446_187 l2 ?_
          obtain ⟨g31, h⟩ := wp_gd h
          refine dq_lald wi_446_188 t_206 g31 ?_
          refine rs_V wi_446_189 wc_446_765 rfl (dq_isa tf_174_0 wa_15_363) (Nat.le_trans (by decide) hF) (ml_le wm_363 (Nat.le_trans (by decide) hLo)) rfl (sp_363 hw (Nat.le_trans (by decide : 2 ≤ 8 - 1) (Nat.sub_le_sub_right hF 1)) (ml_sub wm_363 (Nat.le_trans (by decide : 44 ≤ 176 - 22) (Nat.sub_le_sub_right hLo 22))) (wp_bind h) (fun r32 h => rs_back0 ?_))
          refine rs_aldn wi_446_192 l0 ?_
          refine rs_ldcwS wi_446_193 wk_446_776 ?_
          refine rs_V wi_446_196 wc_446_402 rfl (dq_isa tf_174_0 wa_15_362) (Nat.le_trans (by decide) hF) (ml_le wm_362 (Nat.le_trans (by decide) hLo)) rfl (sp_362 hw (Nat.le_trans (by decide : 4 ≤ 8 - 1) (Nat.sub_le_sub_right hF 1)) (ml_sub wm_362 (Nat.le_trans (by decide : 85 ≤ 176 - 22) (Nat.sub_le_sub_right hLo 22))) wsb_52 (wp_bind h) (fun r33 h => rs_back0 ?_))
          refine rs_pure wi_446_199 rfl ?_
          refine rs_topi (v := 0) (by decide) ?_
          refine dl_istn wi_446_200 rfl (fun lv l3 t34 => ?_)
          have l0 := t34 _ _ (by decide) (Or.inl rfl) l0
          have l1 := t34 _ _ (by decide) (Or.inl rfl) l1
          have l2 := t34 _ _ (by decide) (Or.inl rfl) l2
          refine whl_ex (A := fun s35 : Int32 × cS => ∀ lv, rx_ld lv 0 = some (.ref 174) → rx_ld lv 1 = some (.int a1) → rx_ld lv 2 = some (.int s28.1) → rx_ld lv 3 = some (.int s35.1) → rs (rt_P sc fm) 446 F Lo 201 lv [] (hq false s35.2 y w) Q) (B := (fun x46 : cS => ∀ lv, rx_ld lv 0 = some (.ref 174) → rx_ld lv 1 = some (.int a1) → rx_ld lv 2 = some (.int s28.1) → rs (rt_P sc fm) 446 F Lo 255 lv [] (hq false x46 y w) Q)) ?_ ?_ _ _ (wp_bind h) _ l0 l1 l2 l3
          · intro s35 h lv l0 l1 l2 l3
            refine rs_ildn wi_446_201 l3 ?_
            refine rs_aldn wi_446_202 l0 ?_
            refine dq_gr wi_446_203 wf_446_173 tf_174_45 ?_
            refine rs_ildn wi_446_206 l2 ?_
            obtain ⟨g36, h⟩ := wp_gd h
            refine dq_iald wi_446_207 t_207 g36 ?_
            refine rs_icge (tg := 255) wi_446_208 ⟨by decide, by decide⟩ (fun q => ?_) (fun q => ?_)
            ·
              have h := wp_pos h q
              exact h _ l0 l1 l2
            ·
              have h := wp_neg h q
              refine rs_ildn wi_446_211 l3 ?_
              refine wp_jn (B := fun p37 : cS => ∀ lv, rx_ld lv 0 = some (.ref 174) → rx_ld lv 1 = some (.int a1) → rx_ld lv 2 = some (.int s28.1) → rx_ld lv 3 = some (.int s35.1) → rs (rt_P sc fm) 446 F Lo 222 lv [] (hq false p37 y w) Q) h (fun p37 h lv l0 l1 l2 l3 => ?_) (fun j222 hj222 h => ?_)
              ·
                refine rs_aldn wi_446_222 l0 ?_
                refine rs_aldn wi_446_223 l0 ?_
                refine dq_gr wi_446_224 wf_446_179 tf_174_47 ?_
                refine rs_pure wi_446_227 rfl ?_
                refine rs_topi (v := 8) (by decide) ?_
                refine rs_ildn wi_446_229 l2 ?_
                refine rs_pure wi_446_230 rfl ?_
                refine rs_ildn wi_446_231 l3 ?_
                refine rs_pure wi_446_232 rfl ?_
                obtain ⟨g38, h⟩ := wp_gd h
                refine dq_lald wi_446_233 t_209 g38 ?_
                refine rs_V wi_446_234 wc_446_765 rfl (dq_isa tf_174_0 wa_15_363) (Nat.le_trans (by decide) hF) (ml_le wm_363 (Nat.le_trans (by decide) hLo)) rfl (sp_363 hw (Nat.le_trans (by decide : 2 ≤ 8 - 1) (Nat.sub_le_sub_right hF 1)) (ml_sub wm_363 (Nat.le_trans (by decide : 44 ≤ 176 - 22) (Nat.sub_le_sub_right hLo 22))) (wp_bind h) (fun r39 h => rs_back0 ?_))
                refine rs_aldn wi_446_237 l0 ?_
                refine rs_ildn wi_446_238 l2 ?_
                refine rs_S wi_446_239 wc_446_661 (Or.inl rfl) rfl (Nat.le_trans (by decide) hF) (ml_le wm_422 (Nat.le_trans (by decide) hLo)) rfl (sp_422 (Nat.le_trans (by decide : 0 ≤ 8 - 1) (Nat.sub_le_sub_right hF 1)) (ml_sub wm_422 (Nat.le_trans (by decide : 0 ≤ 176 - 20) (Nat.sub_le_sub_right hLo 20))) (wp_bind h) (fun v40 h => rs_back1 ?_))
                refine rs_pure wi_446_242 rfl ?_
                refine rs_topi (v := 1) (by decide) ?_
                refine rs_pure wi_446_243 rfl ?_
                refine rs_ildn wi_446_244 l3 ?_
                refine rs_pure wi_446_245 rfl ?_
                refine rs_V wi_446_246 wc_446_803 rfl (dq_isa tf_174_0 wa_15_442) (Nat.le_trans (by decide) hF) (ml_le wm_442 (Nat.le_trans (by decide) hLo)) rfl (sp_442 hw (Nat.le_trans (by decide : 7 ≤ 8 - 1) (Nat.sub_le_sub_right hF 1)) (ml_sub wm_442 (Nat.le_trans (by decide : 154 ≤ 176 - 22) (Nat.sub_le_sub_right hLo 22))) (wp_bind h) (fun r41 h => rs_back0 ?_))
                obtain ⟨v43, e44, h⟩ := wp_lt h
                refine dl_inc wi_446_249 l3 rfl e44 (fun lv l3 t42 => ?_)
                have l0 := t42 _ _ (by decide) (Or.inl rfl) l0
                have l1 := t42 _ _ (by decide) (Or.inl rfl) l1
                have l2 := t42 _ _ (by decide) (Or.inl rfl) l2
                refine rs_goto (tg := 201) wi_446_252 ⟨by decide, by decide⟩ ?_
                exact h _ l0 l1 l2 l3
              refine rs_ifle (tg := 222) wi_446_212 ⟨by decide, by decide⟩ (fun q => ?_) (fun q => ?_)
              ·
                have h := wp_pos h q
                exact hj222 _ h _ l0 l1 l2 l3
              ·
                have h := wp_neg h q
                refine rs_aldn wi_446_215 l0 ?_
                refine rs_ldcwS wi_446_216 wk_446_774 ?_
                refine rs_V wi_446_219 wc_446_402 rfl (dq_isa tf_174_0 wa_15_362) (Nat.le_trans (by decide) hF) (ml_le wm_362 (Nat.le_trans (by decide) hLo)) rfl (sp_362 hw (Nat.le_trans (by decide : 4 ≤ 8 - 1) (Nat.sub_le_sub_right hF 1)) (ml_sub wm_362 (Nat.le_trans (by decide : 85 ≤ 176 - 22) (Nat.sub_le_sub_right hLo 22))) wsb_51 (wp_bind h) (fun r45 h => rs_back0 ?_))
                exact hj222 _ h _ l0 l1 l2 l3
          ·
            intro x46 h lv l0 l1 l2
            refine rs_aldn wi_446_255 l0 ?_
            refine rs_ldcwS wi_446_256 wk_446_786 ?_
            refine rs_V wi_446_259 wc_446_402 rfl (dq_isa tf_174_0 wa_15_362) (Nat.le_trans (by decide) hF) (ml_le wm_362 (Nat.le_trans (by decide) hLo)) rfl (sp_362 hw (Nat.le_trans (by decide : 4 ≤ 8 - 1) (Nat.sub_le_sub_right hF 1)) (ml_sub wm_362 (Nat.le_trans (by decide : 85 ≤ 176 - 22) (Nat.sub_le_sub_right hLo 22))) wsb_54 (wp_bind h) (fun r47 h => rs_back0 ?_))
            refine rs_aldn wi_446_262 l0 ?_
            refine rs_ildn wi_446_263 l2 ?_
            refine rs_S wi_446_264 wc_446_661 (Or.inl rfl) rfl (Nat.le_trans (by decide) hF) (ml_le wm_422 (Nat.le_trans (by decide) hLo)) rfl (sp_422 (Nat.le_trans (by decide : 0 ≤ 8 - 1) (Nat.sub_le_sub_right hF 1)) (ml_sub wm_422 (Nat.le_trans (by decide : 0 ≤ 176 - 20) (Nat.sub_le_sub_right hLo 20))) (wp_bind h) (fun v48 h => rs_back1 ?_))
            refine rs_V wi_446_267 wc_446_803 rfl (dq_isa tf_174_0 wa_15_442) (Nat.le_trans (by decide) hF) (ml_le wm_442 (Nat.le_trans (by decide) hLo)) rfl (sp_442 hw (Nat.le_trans (by decide : 7 ≤ 8 - 1) (Nat.sub_le_sub_right hF 1)) (ml_sub wm_442 (Nat.le_trans (by decide : 154 ≤ 176 - 22) (Nat.sub_le_sub_right hLo 22))) (wp_bind h) (fun r49 h => rs_back0 ?_))
            refine rs_aldn wi_446_270 l0 ?_
            refine rs_ldcwS wi_446_271 wk_446_806 ?_
            refine rs_V wi_446_274 wc_446_402 rfl (dq_isa tf_174_0 wa_15_362) (Nat.le_trans (by decide) hF) (ml_le wm_362 (Nat.le_trans (by decide) hLo)) rfl (sp_362 hw (Nat.le_trans (by decide : 4 ≤ 8 - 1) (Nat.sub_le_sub_right hF 1)) (ml_sub wm_362 (Nat.le_trans (by decide : 85 ≤ 176 - 22) (Nat.sub_le_sub_right hLo 22))) wsb_56 (wp_bind h) (fun r50 h => rs_back0 ?_))
            refine rs_pure wi_446_277 rfl ?_
            refine rs_topi (v := 0) (by decide) ?_
            refine dl_istn wi_446_278 rfl (fun lv l3 t51 => ?_)
            have l0 := t51 _ _ (by decide) (Or.inl rfl) l0
            have l1 := t51 _ _ (by decide) (Or.inl rfl) l1
            have l2 := t51 _ _ (by decide) (Or.inl rfl) l2
            refine whl_ex (A := fun s52 : Int32 × cS => ∀ lv, rx_ld lv 0 = some (.ref 174) → rx_ld lv 1 = some (.int a1) → rx_ld lv 2 = some (.int s28.1) → rx_ld lv 3 = some (.int s52.1) → rs (rt_P sc fm) 446 F Lo 279 lv [] (hq false s52.2 y w) Q) (B := (fun x67 : cS => ∀ lv, rx_ld lv 0 = some (.ref 174) → rx_ld lv 1 = some (.int a1) → rx_ld lv 2 = some (.int s28.1) → rs (rt_P sc fm) 446 F Lo 349 lv [] (hq false x67 y w) Q)) ?_ ?_ _ _ (wp_bind h) _ l0 l1 l2 l3
            · intro s52 h lv l0 l1 l2 l3
              refine rs_ildn wi_446_279 l3 ?_
              refine rs_aldn wi_446_280 l0 ?_
              refine dq_gr wi_446_281 wf_446_182 tf_174_48 ?_
              refine rs_ildn wi_446_284 l2 ?_
              obtain ⟨g53, h⟩ := wp_gd h
              refine dq_iald wi_446_285 t_210 g53 ?_
              refine rs_icge (tg := 349) wi_446_286 ⟨by decide, by decide⟩ (fun q => ?_) (fun q => ?_)
              ·
                have h := wp_pos h q
                exact h _ l0 l1 l2
              ·
                have h := wp_neg h q
                refine rs_pure wi_446_289 rfl ?_
                refine rs_topi (v := 40) (by decide) ?_
                refine rs_ildn wi_446_291 l2 ?_
                refine rs_pure wi_446_292 rfl ?_
                refine rs_ildn wi_446_293 l3 ?_
                refine rs_pure wi_446_294 rfl ?_
                obtain ⟨v55, e56, h⟩ := wp_lt h
                refine rs_topi e56 ?_
                refine dl_ist wi_446_295 rfl (fun lv l4 t54 => ?_)
                have l0 := t54 _ _ (by decide) (Or.inl rfl) l0
                have l1 := t54 _ _ (by decide) (Or.inl rfl) l1
                have l2 := t54 _ _ (by decide) (Or.inl rfl) l2
                have l3 := t54 _ _ (by decide) (Or.inl rfl) l3
                refine rs_aldn wi_446_297 l0 ?_
                refine dq_gr wi_446_298 wf_446_188 tf_174_50 ?_
                refine rs_ild wi_446_301 l4 ?_
                obtain ⟨g57, h⟩ := wp_gd h
                refine dq_lald wi_446_303 t_212 g57 ?_
                refine rs_pure wi_446_304 rfl ?_
                refine rs_topl (v := 0) (by decide) ?_
                refine rs_pure wi_446_305 rfl ?_
                refine wp_jn (B := fun p58 : cS => ∀ lv, rx_ld lv 0 = some (.ref 174) → rx_ld lv 1 = some (.int a1) → rx_ld lv 2 = some (.int s28.1) → rx_ld lv 3 = some (.int s52.1) → rx_ld lv 4 = some (.int v55) → rs (rt_P sc fm) 446 F Lo 327 lv [] (hq false p58 y w) Q) h (fun p58 h lv l0 l1 l2 l3 l4 => ?_) (fun j327 hj327 h => ?_)
                ·
                  refine rs_aldn wi_446_327 l0 ?_
                  refine rs_ildn wi_446_328 l2 ?_
                  refine rs_ild wi_446_329 l4 ?_
                  refine rs_pure wi_446_331 rfl ?_
                  refine rs_topi (v := 0) (by decide) ?_
                  refine rs_pure wi_446_332 rfl ?_
                  refine rs_topi (v := 0) (by decide) ?_
                  refine rs_V wi_446_333 wc_446_808 rfl (dq_isa tf_174_0 wa_15_447) (Nat.le_trans (by decide) hF) (ml_le wm_447 (Nat.le_trans (by decide) hLo)) rfl (sp_447 hw (Nat.le_trans (by decide : 6 ≤ 8 - 1) (Nat.sub_le_sub_right hF 1)) (ml_sub wm_447 (Nat.le_trans (by decide : 129 ≤ 176 - 25) (Nat.sub_le_sub_right hLo 25))) (wp_bind h) (fun r59 h => rs_back0 ?_))
                  refine rs_aldn wi_446_336 l0 ?_
                  refine rs_ldcwS wi_446_337 wk_446_801 ?_
                  refine rs_V wi_446_340 wc_446_402 rfl (dq_isa tf_174_0 wa_15_362) (Nat.le_trans (by decide) hF) (ml_le wm_362 (Nat.le_trans (by decide) hLo)) rfl (sp_362 hw (Nat.le_trans (by decide : 4 ≤ 8 - 1) (Nat.sub_le_sub_right hF 1)) (ml_sub wm_362 (Nat.le_trans (by decide : 85 ≤ 176 - 22) (Nat.sub_le_sub_right hLo 22))) wsb_34 (wp_bind h) (fun r60 h => rs_back0 ?_))
                  obtain ⟨v62, e63, h⟩ := wp_lt h
                  refine dl_inc wi_446_343 l3 rfl e63 (fun lv l3 t61 => ?_)
                  have l0 := t61 _ _ (by decide) (Or.inl rfl) l0
                  have l1 := t61 _ _ (by decide) (Or.inl rfl) l1
                  have l2 := t61 _ _ (by decide) (Or.inl rfl) l2
                  refine rs_goto (tg := 279) wi_446_346 ⟨by decide, by decide⟩ ?_
                  exact h _ l0 l1 l2 l3
                refine rs_ifeq (tg := 327) wi_446_306 ⟨by decide, by decide⟩ (fun q => ?_) (fun q => ?_)
                ·
                  have h := wp_pos h q
                  exact hj327 _ h _ l0 l1 l2 l3 l4
                ·
                  have h := wp_neg h q
                  refine rs_aldn wi_446_309 l0 ?_
                  refine rs_aldn wi_446_310 l0 ?_
                  refine dq_gr wi_446_311 wf_446_188 tf_174_50 ?_
                  refine rs_ild wi_446_314 l4 ?_
                  obtain ⟨g64, h⟩ := wp_gd h
                  refine dq_lald wi_446_316 t_212 g64 ?_
                  refine rs_V wi_446_317 wc_446_765 rfl (dq_isa tf_174_0 wa_15_363) (Nat.le_trans (by decide) hF) (ml_le wm_363 (Nat.le_trans (by decide) hLo)) rfl (sp_363 hw (Nat.le_trans (by decide : 2 ≤ 8 - 1) (Nat.sub_le_sub_right hF 1)) (ml_sub wm_363 (Nat.le_trans (by decide : 44 ≤ 176 - 22) (Nat.sub_le_sub_right hLo 22))) (wp_bind h) (fun r65 h => rs_back0 ?_))
                  refine rs_aldn wi_446_320 l0 ?_
                  refine rs_ldcwS wi_446_321 wk_446_794 ?_
                  refine rs_V wi_446_324 wc_446_402 rfl (dq_isa tf_174_0 wa_15_362) (Nat.le_trans (by decide) hF) (ml_le wm_362 (Nat.le_trans (by decide) hLo)) rfl (sp_362 hw (Nat.le_trans (by decide : 4 ≤ 8 - 1) (Nat.sub_le_sub_right hF 1)) (ml_sub wm_362 (Nat.le_trans (by decide : 85 ≤ 176 - 22) (Nat.sub_le_sub_right hLo 22))) wsb_33 (wp_bind h) (fun r66 h => rs_back0 ?_))
                  exact hj327 _ h _ l0 l1 l2 l3 l4
            ·
              intro x67 h lv l0 l1 l2
              refine rs_aldn wi_446_349 l0 ?_
              refine rs_ldcwS wi_446_350 wk_446_811 ?_
              refine rs_V wi_446_353 wc_446_402 rfl (dq_isa tf_174_0 wa_15_362) (Nat.le_trans (by decide) hF) (ml_le wm_362 (Nat.le_trans (by decide) hLo)) rfl (sp_362 hw (Nat.le_trans (by decide : 4 ≤ 8 - 1) (Nat.sub_le_sub_right hF 1)) (ml_sub wm_362 (Nat.le_trans (by decide : 85 ≤ 176 - 22) (Nat.sub_le_sub_right hLo 22))) wsb_57 (wp_bind h) (fun r68 h => rs_back0 ?_))
              obtain ⟨v70, e71, h⟩ := wp_lt h
              refine dl_inc wi_446_356 l2 rfl e71 (fun lv l2 t69 => ?_)
              have l0 := t69 _ _ (by decide) (Or.inl rfl) l0
              have l1 := t69 _ _ (by decide) (Or.inl rfl) l1
              refine rs_goto (tg := 161) wi_446_359 ⟨by decide, by decide⟩ ?_
              exact h _ l0 l1 l2
      ·
        intro x72 h lv l0
        refine rs_aldn wi_446_362 l0 ?_
        refine rs_ldcwS wi_446_363 wk_446_811 ?_
        refine rs_V wi_446_366 wc_446_402 rfl (dq_isa tf_174_0 wa_15_362) (Nat.le_trans (by decide) hF) (ml_le wm_362 (Nat.le_trans (by decide) hLo)) rfl (sp_362 hw (Nat.le_trans (by decide : 4 ≤ 8 - 1) (Nat.sub_le_sub_right hF 1)) (ml_sub wm_362 (Nat.le_trans (by decide : 85 ≤ 176 - 22) (Nat.sub_le_sub_right hLo 22))) wsb_57 (wp_bind h) (fun r73 h => rs_back0 ?_))
        exact rs_vret wi_446_369 wr_446 (hQ r73 h)
  refine rs_iflt (tg := 47) wi_446_22 ⟨by decide, by decide⟩ (fun q => ?_) (fun q => ?_)
  ·
    have h := wp_pos h q
    exact hj47 _ h _ l0 l1
  ·
    have h := wp_neg h q
    refine rs_aldn wi_446_25 l0 ?_
    refine rs_ldcwS wi_446_26 wk_446_794 ?_
    refine rs_V wi_446_29 wc_446_402 rfl (dq_isa tf_174_0 wa_15_362) (Nat.le_trans (by decide) hF) (ml_le wm_362 (Nat.le_trans (by decide) hLo)) rfl (sp_362 hw (Nat.le_trans (by decide : 4 ≤ 8 - 1) (Nat.sub_le_sub_right hF 1)) (ml_sub wm_362 (Nat.le_trans (by decide : 85 ≤ 176 - 22) (Nat.sub_le_sub_right hLo 22))) wsb_33 (wp_bind h) (fun r74 h => rs_back0 ?_))
    refine rs_aldn wi_446_32 l0 ?_
    refine rs_aldn wi_446_33 l0 ?_
    refine dq_gr wi_446_34 wf_446_152 tf_174_38 ?_
    refine rs_aldn wi_446_37 l0 ?_
    refine dq_gr wi_446_38 wf_446_155 tf_174_39 ?_
    refine rs_ildn wi_446_41 l1 ?_
    obtain ⟨g75, h⟩ := wp_gd h
    refine dq_iald wi_446_42 t_201 g75 ?_
    obtain ⟨g76, h⟩ := wp_gd h
    refine dq_lald wi_446_43 t_200 g76 ?_
    refine rs_V wi_446_44 wc_446_765 rfl (dq_isa tf_174_0 wa_15_363) (Nat.le_trans (by decide) hF) (ml_le wm_363 (Nat.le_trans (by decide) hLo)) rfl (sp_363 hw (Nat.le_trans (by decide : 2 ≤ 8 - 1) (Nat.sub_le_sub_right hF 1)) (ml_sub wm_363 (Nat.le_trans (by decide : 44 ≤ 176 - 22) (Nat.sub_le_sub_right hLo 22))) (wp_bind h) (fun r77 h => rs_back0 ?_))
    exact hj47 _ h _ l0 l1
end D57
