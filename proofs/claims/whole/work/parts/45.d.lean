/-! THE CODE AS PURE PROGRAMS, 4: by wip/whole/dc.py -/
section D45
variable {sc : Nat × (Nat → Int32)} {fm : Value}
theorem t_127 : ta true 127 1 1024 := ⟨rfl, by decide, by decide⟩
theorem tf_114_14 : fo true 114 2 14 (.ref 127) := ⟨_, rfl, rfl, by decide, by decide⟩
theorem wf_163_25 : rx_ft (rt_P sc fm) 163 25 = some (2, 5) := (by decide +kernel : rt_ft 163 25 = some (2, 5))
theorem wf_163_28 : rx_ft (rt_P sc fm) 163 28 = some (2, 6) := (by decide +kernel : rt_ft 163 28 = some (2, 6))
theorem wf_163_49 : rx_ft (rt_P sc fm) 163 49 = some (2, 14) := (by decide +kernel : rt_ft 163 49 = some (2, 14))
theorem wi_163_0 : ri (rt_P sc fm) 163 0 (.iconst 0) (1) := ri_of (by decide +kernel) rfl
theorem wi_163_1 : ri (rt_P sc fm) 163 1 (.istore 4) (3) := ri_of (by decide +kernel) rfl
theorem wi_163_10 : ri (rt_P sc fm) 163 10 (.iaload) (11) := ri_of (by decide +kernel) rfl
theorem wi_163_11 : ri (rt_P sc fm) 163 11 (.if_icmp .ge 31) (14) := ri_of (by decide +kernel) rfl
theorem wi_163_14 : ri (rt_P sc fm) 163 14 (.aload_n 0) (15) := ri_of (by decide +kernel) rfl
theorem wi_163_15 : ri (rt_P sc fm) 163 15 (.getfield 49) (18) := ri_of (by decide +kernel) rfl
theorem wi_163_18 : ri (rt_P sc fm) 163 18 (.aload_n 0) (19) := ri_of (by decide +kernel) rfl
theorem wi_163_19 : ri (rt_P sc fm) 163 19 (.getfield 25) (22) := ri_of (by decide +kernel) rfl
theorem wi_163_22 : ri (rt_P sc fm) 163 22 (.iload_n 1) (23) := ri_of (by decide +kernel) rfl
theorem wi_163_23 : ri (rt_P sc fm) 163 23 (.iaload) (24) := ri_of (by decide +kernel) rfl
theorem wi_163_24 : ri (rt_P sc fm) 163 24 (.iload 4) (26) := ri_of (by decide +kernel) rfl
theorem wi_163_26 : ri (rt_P sc fm) 163 26 (.iadd) (27) := ri_of (by decide +kernel) rfl
theorem wi_163_27 : ri (rt_P sc fm) 163 27 (.laload) (28) := ri_of (by decide +kernel) rfl
theorem wi_163_28 : ri (rt_P sc fm) 163 28 (.lload_n 2) (29) := ri_of (by decide +kernel) rfl
theorem wi_163_29 : ri (rt_P sc fm) 163 29 (.lcmp) (30) := ri_of (by decide +kernel) rfl
theorem wi_163_3 : ri (rt_P sc fm) 163 3 (.iload 4) (5) := ri_of (by decide +kernel) rfl
theorem wi_163_30 : ri (rt_P sc fm) 163 30 (.ifCond .ne 6) (33) := ri_of (by decide +kernel) rfl
theorem wi_163_33 : ri (rt_P sc fm) 163 33 (.iload 4) (35) := ri_of (by decide +kernel) rfl
theorem wi_163_35 : ri (rt_P sc fm) 163 35 (.ireturn) (36) := ri_of (by decide +kernel) rfl
theorem wi_163_36 : ri (rt_P sc fm) 163 36 (.iinc 4 1) (39) := ri_of (by decide +kernel) rfl
theorem wi_163_39 : ri (rt_P sc fm) 163 39 (.goto (-36)) (42) := ri_of (by decide +kernel) rfl
theorem wi_163_42 : ri (rt_P sc fm) 163 42 (.iconst (-1)) (43) := ri_of (by decide +kernel) rfl
theorem wi_163_43 : ri (rt_P sc fm) 163 43 (.ireturn) (44) := ri_of (by decide +kernel) rfl
theorem wi_163_5 : ri (rt_P sc fm) 163 5 (.aload_n 0) (6) := ri_of (by decide +kernel) rfl
theorem wi_163_6 : ri (rt_P sc fm) 163 6 (.getfield 28) (9) := ri_of (by decide +kernel) rfl
theorem wi_163_9 : ri (rt_P sc fm) 163 9 (.iload_n 1) (10) := ri_of (by decide +kernel) rfl
theorem wr_163 : rx_rt (rt_P sc fm) 163 = (some FieldType.int) := (by decide +kernel : rt_rt 163 = (some FieldType.int))
/-- MarkHouse$Code.labelled(IJ)I -/
def d_163 (n : Nat) (a1 : Int32) (a2 : Int64) (c : cS) : Option (Int32) :=
  Option.bind (whl (R := (Unit) ⊕ (Int32)) (fun s2 : Int32 =>
    if ib a1 96 then
    if (c.1 120 (ix a1)) ≤ s2 then
      some (.inr (.inl ()))
    else
      if ib a1 96 then
      if ib ((c.1 119 (ix a1)) + s2) 1024 then
      if (lg_cmp (c.2 127 (ix ((c.1 119 (ix a1)) + s2))) a2) = 0 then
        some (.inr (.inr s2))
      else
        lt (s2 + 1 : Int32) (fun v7 =>
        some (.inl v7))
      else none
      else none
    else none) n 0)
  (Sum.elim (fun x9 : Unit =>
    some (-1))
  (fun x10 : Int32 =>
    some x10))
theorem sp_163 {F Lo n : Nat} {a1 : Int32} {a2 : Int64} {c y : cS} {w : cW} {K : Int32 → Prop} {Q : ((Option Value) ⊕ String) → List va_E → Prop} (hw : rOK fm w) (hF : 0 ≤ F) (hLo : 0 ≤ Lo)  (h : wp (d_163 n a1 a2 c) K) (hQ : ∀ r, K r → Q (.inl (some (.int r))) (hq true c y w)) : rs (rt_P sc fm) 163 F Lo 0 [(0, .ref 114), (1, .int a1), (2, .long a2)] [] (hq true c y w) Q := by
  unfold d_163 at h
  obtain ⟨lv, elv⟩ : ∃ lv : rx_L, lv = [(0, .ref 114), (1, .int a1), (2, .long a2)] := ⟨_, rfl⟩
  rw [← elv]
  have l0 : rx_ld lv 0 = some (.ref 114) := by rw [elv]; rfl
  have l1 : rx_ld lv 1 = some (.int a1) := by rw [elv]; rfl
  have l2 : rx_ld lv 2 = some (.long a2) := by rw [elv]; rfl
  refine rs_pure wi_163_0 rfl ?_
  refine rs_topi (v := 0) (by decide) ?_
  refine dl_ist wi_163_1 rfl (fun lv l4 t1 => ?_)
  have l0 := t1 _ _ (by decide) (Or.inl rfl) l0
  have l1 := t1 _ _ (by decide) (Or.inl rfl) l1
  have l2 := t1 _ _ (by decide) (Or.inr (by decide)) l2
  refine whl_ex (A := fun s2 : Int32 => ∀ lv, rx_ld lv 0 = some (.ref 114) → rx_ld lv 1 = some (.int a1) → rx_ld lv 2 = some (.long a2) → rx_ld lv 4 = some (.int s2) → rs (rt_P sc fm) 163 F Lo 3 lv [] (hq true c y w) Q) (B := (Sum.elim (fun x9 : Unit => ∀ lv, rs (rt_P sc fm) 163 F Lo 42 lv [] (hq true c y w) Q) (fun x10 : Int32 => ∀ lv, rx_ld lv 4 = some (.int x10) → rs (rt_P sc fm) 163 F Lo 33 lv [] (hq true c y w) Q))) ?_ ?_ _ _ (wp_bind h) _ l0 l1 l2 l4
  · intro s2 h lv l0 l1 l2 l4
    refine rs_ild wi_163_3 l4 ?_
    refine rs_aldn wi_163_5 l0 ?_
    refine dq_gr wi_163_6 wf_163_28 tf_114_6 ?_
    refine rs_ildn wi_163_9 l1 ?_
    obtain ⟨g3, h⟩ := wp_gd h
    refine dq_iald wi_163_10 t_120 g3 ?_
    refine rs_icge (tg := 42) wi_163_11 ⟨by decide, by decide⟩ (fun q => ?_) (fun q => ?_)
    ·
      have h := wp_pos h q
      exact h _
    ·
      have h := wp_neg h q
      refine rs_aldn wi_163_14 l0 ?_
      refine dq_gr wi_163_15 wf_163_49 tf_114_14 ?_
      refine rs_aldn wi_163_18 l0 ?_
      refine dq_gr wi_163_19 wf_163_25 tf_114_5 ?_
      refine rs_ildn wi_163_22 l1 ?_
      obtain ⟨g4, h⟩ := wp_gd h
      refine dq_iald wi_163_23 t_119 g4 ?_
      refine rs_ild wi_163_24 l4 ?_
      refine rs_pure wi_163_26 rfl ?_
      obtain ⟨g5, h⟩ := wp_gd h
      refine dq_lald wi_163_27 t_127 g5 ?_
      refine rs_lldn wi_163_28 l2 ?_
      refine rs_pure wi_163_29 rfl ?_
      refine rs_ifne (tg := 36) wi_163_30 ⟨by decide, by decide⟩ (fun q => ?_) (fun q => ?_)
      ·
        have h := wp_neg h q
        obtain ⟨v7, e8, h⟩ := wp_lt h
        refine dl_inc wi_163_36 l4 rfl e8 (fun lv l4 t6 => ?_)
        have l0 := t6 _ _ (by decide) (Or.inl rfl) l0
        have l1 := t6 _ _ (by decide) (Or.inl rfl) l1
        have l2 := t6 _ _ (by decide) (Or.inr (by decide)) l2
        refine rs_goto (tg := 3) wi_163_39 ⟨by decide, by decide⟩ ?_
        exact h _ l0 l1 l2 l4
      ·
        have h := wp_pos h q
        exact h _ l4
  ·
    refine sum_all ?_ ?_
    ·
      intro x9 h lv
      have h := wp_inl h
      refine rs_pure wi_163_42 rfl ?_
      refine rs_topi (v := (-1)) (by decide) ?_
      exact rs_iret wi_163_43 wr_163 rfl (hQ (-1) h)
    ·
      intro x10 h lv l4
      have h := wp_inr h
      refine rs_ild wi_163_33 l4 ?_
      exact rs_iret wi_163_35 wr_163 rfl (hQ x10 h)
theorem t_122 : ta true 122 0 1024 := ⟨rfl, by decide, by decide⟩
theorem t_123 : ta true 123 0 1024 := ⟨rfl, by decide, by decide⟩
theorem t_124 : ta true 124 0 1024 := ⟨rfl, by decide, by decide⟩
theorem t_125 : ta true 125 0 1024 := ⟨rfl, by decide, by decide⟩
theorem t_128 : ta true 128 1 1024 := ⟨rfl, by decide, by decide⟩
theorem t_129 : ta true 129 1 1024 := ⟨rfl, by decide, by decide⟩
theorem t_130 : ta true 130 0 1024 := ⟨rfl, by decide, by decide⟩
theorem tf_114_10 : fo true 114 2 10 (.ref 123) := ⟨_, rfl, rfl, by decide, by decide⟩
theorem tf_114_11 : fo true 114 2 11 (.ref 124) := ⟨_, rfl, rfl, by decide, by decide⟩
theorem tf_114_12 : fo true 114 2 12 (.ref 125) := ⟨_, rfl, rfl, by decide, by decide⟩
theorem tf_114_15 : fo true 114 2 15 (.ref 128) := ⟨_, rfl, rfl, by decide, by decide⟩
theorem tf_114_16 : fo true 114 2 16 (.ref 129) := ⟨_, rfl, rfl, by decide, by decide⟩
theorem tf_114_17 : fo true 114 2 17 (.ref 130) := ⟨_, rfl, rfl, by decide, by decide⟩
theorem tf_114_9 : fo true 114 2 9 (.ref 122) := ⟨_, rfl, rfl, by decide, by decide⟩
theorem wf_164_28 : rx_ft (rt_P sc fm) 164 28 = some (2, 6) := (by decide +kernel : rt_ft 164 28 = some (2, 6))
theorem wf_164_34 : rx_ft (rt_P sc fm) 164 34 = some (2, 9) := (by decide +kernel : rt_ft 164 34 = some (2, 9))
theorem wf_164_37 : rx_ft (rt_P sc fm) 164 37 = some (2, 10) := (by decide +kernel : rt_ft 164 37 = some (2, 10))
theorem wf_164_40 : rx_ft (rt_P sc fm) 164 40 = some (2, 11) := (by decide +kernel : rt_ft 164 40 = some (2, 11))
theorem wf_164_43 : rx_ft (rt_P sc fm) 164 43 = some (2, 12) := (by decide +kernel : rt_ft 164 43 = some (2, 12))
theorem wf_164_46 : rx_ft (rt_P sc fm) 164 46 = some (2, 13) := (by decide +kernel : rt_ft 164 46 = some (2, 13))
theorem wf_164_49 : rx_ft (rt_P sc fm) 164 49 = some (2, 14) := (by decide +kernel : rt_ft 164 49 = some (2, 14))
theorem wf_164_52 : rx_ft (rt_P sc fm) 164 52 = some (2, 15) := (by decide +kernel : rt_ft 164 52 = some (2, 15))
theorem wf_164_55 : rx_ft (rt_P sc fm) 164 55 = some (2, 16) := (by decide +kernel : rt_ft 164 55 = some (2, 16))
theorem wf_164_58 : rx_ft (rt_P sc fm) 164 58 = some (2, 17) := (by decide +kernel : rt_ft 164 58 = some (2, 17))
theorem wf_164_71 : rx_ft (rt_P sc fm) 164 71 = some (2, 7) := (by decide +kernel : rt_ft 164 71 = some (2, 7))
theorem wi_164_0 : ri (rt_P sc fm) 164 0 (.aload_n 0) (1) := ri_of (by decide +kernel) rfl
theorem wi_164_1 : ri (rt_P sc fm) 164 1 (.dup) (2) := ri_of (by decide +kernel) rfl
theorem wi_164_11 : ri (rt_P sc fm) 164 11 (.istore 5) (13) := ri_of (by decide +kernel) rfl
theorem wi_164_13 : ri (rt_P sc fm) 164 13 (.aload_n 0) (14) := ri_of (by decide +kernel) rfl
theorem wi_164_14 : ri (rt_P sc fm) 164 14 (.getfield 28) (17) := ri_of (by decide +kernel) rfl
theorem wi_164_17 : ri (rt_P sc fm) 164 17 (.iload_n 1) (18) := ri_of (by decide +kernel) rfl
theorem wi_164_18 : ri (rt_P sc fm) 164 18 (.dup2) (19) := ri_of (by decide +kernel) rfl
theorem wi_164_19 : ri (rt_P sc fm) 164 19 (.iaload) (20) := ri_of (by decide +kernel) rfl
theorem wi_164_2 : ri (rt_P sc fm) 164 2 (.getfield 71) (5) := ri_of (by decide +kernel) rfl
theorem wi_164_20 : ri (rt_P sc fm) 164 20 (.iconst 1) (21) := ri_of (by decide +kernel) rfl
theorem wi_164_21 : ri (rt_P sc fm) 164 21 (.iadd) (22) := ri_of (by decide +kernel) rfl
theorem wi_164_22 : ri (rt_P sc fm) 164 22 (.iastore) (23) := ri_of (by decide +kernel) rfl
theorem wi_164_23 : ri (rt_P sc fm) 164 23 (.aload_n 0) (24) := ri_of (by decide +kernel) rfl
theorem wi_164_24 : ri (rt_P sc fm) 164 24 (.getfield 34) (27) := ri_of (by decide +kernel) rfl
theorem wi_164_27 : ri (rt_P sc fm) 164 27 (.iload 5) (29) := ri_of (by decide +kernel) rfl
theorem wi_164_29 : ri (rt_P sc fm) 164 29 (.iconst 0) (30) := ri_of (by decide +kernel) rfl
theorem wi_164_30 : ri (rt_P sc fm) 164 30 (.iastore) (31) := ri_of (by decide +kernel) rfl
theorem wi_164_31 : ri (rt_P sc fm) 164 31 (.aload_n 0) (32) := ri_of (by decide +kernel) rfl
theorem wi_164_32 : ri (rt_P sc fm) 164 32 (.getfield 37) (35) := ri_of (by decide +kernel) rfl
theorem wi_164_35 : ri (rt_P sc fm) 164 35 (.iload 5) (37) := ri_of (by decide +kernel) rfl
theorem wi_164_37 : ri (rt_P sc fm) 164 37 (.iconst 0) (38) := ri_of (by decide +kernel) rfl
theorem wi_164_38 : ri (rt_P sc fm) 164 38 (.iastore) (39) := ri_of (by decide +kernel) rfl
theorem wi_164_39 : ri (rt_P sc fm) 164 39 (.aload_n 0) (40) := ri_of (by decide +kernel) rfl
theorem wi_164_40 : ri (rt_P sc fm) 164 40 (.getfield 40) (43) := ri_of (by decide +kernel) rfl
theorem wi_164_43 : ri (rt_P sc fm) 164 43 (.iload 5) (45) := ri_of (by decide +kernel) rfl
theorem wi_164_45 : ri (rt_P sc fm) 164 45 (.iconst (-1)) (46) := ri_of (by decide +kernel) rfl
theorem wi_164_46 : ri (rt_P sc fm) 164 46 (.iastore) (47) := ri_of (by decide +kernel) rfl
theorem wi_164_47 : ri (rt_P sc fm) 164 47 (.aload_n 0) (48) := ri_of (by decide +kernel) rfl
theorem wi_164_48 : ri (rt_P sc fm) 164 48 (.getfield 43) (51) := ri_of (by decide +kernel) rfl
theorem wi_164_5 : ri (rt_P sc fm) 164 5 (.dup_x1) (6) := ri_of (by decide +kernel) rfl
theorem wi_164_51 : ri (rt_P sc fm) 164 51 (.iload 5) (53) := ri_of (by decide +kernel) rfl
theorem wi_164_53 : ri (rt_P sc fm) 164 53 (.iconst (-1)) (54) := ri_of (by decide +kernel) rfl
theorem wi_164_54 : ri (rt_P sc fm) 164 54 (.iastore) (55) := ri_of (by decide +kernel) rfl
theorem wi_164_55 : ri (rt_P sc fm) 164 55 (.aload_n 0) (56) := ri_of (by decide +kernel) rfl
theorem wi_164_56 : ri (rt_P sc fm) 164 56 (.getfield 46) (59) := ri_of (by decide +kernel) rfl
theorem wi_164_59 : ri (rt_P sc fm) 164 59 (.iload 5) (61) := ri_of (by decide +kernel) rfl
theorem wi_164_6 : ri (rt_P sc fm) 164 6 (.iconst 1) (7) := ri_of (by decide +kernel) rfl
theorem wi_164_61 : ri (rt_P sc fm) 164 61 (.iconst 0) (62) := ri_of (by decide +kernel) rfl
theorem wi_164_62 : ri (rt_P sc fm) 164 62 (.iastore) (63) := ri_of (by decide +kernel) rfl
theorem wi_164_63 : ri (rt_P sc fm) 164 63 (.aload_n 0) (64) := ri_of (by decide +kernel) rfl
theorem wi_164_64 : ri (rt_P sc fm) 164 64 (.getfield 49) (67) := ri_of (by decide +kernel) rfl
theorem wi_164_67 : ri (rt_P sc fm) 164 67 (.iload 5) (69) := ri_of (by decide +kernel) rfl
theorem wi_164_69 : ri (rt_P sc fm) 164 69 (.lload_n 2) (70) := ri_of (by decide +kernel) rfl
theorem wi_164_7 : ri (rt_P sc fm) 164 7 (.iadd) (8) := ri_of (by decide +kernel) rfl
theorem wi_164_70 : ri (rt_P sc fm) 164 70 (.lastore) (71) := ri_of (by decide +kernel) rfl
theorem wi_164_71 : ri (rt_P sc fm) 164 71 (.aload_n 0) (72) := ri_of (by decide +kernel) rfl
theorem wi_164_72 : ri (rt_P sc fm) 164 72 (.getfield 52) (75) := ri_of (by decide +kernel) rfl
theorem wi_164_75 : ri (rt_P sc fm) 164 75 (.iload 5) (77) := ri_of (by decide +kernel) rfl
theorem wi_164_77 : ri (rt_P sc fm) 164 77 (.lconst 0) (78) := ri_of (by decide +kernel) rfl
theorem wi_164_78 : ri (rt_P sc fm) 164 78 (.lastore) (79) := ri_of (by decide +kernel) rfl
theorem wi_164_79 : ri (rt_P sc fm) 164 79 (.aload_n 0) (80) := ri_of (by decide +kernel) rfl
theorem wi_164_8 : ri (rt_P sc fm) 164 8 (.putfield 71) (11) := ri_of (by decide +kernel) rfl
theorem wi_164_80 : ri (rt_P sc fm) 164 80 (.getfield 55) (83) := ri_of (by decide +kernel) rfl
theorem wi_164_83 : ri (rt_P sc fm) 164 83 (.iload 5) (85) := ri_of (by decide +kernel) rfl
theorem wi_164_85 : ri (rt_P sc fm) 164 85 (.lconst 0) (86) := ri_of (by decide +kernel) rfl
theorem wi_164_86 : ri (rt_P sc fm) 164 86 (.lastore) (87) := ri_of (by decide +kernel) rfl
theorem wi_164_87 : ri (rt_P sc fm) 164 87 (.aload_n 0) (88) := ri_of (by decide +kernel) rfl
theorem wi_164_88 : ri (rt_P sc fm) 164 88 (.getfield 58) (91) := ri_of (by decide +kernel) rfl
theorem wi_164_91 : ri (rt_P sc fm) 164 91 (.iload 5) (93) := ri_of (by decide +kernel) rfl
theorem wi_164_93 : ri (rt_P sc fm) 164 93 (.iload 4) (95) := ri_of (by decide +kernel) rfl
theorem wi_164_95 : ri (rt_P sc fm) 164 95 (.iastore) (96) := ri_of (by decide +kernel) rfl
theorem wi_164_96 : ri (rt_P sc fm) 164 96 (.iload 5) (98) := ri_of (by decide +kernel) rfl
theorem wi_164_98 : ri (rt_P sc fm) 164 98 (.ireturn) (99) := ri_of (by decide +kernel) rfl
theorem wp_164_71 : rx_pt (rt_P sc fm) 164 71 = some (2, 7, .int) := (by decide +kernel : rt_pt 164 71 = some (2, 7, .int))
theorem wr_164 : rx_rt (rt_P sc fm) 164 = (some FieldType.int) := (by decide +kernel : rt_rt 164 = (some FieldType.int))
/-- MarkHouse$Code.addAct(IJI)I -/
def d_164 (n : Nat) (a1 : Int32) (a2 : Int64) (a4 : Int32) (c : cS) : Option (Int32 × cS) :=
  lt (pI c 114 7 ((c.1 114 7) + 1)) (fun c1 =>
  lt ((c.1 114 7) : Int32) (fun v4 =>
  if ib a1 96 then
  if ib a1 96 then
  lt (pI c1 120 (ix a1) ((c1.1 120 (ix a1)) + 1)) (fun c8 =>
  if ib v4 1024 then
  lt (pI c8 122 (ix v4) 0) (fun c11 =>
  if ib v4 1024 then
  lt (pI c11 123 (ix v4) 0) (fun c14 =>
  if ib v4 1024 then
  lt (pI c14 124 (ix v4) (-1)) (fun c17 =>
  if ib v4 1024 then
  lt (pI c17 125 (ix v4) (-1)) (fun c20 =>
  if ib v4 1024 then
  lt (pI c20 126 (ix v4) 0) (fun c23 =>
  if ib v4 1024 then
  lt (pL c23 127 (ix v4) a2) (fun c26 =>
  if ib v4 1024 then
  lt (pL c26 128 (ix v4) 0) (fun c29 =>
  if ib v4 1024 then
  lt (pL c29 129 (ix v4) 0) (fun c32 =>
  if ib v4 1024 then
  lt (pI c32 130 (ix v4) a4) (fun c35 =>
  some (v4, c35))
  else none)
  else none)
  else none)
  else none)
  else none)
  else none)
  else none)
  else none)
  else none)
  else none
  else none))
theorem sp_164 {F Lo n : Nat} {a1 : Int32} {a2 : Int64} {a4 : Int32} {c y : cS} {w : cW} {K : Int32 × cS → Prop} {Q : ((Option Value) ⊕ String) → List va_E → Prop} (hw : rOK fm w) (hF : 0 ≤ F) (hLo : 0 ≤ Lo)  (h : wp (d_164 n a1 a2 a4 c) K) (hQ : ∀ r, K r → Q (.inl (some (.int r.1))) (hq true r.2 y w)) : rs (rt_P sc fm) 164 F Lo 0 [(0, .ref 114), (1, .int a1), (2, .long a2), (4, .int a4)] [] (hq true c y w) Q := by
  unfold d_164 at h
  obtain ⟨lv, elv⟩ : ∃ lv : rx_L, lv = [(0, .ref 114), (1, .int a1), (2, .long a2), (4, .int a4)] := ⟨_, rfl⟩
  rw [← elv]
  have l0 : rx_ld lv 0 = some (.ref 114) := by rw [elv]; rfl
  have l1 : rx_ld lv 1 = some (.int a1) := by rw [elv]; rfl
  have l2 : rx_ld lv 2 = some (.long a2) := by rw [elv]; rfl
  have l4 : rx_ld lv 4 = some (.int a4) := by rw [elv]; rfl
  refine rs_aldn wi_164_0 l0 ?_
  refine rs_pure wi_164_1 rfl ?_
  refine dq_gi wi_164_2 wf_164_71 tf_114_7 ?_
  refine rs_pure wi_164_5 rfl ?_
  refine rs_pure wi_164_6 rfl ?_
  refine rs_topi (v := 1) (by decide) ?_
  refine rs_pure wi_164_7 rfl ?_
  obtain ⟨c1, e2, h⟩ := wp_lt h
  refine dq_pi wi_164_8 wp_164_71 tf_114_7 rfl rfl e2 ?_
  obtain ⟨v4, e5, h⟩ := wp_lt h
  refine rs_topi e5 ?_
  refine dl_ist wi_164_11 rfl (fun lv l5 t3 => ?_)
  have l0 := t3 _ _ (by decide) (Or.inl rfl) l0
  have l1 := t3 _ _ (by decide) (Or.inl rfl) l1
  have l2 := t3 _ _ (by decide) (Or.inr (by decide)) l2
  have l4 := t3 _ _ (by decide) (Or.inl rfl) l4
  refine rs_aldn wi_164_13 l0 ?_
  refine dq_gr wi_164_14 wf_164_28 tf_114_6 ?_
  refine rs_ildn wi_164_17 l1 ?_
  refine rs_pure wi_164_18 rfl ?_
  obtain ⟨g6, h⟩ := wp_gd h
  refine dq_iald wi_164_19 t_120 g6 ?_
  refine rs_pure wi_164_20 rfl ?_
  refine rs_topi (v := 1) (by decide) ?_
  refine rs_pure wi_164_21 rfl ?_
  obtain ⟨g7, h⟩ := wp_gd h
  obtain ⟨c8, e9, h⟩ := wp_lt h
  refine dq_iast wi_164_22 t_120 g7 e9 ?_
  refine rs_aldn wi_164_23 l0 ?_
  refine dq_gr wi_164_24 wf_164_34 tf_114_9 ?_
  refine rs_ild wi_164_27 l5 ?_
  refine rs_pure wi_164_29 rfl ?_
  refine rs_topi (v := 0) (by decide) ?_
  obtain ⟨g10, h⟩ := wp_gd h
  obtain ⟨c11, e12, h⟩ := wp_lt h
  refine dq_iast wi_164_30 t_122 g10 e12 ?_
  refine rs_aldn wi_164_31 l0 ?_
  refine dq_gr wi_164_32 wf_164_37 tf_114_10 ?_
  refine rs_ild wi_164_35 l5 ?_
  refine rs_pure wi_164_37 rfl ?_
  refine rs_topi (v := 0) (by decide) ?_
  obtain ⟨g13, h⟩ := wp_gd h
  obtain ⟨c14, e15, h⟩ := wp_lt h
  refine dq_iast wi_164_38 t_123 g13 e15 ?_
  refine rs_aldn wi_164_39 l0 ?_
  refine dq_gr wi_164_40 wf_164_40 tf_114_11 ?_
  refine rs_ild wi_164_43 l5 ?_
  refine rs_pure wi_164_45 rfl ?_
  refine rs_topi (v := (-1)) (by decide) ?_
  obtain ⟨g16, h⟩ := wp_gd h
  obtain ⟨c17, e18, h⟩ := wp_lt h
  refine dq_iast wi_164_46 t_124 g16 e18 ?_
  refine rs_aldn wi_164_47 l0 ?_
  refine dq_gr wi_164_48 wf_164_43 tf_114_12 ?_
  refine rs_ild wi_164_51 l5 ?_
  refine rs_pure wi_164_53 rfl ?_
  refine rs_topi (v := (-1)) (by decide) ?_
  obtain ⟨g19, h⟩ := wp_gd h
  obtain ⟨c20, e21, h⟩ := wp_lt h
  refine dq_iast wi_164_54 t_125 g19 e21 ?_
  refine rs_aldn wi_164_55 l0 ?_
  refine dq_gr wi_164_56 wf_164_46 tf_114_13 ?_
  refine rs_ild wi_164_59 l5 ?_
  refine rs_pure wi_164_61 rfl ?_
  refine rs_topi (v := 0) (by decide) ?_
  obtain ⟨g22, h⟩ := wp_gd h
  obtain ⟨c23, e24, h⟩ := wp_lt h
  refine dq_iast wi_164_62 t_126 g22 e24 ?_
  refine rs_aldn wi_164_63 l0 ?_
  refine dq_gr wi_164_64 wf_164_49 tf_114_14 ?_
  refine rs_ild wi_164_67 l5 ?_
  refine rs_lldn wi_164_69 l2 ?_
  obtain ⟨g25, h⟩ := wp_gd h
  obtain ⟨c26, e27, h⟩ := wp_lt h
  refine dq_last wi_164_70 t_127 g25 e27 ?_
  refine rs_aldn wi_164_71 l0 ?_
  refine dq_gr wi_164_72 wf_164_52 tf_114_15 ?_
  refine rs_ild wi_164_75 l5 ?_
  refine rs_pure wi_164_77 rfl ?_
  refine rs_topl (v := 0) (by decide) ?_
  obtain ⟨g28, h⟩ := wp_gd h
  obtain ⟨c29, e30, h⟩ := wp_lt h
  refine dq_last wi_164_78 t_128 g28 e30 ?_
  refine rs_aldn wi_164_79 l0 ?_
  refine dq_gr wi_164_80 wf_164_55 tf_114_16 ?_
  refine rs_ild wi_164_83 l5 ?_
  refine rs_pure wi_164_85 rfl ?_
  refine rs_topl (v := 0) (by decide) ?_
  obtain ⟨g31, h⟩ := wp_gd h
  obtain ⟨c32, e33, h⟩ := wp_lt h
  refine dq_last wi_164_86 t_129 g31 e33 ?_
  refine rs_aldn wi_164_87 l0 ?_
  refine dq_gr wi_164_88 wf_164_58 tf_114_17 ?_
  refine rs_ild wi_164_91 l5 ?_
  refine rs_ild wi_164_93 l4 ?_
  obtain ⟨g34, h⟩ := wp_gd h
  obtain ⟨c35, e36, h⟩ := wp_lt h
  refine dq_iast wi_164_95 t_130 g34 e36 ?_
  refine rs_ild wi_164_96 l5 ?_
  exact rs_iret wi_164_98 wr_164 rfl (hQ (v4, c35) h)
theorem wc_285_114 : rx_ct (rt_P sc fm) 285 114 = some (0, 257, 1) := (by decide +kernel : rt_ct 285 114 = some (0, 257, 1))
theorem wc_285_320 : rx_ct (rt_P sc fm) 285 320 = some (0, 276, 1) := (by decide +kernel : rt_ct 285 320 = some (0, 276, 1))
theorem wc_285_420 : rx_ct (rt_P sc fm) 285 420 = some (0, 247, 1) := (by decide +kernel : rt_ct 285 420 = some (0, 247, 1))
theorem wc_285_61 : rx_ct (rt_P sc fm) 285 61 = some (0, 41, 2) := (by decide +kernel : rt_ct 285 61 = some (0, 41, 2))
theorem wc_285_79 : rx_ct (rt_P sc fm) 285 79 = some (0, 42, 0) := (by decide +kernel : rt_ct 285 79 = some (0, 42, 0))
theorem wc_285_89 : rx_ct (rt_P sc fm) 285 89 = some (0, 259, 0) := (by decide +kernel : rt_ct 285 89 = some (0, 259, 0))
theorem wf_285_136 : rx_ft (rt_P sc fm) 285 136 = some (9, 1) := (by decide +kernel : rt_ft 285 136 = some (9, 1))
theorem wf_285_15 : rx_ft (rt_P sc fm) 285 15 = some (10, 1) := (by decide +kernel : rt_ft 285 15 = some (10, 1))
theorem wf_285_19 : rx_ft (rt_P sc fm) 285 19 = some (10, 2) := (by decide +kernel : rt_ft 285 19 = some (10, 2))
theorem wf_285_382 : rx_ft (rt_P sc fm) 285 382 = some (2, 9) := (by decide +kernel : rt_ft 285 382 = some (2, 9))
theorem wf_285_385 : rx_ft (rt_P sc fm) 285 385 = some (2, 10) := (by decide +kernel : rt_ft 285 385 = some (2, 10))
theorem wf_285_49 : rx_ft (rt_P sc fm) 285 49 = some (10, 7) := (by decide +kernel : rt_ft 285 49 = some (10, 7))
theorem wh0_285_22 : rx_ht (rt_P sc fm) 285 22 "java/lang/IllegalArgumentException" = none := (by decide +kernel : rt_ht 285 22 "java/lang/IllegalArgumentException" = none)
theorem wh0_285_38 : rx_ht (rt_P sc fm) 285 38 "java/lang/IllegalArgumentException" = none := (by decide +kernel : rt_ht 285 38 "java/lang/IllegalArgumentException" = none)
theorem wh0_285_5 : rx_ht (rt_P sc fm) 285 5 "java/lang/IllegalArgumentException" = none := (by decide +kernel : rt_ht 285 5 "java/lang/IllegalArgumentException" = none)
theorem wh0_285_69 : rx_ht (rt_P sc fm) 285 69 "java/lang/IllegalArgumentException" = none := (by decide +kernel : rt_ht 285 69 "java/lang/IllegalArgumentException" = none)
theorem whh_285 : rx_hh (rt_P sc fm) 285 = [] := (by decide +kernel : rt_hh 285 = [])
theorem wi_285_0 : ri (rt_P sc fm) 285 0 (.aload_n 0) (1) := ri_of (by decide +kernel) rfl
theorem wi_285_1 : ri (rt_P sc fm) 285 1 (.getfield 15) (4) := ri_of (by decide +kernel) rfl
theorem wi_285_11 : ri (rt_P sc fm) 285 11 (.istore_n 2) (12) := ri_of (by decide +kernel) rfl
theorem wi_285_12 : ri (rt_P sc fm) 285 12 (.iload_n 2) (13) := ri_of (by decide +kernel) rfl
theorem wi_285_13 : ri (rt_P sc fm) 285 13 (.ifCond .ge 12) (16) := ri_of (by decide +kernel) rfl
theorem wi_285_16 : ri (rt_P sc fm) 285 16 (.aload_n 0) (17) := ri_of (by decide +kernel) rfl
theorem wi_285_17 : ri (rt_P sc fm) 285 17 (.iconst 5) (18) := ri_of (by decide +kernel) rfl
theorem wi_285_18 : ri (rt_P sc fm) 285 18 (.aload_n 0) (19) := ri_of (by decide +kernel) rfl
theorem wi_285_19 : ri (rt_P sc fm) 285 19 (.invokevirtual 79) (22) := ri_of (by decide +kernel) rfl
theorem wi_285_22 : ri (rt_P sc fm) 285 22 (.invokevirtual 61) (25) := ri_of (by decide +kernel) rfl
theorem wi_285_25 : ri (rt_P sc fm) 285 25 (.aload_n 0) (26) := ri_of (by decide +kernel) rfl
theorem wi_285_26 : ri (rt_P sc fm) 285 26 (.dup) (27) := ri_of (by decide +kernel) rfl
theorem wi_285_27 : ri (rt_P sc fm) 285 27 (.getfield 49) (30) := ri_of (by decide +kernel) rfl
theorem wi_285_30 : ri (rt_P sc fm) 285 30 (.iconst 1) (31) := ri_of (by decide +kernel) rfl
theorem wi_285_31 : ri (rt_P sc fm) 285 31 (.iadd) (32) := ri_of (by decide +kernel) rfl
theorem wi_285_32 : ri (rt_P sc fm) 285 32 (.putfield 49) (35) := ri_of (by decide +kernel) rfl
theorem wi_285_35 : ri (rt_P sc fm) 285 35 (.aload_n 0) (36) := ri_of (by decide +kernel) rfl
theorem wi_285_36 : ri (rt_P sc fm) 285 36 (.bipush 46) (38) := ri_of (by decide +kernel) rfl
theorem wi_285_38 : ri (rt_P sc fm) 285 38 (.invokevirtual 114) (41) := ri_of (by decide +kernel) rfl
theorem wi_285_4 : ri (rt_P sc fm) 285 4 (.aload_n 0) (5) := ri_of (by decide +kernel) rfl
theorem wi_285_41 : ri (rt_P sc fm) 285 41 (.aload_n 0) (42) := ri_of (by decide +kernel) rfl
theorem wi_285_42 : ri (rt_P sc fm) 285 42 (.getfield 19) (45) := ri_of (by decide +kernel) rfl
theorem wi_285_45 : ri (rt_P sc fm) 285 45 (.getfield 385) (48) := ri_of (by decide +kernel) rfl
theorem wi_285_48 : ri (rt_P sc fm) 285 48 (.iload_n 1) (49) := ri_of (by decide +kernel) rfl
theorem wi_285_49 : ri (rt_P sc fm) 285 49 (.iload_n 2) (50) := ri_of (by decide +kernel) rfl
theorem wi_285_5 : ri (rt_P sc fm) 285 5 (.invokevirtual 89) (8) := ri_of (by decide +kernel) rfl
theorem wi_285_50 : ri (rt_P sc fm) 285 50 (.iastore) (51) := ri_of (by decide +kernel) rfl
theorem wi_285_51 : ri (rt_P sc fm) 285 51 (.aload_n 0) (52) := ri_of (by decide +kernel) rfl
theorem wi_285_52 : ri (rt_P sc fm) 285 52 (.getfield 19) (55) := ri_of (by decide +kernel) rfl
theorem wi_285_55 : ri (rt_P sc fm) 285 55 (.getfield 382) (58) := ri_of (by decide +kernel) rfl
theorem wi_285_58 : ri (rt_P sc fm) 285 58 (.iload_n 1) (59) := ri_of (by decide +kernel) rfl
theorem wi_285_59 : ri (rt_P sc fm) 285 59 (.aload_n 0) (60) := ri_of (by decide +kernel) rfl
theorem wi_285_60 : ri (rt_P sc fm) 285 60 (.aload_n 0) (61) := ri_of (by decide +kernel) rfl
theorem wi_285_61 : ri (rt_P sc fm) 285 61 (.getfield 15) (64) := ri_of (by decide +kernel) rfl
theorem wi_285_64 : ri (rt_P sc fm) 285 64 (.getfield 136) (67) := ri_of (by decide +kernel) rfl
theorem wi_285_67 : ri (rt_P sc fm) 285 67 (.iload_n 2) (68) := ri_of (by decide +kernel) rfl
theorem wi_285_68 : ri (rt_P sc fm) 285 68 (.aaload) (69) := ri_of (by decide +kernel) rfl
theorem wi_285_69 : ri (rt_P sc fm) 285 69 (.invokevirtual 320) (72) := ri_of (by decide +kernel) rfl
theorem wi_285_72 : ri (rt_P sc fm) 285 72 (.iastore) (73) := ri_of (by decide +kernel) rfl
theorem wi_285_73 : ri (rt_P sc fm) 285 73 (.return_) (74) := ri_of (by decide +kernel) rfl
theorem wi_285_8 : ri (rt_P sc fm) 285 8 (.invokevirtual 420) (11) := ri_of (by decide +kernel) rfl
theorem wp_285_49 : rx_pt (rt_P sc fm) 285 49 = some (10, 7, .int) := (by decide +kernel : rt_pt 285 49 = some (10, 7, .int))
theorem wr_285 : rx_rt (rt_P sc fm) 285 = none := (by decide +kernel : rt_rt 285 = none)
/-- MarkHouse$Reader.readOrderElement(I)V -/
def d_285 (n : Nat) (a1 : Int32) (c : cS) : Option ((cS) ⊕ cS) :=
  Option.bind (d_259 n c) (Sum.elim (fun r1 =>
  Option.bind (d_247 n r1.1 r1.2) (fun v3 =>
  jn (fun p5 : cS =>
    lt (pI p5 145 7 ((p5.1 145 7) + 1)) (fun c6 =>
    Option.bind (d_257 n 46 c6) (Sum.elim (fun r8 =>
    if ib a1 1024 then
    lt (pI r8 123 (ix a1) v3) (fun c11 =>
    if ib v3 4 then
    Option.bind (d_276 n (ix v3) c11) (Sum.elim (fun r14 =>
    if ib a1 1024 then
    lt (pI r14.2 122 (ix a1) r14.1) (fun c17 =>
    some (.inl c17))
    else none)
    (fun z15 => some (.inr z15)))
    else none)
    else none)
    (fun z9 => some (.inr z9)))))
  (fun j25 =>
  if 0 ≤ v3 then
    j25 r1.2
  else
    Option.bind (d_42 n r1.2) (fun v19 =>
    Option.bind (d_41 n 5 v19 r1.2) (Sum.elim (fun r20 =>
    j25 r20)
    (fun z21 => some (.inr z21)))))))
  (fun z2 => some (.inr z2)))
theorem sp_285 {F Lo n : Nat} {a1 : Int32} {c y : cS} {w : cW} {K : (cS) ⊕ cS → Prop} {Q : ((Option Value) ⊕ String) → List va_E → Prop} (hw : rOK fm w) (hF : 9 ≤ F) (hLo : 146 ≤ Lo)  (h : wp (d_285 n a1 c) K) (hQ : ∀ r, K (.inl r) → Q (.inl none) (hq true r y w)) (hT : ∀ r, K (.inr r) → Q (.inr "java/lang/IllegalArgumentException") (hq true r y w)) : rs (rt_P sc fm) 285 F Lo 0 [(0, .ref 145), (1, .int a1)] [] (hq true c y w) Q := by
  unfold d_285 at h
  obtain ⟨lv, elv⟩ : ∃ lv : rx_L, lv = [(0, .ref 145), (1, .int a1)] := ⟨_, rfl⟩
  rw [← elv]
  have l0 : rx_ld lv 0 = some (.ref 145) := by rw [elv]; rfl
  have l1 : rx_ld lv 1 = some (.int a1) := by rw [elv]; rfl
  refine rs_aldn wi_285_0 l0 ?_
  refine dq_gr wi_285_1 wf_285_15 tf_145_1 ?_
  refine rs_aldn wi_285_4 l0 ?_
  refine rs_V wi_285_5 wc_285_89 rfl (dq_isa tf_145_0 wa_10_259) (Nat.le_trans (by decide) hF) (ml_le wm_259 (Nat.le_trans (by decide) hLo)) rfl (sp_259 hw (Nat.le_trans (by decide : 7 ≤ 9 - 1) (Nat.sub_le_sub_right hF 1)) (ml_sub wm_259 (Nat.le_trans (by decide : 104 ≤ 146 - 20) (Nat.sub_le_sub_right hLo 20))) (wp_bind h) (fun r1 h => rs_back1 ?_) (fun z2 h => rs_up wh0_285_5 whh_285 (hT z2 (wp_inr h))))
  have h := wp_inl h
  refine rs_V wi_285_8 wc_285_420 rfl (dq_isa tf_7_0 wa_9_247) (Nat.le_trans (by decide) hF) (ml_le wm_247 (Nat.le_trans (by decide) hLo)) rfl (sp_247 hw (Nat.le_trans (by decide : 0 ≤ 9 - 1) (Nat.sub_le_sub_right hF 1)) (ml_sub wm_247 (Nat.le_trans (by decide : 0 ≤ 146 - 23) (Nat.sub_le_sub_right hLo 23))) (wp_bind h) (fun v3 h => rs_back1 ?_))
  refine dl_istn wi_285_11 rfl (fun lv l2 t4 => ?_)
  have l0 := t4 _ _ (by decide) (Or.inl rfl) l0
  have l1 := t4 _ _ (by decide) (Or.inl rfl) l1
  refine rs_ildn wi_285_12 l2 ?_
  refine wp_jn (B := fun p5 : cS => ∀ lv, rx_ld lv 0 = some (.ref 145) → rx_ld lv 1 = some (.int a1) → rx_ld lv 2 = some (.int v3) → rs (rt_P sc fm) 285 F Lo 25 lv [] (hq true p5 y w) Q) h (fun p5 h lv l0 l1 l2 => ?_) (fun j25 hj25 h => ?_)
  ·
    refine rs_aldn wi_285_25 l0 ?_
    refine rs_pure wi_285_26 rfl ?_
    refine dq_gi wi_285_27 wf_285_49 tf_145_7 ?_
    refine rs_pure wi_285_30 rfl ?_
    refine rs_topi (v := 1) (by decide) ?_
    refine rs_pure wi_285_31 rfl ?_
    obtain ⟨c6, e7, h⟩ := wp_lt h
    refine dq_pi wi_285_32 wp_285_49 tf_145_7 rfl rfl e7 ?_
    refine rs_aldn wi_285_35 l0 ?_
    refine rs_pure wi_285_36 rfl ?_
    refine rs_topi (v := 46) (by decide) ?_
    refine rs_V wi_285_38 wc_285_114 rfl (dq_isa tf_145_0 wa_10_257) (Nat.le_trans (by decide) hF) (ml_le wm_257 (Nat.le_trans (by decide) hLo)) rfl (sp_257 hw (Nat.le_trans (by decide : 7 ≤ 9 - 1) (Nat.sub_le_sub_right hF 1)) (ml_sub wm_257 (Nat.le_trans (by decide : 104 ≤ 146 - 21) (Nat.sub_le_sub_right hLo 21))) (wp_bind h) (fun r8 h => rs_back0 ?_) (fun z9 h => rs_up wh0_285_38 whh_285 (hT z9 (wp_inr h))))
    have h := wp_inl h
    refine rs_aldn wi_285_41 l0 ?_
    refine dq_gr wi_285_42 wf_285_19 tf_145_2 ?_
    refine dq_gr wi_285_45 wf_285_385 tf_114_10 ?_
    refine rs_ildn wi_285_48 l1 ?_
    refine rs_ildn wi_285_49 l2 ?_
    obtain ⟨g10, h⟩ := wp_gd h
    obtain ⟨c11, e12, h⟩ := wp_lt h
    refine dq_iast wi_285_50 t_123 g10 e12 ?_
    refine rs_aldn wi_285_51 l0 ?_
    refine dq_gr wi_285_52 wf_285_19 tf_145_2 ?_
    refine dq_gr wi_285_55 wf_285_382 tf_114_9 ?_
    refine rs_ildn wi_285_58 l1 ?_
    refine rs_aldn wi_285_59 l0 ?_
    refine rs_aldn wi_285_60 l0 ?_
    refine dq_gr wi_285_61 wf_285_15 tf_145_1 ?_
    refine dq_gr wi_285_64 wf_285_136 tf_7_1 ?_
    refine rs_ildn wi_285_67 l2 ?_
    obtain ⟨g13, h⟩ := wp_gd h
    refine dq_aald wi_285_68 (by decide) t_8 g13 (hw.1 _ (ib_lt g13)) ?_
    refine rs_V wi_285_69 wc_285_320 rfl (dq_isa tf_145_0 wa_10_276) (Nat.le_trans (by decide) hF) (ml_le wm_276 (Nat.le_trans (by decide) hLo)) rfl (sp_276 hw (Nat.le_trans (by decide : 8 ≤ 9 - 1) (Nat.sub_le_sub_right hF 1)) (ml_sub wm_276 (Nat.le_trans (by decide : 124 ≤ 146 - 22) (Nat.sub_le_sub_right hLo 22))) (ib_lt g13) (wp_bind h) (fun r14 h => rs_back1 ?_) (fun z15 h => rs_up wh0_285_69 whh_285 (hT z15 (wp_inr h))))
    have h := wp_inl h
    obtain ⟨g16, h⟩ := wp_gd h
    obtain ⟨c17, e18, h⟩ := wp_lt h
    refine dq_iast wi_285_72 t_122 g16 e18 ?_
    exact rs_vret wi_285_73 wr_285 (hQ c17 h)
  refine rs_ifge (tg := 25) wi_285_13 ⟨by decide, by decide⟩ (fun q => ?_) (fun q => ?_)
  ·
    have h := wp_pos h q
    exact hj25 _ h _ l0 l1 l2
  ·
    have h := wp_neg h q
    refine rs_aldn wi_285_16 l0 ?_
    refine rs_pure wi_285_17 rfl ?_
    refine rs_topi (v := 5) (by decide) ?_
    refine rs_aldn wi_285_18 l0 ?_
    refine rs_V wi_285_19 wc_285_79 rfl (dq_isa tf_145_0 wa_10_42) (Nat.le_trans (by decide) hF) (ml_le wm_42 (Nat.le_trans (by decide) hLo)) rfl (sp_42 hw (Nat.le_trans (by decide : 0 ≤ 9 - 1) (Nat.sub_le_sub_right hF 1)) (ml_sub wm_42 (Nat.le_trans (by decide : 0 ≤ 146 - 20) (Nat.sub_le_sub_right hLo 20))) (wp_bind h) (fun v19 h => rs_back1 ?_))
    refine rs_V wi_285_22 wc_285_61 rfl (dq_isa tf_145_0 wa_10_41) (Nat.le_trans (by decide) hF) (ml_le wm_41 (Nat.le_trans (by decide) hLo)) rfl (sp_41 hw (Nat.le_trans (by decide : 6 ≤ 9 - 1) (Nat.sub_le_sub_right hF 1)) (ml_sub wm_41 (Nat.le_trans (by decide : 82 ≤ 146 - 22) (Nat.sub_le_sub_right hLo 22))) (wp_bind h) (fun r20 h => rs_back0 ?_) (fun z21 h => rs_up wh0_285_22 whh_285 (hT z21 (wp_inr h))))
    have h := wp_inl h
    exact hj25 _ h _ l0 l1 l2
theorem t_131 : ta true 131 0 1024 := ⟨rfl, by decide, by decide⟩
theorem tf_114_18 : fo true 114 2 18 (.ref 131) := ⟨_, rfl, rfl, by decide, by decide⟩
theorem wc_284_79 : rx_ct (rt_P sc fm) 284 79 = some (0, 42, 0) := (by decide +kernel : rt_ct 284 79 = some (0, 42, 0))
theorem wc_284_89 : rx_ct (rt_P sc fm) 284 89 = some (0, 259, 0) := (by decide +kernel : rt_ct 284 89 = some (0, 259, 0))
theorem wf_284_19 : rx_ft (rt_P sc fm) 284 19 = some (10, 2) := (by decide +kernel : rt_ft 284 19 = some (10, 2))
theorem wf_284_414 : rx_ft (rt_P sc fm) 284 414 = some (2, 18) := (by decide +kernel : rt_ft 284 414 = some (2, 18))
theorem wf_284_417 : rx_ft (rt_P sc fm) 284 417 = some (2, 15) := (by decide +kernel : rt_ft 284 417 = some (2, 15))
theorem wf_284_49 : rx_ft (rt_P sc fm) 284 49 = some (10, 7) := (by decide +kernel : rt_ft 284 49 = some (10, 7))
theorem wh0_284_22 : rx_ht (rt_P sc fm) 284 22 "java/lang/IllegalArgumentException" = none := (by decide +kernel : rt_ht 284 22 "java/lang/IllegalArgumentException" = none)
theorem whh_284 : rx_hh (rt_P sc fm) 284 = [] := (by decide +kernel : rt_hh 284 = [])
theorem wi_284_0 : ri (rt_P sc fm) 284 0 (.aload_n 0) (1) := ri_of (by decide +kernel) rfl
theorem wi_284_1 : ri (rt_P sc fm) 284 1 (.getfield 19) (4) := ri_of (by decide +kernel) rfl
theorem wi_284_12 : ri (rt_P sc fm) 284 12 (.iastore) (13) := ri_of (by decide +kernel) rfl
theorem wi_284_13 : ri (rt_P sc fm) 284 13 (.aload_n 0) (14) := ri_of (by decide +kernel) rfl
theorem wi_284_14 : ri (rt_P sc fm) 284 14 (.getfield 19) (17) := ri_of (by decide +kernel) rfl
theorem wi_284_17 : ri (rt_P sc fm) 284 17 (.getfield 417) (20) := ri_of (by decide +kernel) rfl
theorem wi_284_20 : ri (rt_P sc fm) 284 20 (.iload_n 1) (21) := ri_of (by decide +kernel) rfl
theorem wi_284_21 : ri (rt_P sc fm) 284 21 (.aload_n 0) (22) := ri_of (by decide +kernel) rfl
theorem wi_284_22 : ri (rt_P sc fm) 284 22 (.invokevirtual 89) (25) := ri_of (by decide +kernel) rfl
theorem wi_284_25 : ri (rt_P sc fm) 284 25 (.lastore) (26) := ri_of (by decide +kernel) rfl
theorem wi_284_26 : ri (rt_P sc fm) 284 26 (.aload_n 0) (27) := ri_of (by decide +kernel) rfl
theorem wi_284_27 : ri (rt_P sc fm) 284 27 (.dup) (28) := ri_of (by decide +kernel) rfl
theorem wi_284_28 : ri (rt_P sc fm) 284 28 (.getfield 49) (31) := ri_of (by decide +kernel) rfl
theorem wi_284_31 : ri (rt_P sc fm) 284 31 (.iconst 1) (32) := ri_of (by decide +kernel) rfl
theorem wi_284_32 : ri (rt_P sc fm) 284 32 (.iadd) (33) := ri_of (by decide +kernel) rfl
theorem wi_284_33 : ri (rt_P sc fm) 284 33 (.putfield 49) (36) := ri_of (by decide +kernel) rfl
theorem wi_284_36 : ri (rt_P sc fm) 284 36 (.return_) (37) := ri_of (by decide +kernel) rfl
theorem wi_284_4 : ri (rt_P sc fm) 284 4 (.getfield 414) (7) := ri_of (by decide +kernel) rfl
theorem wi_284_7 : ri (rt_P sc fm) 284 7 (.iload_n 1) (8) := ri_of (by decide +kernel) rfl
theorem wi_284_8 : ri (rt_P sc fm) 284 8 (.aload_n 0) (9) := ri_of (by decide +kernel) rfl
theorem wi_284_9 : ri (rt_P sc fm) 284 9 (.invokevirtual 79) (12) := ri_of (by decide +kernel) rfl
theorem wp_284_49 : rx_pt (rt_P sc fm) 284 49 = some (10, 7, .int) := (by decide +kernel : rt_pt 284 49 = some (10, 7, .int))
theorem wr_284 : rx_rt (rt_P sc fm) 284 = none := (by decide +kernel : rt_rt 284 = none)
/-- MarkHouse$Reader.readFirstName(I)V -/
def d_284 (n : Nat) (a1 : Int32) (c : cS) : Option ((cS) ⊕ cS) :=
  Option.bind (d_42 n c) (fun v1 =>
  if ib a1 1024 then
  lt (pI c 131 (ix a1) v1) (fun c3 =>
  Option.bind (d_259 n c3) (Sum.elim (fun r5 =>
  if ib a1 1024 then
  lt (pL r5.2 128 (ix a1) r5.1) (fun c8 =>
  lt (pI c8 145 7 ((c8.1 145 7) + 1)) (fun c10 =>
  some (.inl c10)))
  else none)
  (fun z6 => some (.inr z6))))
  else none)
theorem sp_284 {F Lo n : Nat} {a1 : Int32} {c y : cS} {w : cW} {K : (cS) ⊕ cS → Prop} {Q : ((Option Value) ⊕ String) → List va_E → Prop} (hw : rOK fm w) (hF : 8 ≤ F) (hLo : 124 ≤ Lo)  (h : wp (d_284 n a1 c) K) (hQ : ∀ r, K (.inl r) → Q (.inl none) (hq true r y w)) (hT : ∀ r, K (.inr r) → Q (.inr "java/lang/IllegalArgumentException") (hq true r y w)) : rs (rt_P sc fm) 284 F Lo 0 [(0, .ref 145), (1, .int a1)] [] (hq true c y w) Q := by
  unfold d_284 at h
  obtain ⟨lv, elv⟩ : ∃ lv : rx_L, lv = [(0, .ref 145), (1, .int a1)] := ⟨_, rfl⟩
  rw [← elv]
  have l0 : rx_ld lv 0 = some (.ref 145) := by rw [elv]; rfl
  have l1 : rx_ld lv 1 = some (.int a1) := by rw [elv]; rfl
  refine rs_aldn wi_284_0 l0 ?_
  refine dq_gr wi_284_1 wf_284_19 tf_145_2 ?_
  refine dq_gr wi_284_4 wf_284_414 tf_114_18 ?_
  refine rs_ildn wi_284_7 l1 ?_
  refine rs_aldn wi_284_8 l0 ?_
  refine rs_V wi_284_9 wc_284_79 rfl (dq_isa tf_145_0 wa_10_42) (Nat.le_trans (by decide) hF) (ml_le wm_42 (Nat.le_trans (by decide) hLo)) rfl (sp_42 hw (Nat.le_trans (by decide : 0 ≤ 8 - 1) (Nat.sub_le_sub_right hF 1)) (ml_sub wm_42 (Nat.le_trans (by decide : 0 ≤ 124 - 20) (Nat.sub_le_sub_right hLo 20))) (wp_bind h) (fun v1 h => rs_back1 ?_))
  obtain ⟨g2, h⟩ := wp_gd h
  obtain ⟨c3, e4, h⟩ := wp_lt h
  refine dq_iast wi_284_12 t_131 g2 e4 ?_
  refine rs_aldn wi_284_13 l0 ?_
  refine dq_gr wi_284_14 wf_284_19 tf_145_2 ?_
  refine dq_gr wi_284_17 wf_284_417 tf_114_15 ?_
  refine rs_ildn wi_284_20 l1 ?_
  refine rs_aldn wi_284_21 l0 ?_
  refine rs_V wi_284_22 wc_284_89 rfl (dq_isa tf_145_0 wa_10_259) (Nat.le_trans (by decide) hF) (ml_le wm_259 (Nat.le_trans (by decide) hLo)) rfl (sp_259 hw (Nat.le_trans (by decide : 7 ≤ 8 - 1) (Nat.sub_le_sub_right hF 1)) (ml_sub wm_259 (Nat.le_trans (by decide : 104 ≤ 124 - 20) (Nat.sub_le_sub_right hLo 20))) (wp_bind h) (fun r5 h => rs_back1 ?_) (fun z6 h => rs_up wh0_284_22 whh_284 (hT z6 (wp_inr h))))
  have h := wp_inl h
  obtain ⟨g7, h⟩ := wp_gd h
  obtain ⟨c8, e9, h⟩ := wp_lt h
  refine dq_last wi_284_25 t_128 g7 e9 ?_
  refine rs_aldn wi_284_26 l0 ?_
  refine rs_pure wi_284_27 rfl ?_
  refine dq_gi wi_284_28 wf_284_49 tf_145_7 ?_
  refine rs_pure wi_284_31 rfl ?_
  refine rs_topi (v := 1) (by decide) ?_
  refine rs_pure wi_284_32 rfl ?_
  obtain ⟨c10, e11, h⟩ := wp_lt h
  refine dq_pi wi_284_33 wp_284_49 tf_145_7 rfl rfl e11 ?_
  exact rs_vret wi_284_36 wr_284 (hQ c10 h)
theorem t_121 : ta true 121 0 1024 := ⟨rfl, by decide, by decide⟩
theorem tf_114_8 : fo true 114 2 8 (.ref 121) := ⟨_, rfl, rfl, by decide, by decide⟩
theorem wc_283_303 : rx_ct (rt_P sc fm) 283 303 = some (0, 161, 2) := (by decide +kernel : rt_ct 283 303 = some (0, 161, 2))
theorem wc_283_306 : rx_ct (rt_P sc fm) 283 306 = some (0, 162, 2) := (by decide +kernel : rt_ct 283 306 = some (0, 162, 2))
theorem wc_283_61 : rx_ct (rt_P sc fm) 283 61 = some (0, 41, 2) := (by decide +kernel : rt_ct 283 61 = some (0, 41, 2))
theorem wc_283_79 : rx_ct (rt_P sc fm) 283 79 = some (0, 42, 0) := (by decide +kernel : rt_ct 283 79 = some (0, 42, 0))
theorem wc_283_89 : rx_ct (rt_P sc fm) 283 89 = some (0, 259, 0) := (by decide +kernel : rt_ct 283 89 = some (0, 259, 0))
theorem wf_283_19 : rx_ft (rt_P sc fm) 283 19 = some (10, 2) := (by decide +kernel : rt_ft 283 19 = some (10, 2))
theorem wf_283_285 : rx_ft (rt_P sc fm) 283 285 = some (10, 9) := (by decide +kernel : rt_ft 283 285 = some (10, 9))
theorem wf_283_294 : rx_ft (rt_P sc fm) 283 294 = some (2, 3) := (by decide +kernel : rt_ft 283 294 = some (2, 3))
theorem wf_283_376 : rx_ft (rt_P sc fm) 283 376 = some (2, 8) := (by decide +kernel : rt_ft 283 376 = some (2, 8))
theorem wf_283_382 : rx_ft (rt_P sc fm) 283 382 = some (2, 9) := (by decide +kernel : rt_ft 283 382 = some (2, 9))
theorem wf_283_49 : rx_ft (rt_P sc fm) 283 49 = some (10, 7) := (by decide +kernel : rt_ft 283 49 = some (10, 7))
theorem wh0_283_1 : rx_ht (rt_P sc fm) 283 1 "java/lang/IllegalArgumentException" = none := (by decide +kernel : rt_ht 283 1 "java/lang/IllegalArgumentException" = none)
theorem wh0_283_45 : rx_ht (rt_P sc fm) 283 45 "java/lang/IllegalArgumentException" = none := (by decide +kernel : rt_ht 283 45 "java/lang/IllegalArgumentException" = none)
theorem wh0_283_77 : rx_ht (rt_P sc fm) 283 77 "java/lang/IllegalArgumentException" = none := (by decide +kernel : rt_ht 283 77 "java/lang/IllegalArgumentException" = none)
theorem whh_283 : rx_hh (rt_P sc fm) 283 = [] := (by decide +kernel : rt_hh 283 = [])
theorem wi_283_0 : ri (rt_P sc fm) 283 0 (.aload_n 0) (1) := ri_of (by decide +kernel) rfl
theorem wi_283_1 : ri (rt_P sc fm) 283 1 (.invokevirtual 89) (4) := ri_of (by decide +kernel) rfl
theorem wi_283_10 : ri (rt_P sc fm) 283 10 (.getfield 285) (13) := ri_of (by decide +kernel) rfl
theorem wi_283_101 : ri (rt_P sc fm) 283 101 (.lload_n 2) (102) := ri_of (by decide +kernel) rfl
theorem wi_283_102 : ri (rt_P sc fm) 283 102 (.invokevirtual 306) (105) := ri_of (by decide +kernel) rfl
theorem wi_283_105 : ri (rt_P sc fm) 283 105 (.goto 5) (108) := ri_of (by decide +kernel) rfl
theorem wi_283_108 : ri (rt_P sc fm) 283 108 (.iload 4) (110) := ri_of (by decide +kernel) rfl
theorem wi_283_110 : ri (rt_P sc fm) 283 110 (.iastore) (111) := ri_of (by decide +kernel) rfl
theorem wi_283_111 : ri (rt_P sc fm) 283 111 (.aload_n 0) (112) := ri_of (by decide +kernel) rfl
theorem wi_283_112 : ri (rt_P sc fm) 283 112 (.dup) (113) := ri_of (by decide +kernel) rfl
theorem wi_283_113 : ri (rt_P sc fm) 283 113 (.getfield 49) (116) := ri_of (by decide +kernel) rfl
theorem wi_283_116 : ri (rt_P sc fm) 283 116 (.iconst 1) (117) := ri_of (by decide +kernel) rfl
theorem wi_283_117 : ri (rt_P sc fm) 283 117 (.iadd) (118) := ri_of (by decide +kernel) rfl
theorem wi_283_118 : ri (rt_P sc fm) 283 118 (.putfield 49) (121) := ri_of (by decide +kernel) rfl
theorem wi_283_121 : ri (rt_P sc fm) 283 121 (.return_) (122) := ri_of (by decide +kernel) rfl
theorem wi_283_13 : ri (rt_P sc fm) 283 13 (.lload_n 2) (14) := ri_of (by decide +kernel) rfl
theorem wi_283_14 : ri (rt_P sc fm) 283 14 (.invokevirtual 303) (17) := ri_of (by decide +kernel) rfl
theorem wi_283_17 : ri (rt_P sc fm) 283 17 (.istore 4) (19) := ri_of (by decide +kernel) rfl
theorem wi_283_19 : ri (rt_P sc fm) 283 19 (.iload 4) (21) := ri_of (by decide +kernel) rfl
theorem wi_283_21 : ri (rt_P sc fm) 283 21 (.ifCond .ge 27) (24) := ri_of (by decide +kernel) rfl
theorem wi_283_24 : ri (rt_P sc fm) 283 24 (.aload_n 0) (25) := ri_of (by decide +kernel) rfl
theorem wi_283_25 : ri (rt_P sc fm) 283 25 (.getfield 19) (28) := ri_of (by decide +kernel) rfl
theorem wi_283_28 : ri (rt_P sc fm) 283 28 (.getfield 376) (31) := ri_of (by decide +kernel) rfl
theorem wi_283_31 : ri (rt_P sc fm) 283 31 (.iload_n 1) (32) := ri_of (by decide +kernel) rfl
theorem wi_283_32 : ri (rt_P sc fm) 283 32 (.iaload) (33) := ri_of (by decide +kernel) rfl
theorem wi_283_33 : ri (rt_P sc fm) 283 33 (.sipush 216) (36) := ri_of (by decide +kernel) rfl
theorem wi_283_36 : ri (rt_P sc fm) 283 36 (.if_icmp .ne 12) (39) := ri_of (by decide +kernel) rfl
theorem wi_283_39 : ri (rt_P sc fm) 283 39 (.aload_n 0) (40) := ri_of (by decide +kernel) rfl
theorem wi_283_4 : ri (rt_P sc fm) 283 4 (.lstore_n 2) (5) := ri_of (by decide +kernel) rfl
theorem wi_283_40 : ri (rt_P sc fm) 283 40 (.iconst 5) (41) := ri_of (by decide +kernel) rfl
theorem wi_283_41 : ri (rt_P sc fm) 283 41 (.aload_n 0) (42) := ri_of (by decide +kernel) rfl
theorem wi_283_42 : ri (rt_P sc fm) 283 42 (.invokevirtual 79) (45) := ri_of (by decide +kernel) rfl
theorem wi_283_45 : ri (rt_P sc fm) 283 45 (.invokevirtual 61) (48) := ri_of (by decide +kernel) rfl
theorem wi_283_48 : ri (rt_P sc fm) 283 48 (.iload 4) (50) := ri_of (by decide +kernel) rfl
theorem wi_283_5 : ri (rt_P sc fm) 283 5 (.aload_n 0) (6) := ri_of (by decide +kernel) rfl
theorem wi_283_50 : ri (rt_P sc fm) 283 50 (.ifCond .ge 30) (53) := ri_of (by decide +kernel) rfl
theorem wi_283_53 : ri (rt_P sc fm) 283 53 (.aload_n 0) (54) := ri_of (by decide +kernel) rfl
theorem wi_283_54 : ri (rt_P sc fm) 283 54 (.getfield 19) (57) := ri_of (by decide +kernel) rfl
theorem wi_283_57 : ri (rt_P sc fm) 283 57 (.getfield 294) (60) := ri_of (by decide +kernel) rfl
theorem wi_283_6 : ri (rt_P sc fm) 283 6 (.getfield 19) (9) := ri_of (by decide +kernel) rfl
theorem wi_283_60 : ri (rt_P sc fm) 283 60 (.aload_n 0) (61) := ri_of (by decide +kernel) rfl
theorem wi_283_61 : ri (rt_P sc fm) 283 61 (.getfield 285) (64) := ri_of (by decide +kernel) rfl
theorem wi_283_64 : ri (rt_P sc fm) 283 64 (.iaload) (65) := ri_of (by decide +kernel) rfl
theorem wi_283_65 : ri (rt_P sc fm) 283 65 (.bipush 8) (67) := ri_of (by decide +kernel) rfl
theorem wi_283_67 : ri (rt_P sc fm) 283 67 (.if_icmp .lt 13) (70) := ri_of (by decide +kernel) rfl
theorem wi_283_70 : ri (rt_P sc fm) 283 70 (.aload_n 0) (71) := ri_of (by decide +kernel) rfl
theorem wi_283_71 : ri (rt_P sc fm) 283 71 (.bipush 6) (73) := ri_of (by decide +kernel) rfl
theorem wi_283_73 : ri (rt_P sc fm) 283 73 (.aload_n 0) (74) := ri_of (by decide +kernel) rfl
theorem wi_283_74 : ri (rt_P sc fm) 283 74 (.invokevirtual 79) (77) := ri_of (by decide +kernel) rfl
theorem wi_283_77 : ri (rt_P sc fm) 283 77 (.invokevirtual 61) (80) := ri_of (by decide +kernel) rfl
theorem wi_283_80 : ri (rt_P sc fm) 283 80 (.aload_n 0) (81) := ri_of (by decide +kernel) rfl
theorem wi_283_81 : ri (rt_P sc fm) 283 81 (.getfield 19) (84) := ri_of (by decide +kernel) rfl
theorem wi_283_84 : ri (rt_P sc fm) 283 84 (.getfield 382) (87) := ri_of (by decide +kernel) rfl
theorem wi_283_87 : ri (rt_P sc fm) 283 87 (.iload_n 1) (88) := ri_of (by decide +kernel) rfl
theorem wi_283_88 : ri (rt_P sc fm) 283 88 (.iload 4) (90) := ri_of (by decide +kernel) rfl
theorem wi_283_9 : ri (rt_P sc fm) 283 9 (.aload_n 0) (10) := ri_of (by decide +kernel) rfl
theorem wi_283_90 : ri (rt_P sc fm) 283 90 (.ifCond .ge 18) (93) := ri_of (by decide +kernel) rfl
theorem wi_283_93 : ri (rt_P sc fm) 283 93 (.aload_n 0) (94) := ri_of (by decide +kernel) rfl
theorem wi_283_94 : ri (rt_P sc fm) 283 94 (.getfield 19) (97) := ri_of (by decide +kernel) rfl
theorem wi_283_97 : ri (rt_P sc fm) 283 97 (.aload_n 0) (98) := ri_of (by decide +kernel) rfl
theorem wi_283_98 : ri (rt_P sc fm) 283 98 (.getfield 285) (101) := ri_of (by decide +kernel) rfl
theorem wp_283_49 : rx_pt (rt_P sc fm) 283 49 = some (10, 7, .int) := (by decide +kernel : rt_pt 283 49 = some (10, 7, .int))
theorem wr_283 : rx_rt (rt_P sc fm) 283 = none := (by decide +kernel : rt_rt 283 = none)
/-- MarkHouse$Reader.readLocal(I)V -/
def d_283 (n : Nat) (a1 : Int32) (c : cS) : Option ((cS) ⊕ cS) :=
  Option.bind (d_259 n c) (Sum.elim (fun r1 =>
  Option.bind (d_161 n (r1.2.1 145 9) r1.1 r1.2) (fun v4 =>
  jn (fun p6 : cS =>
    jn (fun p7 : cS =>
      jn (fun p8 : Int32 × cS =>
        if ib a1 1024 then
        lt (pI p8.2 122 (ix a1) p8.1) (fun c10 =>
        lt (pI c10 145 7 ((c10.1 145 7) + 1)) (fun c12 =>
        some (.inl c12)))
        else none)
      (fun j110 =>
      if 0 ≤ v4 then
        j110 (v4, p7)
      else
        Option.bind (d_162 n (p7.1 145 9) r1.1 p7) (fun r14 =>
        j110 (r14.1, r14.2))))
    (fun j80 =>
    if 0 ≤ v4 then
      j80 p6
    else
      if ib (p6.1 145 9) 96 then
      if (p6.1 117 (ix (p6.1 145 9))) < 8 then
        j80 p6
      else
        Option.bind (d_42 n p6) (fun v16 =>
        Option.bind (d_41 n 6 v16 p6) (Sum.elim (fun r17 =>
        j80 r17)
        (fun z18 => some (.inr z18))))
      else none))
  (fun j48 =>
  if 0 ≤ v4 then
    j48 r1.2
  else
    if ib a1 1024 then
    if (r1.2.1 121 (ix a1)) = 216 then
      Option.bind (d_42 n r1.2) (fun v20 =>
      Option.bind (d_41 n 5 v20 r1.2) (Sum.elim (fun r21 =>
      j48 r21)
      (fun z22 => some (.inr z22))))
    else
      j48 r1.2
    else none)))
  (fun z2 => some (.inr z2)))
theorem sp_283 {F Lo n : Nat} {a1 : Int32} {c y : cS} {w : cW} {K : (cS) ⊕ cS → Prop} {Q : ((Option Value) ⊕ String) → List va_E → Prop} (hw : rOK fm w) (hF : 8 ≤ F) (hLo : 124 ≤ Lo)  (h : wp (d_283 n a1 c) K) (hQ : ∀ r, K (.inl r) → Q (.inl none) (hq true r y w)) (hT : ∀ r, K (.inr r) → Q (.inr "java/lang/IllegalArgumentException") (hq true r y w)) : rs (rt_P sc fm) 283 F Lo 0 [(0, .ref 145), (1, .int a1)] [] (hq true c y w) Q := by
  unfold d_283 at h
  obtain ⟨lv, elv⟩ : ∃ lv : rx_L, lv = [(0, .ref 145), (1, .int a1)] := ⟨_, rfl⟩
  rw [← elv]
  have l0 : rx_ld lv 0 = some (.ref 145) := by rw [elv]; rfl
  have l1 : rx_ld lv 1 = some (.int a1) := by rw [elv]; rfl
  refine rs_aldn wi_283_0 l0 ?_
  refine rs_V wi_283_1 wc_283_89 rfl (dq_isa tf_145_0 wa_10_259) (Nat.le_trans (by decide) hF) (ml_le wm_259 (Nat.le_trans (by decide) hLo)) rfl (sp_259 hw (Nat.le_trans (by decide : 7 ≤ 8 - 1) (Nat.sub_le_sub_right hF 1)) (ml_sub wm_259 (Nat.le_trans (by decide : 104 ≤ 124 - 20) (Nat.sub_le_sub_right hLo 20))) (wp_bind h) (fun r1 h => rs_back1 ?_) (fun z2 h => rs_up wh0_283_1 whh_283 (hT z2 (wp_inr h))))
  have h := wp_inl h
  refine dl_lstn wi_283_4 rfl (fun lv l2 t3 => ?_)
  have l0 := t3 _ _ (by decide) (by decide) (Or.inl rfl) l0
  have l1 := t3 _ _ (by decide) (by decide) (Or.inl rfl) l1
  refine rs_aldn wi_283_5 l0 ?_
  refine dq_gr wi_283_6 wf_283_19 tf_145_2 ?_
  refine rs_aldn wi_283_9 l0 ?_
  refine dq_gi wi_283_10 wf_283_285 tf_145_9 ?_
  refine rs_lldn wi_283_13 l2 ?_
  refine rs_V wi_283_14 wc_283_303 rfl (dq_isa tf_114_0 wa_2_161) (Nat.le_trans (by decide) hF) (ml_le wm_161 (Nat.le_trans (by decide) hLo)) rfl (sp_161 hw (Nat.le_trans (by decide : 0 ≤ 8 - 1) (Nat.sub_le_sub_right hF 1)) (ml_sub wm_161 (Nat.le_trans (by decide : 0 ≤ 124 - 24) (Nat.sub_le_sub_right hLo 24))) (wp_bind h) (fun v4 h => rs_back1 ?_))
  refine dl_ist wi_283_17 rfl (fun lv l4 t5 => ?_)
  have l0 := t5 _ _ (by decide) (Or.inl rfl) l0
  have l1 := t5 _ _ (by decide) (Or.inl rfl) l1
  have l2 := t5 _ _ (by decide) (Or.inr (by decide)) l2
  refine rs_ild wi_283_19 l4 ?_
  refine wp_jn (B := fun p6 : cS => ∀ lv, rx_ld lv 0 = some (.ref 145) → rx_ld lv 1 = some (.int a1) → rx_ld lv 2 = some (.long r1.1) → rx_ld lv 4 = some (.int v4) → rs (rt_P sc fm) 283 F Lo 48 lv [] (hq true p6 y w) Q) h (fun p6 h lv l0 l1 l2 l4 => ?_) (fun j48 hj48 h => ?_)
  ·
    refine rs_ild wi_283_48 l4 ?_
    refine wp_jn (B := fun p7 : cS => ∀ lv, rx_ld lv 0 = some (.ref 145) → rx_ld lv 1 = some (.int a1) → rx_ld lv 2 = some (.long r1.1) → rx_ld lv 4 = some (.int v4) → rs (rt_P sc fm) 283 F Lo 80 lv [] (hq true p7 y w) Q) h (fun p7 h lv l0 l1 l2 l4 => ?_) (fun j80 hj80 h => ?_)
    ·
      refine rs_aldn wi_283_80 l0 ?_
      refine dq_gr wi_283_81 wf_283_19 tf_145_2 ?_
      refine dq_gr wi_283_84 wf_283_382 tf_114_9 ?_
      refine rs_ildn wi_283_87 l1 ?_
      refine rs_ild wi_283_88 l4 ?_
      refine wp_jn (B := fun p8 : Int32 × cS => ∀ lv, rx_ld lv 0 = some (.ref 145) → rs (rt_P sc fm) 283 F Lo 110 lv [.int p8.1, .int a1, .ref 122] (hq true p8.2 y w) Q) h (fun p8 h lv l0 => ?_) (fun j110 hj110 h => ?_)
      ·
        obtain ⟨g9, h⟩ := wp_gd h
        obtain ⟨c10, e11, h⟩ := wp_lt h
        refine dq_iast wi_283_110 t_122 g9 e11 ?_
        refine rs_aldn wi_283_111 l0 ?_
        refine rs_pure wi_283_112 rfl ?_
        refine dq_gi wi_283_113 wf_283_49 tf_145_7 ?_
        refine rs_pure wi_283_116 rfl ?_
        refine rs_topi (v := 1) (by decide) ?_
        refine rs_pure wi_283_117 rfl ?_
        obtain ⟨c12, e13, h⟩ := wp_lt h
        refine dq_pi wi_283_118 wp_283_49 tf_145_7 rfl rfl e13 ?_
        exact rs_vret wi_283_121 wr_283 (hQ c12 h)
      refine rs_ifge (tg := 108) wi_283_90 ⟨by decide, by decide⟩ (fun q => ?_) (fun q => ?_)
      ·
        have h := wp_pos h q
        refine rs_ild wi_283_108 l4 ?_
        exact hj110 _ h _ l0
      ·
        have h := wp_neg h q
        refine rs_aldn wi_283_93 l0 ?_
        refine dq_gr wi_283_94 wf_283_19 tf_145_2 ?_
        refine rs_aldn wi_283_97 l0 ?_
        refine dq_gi wi_283_98 wf_283_285 tf_145_9 ?_
        refine rs_lldn wi_283_101 l2 ?_
        refine rs_V wi_283_102 wc_283_306 rfl (dq_isa tf_114_0 wa_2_162) (Nat.le_trans (by decide) hF) (ml_le wm_162 (Nat.le_trans (by decide) hLo)) rfl (sp_162 hw (Nat.le_trans (by decide : 0 ≤ 8 - 1) (Nat.sub_le_sub_right hF 1)) (ml_sub wm_162 (Nat.le_trans (by decide : 0 ≤ 124 - 23) (Nat.sub_le_sub_right hLo 23))) (wp_bind h) (fun r14 h => rs_back1 ?_))
        refine rs_goto (tg := 110) wi_283_105 ⟨by decide, by decide⟩ ?_
        exact hj110 _ h _ l0
    refine rs_ifge (tg := 80) wi_283_50 ⟨by decide, by decide⟩ (fun q => ?_) (fun q => ?_)
    ·
      have h := wp_pos h q
      exact hj80 _ h _ l0 l1 l2 l4
    ·
      have h := wp_neg h q
      refine rs_aldn wi_283_53 l0 ?_
      refine dq_gr wi_283_54 wf_283_19 tf_145_2 ?_
      refine dq_gr wi_283_57 wf_283_294 tf_114_3 ?_
      refine rs_aldn wi_283_60 l0 ?_
      refine dq_gi wi_283_61 wf_283_285 tf_145_9 ?_
      obtain ⟨g15, h⟩ := wp_gd h
      refine dq_iald wi_283_64 t_117 g15 ?_
      refine rs_pure wi_283_65 rfl ?_
      refine rs_topi (v := 8) (by decide) ?_
      refine rs_iclt (tg := 80) wi_283_67 ⟨by decide, by decide⟩ (fun q => ?_) (fun q => ?_)
      ·
        have h := wp_pos h q
        exact hj80 _ h _ l0 l1 l2 l4
      ·
        have h := wp_neg h q
        refine rs_aldn wi_283_70 l0 ?_
        refine rs_pure wi_283_71 rfl ?_
        refine rs_topi (v := 6) (by decide) ?_
        refine rs_aldn wi_283_73 l0 ?_
        refine rs_V wi_283_74 wc_283_79 rfl (dq_isa tf_145_0 wa_10_42) (Nat.le_trans (by decide) hF) (ml_le wm_42 (Nat.le_trans (by decide) hLo)) rfl (sp_42 hw (Nat.le_trans (by decide : 0 ≤ 8 - 1) (Nat.sub_le_sub_right hF 1)) (ml_sub wm_42 (Nat.le_trans (by decide : 0 ≤ 124 - 20) (Nat.sub_le_sub_right hLo 20))) (wp_bind h) (fun v16 h => rs_back1 ?_))
        refine rs_V wi_283_77 wc_283_61 rfl (dq_isa tf_145_0 wa_10_41) (Nat.le_trans (by decide) hF) (ml_le wm_41 (Nat.le_trans (by decide) hLo)) rfl (sp_41 hw (Nat.le_trans (by decide : 6 ≤ 8 - 1) (Nat.sub_le_sub_right hF 1)) (ml_sub wm_41 (Nat.le_trans (by decide : 82 ≤ 124 - 22) (Nat.sub_le_sub_right hLo 22))) (wp_bind h) (fun r17 h => rs_back0 ?_) (fun z18 h => rs_up wh0_283_77 whh_283 (hT z18 (wp_inr h))))
        have h := wp_inl h
        exact hj80 _ h _ l0 l1 l2 l4
  refine rs_ifge (tg := 48) wi_283_21 ⟨by decide, by decide⟩ (fun q => ?_) (fun q => ?_)
  ·
    have h := wp_pos h q
    exact hj48 _ h _ l0 l1 l2 l4
  ·
    have h := wp_neg h q
    refine rs_aldn wi_283_24 l0 ?_
    refine dq_gr wi_283_25 wf_283_19 tf_145_2 ?_
    refine dq_gr wi_283_28 wf_283_376 tf_114_8 ?_
    refine rs_ildn wi_283_31 l1 ?_
    obtain ⟨g19, h⟩ := wp_gd h
    refine dq_iald wi_283_32 t_121 g19 ?_
    refine rs_pure wi_283_33 rfl ?_
    refine rs_topi (v := 216) (by decide) ?_
    refine rs_icne (tg := 48) wi_283_36 ⟨by decide, by decide⟩ (fun q => ?_) (fun q => ?_)
    ·
      have h := wp_neg h q
      exact hj48 _ h _ l0 l1 l2 l4
    ·
      have h := wp_pos h q
      refine rs_aldn wi_283_39 l0 ?_
      refine rs_pure wi_283_40 rfl ?_
      refine rs_topi (v := 5) (by decide) ?_
      refine rs_aldn wi_283_41 l0 ?_
      refine rs_V wi_283_42 wc_283_79 rfl (dq_isa tf_145_0 wa_10_42) (Nat.le_trans (by decide) hF) (ml_le wm_42 (Nat.le_trans (by decide) hLo)) rfl (sp_42 hw (Nat.le_trans (by decide : 0 ≤ 8 - 1) (Nat.sub_le_sub_right hF 1)) (ml_sub wm_42 (Nat.le_trans (by decide : 0 ≤ 124 - 20) (Nat.sub_le_sub_right hLo 20))) (wp_bind h) (fun v20 h => rs_back1 ?_))
      refine rs_V wi_283_45 wc_283_61 rfl (dq_isa tf_145_0 wa_10_41) (Nat.le_trans (by decide) hF) (ml_le wm_41 (Nat.le_trans (by decide) hLo)) rfl (sp_41 hw (Nat.le_trans (by decide : 6 ≤ 8 - 1) (Nat.sub_le_sub_right hF 1)) (ml_sub wm_41 (Nat.le_trans (by decide : 82 ≤ 124 - 22) (Nat.sub_le_sub_right hLo 22))) (wp_bind h) (fun r21 h => rs_back0 ?_) (fun z22 h => rs_up wh0_283_45 whh_283 (hT z22 (wp_inr h))))
      have h := wp_inl h
      exact hj48 _ h _ l0 l1 l2 l4
theorem wi_356_0 : ri (rt_P sc fm) 356 0 (.lload_n 0) (1) := ri_of (by decide +kernel) rfl
theorem wi_356_1 : ri (rt_P sc fm) 356 1 (.ldc2_w 392) (4) := ri_of (by decide +kernel) rfl
theorem wi_356_11 : ri (rt_P sc fm) 356 11 (.lxor) (12) := ri_of (by decide +kernel) rfl
theorem wi_356_12 : ri (rt_P sc fm) 356 12 (.land) (13) := ri_of (by decide +kernel) rfl
theorem wi_356_13 : ri (rt_P sc fm) 356 13 (.iload_n 3) (14) := ri_of (by decide +kernel) rfl
theorem wi_356_14 : ri (rt_P sc fm) 356 14 (.i2l) (15) := ri_of (by decide +kernel) rfl
theorem wi_356_15 : ri (rt_P sc fm) 356 15 (.iconst 4) (16) := ri_of (by decide +kernel) rfl
theorem wi_356_16 : ri (rt_P sc fm) 356 16 (.iload_n 2) (17) := ri_of (by decide +kernel) rfl
theorem wi_356_17 : ri (rt_P sc fm) 356 17 (.imul) (18) := ri_of (by decide +kernel) rfl
theorem wi_356_18 : ri (rt_P sc fm) 356 18 (.lshl) (19) := ri_of (by decide +kernel) rfl
theorem wi_356_19 : ri (rt_P sc fm) 356 19 (.lor) (20) := ri_of (by decide +kernel) rfl
theorem wi_356_20 : ri (rt_P sc fm) 356 20 (.lreturn) (21) := ri_of (by decide +kernel) rfl
theorem wi_356_4 : ri (rt_P sc fm) 356 4 (.iconst 4) (5) := ri_of (by decide +kernel) rfl
theorem wi_356_5 : ri (rt_P sc fm) 356 5 (.iload_n 2) (6) := ri_of (by decide +kernel) rfl
theorem wi_356_6 : ri (rt_P sc fm) 356 6 (.imul) (7) := ri_of (by decide +kernel) rfl
theorem wi_356_7 : ri (rt_P sc fm) 356 7 (.lshl) (8) := ri_of (by decide +kernel) rfl
theorem wi_356_8 : ri (rt_P sc fm) 356 8 (.ldc2_w 394) (11) := ri_of (by decide +kernel) rfl
theorem wk_356_392 : rx_kt (rt_P sc fm) 356 392 = some (.long (15)) := (by decide +kernel : rt_kt 356 392 = some (.long (15)))
theorem wk_356_394 : rx_kt (rt_P sc fm) 356 394 = some (.long (-1)) := (by decide +kernel : rt_kt 356 394 = some (.long (-1)))
theorem wr_356 : rx_rt (rt_P sc fm) 356 = (some FieldType.long) := (by decide +kernel : rt_rt 356 = (some FieldType.long))
/-- MarkHouse.withNibble(JII)J -/
def d_356 (n : Nat) (a0 : Int64) (a2 : Int32) (a3 : Int32) : Option (Int64) :=
  some ((a0 &&& ((15 <<< (((4 * a2) : Int32).toInt64 &&& 63)) ^^^ (-1))) ||| ((a3 : Int32).toInt64 <<< (((4 * a2) : Int32).toInt64 &&& 63)))
theorem sp_356 {F Lo n : Nat} {a0 : Int64} {a2 : Int32} {a3 : Int32} {L : List va_E} {K : Int64 → Prop} {Q : ((Option Value) ⊕ String) → List va_E → Prop} (hF : 0 ≤ F) (hLo : 0 ≤ Lo)  (h : wp (d_356 n a0 a2 a3) K) (hQ : ∀ r, K r → Q (.inl (some (.long r))) L) : rs (rt_P sc fm) 356 F Lo 0 [(0, .long a0), (2, .int a2), (3, .int a3)] [] L Q := by
  unfold d_356 at h
  obtain ⟨lv, elv⟩ : ∃ lv : rx_L, lv = [(0, .long a0), (2, .int a2), (3, .int a3)] := ⟨_, rfl⟩
  rw [← elv]
  have l0 : rx_ld lv 0 = some (.long a0) := by rw [elv]; rfl
  have l2 : rx_ld lv 2 = some (.int a2) := by rw [elv]; rfl
  have l3 : rx_ld lv 3 = some (.int a3) := by rw [elv]; rfl
  refine rs_lldn wi_356_0 l0 ?_
  refine rs_ldcl wi_356_1 wk_356_392 ?_
  refine rs_pure wi_356_4 rfl ?_
  refine rs_topi (v := 4) (by decide) ?_
  refine rs_ildn wi_356_5 l2 ?_
  refine rs_pure wi_356_6 rfl ?_
  refine rs_pure wi_356_7 rfl ?_
  refine rs_ldcl wi_356_8 wk_356_394 ?_
  refine rs_pure wi_356_11 rfl ?_
  refine rs_pure wi_356_12 rfl ?_
  refine rs_ildn wi_356_13 l3 ?_
  refine rs_pure wi_356_14 rfl ?_
  refine rs_pure wi_356_15 rfl ?_
  refine rs_topi (v := 4) (by decide) ?_
  refine rs_ildn wi_356_16 l2 ?_
  refine rs_pure wi_356_17 rfl ?_
  refine rs_pure wi_356_18 rfl ?_
  refine rs_pure wi_356_19 rfl ?_
  exact rs_lret wi_356_20 wr_356 (hQ ((a0 &&& ((15 <<< (((4 * a2) : Int32).toInt64 &&& 63)) ^^^ (-1))) ||| ((a3 : Int32).toInt64 <<< (((4 * a2) : Int32).toInt64 &&& 63))) h)
theorem wsb_40 : (rt_sb 40).isSome = true := by decide +kernel
theorem wc_231_74 : rx_ct (rt_P sc fm) 231 74 = some (11, 351, 1) := (by decide +kernel : rt_ct 231 74 = some (11, 351, 1))
theorem wc_231_78 : rx_ct (rt_P sc fm) 231 78 = some (0, 230, 2) := (by decide +kernel : rt_ct 231 78 = some (0, 230, 2))
theorem wc_231_81 : rx_ct (rt_P sc fm) 231 81 = some (0, 235, 1) := (by decide +kernel : rt_ct 231 81 = some (0, 235, 1))
theorem wf_231_32 : rx_ft (rt_P sc fm) 231 32 = some (7, 6) := (by decide +kernel : rt_ft 231 32 = some (7, 6))
theorem wf_231_36 : rx_ft (rt_P sc fm) 231 36 = some (7, 7) := (by decide +kernel : rt_ft 231 36 = some (7, 7))
theorem wi_231_0 : ri (rt_P sc fm) 231 0 (.aload_n 0) (1) := ri_of (by decide +kernel) rfl
theorem wi_231_1 : ri (rt_P sc fm) 231 1 (.iload_n 1) (2) := ri_of (by decide +kernel) rfl
theorem wi_231_10 : ri (rt_P sc fm) 231 10 (.istore_n 3) (11) := ri_of (by decide +kernel) rfl
theorem wi_231_11 : ri (rt_P sc fm) 231 11 (.iload_n 3) (12) := ri_of (by decide +kernel) rfl
theorem wi_231_12 : ri (rt_P sc fm) 231 12 (.ifCond .lt 13) (15) := ri_of (by decide +kernel) rfl
theorem wi_231_15 : ri (rt_P sc fm) 231 15 (.aload_n 0) (16) := ri_of (by decide +kernel) rfl
theorem wi_231_16 : ri (rt_P sc fm) 231 16 (.getfield 32) (19) := ri_of (by decide +kernel) rfl
theorem wi_231_19 : ri (rt_P sc fm) 231 19 (.iload_n 3) (20) := ri_of (by decide +kernel) rfl
theorem wi_231_2 : ri (rt_P sc fm) 231 2 (.ldc 72) (4) := ri_of (by decide +kernel) rfl
theorem wi_231_20 : ri (rt_P sc fm) 231 20 (.baload) (21) := ri_of (by decide +kernel) rfl
theorem wi_231_21 : ri (rt_P sc fm) 231 21 (.iconst 3) (22) := ri_of (by decide +kernel) rfl
theorem wi_231_22 : ri (rt_P sc fm) 231 22 (.if_icmp .eq 7) (25) := ri_of (by decide +kernel) rfl
theorem wi_231_25 : ri (rt_P sc fm) 231 25 (.iconst (-1)) (26) := ri_of (by decide +kernel) rfl
theorem wi_231_26 : ri (rt_P sc fm) 231 26 (.goto 13) (29) := ri_of (by decide +kernel) rfl
theorem wi_231_29 : ri (rt_P sc fm) 231 29 (.aload_n 2) (30) := ri_of (by decide +kernel) rfl
theorem wi_231_30 : ri (rt_P sc fm) 231 30 (.aload_n 0) (31) := ri_of (by decide +kernel) rfl
theorem wi_231_31 : ri (rt_P sc fm) 231 31 (.getfield 36) (34) := ri_of (by decide +kernel) rfl
theorem wi_231_34 : ri (rt_P sc fm) 231 34 (.iload_n 3) (35) := ri_of (by decide +kernel) rfl
theorem wi_231_35 : ri (rt_P sc fm) 231 35 (.laload) (36) := ri_of (by decide +kernel) rfl
theorem wi_231_36 : ri (rt_P sc fm) 231 36 (.invokevirtual 81) (39) := ri_of (by decide +kernel) rfl
theorem wi_231_39 : ri (rt_P sc fm) 231 39 (.ireturn) (40) := ri_of (by decide +kernel) rfl
theorem wi_231_4 : ri (rt_P sc fm) 231 4 (.invokestatic 74) (7) := ri_of (by decide +kernel) rfl
theorem wi_231_7 : ri (rt_P sc fm) 231 7 (.invokevirtual 78) (10) := ri_of (by decide +kernel) rfl
theorem wk_231_72 : rx_kt (rt_P sc fm) 231 72 = some (.ref (rx_K 40)) := (by decide +kernel : rt_kt 231 72 = some (.ref (rx_K 40)))
theorem wr_231 : rx_rt (rt_P sc fm) 231 = (some FieldType.int) := (by decide +kernel : rt_rt 231 = (some FieldType.int))
/-- MarkHouse$Marks.elementOf(ILMarkHouse$Order;)I -/
def d_231 (n : Nat) (a1 : Int32) (o2 : Nat) (c : cS) : Option (Int32) :=
  Option.bind (d_351 n 40) (fun v1 =>
  Option.bind (d_230 n a1 v1 c) (fun v2 =>
  jn (fun p4 : Int32 =>
    some p4)
  (fun j39 =>
  jn (fun p5 : Unit =>
    j39 (-1))
  (fun j25 =>
  if v2 < 0 then
    j25 ()
  else
    if ib v2 16384 then
    if (c.1 140 (ix v2)) = 3 then
      if ib v2 16384 then
      Option.bind (d_235 n o2 (c.2 141 (ix v2)) c) (fun v8 =>
      j39 v8)
      else none
    else
      j25 ()
    else none))))
theorem sp_231 {F Lo n : Nat} {a1 : Int32} {o2 : Nat} {c y : cS} {w : cW} {K : Int32 → Prop} {Q : ((Option Value) ⊕ String) → List va_E → Prop} (hw : rOK fm w) (hF : 5 ≤ F) (hLo : 108 ≤ Lo) (ho2 : o2 < 4) (h : wp (d_231 n a1 o2 c) K) (hQ : ∀ r, K r → Q (.inl (some (.int r))) (hq true c y w)) : rs (rt_P sc fm) 231 F Lo 0 [(0, .ref 133), (1, .int a1), (2, .ref (oA o2))] [] (hq true c y w) Q := by
  unfold d_231 at h
  obtain ⟨lv, elv⟩ : ∃ lv : rx_L, lv = [(0, .ref 133), (1, .int a1), (2, .ref (oA o2))] := ⟨_, rfl⟩
  rw [← elv]
  have l0 : rx_ld lv 0 = some (.ref 133) := by rw [elv]; rfl
  have l1 : rx_ld lv 1 = some (.int a1) := by rw [elv]; rfl
  have l2 : rx_ld lv 2 = some (.ref (oA o2)) := by rw [elv]; rfl
  refine rs_aldn wi_231_0 l0 ?_
  refine rs_ildn wi_231_1 l1 ?_
  refine rs_ldcS wi_231_2 wk_231_72 ?_
  refine rs_SN wi_231_4 wc_231_74 rfl (Nat.le_trans (by decide) hF) (ml_le wm_351 (Nat.le_trans (by decide) hLo)) rfl (sp_351 hq_len hw.2.2.2 (Nat.le_trans (by decide : 4 ≤ 5 - 1) (Nat.sub_le_sub_right hF 1)) (ml_sub wm_351 (Nat.le_trans (by decide : 85 ≤ 108 - 23) (Nat.sub_le_sub_right hLo 23))) wsb_40 (wp_bind h) (fun v1 h => rs_back1 ?_))
  refine rs_V wi_231_7 wc_231_78 rfl (dq_isa tf_133_0 wa_7_230) (Nat.le_trans (by decide) hF) (ml_le wm_230 (Nat.le_trans (by decide) hLo)) rfl (sp_230 hw (Nat.le_trans (by decide : 0 ≤ 5 - 1) (Nat.sub_le_sub_right hF 1)) (ml_sub wm_230 (Nat.le_trans (by decide : 0 ≤ 108 - 24) (Nat.sub_le_sub_right hLo 24))) (wp_bind h) (fun v2 h => rs_back1 ?_))
  refine dl_istn wi_231_10 rfl (fun lv l3 t3 => ?_)
  have l0 := t3 _ _ (by decide) (Or.inl rfl) l0
  have l2 := t3 _ _ (by decide) (Or.inl rfl) l2
  refine rs_ildn wi_231_11 l3 ?_
  refine wp_jn (B := fun p4 : Int32 => ∀ lv, rs (rt_P sc fm) 231 F Lo 39 lv [.int p4] (hq true c y w) Q) h (fun p4 h lv => ?_) (fun j39 hj39 h => ?_)
  ·
    exact rs_iret wi_231_39 wr_231 rfl (hQ p4 h)
  refine wp_jn (B := fun p5 : Unit => ∀ lv, rs (rt_P sc fm) 231 F Lo 25 lv [] (hq true c y w) Q) h (fun p5 h lv => ?_) (fun j25 hj25 h => ?_)
  ·
    refine rs_pure wi_231_25 rfl ?_
    refine rs_topi (v := (-1)) (by decide) ?_
    refine rs_goto (tg := 39) wi_231_26 ⟨by decide, by decide⟩ ?_
    exact hj39 _ h _
  refine rs_iflt (tg := 25) wi_231_12 ⟨by decide, by decide⟩ (fun q => ?_) (fun q => ?_)
  ·
    have h := wp_pos h q
    exact hj25 _ h _
  ·
    have h := wp_neg h q
    refine rs_aldn wi_231_15 l0 ?_
    refine dq_gr wi_231_16 wf_231_32 tf_133_6 ?_
    refine rs_ildn wi_231_19 l3 ?_
    obtain ⟨g6, h⟩ := wp_gd h
    refine dq_bald wi_231_20 t_140 g6 ?_
    refine rs_pure wi_231_21 rfl ?_
    refine rs_topi (v := 3) (by decide) ?_
    refine rs_iceq (tg := 29) wi_231_22 ⟨by decide, by decide⟩ (fun q => ?_) (fun q => ?_)
    ·
      have h := wp_pos h q
      refine rs_aldn wi_231_29 l2 ?_
      refine rs_aldn wi_231_30 l0 ?_
      refine dq_gr wi_231_31 wf_231_36 tf_133_7 ?_
      refine rs_ildn wi_231_34 l3 ?_
      obtain ⟨g7, h⟩ := wp_gd h
      refine dq_lald wi_231_35 t_141 g7 ?_
      refine rs_V wi_231_36 wc_231_81 rfl (dq_isa (fO_0 ho2) wa_8_235) (Nat.le_trans (by decide) hF) (ml_le wm_235 (Nat.le_trans (by decide) hLo)) rfl (sp_235 hw (Nat.le_trans (by decide : 0 ≤ 5 - 1) (Nat.sub_le_sub_right hF 1)) (ml_sub wm_235 (Nat.le_trans (by decide : 0 ≤ 108 - 23) (Nat.sub_le_sub_right hLo 23))) ho2 (wp_bind h) (fun v8 h => rs_back1 ?_))
      exact hj39 _ h _
    ·
      have h := wp_neg h q
      exact hj25 _ h _
theorem wa_7_231 : rz_cn 7 (rx_yn (rt_P sc fm) 231).cls = true := (by decide +kernel : rz_cn 7 (rt_yn 231).cls = true)
theorem wc_282_407 : rx_ct (rt_P sc fm) 282 407 = some (11, 356, 3) := (by decide +kernel : rt_ct 282 407 = some (11, 356, 3))
theorem wc_282_411 : rx_ct (rt_P sc fm) 282 411 = some (0, 231, 2) := (by decide +kernel : rt_ct 282 411 = some (0, 231, 2))
theorem wf_282_129 : rx_ft (rt_P sc fm) 282 129 = some (9, 2) := (by decide +kernel : rt_ft 282 129 = some (9, 2))
theorem wf_282_136 : rx_ft (rt_P sc fm) 282 136 = some (9, 1) := (by decide +kernel : rt_ft 282 136 = some (9, 1))
theorem wf_282_15 : rx_ft (rt_P sc fm) 282 15 = some (10, 1) := (by decide +kernel : rt_ft 282 15 = some (10, 1))
theorem wf_282_222 : rx_ft (rt_P sc fm) 282 222 = some (7, 8) := (by decide +kernel : rt_ft 282 222 = some (7, 8))
theorem wf_282_225 : rx_ft (rt_P sc fm) 282 225 = some (7, 10) := (by decide +kernel : rt_ft 282 225 = some (7, 10))
theorem wf_282_228 : rx_ft (rt_P sc fm) 282 228 = some (7, 1) := (by decide +kernel : rt_ft 282 228 = some (7, 1))
theorem wf_282_23 : rx_ft (rt_P sc fm) 282 23 = some (10, 3) := (by decide +kernel : rt_ft 282 23 = some (10, 3))
theorem wf_282_234 : rx_ft (rt_P sc fm) 282 234 = some (7, 4) := (by decide +kernel : rt_ft 282 234 = some (7, 4))
theorem wf_282_404 : rx_ft (rt_P sc fm) 282 404 = some (8, 3) := (by decide +kernel : rt_ft 282 404 = some (8, 3))
theorem wi_282_0 : ri (rt_P sc fm) 282 0 (.lconst 0) (1) := ri_of (by decide +kernel) rfl
theorem wi_282_1 : ri (rt_P sc fm) 282 1 (.lstore_n 2) (2) := ri_of (by decide +kernel) rfl
theorem wi_282_102 : ri (rt_P sc fm) 282 102 (.iload 6) (104) := ri_of (by decide +kernel) rfl
theorem wi_282_104 : ri (rt_P sc fm) 282 104 (.aaload) (105) := ri_of (by decide +kernel) rfl
theorem wi_282_105 : ri (rt_P sc fm) 282 105 (.invokevirtual 411) (108) := ri_of (by decide +kernel) rfl
theorem wi_282_108 : ri (rt_P sc fm) 282 108 (.invokestatic 407) (111) := ri_of (by decide +kernel) rfl
theorem wi_282_11 : ri (rt_P sc fm) 282 11 (.getfield 129) (14) := ri_of (by decide +kernel) rfl
theorem wi_282_111 : ri (rt_P sc fm) 282 111 (.lstore_n 2) (112) := ri_of (by decide +kernel) rfl
theorem wi_282_112 : ri (rt_P sc fm) 282 112 (.aload_n 0) (113) := ri_of (by decide +kernel) rfl
theorem wi_282_113 : ri (rt_P sc fm) 282 113 (.getfield 23) (116) := ri_of (by decide +kernel) rfl
theorem wi_282_116 : ri (rt_P sc fm) 282 116 (.getfield 234) (119) := ri_of (by decide +kernel) rfl
theorem wi_282_119 : ri (rt_P sc fm) 282 119 (.iload 4) (121) := ri_of (by decide +kernel) rfl
theorem wi_282_121 : ri (rt_P sc fm) 282 121 (.iaload) (122) := ri_of (by decide +kernel) rfl
theorem wi_282_122 : ri (rt_P sc fm) 282 122 (.istore 4) (124) := ri_of (by decide +kernel) rfl
theorem wi_282_124 : ri (rt_P sc fm) 282 124 (.iinc 5 1) (127) := ri_of (by decide +kernel) rfl
theorem wi_282_127 : ri (rt_P sc fm) 282 127 (.goto (-70)) (130) := ri_of (by decide +kernel) rfl
theorem wi_282_130 : ri (rt_P sc fm) 282 130 (.lload_n 2) (131) := ri_of (by decide +kernel) rfl
theorem wi_282_131 : ri (rt_P sc fm) 282 131 (.l2i) (132) := ri_of (by decide +kernel) rfl
theorem wi_282_132 : ri (rt_P sc fm) 282 132 (.ireturn) (133) := ri_of (by decide +kernel) rfl
theorem wi_282_14 : ri (rt_P sc fm) 282 14 (.if_icmp .ge 29) (17) := ri_of (by decide +kernel) rfl
theorem wi_282_17 : ri (rt_P sc fm) 282 17 (.lload_n 2) (18) := ri_of (by decide +kernel) rfl
theorem wi_282_18 : ri (rt_P sc fm) 282 18 (.iload 4) (20) := ri_of (by decide +kernel) rfl
theorem wi_282_2 : ri (rt_P sc fm) 282 2 (.iconst 0) (3) := ri_of (by decide +kernel) rfl
theorem wi_282_20 : ri (rt_P sc fm) 282 20 (.aload_n 0) (21) := ri_of (by decide +kernel) rfl
theorem wi_282_21 : ri (rt_P sc fm) 282 21 (.getfield 15) (24) := ri_of (by decide +kernel) rfl
theorem wi_282_24 : ri (rt_P sc fm) 282 24 (.getfield 136) (27) := ri_of (by decide +kernel) rfl
theorem wi_282_27 : ri (rt_P sc fm) 282 27 (.iload 4) (29) := ri_of (by decide +kernel) rfl
theorem wi_282_29 : ri (rt_P sc fm) 282 29 (.aaload) (30) := ri_of (by decide +kernel) rfl
theorem wi_282_3 : ri (rt_P sc fm) 282 3 (.istore 4) (5) := ri_of (by decide +kernel) rfl
theorem wi_282_30 : ri (rt_P sc fm) 282 30 (.getfield 404) (33) := ri_of (by decide +kernel) rfl
theorem wi_282_33 : ri (rt_P sc fm) 282 33 (.invokestatic 407) (36) := ri_of (by decide +kernel) rfl
theorem wi_282_36 : ri (rt_P sc fm) 282 36 (.lstore_n 2) (37) := ri_of (by decide +kernel) rfl
theorem wi_282_37 : ri (rt_P sc fm) 282 37 (.iinc 4 1) (40) := ri_of (by decide +kernel) rfl
theorem wi_282_40 : ri (rt_P sc fm) 282 40 (.goto (-35)) (43) := ri_of (by decide +kernel) rfl
theorem wi_282_43 : ri (rt_P sc fm) 282 43 (.aload_n 0) (44) := ri_of (by decide +kernel) rfl
theorem wi_282_44 : ri (rt_P sc fm) 282 44 (.getfield 23) (47) := ri_of (by decide +kernel) rfl
theorem wi_282_47 : ri (rt_P sc fm) 282 47 (.getfield 222) (50) := ri_of (by decide +kernel) rfl
theorem wi_282_5 : ri (rt_P sc fm) 282 5 (.iload 4) (7) := ri_of (by decide +kernel) rfl
theorem wi_282_50 : ri (rt_P sc fm) 282 50 (.iload_n 1) (51) := ri_of (by decide +kernel) rfl
theorem wi_282_51 : ri (rt_P sc fm) 282 51 (.iaload) (52) := ri_of (by decide +kernel) rfl
theorem wi_282_52 : ri (rt_P sc fm) 282 52 (.istore 4) (54) := ri_of (by decide +kernel) rfl
theorem wi_282_54 : ri (rt_P sc fm) 282 54 (.iconst 0) (55) := ri_of (by decide +kernel) rfl
theorem wi_282_55 : ri (rt_P sc fm) 282 55 (.istore 5) (57) := ri_of (by decide +kernel) rfl
theorem wi_282_57 : ri (rt_P sc fm) 282 57 (.iload 5) (59) := ri_of (by decide +kernel) rfl
theorem wi_282_59 : ri (rt_P sc fm) 282 59 (.aload_n 0) (60) := ri_of (by decide +kernel) rfl
theorem wi_282_60 : ri (rt_P sc fm) 282 60 (.getfield 23) (63) := ri_of (by decide +kernel) rfl
theorem wi_282_63 : ri (rt_P sc fm) 282 63 (.getfield 225) (66) := ri_of (by decide +kernel) rfl
theorem wi_282_66 : ri (rt_P sc fm) 282 66 (.iload_n 1) (67) := ri_of (by decide +kernel) rfl
theorem wi_282_67 : ri (rt_P sc fm) 282 67 (.iaload) (68) := ri_of (by decide +kernel) rfl
theorem wi_282_68 : ri (rt_P sc fm) 282 68 (.if_icmp .ge 62) (71) := ri_of (by decide +kernel) rfl
theorem wi_282_7 : ri (rt_P sc fm) 282 7 (.aload_n 0) (8) := ri_of (by decide +kernel) rfl
theorem wi_282_71 : ri (rt_P sc fm) 282 71 (.aload_n 0) (72) := ri_of (by decide +kernel) rfl
theorem wi_282_72 : ri (rt_P sc fm) 282 72 (.getfield 23) (75) := ri_of (by decide +kernel) rfl
theorem wi_282_75 : ri (rt_P sc fm) 282 75 (.getfield 228) (78) := ri_of (by decide +kernel) rfl
theorem wi_282_78 : ri (rt_P sc fm) 282 78 (.iload 4) (80) := ri_of (by decide +kernel) rfl
theorem wi_282_8 : ri (rt_P sc fm) 282 8 (.getfield 15) (11) := ri_of (by decide +kernel) rfl
theorem wi_282_80 : ri (rt_P sc fm) 282 80 (.iaload) (81) := ri_of (by decide +kernel) rfl
theorem wi_282_81 : ri (rt_P sc fm) 282 81 (.bipush 100) (83) := ri_of (by decide +kernel) rfl
theorem wi_282_83 : ri (rt_P sc fm) 282 83 (.isub) (84) := ri_of (by decide +kernel) rfl
theorem wi_282_84 : ri (rt_P sc fm) 282 84 (.istore 6) (86) := ri_of (by decide +kernel) rfl
theorem wi_282_86 : ri (rt_P sc fm) 282 86 (.lload_n 2) (87) := ri_of (by decide +kernel) rfl
theorem wi_282_87 : ri (rt_P sc fm) 282 87 (.iload 6) (89) := ri_of (by decide +kernel) rfl
theorem wi_282_89 : ri (rt_P sc fm) 282 89 (.aload_n 0) (90) := ri_of (by decide +kernel) rfl
theorem wi_282_90 : ri (rt_P sc fm) 282 90 (.getfield 23) (93) := ri_of (by decide +kernel) rfl
theorem wi_282_93 : ri (rt_P sc fm) 282 93 (.iload 4) (95) := ri_of (by decide +kernel) rfl
theorem wi_282_95 : ri (rt_P sc fm) 282 95 (.aload_n 0) (96) := ri_of (by decide +kernel) rfl
theorem wi_282_96 : ri (rt_P sc fm) 282 96 (.getfield 15) (99) := ri_of (by decide +kernel) rfl
theorem wi_282_99 : ri (rt_P sc fm) 282 99 (.getfield 136) (102) := ri_of (by decide +kernel) rfl
theorem wm_231 : rx_ml (rt_P sc fm) 231 = 4 := (by decide +kernel : rt_ml 231 = 4)
theorem wm_356 : rx_ml (rt_P sc fm) 356 = 4 := (by decide +kernel : rt_ml 356 = 4)
theorem wr_282 : rx_rt (rt_P sc fm) 282 = (some FieldType.int) := (by decide +kernel : rt_rt 282 = (some FieldType.int))
/-- MarkHouse$Reader.elementsTold(I)I -/
def d_282 (n : Nat) (a1 : Int32) (c : cS) : Option (Int32) :=
  Option.bind (whl (R := (Int64)) (fun s3 : Int64 × Int32 =>
    if (c.1 7 2) ≤ s3.2 then
      some (.inr s3.1)
    else
      if ib s3.2 4 then
      Option.bind (d_356 n s3.1 s3.2 (c.1 (oA (ix s3.2)) 3)) (fun v5 =>
      lt (s3.2 + 1 : Int32) (fun v8 =>
      some (.inl (v5, v8))))
      else none) n (0, 0))
  (fun x10 : Int64 =>
    if ib a1 2242 then
    lt ((c.1 142 (ix a1)) : Int32) (fun v13 =>
    Option.bind (whl (R := (Int64)) (fun s16 : Int64 × Int32 × Int32 =>
      if ib a1 2242 then
      if (c.1 144 (ix a1)) ≤ s16.2.2 then
        some (.inr s16.1)
      else
        if ib s16.2.1 4096 then
        lt (((c.1 135 (ix s16.2.1)) - 100) : Int32) (fun v20 =>
        if ib v20 4 then
        Option.bind (d_231 n s16.2.1 (ix v20) c) (fun v23 =>
        Option.bind (d_356 n s16.1 v20 v23) (fun v24 =>
        if ib s16.2.1 4096 then
        lt ((c.1 138 (ix s16.2.1)) : Int32) (fun v28 =>
        lt (s16.2.2 + 1 : Int32) (fun v31 =>
        some (.inl (v24, v28, v31))))
        else none))
        else none)
        else none
      else none) n (x10, v13, 0))
    (fun x33 : Int64 =>
      some ((x33 : Int64).toInt32)))
    else none)
theorem sp_282 {F Lo n : Nat} {a1 : Int32} {c y : cS} {w : cW} {K : Int32 → Prop} {Q : ((Option Value) ⊕ String) → List va_E → Prop} (hw : rOK fm w) (hF : 6 ≤ F) (hLo : 131 ≤ Lo)  (h : wp (d_282 n a1 c) K) (hQ : ∀ r, K r → Q (.inl (some (.int r))) (hq true c y w)) : rs (rt_P sc fm) 282 F Lo 0 [(0, .ref 145), (1, .int a1)] [] (hq true c y w) Q := by
  unfold d_282 at h
  obtain ⟨lv, elv⟩ : ∃ lv : rx_L, lv = [(0, .ref 145), (1, .int a1)] := ⟨_, rfl⟩
  rw [← elv]
  have l0 : rx_ld lv 0 = some (.ref 145) := by rw [elv]; rfl
  have l1 : rx_ld lv 1 = some (.int a1) := by rw [elv]; rfl
  refine rs_pure wi_282_0 rfl ?_
  refine rs_topl (v := 0) (by decide) ?_
  refine dl_lstn wi_282_1 rfl (fun lv l2 t1 => ?_)
  have l0 := t1 _ _ (by decide) (by decide) (Or.inl rfl) l0
  have l1 := t1 _ _ (by decide) (by decide) (Or.inl rfl) l1
  refine rs_pure wi_282_2 rfl ?_
  refine rs_topi (v := 0) (by decide) ?_
  refine dl_ist wi_282_3 rfl (fun lv l4 t2 => ?_)
  have l0 := t2 _ _ (by decide) (Or.inl rfl) l0
  have l1 := t2 _ _ (by decide) (Or.inl rfl) l1
  have l2 := t2 _ _ (by decide) (Or.inr (by decide)) l2
  refine whl_ex (A := fun s3 : Int64 × Int32 => ∀ lv, rx_ld lv 0 = some (.ref 145) → rx_ld lv 1 = some (.int a1) → rx_ld lv 2 = some (.long s3.1) → rx_ld lv 4 = some (.int s3.2) → rs (rt_P sc fm) 282 F Lo 5 lv [] (hq true c y w) Q) (B := (fun x10 : Int64 => ∀ lv, rx_ld lv 0 = some (.ref 145) → rx_ld lv 1 = some (.int a1) → rx_ld lv 2 = some (.long x10) → rs (rt_P sc fm) 282 F Lo 43 lv [] (hq true c y w) Q)) ?_ ?_ _ _ (wp_bind h) _ l0 l1 l2 l4
  · intro s3 h lv l0 l1 l2 l4
    refine rs_ild wi_282_5 l4 ?_
    refine rs_aldn wi_282_7 l0 ?_
    refine dq_gr wi_282_8 wf_282_15 tf_145_1 ?_
    refine dq_gi wi_282_11 wf_282_129 tf_7_2 ?_
    refine rs_icge (tg := 43) wi_282_14 ⟨by decide, by decide⟩ (fun q => ?_) (fun q => ?_)
    ·
      have h := wp_pos h q
      exact h _ l0 l1 l2
    ·
      have h := wp_neg h q
      refine rs_lldn wi_282_17 l2 ?_
      refine rs_ild wi_282_18 l4 ?_
      refine rs_aldn wi_282_20 l0 ?_
      refine dq_gr wi_282_21 wf_282_15 tf_145_1 ?_
      refine dq_gr wi_282_24 wf_282_136 tf_7_1 ?_
      refine rs_ild wi_282_27 l4 ?_
      obtain ⟨g4, h⟩ := wp_gd h
      refine dq_aald wi_282_29 (by decide) t_8 g4 (hw.1 _ (ib_lt g4)) ?_
      refine dq_gi wi_282_30 wf_282_404 (fO_3 (ib_lt g4)) ?_
      refine rs_SN wi_282_33 wc_282_407 rfl (Nat.le_trans (by decide) hF) (ml_le wm_356 (Nat.le_trans (by decide) hLo)) rfl (sp_356 (Nat.le_trans (by decide : 0 ≤ 6 - 1) (Nat.sub_le_sub_right hF 1)) (ml_sub wm_356 (Nat.le_trans (by decide : 0 ≤ 131 - 23) (Nat.sub_le_sub_right hLo 23))) (wp_bind h) (fun v5 h => rs_back1 ?_))
      refine dl_lstn wi_282_36 rfl (fun lv l2 t6 => ?_)
      have l0 := t6 _ _ (by decide) (by decide) (Or.inl rfl) l0
      have l1 := t6 _ _ (by decide) (by decide) (Or.inl rfl) l1
      have l4 := t6 _ _ (by decide) (by decide) (Or.inl rfl) l4
      obtain ⟨v8, e9, h⟩ := wp_lt h
      refine dl_inc wi_282_37 l4 rfl e9 (fun lv l4 t7 => ?_)
      have l0 := t7 _ _ (by decide) (Or.inl rfl) l0
      have l1 := t7 _ _ (by decide) (Or.inl rfl) l1
      have l2 := t7 _ _ (by decide) (Or.inr (by decide)) l2
      refine rs_goto (tg := 5) wi_282_40 ⟨by decide, by decide⟩ ?_
      exact h _ l0 l1 l2 l4
  ·
    intro x10 h lv l0 l1 l2
    refine rs_aldn wi_282_43 l0 ?_
    refine dq_gr wi_282_44 wf_282_23 tf_145_3 ?_
    refine dq_gr wi_282_47 wf_282_222 tf_133_8 ?_
    refine rs_ildn wi_282_50 l1 ?_
    obtain ⟨g11, h⟩ := wp_gd h
    refine dq_iald wi_282_51 t_142 g11 ?_
    obtain ⟨v13, e14, h⟩ := wp_lt h
    refine rs_topi e14 ?_
    refine dl_ist wi_282_52 rfl (fun lv l4 t12 => ?_)
    have l0 := t12 _ _ (by decide) (Or.inl rfl) l0
    have l1 := t12 _ _ (by decide) (Or.inl rfl) l1
    have l2 := t12 _ _ (by decide) (Or.inr (by decide)) l2
    refine rs_pure wi_282_54 rfl ?_
    refine rs_topi (v := 0) (by decide) ?_
    refine dl_ist wi_282_55 rfl (fun lv l5 t15 => ?_)
    have l0 := t15 _ _ (by decide) (Or.inl rfl) l0
    have l1 := t15 _ _ (by decide) (Or.inl rfl) l1
    have l2 := t15 _ _ (by decide) (Or.inr (by decide)) l2
    have l4 := t15 _ _ (by decide) (Or.inl rfl) l4
    refine whl_ex (A := fun s16 : Int64 × Int32 × Int32 => ∀ lv, rx_ld lv 0 = some (.ref 145) → rx_ld lv 1 = some (.int a1) → rx_ld lv 2 = some (.long s16.1) → rx_ld lv 4 = some (.int s16.2.1) → rx_ld lv 5 = some (.int s16.2.2) → rs (rt_P sc fm) 282 F Lo 57 lv [] (hq true c y w) Q) (B := (fun x33 : Int64 => ∀ lv, rx_ld lv 2 = some (.long x33) → rs (rt_P sc fm) 282 F Lo 130 lv [] (hq true c y w) Q)) ?_ ?_ _ _ (wp_bind h) _ l0 l1 l2 l4 l5
    · intro s16 h lv l0 l1 l2 l4 l5
      refine rs_ild wi_282_57 l5 ?_
      refine rs_aldn wi_282_59 l0 ?_
      refine dq_gr wi_282_60 wf_282_23 tf_145_3 ?_
      refine dq_gr wi_282_63 wf_282_225 tf_133_10 ?_
      refine rs_ildn wi_282_66 l1 ?_
      obtain ⟨g17, h⟩ := wp_gd h
      refine dq_iald wi_282_67 t_144 g17 ?_
      refine rs_icge (tg := 130) wi_282_68 ⟨by decide, by decide⟩ (fun q => ?_) (fun q => ?_)
      ·
        have h := wp_pos h q
        exact h _ l2
      ·
        have h := wp_neg h q
        refine rs_aldn wi_282_71 l0 ?_
        refine dq_gr wi_282_72 wf_282_23 tf_145_3 ?_
        refine dq_gr wi_282_75 wf_282_228 tf_133_1 ?_
        refine rs_ild wi_282_78 l4 ?_
        obtain ⟨g18, h⟩ := wp_gd h
        refine dq_iald wi_282_80 t_135 g18 ?_
        refine rs_pure wi_282_81 rfl ?_
        refine rs_topi (v := 100) (by decide) ?_
        refine rs_pure wi_282_83 rfl ?_
        obtain ⟨v20, e21, h⟩ := wp_lt h
        refine rs_topi e21 ?_
        refine dl_ist wi_282_84 rfl (fun lv l6 t19 => ?_)
        have l0 := t19 _ _ (by decide) (Or.inl rfl) l0
        have l1 := t19 _ _ (by decide) (Or.inl rfl) l1
        have l2 := t19 _ _ (by decide) (Or.inr (by decide)) l2
        have l4 := t19 _ _ (by decide) (Or.inl rfl) l4
        have l5 := t19 _ _ (by decide) (Or.inl rfl) l5
        refine rs_lldn wi_282_86 l2 ?_
        refine rs_ild wi_282_87 l6 ?_
        refine rs_aldn wi_282_89 l0 ?_
        refine dq_gr wi_282_90 wf_282_23 tf_145_3 ?_
        refine rs_ild wi_282_93 l4 ?_
        refine rs_aldn wi_282_95 l0 ?_
        refine dq_gr wi_282_96 wf_282_15 tf_145_1 ?_
        refine dq_gr wi_282_99 wf_282_136 tf_7_1 ?_
        refine rs_ild wi_282_102 l6 ?_
        obtain ⟨g22, h⟩ := wp_gd h
        refine dq_aald wi_282_104 (by decide) t_8 g22 (hw.1 _ (ib_lt g22)) ?_
        refine rs_V wi_282_105 wc_282_411 rfl (dq_isa tf_133_0 wa_7_231) (Nat.le_trans (by decide) hF) (ml_le wm_231 (Nat.le_trans (by decide) hLo)) rfl (sp_231 hw (Nat.le_trans (by decide : 5 ≤ 6 - 1) (Nat.sub_le_sub_right hF 1)) (ml_sub wm_231 (Nat.le_trans (by decide : 108 ≤ 131 - 23) (Nat.sub_le_sub_right hLo 23))) (ib_lt g22) (wp_bind h) (fun v23 h => rs_back1 ?_))
        refine rs_SN wi_282_108 wc_282_407 rfl (Nat.le_trans (by decide) hF) (ml_le wm_356 (Nat.le_trans (by decide) hLo)) rfl (sp_356 (Nat.le_trans (by decide : 0 ≤ 6 - 1) (Nat.sub_le_sub_right hF 1)) (ml_sub wm_356 (Nat.le_trans (by decide : 0 ≤ 131 - 23) (Nat.sub_le_sub_right hLo 23))) (wp_bind h) (fun v24 h => rs_back1 ?_))
        refine dl_lstn wi_282_111 rfl (fun lv l2 t25 => ?_)
        have l0 := t25 _ _ (by decide) (by decide) (Or.inl rfl) l0
        have l1 := t25 _ _ (by decide) (by decide) (Or.inl rfl) l1
        have l4 := t25 _ _ (by decide) (by decide) (Or.inl rfl) l4
        have l5 := t25 _ _ (by decide) (by decide) (Or.inl rfl) l5
        refine rs_aldn wi_282_112 l0 ?_
        refine dq_gr wi_282_113 wf_282_23 tf_145_3 ?_
        refine dq_gr wi_282_116 wf_282_234 tf_133_4 ?_
        refine rs_ild wi_282_119 l4 ?_
        obtain ⟨g26, h⟩ := wp_gd h
        refine dq_iald wi_282_121 t_138 g26 ?_
        obtain ⟨v28, e29, h⟩ := wp_lt h
        refine rs_topi e29 ?_
        refine dl_ist wi_282_122 rfl (fun lv l4 t27 => ?_)
        have l0 := t27 _ _ (by decide) (Or.inl rfl) l0
        have l1 := t27 _ _ (by decide) (Or.inl rfl) l1
        have l2 := t27 _ _ (by decide) (Or.inr (by decide)) l2
        have l5 := t27 _ _ (by decide) (Or.inl rfl) l5
        obtain ⟨v31, e32, h⟩ := wp_lt h
        refine dl_inc wi_282_124 l5 rfl e32 (fun lv l5 t30 => ?_)
        have l0 := t30 _ _ (by decide) (Or.inl rfl) l0
        have l1 := t30 _ _ (by decide) (Or.inl rfl) l1
        have l2 := t30 _ _ (by decide) (Or.inr (by decide)) l2
        have l4 := t30 _ _ (by decide) (Or.inl rfl) l4
        refine rs_goto (tg := 57) wi_282_127 ⟨by decide, by decide⟩ ?_
        exact h _ l0 l1 l2 l4 l5
    ·
      intro x33 h lv l2
      refine rs_lldn wi_282_130 l2 ?_
      refine rs_pure wi_282_131 rfl ?_
      exact rs_iret wi_282_132 wr_282 rfl (hQ ((x33 : Int64).toInt32) h)
theorem t_132 : ta true 132 0 1024 := ⟨rfl, by decide, by decide⟩
theorem tf_114_19 : fo true 114 2 19 (.ref 132) := ⟨_, rfl, rfl, by decide, by decide⟩
theorem wa_10_282 : rz_cn 10 (rx_yn (rt_P sc fm) 282).cls = true := (by decide +kernel : rz_cn 10 (rt_yn 282).cls = true)
theorem wa_10_283 : rz_cn 10 (rx_yn (rt_P sc fm) 283).cls = true := (by decide +kernel : rz_cn 10 (rt_yn 283).cls = true)
theorem wa_10_284 : rz_cn 10 (rx_yn (rt_P sc fm) 284).cls = true := (by decide +kernel : rz_cn 10 (rt_yn 284).cls = true)
theorem wa_10_285 : rz_cn 10 (rx_yn (rt_P sc fm) 285).cls = true := (by decide +kernel : rz_cn 10 (rt_yn 285).cls = true)
theorem wc_281_114 : rx_ct (rt_P sc fm) 281 114 = some (0, 257, 1) := (by decide +kernel : rt_ct 281 114 = some (0, 257, 1))
theorem wc_281_207 : rx_ct (rt_P sc fm) 281 207 = some (0, 278, 1) := (by decide +kernel : rt_ct 281 207 = some (0, 278, 1))
theorem wc_281_269 : rx_ct (rt_P sc fm) 281 269 = some (0, 273, 2) := (by decide +kernel : rt_ct 281 269 = some (0, 273, 2))
theorem wc_281_386 : rx_ct (rt_P sc fm) 281 386 = some (0, 282, 1) := (by decide +kernel : rt_ct 281 386 = some (0, 282, 1))
theorem wc_281_389 : rx_ct (rt_P sc fm) 281 389 = some (0, 283, 1) := (by decide +kernel : rt_ct 281 389 = some (0, 283, 1))
theorem wc_281_392 : rx_ct (rt_P sc fm) 281 392 = some (0, 284, 1) := (by decide +kernel : rt_ct 281 392 = some (0, 284, 1))
theorem wc_281_401 : rx_ct (rt_P sc fm) 281 401 = some (0, 285, 1) := (by decide +kernel : rt_ct 281 401 = some (0, 285, 1))
theorem wc_281_79 : rx_ct (rt_P sc fm) 281 79 = some (0, 42, 0) := (by decide +kernel : rt_ct 281 79 = some (0, 42, 0))
theorem wc_281_89 : rx_ct (rt_P sc fm) 281 89 = some (0, 259, 0) := (by decide +kernel : rt_ct 281 89 = some (0, 259, 0))
theorem wf_281_19 : rx_ft (rt_P sc fm) 281 19 = some (10, 2) := (by decide +kernel : rt_ft 281 19 = some (10, 2))
theorem wf_281_376 : rx_ft (rt_P sc fm) 281 376 = some (2, 8) := (by decide +kernel : rt_ft 281 376 = some (2, 8))
theorem wf_281_382 : rx_ft (rt_P sc fm) 281 382 = some (2, 9) := (by decide +kernel : rt_ft 281 382 = some (2, 9))
theorem wf_281_385 : rx_ft (rt_P sc fm) 281 385 = some (2, 10) := (by decide +kernel : rt_ft 281 385 = some (2, 10))
theorem wf_281_395 : rx_ft (rt_P sc fm) 281 395 = some (2, 19) := (by decide +kernel : rt_ft 281 395 = some (2, 19))
theorem wf_281_398 : rx_ft (rt_P sc fm) 281 398 = some (2, 16) := (by decide +kernel : rt_ft 281 398 = some (2, 16))
theorem wf_281_49 : rx_ft (rt_P sc fm) 281 49 = some (10, 7) := (by decide +kernel : rt_ft 281 49 = some (10, 7))
theorem wh0_281_102 : rx_ht (rt_P sc fm) 281 102 "java/lang/IllegalArgumentException" = none := (by decide +kernel : rt_ht 281 102 "java/lang/IllegalArgumentException" = none)
theorem wh0_281_115 : rx_ht (rt_P sc fm) 281 115 "java/lang/IllegalArgumentException" = none := (by decide +kernel : rt_ht 281 115 "java/lang/IllegalArgumentException" = none)
theorem wh0_281_147 : rx_ht (rt_P sc fm) 281 147 "java/lang/IllegalArgumentException" = none := (by decide +kernel : rt_ht 281 147 "java/lang/IllegalArgumentException" = none)
theorem wh0_281_173 : rx_ht (rt_P sc fm) 281 173 "java/lang/IllegalArgumentException" = none := (by decide +kernel : rt_ht 281 173 "java/lang/IllegalArgumentException" = none)
theorem wh0_281_181 : rx_ht (rt_P sc fm) 281 181 "java/lang/IllegalArgumentException" = none := (by decide +kernel : rt_ht 281 181 "java/lang/IllegalArgumentException" = none)
theorem wh0_281_187 : rx_ht (rt_P sc fm) 281 187 "java/lang/IllegalArgumentException" = none := (by decide +kernel : rt_ht 281 187 "java/lang/IllegalArgumentException" = none)
theorem wh0_281_212 : rx_ht (rt_P sc fm) 281 212 "java/lang/IllegalArgumentException" = none := (by decide +kernel : rt_ht 281 212 "java/lang/IllegalArgumentException" = none)
theorem wh0_281_231 : rx_ht (rt_P sc fm) 281 231 "java/lang/IllegalArgumentException" = none := (by decide +kernel : rt_ht 281 231 "java/lang/IllegalArgumentException" = none)
theorem wh0_281_239 : rx_ht (rt_P sc fm) 281 239 "java/lang/IllegalArgumentException" = none := (by decide +kernel : rt_ht 281 239 "java/lang/IllegalArgumentException" = none)
theorem wh0_281_244 : rx_ht (rt_P sc fm) 281 244 "java/lang/IllegalArgumentException" = none := (by decide +kernel : rt_ht 281 244 "java/lang/IllegalArgumentException" = none)
theorem wh0_281_252 : rx_ht (rt_P sc fm) 281 252 "java/lang/IllegalArgumentException" = none := (by decide +kernel : rt_ht 281 252 "java/lang/IllegalArgumentException" = none)
theorem whh_281 : rx_hh (rt_P sc fm) 281 = [] := (by decide +kernel : rt_hh 281 = [])
theorem wi_281_0 : ri (rt_P sc fm) 281 0 (.aload_n 0) (1) := ri_of (by decide +kernel) rfl
theorem wi_281_1 : ri (rt_P sc fm) 281 1 (.getfield 19) (4) := ri_of (by decide +kernel) rfl
theorem wi_281_100 : ri (rt_P sc fm) 281 100 (.aload_n 0) (101) := ri_of (by decide +kernel) rfl
theorem wi_281_101 : ri (rt_P sc fm) 281 101 (.iconst 1) (102) := ri_of (by decide +kernel) rfl
theorem wi_281_102 : ri (rt_P sc fm) 281 102 (.invokevirtual 207) (105) := ri_of (by decide +kernel) rfl
theorem wi_281_105 : ri (rt_P sc fm) 281 105 (.l2i) (106) := ri_of (by decide +kernel) rfl
theorem wi_281_106 : ri (rt_P sc fm) 281 106 (.iastore) (107) := ri_of (by decide +kernel) rfl
theorem wi_281_107 : ri (rt_P sc fm) 281 107 (.aload_n 0) (108) := ri_of (by decide +kernel) rfl
theorem wi_281_108 : ri (rt_P sc fm) 281 108 (.sipush 1218) (111) := ri_of (by decide +kernel) rfl
theorem wi_281_111 : ri (rt_P sc fm) 281 111 (.iload_n 1) (112) := ri_of (by decide +kernel) rfl
theorem wi_281_112 : ri (rt_P sc fm) 281 112 (.iadd) (113) := ri_of (by decide +kernel) rfl
theorem wi_281_113 : ri (rt_P sc fm) 281 113 (.bipush 6) (115) := ri_of (by decide +kernel) rfl
theorem wi_281_115 : ri (rt_P sc fm) 281 115 (.invokevirtual 269) (118) := ri_of (by decide +kernel) rfl
theorem wi_281_118 : ri (rt_P sc fm) 281 118 (.aload_n 0) (119) := ri_of (by decide +kernel) rfl
theorem wi_281_119 : ri (rt_P sc fm) 281 119 (.getfield 19) (122) := ri_of (by decide +kernel) rfl
theorem wi_281_122 : ri (rt_P sc fm) 281 122 (.getfield 385) (125) := ri_of (by decide +kernel) rfl
theorem wi_281_125 : ri (rt_P sc fm) 281 125 (.iload_n 1) (126) := ri_of (by decide +kernel) rfl
theorem wi_281_126 : ri (rt_P sc fm) 281 126 (.aload_n 0) (127) := ri_of (by decide +kernel) rfl
theorem wi_281_127 : ri (rt_P sc fm) 281 127 (.sipush 1218) (130) := ri_of (by decide +kernel) rfl
theorem wi_281_130 : ri (rt_P sc fm) 281 130 (.iload_n 1) (131) := ri_of (by decide +kernel) rfl
theorem wi_281_131 : ri (rt_P sc fm) 281 131 (.iadd) (132) := ri_of (by decide +kernel) rfl
theorem wi_281_132 : ri (rt_P sc fm) 281 132 (.invokevirtual 386) (135) := ri_of (by decide +kernel) rfl
theorem wi_281_135 : ri (rt_P sc fm) 281 135 (.iastore) (136) := ri_of (by decide +kernel) rfl
theorem wi_281_136 : ri (rt_P sc fm) 281 136 (.goto 122) (139) := ri_of (by decide +kernel) rfl
theorem wi_281_139 : ri (rt_P sc fm) 281 139 (.aload_n 0) (140) := ri_of (by decide +kernel) rfl
theorem wi_281_140 : ri (rt_P sc fm) 281 140 (.sipush 1218) (143) := ri_of (by decide +kernel) rfl
theorem wi_281_143 : ri (rt_P sc fm) 281 143 (.iload_n 1) (144) := ri_of (by decide +kernel) rfl
theorem wi_281_144 : ri (rt_P sc fm) 281 144 (.iadd) (145) := ri_of (by decide +kernel) rfl
theorem wi_281_145 : ri (rt_P sc fm) 281 145 (.bipush 6) (147) := ri_of (by decide +kernel) rfl
theorem wi_281_147 : ri (rt_P sc fm) 281 147 (.invokevirtual 269) (150) := ri_of (by decide +kernel) rfl
theorem wi_281_150 : ri (rt_P sc fm) 281 150 (.aload_n 0) (151) := ri_of (by decide +kernel) rfl
theorem wi_281_151 : ri (rt_P sc fm) 281 151 (.getfield 19) (154) := ri_of (by decide +kernel) rfl
theorem wi_281_154 : ri (rt_P sc fm) 281 154 (.getfield 385) (157) := ri_of (by decide +kernel) rfl
theorem wi_281_157 : ri (rt_P sc fm) 281 157 (.iload_n 1) (158) := ri_of (by decide +kernel) rfl
theorem wi_281_158 : ri (rt_P sc fm) 281 158 (.aload_n 0) (159) := ri_of (by decide +kernel) rfl
theorem wi_281_159 : ri (rt_P sc fm) 281 159 (.sipush 1218) (162) := ri_of (by decide +kernel) rfl
theorem wi_281_162 : ri (rt_P sc fm) 281 162 (.iload_n 1) (163) := ri_of (by decide +kernel) rfl
theorem wi_281_163 : ri (rt_P sc fm) 281 163 (.iadd) (164) := ri_of (by decide +kernel) rfl
theorem wi_281_164 : ri (rt_P sc fm) 281 164 (.invokevirtual 386) (167) := ri_of (by decide +kernel) rfl
theorem wi_281_167 : ri (rt_P sc fm) 281 167 (.iastore) (168) := ri_of (by decide +kernel) rfl
theorem wi_281_168 : ri (rt_P sc fm) 281 168 (.goto 90) (171) := ri_of (by decide +kernel) rfl
theorem wi_281_171 : ri (rt_P sc fm) 281 171 (.aload_n 0) (172) := ri_of (by decide +kernel) rfl
theorem wi_281_172 : ri (rt_P sc fm) 281 172 (.iload_n 1) (173) := ri_of (by decide +kernel) rfl
theorem wi_281_173 : ri (rt_P sc fm) 281 173 (.invokevirtual 389) (176) := ri_of (by decide +kernel) rfl
theorem wi_281_176 : ri (rt_P sc fm) 281 176 (.goto 82) (179) := ri_of (by decide +kernel) rfl
theorem wi_281_179 : ri (rt_P sc fm) 281 179 (.aload_n 0) (180) := ri_of (by decide +kernel) rfl
theorem wi_281_180 : ri (rt_P sc fm) 281 180 (.iload_n 1) (181) := ri_of (by decide +kernel) rfl
theorem wi_281_181 : ri (rt_P sc fm) 281 181 (.invokevirtual 392) (184) := ri_of (by decide +kernel) rfl
theorem wi_281_184 : ri (rt_P sc fm) 281 184 (.aload_n 0) (185) := ri_of (by decide +kernel) rfl
theorem wi_281_185 : ri (rt_P sc fm) 281 185 (.bipush 46) (187) := ri_of (by decide +kernel) rfl
theorem wi_281_187 : ri (rt_P sc fm) 281 187 (.invokevirtual 114) (190) := ri_of (by decide +kernel) rfl
theorem wi_281_190 : ri (rt_P sc fm) 281 190 (.aload_n 0) (191) := ri_of (by decide +kernel) rfl
theorem wi_281_191 : ri (rt_P sc fm) 281 191 (.getfield 19) (194) := ri_of (by decide +kernel) rfl
theorem wi_281_194 : ri (rt_P sc fm) 281 194 (.getfield 395) (197) := ri_of (by decide +kernel) rfl
theorem wi_281_197 : ri (rt_P sc fm) 281 197 (.iload_n 1) (198) := ri_of (by decide +kernel) rfl
theorem wi_281_198 : ri (rt_P sc fm) 281 198 (.aload_n 0) (199) := ri_of (by decide +kernel) rfl
theorem wi_281_199 : ri (rt_P sc fm) 281 199 (.invokevirtual 79) (202) := ri_of (by decide +kernel) rfl
theorem wi_281_202 : ri (rt_P sc fm) 281 202 (.iastore) (203) := ri_of (by decide +kernel) rfl
theorem wi_281_203 : ri (rt_P sc fm) 281 203 (.aload_n 0) (204) := ri_of (by decide +kernel) rfl
theorem wi_281_204 : ri (rt_P sc fm) 281 204 (.getfield 19) (207) := ri_of (by decide +kernel) rfl
theorem wi_281_207 : ri (rt_P sc fm) 281 207 (.getfield 398) (210) := ri_of (by decide +kernel) rfl
theorem wi_281_210 : ri (rt_P sc fm) 281 210 (.iload_n 1) (211) := ri_of (by decide +kernel) rfl
theorem wi_281_211 : ri (rt_P sc fm) 281 211 (.aload_n 0) (212) := ri_of (by decide +kernel) rfl
theorem wi_281_212 : ri (rt_P sc fm) 281 212 (.invokevirtual 89) (215) := ri_of (by decide +kernel) rfl
theorem wi_281_215 : ri (rt_P sc fm) 281 215 (.lastore) (216) := ri_of (by decide +kernel) rfl
theorem wi_281_216 : ri (rt_P sc fm) 281 216 (.aload_n 0) (217) := ri_of (by decide +kernel) rfl
theorem wi_281_217 : ri (rt_P sc fm) 281 217 (.dup) (218) := ri_of (by decide +kernel) rfl
theorem wi_281_218 : ri (rt_P sc fm) 281 218 (.getfield 49) (221) := ri_of (by decide +kernel) rfl
theorem wi_281_221 : ri (rt_P sc fm) 281 221 (.iconst 1) (222) := ri_of (by decide +kernel) rfl
theorem wi_281_222 : ri (rt_P sc fm) 281 222 (.iadd) (223) := ri_of (by decide +kernel) rfl
theorem wi_281_223 : ri (rt_P sc fm) 281 223 (.putfield 49) (226) := ri_of (by decide +kernel) rfl
theorem wi_281_226 : ri (rt_P sc fm) 281 226 (.goto 32) (229) := ri_of (by decide +kernel) rfl
theorem wi_281_229 : ri (rt_P sc fm) 281 229 (.aload_n 0) (230) := ri_of (by decide +kernel) rfl
theorem wi_281_230 : ri (rt_P sc fm) 281 230 (.iload_n 1) (231) := ri_of (by decide +kernel) rfl
theorem wi_281_231 : ri (rt_P sc fm) 281 231 (.invokevirtual 392) (234) := ri_of (by decide +kernel) rfl
theorem wi_281_234 : ri (rt_P sc fm) 281 234 (.goto 24) (237) := ri_of (by decide +kernel) rfl
theorem wi_281_237 : ri (rt_P sc fm) 281 237 (.aload_n 0) (238) := ri_of (by decide +kernel) rfl
theorem wi_281_238 : ri (rt_P sc fm) 281 238 (.iload_n 1) (239) := ri_of (by decide +kernel) rfl
theorem wi_281_239 : ri (rt_P sc fm) 281 239 (.invokevirtual 401) (242) := ri_of (by decide +kernel) rfl
theorem wi_281_242 : ri (rt_P sc fm) 281 242 (.aload_n 0) (243) := ri_of (by decide +kernel) rfl
theorem wi_281_243 : ri (rt_P sc fm) 281 243 (.iload_n 1) (244) := ri_of (by decide +kernel) rfl
theorem wi_281_244 : ri (rt_P sc fm) 281 244 (.invokevirtual 392) (247) := ri_of (by decide +kernel) rfl
theorem wi_281_247 : ri (rt_P sc fm) 281 247 (.goto 11) (250) := ri_of (by decide +kernel) rfl
theorem wi_281_250 : ri (rt_P sc fm) 281 250 (.aload_n 0) (251) := ri_of (by decide +kernel) rfl
theorem wi_281_251 : ri (rt_P sc fm) 281 251 (.iload_n 1) (252) := ri_of (by decide +kernel) rfl
theorem wi_281_252 : ri (rt_P sc fm) 281 252 (.invokevirtual 401) (255) := ri_of (by decide +kernel) rfl
theorem wi_281_255 : ri (rt_P sc fm) 281 255 (.goto 3) (258) := ri_of (by decide +kernel) rfl
theorem wi_281_258 : ri (rt_P sc fm) 281 258 (.return_) (259) := ri_of (by decide +kernel) rfl
theorem wi_281_4 : ri (rt_P sc fm) 281 4 (.getfield 376) (7) := ri_of (by decide +kernel) rfl
theorem wi_281_7 : ri (rt_P sc fm) 281 7 (.iload_n 1) (8) := ri_of (by decide +kernel) rfl
theorem wi_281_8 : ri (rt_P sc fm) 281 8 (.iaload) (9) := ri_of (by decide +kernel) rfl
theorem wi_281_9 : ri (rt_P sc fm) 281 9 (.tableswitch 249 214 230 #[83, 130, 162, 162, 170, 170, 170, 249, 249, 249, 249, 249, 249, 220, 220, 228, 241]) (9 + rx_len (.tableswitch 249 214 230 #[83, 130, 162, 162, 170, 170, 170, 249, 249, 249, 249, 249, 249, 220, 220, 228, 241])) := ri_of (by decide +kernel) rfl
theorem wi_281_92 : ri (rt_P sc fm) 281 92 (.aload_n 0) (93) := ri_of (by decide +kernel) rfl
theorem wi_281_93 : ri (rt_P sc fm) 281 93 (.getfield 19) (96) := ri_of (by decide +kernel) rfl
theorem wi_281_96 : ri (rt_P sc fm) 281 96 (.getfield 382) (99) := ri_of (by decide +kernel) rfl
theorem wi_281_99 : ri (rt_P sc fm) 281 99 (.iload_n 1) (100) := ri_of (by decide +kernel) rfl
theorem wm_282 : rx_ml (rt_P sc fm) 282 = 7 := (by decide +kernel : rt_ml 282 = 7)
theorem wm_283 : rx_ml (rt_P sc fm) 283 = 5 := (by decide +kernel : rt_ml 283 = 5)
theorem wm_284 : rx_ml (rt_P sc fm) 284 = 2 := (by decide +kernel : rt_ml 284 = 2)
theorem wm_285 : rx_ml (rt_P sc fm) 285 = 3 := (by decide +kernel : rt_ml 285 = 3)
theorem wp_281_49 : rx_pt (rt_P sc fm) 281 49 = some (10, 7, .int) := (by decide +kernel : rt_pt 281 49 = some (10, 7, .int))
theorem wr_281 : rx_rt (rt_P sc fm) 281 = none := (by decide +kernel : rt_rt 281 = none)
/-- MarkHouse$Reader.readOperands(I)V -/
def d_281 (n : Nat) (a1 : Int32) (c : cS) : Option ((cS) ⊕ cS) :=
  if ib a1 1024 then
  jn (fun p2 : cS =>
    some (.inl p2))
  (fun j258 =>
  jn (fun p3 : Unit =>
    Option.bind (d_283 n a1 c) (Sum.elim (fun r4 =>
    j258 r4)
    (fun z5 => some (.inr z5))))
  (fun j171 =>
  jn (fun p6 : Unit =>
    Option.bind (d_284 n a1 c) (Sum.elim (fun r7 =>
    Option.bind (d_257 n 46 r7) (Sum.elim (fun r9 =>
    Option.bind (d_42 n r9) (fun v11 =>
    if ib a1 1024 then
    lt (pI r9 132 (ix a1) v11) (fun c13 =>
    Option.bind (d_259 n c13) (Sum.elim (fun r15 =>
    if ib a1 1024 then
    lt (pL r15.2 129 (ix a1) r15.1) (fun c18 =>
    lt (pI c18 145 7 ((c18.1 145 7) + 1)) (fun c20 =>
    j258 c20))
    else none)
    (fun z16 => some (.inr z16))))
    else none))
    (fun z10 => some (.inr z10))))
    (fun z8 => some (.inr z8))))
  (fun j179 =>
  jn (fun p22 : Unit =>
    Option.bind (d_284 n a1 c) (Sum.elim (fun r23 =>
    j258 r23)
    (fun z24 => some (.inr z24))))
  (fun j229 =>
  if (c.1 121 (ix a1)) = 214 then
    Option.bind (d_278 n 1 c) (Sum.elim (fun r26 =>
    if ib a1 1024 then
    lt (pI r26.2 122 (ix a1) ((r26.1 : Int64).toInt32)) (fun c29 =>
    Option.bind (d_273 n (1218 + a1) 6 c29) (Sum.elim (fun r31 =>
    Option.bind (d_282 n (1218 + a1) r31) (fun v33 =>
    if ib a1 1024 then
    lt (pI r31 123 (ix a1) v33) (fun c35 =>
    j258 c35)
    else none))
    (fun z32 => some (.inr z32))))
    else none)
    (fun z27 => some (.inr z27)))
  else
  if (c.1 121 (ix a1)) = 215 then
    Option.bind (d_273 n (1218 + a1) 6 c) (Sum.elim (fun r38 =>
    Option.bind (d_282 n (1218 + a1) r38) (fun v40 =>
    if ib a1 1024 then
    lt (pI r38 123 (ix a1) v40) (fun c42 =>
    j258 c42)
    else none))
    (fun z39 => some (.inr z39)))
  else
  if (c.1 121 (ix a1)) = 216 then
    j171 ()
  else
  if (c.1 121 (ix a1)) = 217 then
    j171 ()
  else
  if (c.1 121 (ix a1)) = 218 then
    j179 ()
  else
  if (c.1 121 (ix a1)) = 219 then
    j179 ()
  else
  if (c.1 121 (ix a1)) = 220 then
    j179 ()
  else
  if (c.1 121 (ix a1)) = 221 then
    j258 c
  else
  if (c.1 121 (ix a1)) = 222 then
    j258 c
  else
  if (c.1 121 (ix a1)) = 223 then
    j258 c
  else
  if (c.1 121 (ix a1)) = 224 then
    j258 c
  else
  if (c.1 121 (ix a1)) = 225 then
    j258 c
  else
  if (c.1 121 (ix a1)) = 226 then
    j258 c
  else
  if (c.1 121 (ix a1)) = 227 then
    j229 ()
  else
  if (c.1 121 (ix a1)) = 228 then
    j229 ()
  else
  if (c.1 121 (ix a1)) = 229 then
    Option.bind (d_285 n a1 c) (Sum.elim (fun r58 =>
    Option.bind (d_284 n a1 r58) (Sum.elim (fun r60 =>
    j258 r60)
    (fun z61 => some (.inr z61))))
    (fun z59 => some (.inr z59)))
  else
  if (c.1 121 (ix a1)) = 230 then
    Option.bind (d_285 n a1 c) (Sum.elim (fun r63 =>
    j258 r63)
    (fun z64 => some (.inr z64)))
  else
  j258 c))))
  else none
theorem sp_281 {F Lo n : Nat} {a1 : Int32} {c y : cS} {w : cW} {K : (cS) ⊕ cS → Prop} {Q : ((Option Value) ⊕ String) → List va_E → Prop} (hw : rOK fm w) (hF : 10 ≤ F) (hLo : 181 ≤ Lo)  (h : wp (d_281 n a1 c) K) (hQ : ∀ r, K (.inl r) → Q (.inl none) (hq true r y w)) (hT : ∀ r, K (.inr r) → Q (.inr "java/lang/IllegalArgumentException") (hq true r y w)) : rs (rt_P sc fm) 281 F Lo 0 [(0, .ref 145), (1, .int a1)] [] (hq true c y w) Q := by
  unfold d_281 at h
  obtain ⟨lv, elv⟩ : ∃ lv : rx_L, lv = [(0, .ref 145), (1, .int a1)] := ⟨_, rfl⟩
  rw [← elv]
  have l0 : rx_ld lv 0 = some (.ref 145) := by rw [elv]; rfl
  have l1 : rx_ld lv 1 = some (.int a1) := by rw [elv]; rfl
  refine rs_aldn wi_281_0 l0 ?_
  refine dq_gr wi_281_1 wf_281_19 tf_145_2 ?_
  refine dq_gr wi_281_4 wf_281_376 tf_114_8 ?_
  refine rs_ildn wi_281_7 l1 ?_
  obtain ⟨g1, h⟩ := wp_gd h
  refine dq_iald wi_281_8 t_121 g1 ?_
  refine wp_jn (B := fun p2 : cS => ∀ lv, rs (rt_P sc fm) 281 F Lo 258 lv [] (hq true p2 y w) Q) h (fun p2 h lv => ?_) (fun j258 hj258 h => ?_)
  ·
    exact rs_vret wi_281_258 wr_281 (hQ p2 h)
  refine wp_jn (B := fun p3 : Unit => ∀ lv, rx_ld lv 0 = some (.ref 145) → rx_ld lv 1 = some (.int a1) → rs (rt_P sc fm) 281 F Lo 171 lv [] (hq true c y w) Q) h (fun p3 h lv l0 l1 => ?_) (fun j171 hj171 h => ?_)
  ·
    refine rs_aldn wi_281_171 l0 ?_
    refine rs_ildn wi_281_172 l1 ?_
    refine rs_V wi_281_173 wc_281_389 rfl (dq_isa tf_145_0 wa_10_283) (Nat.le_trans (by decide) hF) (ml_le wm_283 (Nat.le_trans (by decide) hLo)) rfl (sp_283 hw (Nat.le_trans (by decide : 8 ≤ 10 - 1) (Nat.sub_le_sub_right hF 1)) (ml_sub wm_283 (Nat.le_trans (by decide : 124 ≤ 181 - 24) (Nat.sub_le_sub_right hLo 24))) (wp_bind h) (fun r4 h => rs_back0 ?_) (fun z5 h => rs_up wh0_281_173 whh_281 (hT z5 (wp_inr h))))
    have h := wp_inl h
    refine rs_goto (tg := 258) wi_281_176 ⟨by decide, by decide⟩ ?_
    exact hj258 _ h _
  refine wp_jn (B := fun p6 : Unit => ∀ lv, rx_ld lv 0 = some (.ref 145) → rx_ld lv 1 = some (.int a1) → rs (rt_P sc fm) 281 F Lo 179 lv [] (hq true c y w) Q) h (fun p6 h lv l0 l1 => ?_) (fun j179 hj179 h => ?_)
  ·
    refine rs_aldn wi_281_179 l0 ?_
    refine rs_ildn wi_281_180 l1 ?_
    refine rs_V wi_281_181 wc_281_392 rfl (dq_isa tf_145_0 wa_10_284) (Nat.le_trans (by decide) hF) (ml_le wm_284 (Nat.le_trans (by decide) hLo)) rfl (sp_284 hw (Nat.le_trans (by decide : 8 ≤ 10 - 1) (Nat.sub_le_sub_right hF 1)) (ml_sub wm_284 (Nat.le_trans (by decide : 124 ≤ 181 - 21) (Nat.sub_le_sub_right hLo 21))) (wp_bind h) (fun r7 h => rs_back0 ?_) (fun z8 h => rs_up wh0_281_181 whh_281 (hT z8 (wp_inr h))))
    have h := wp_inl h
    refine rs_aldn wi_281_184 l0 ?_
    refine rs_pure wi_281_185 rfl ?_
    refine rs_topi (v := 46) (by decide) ?_
    refine rs_V wi_281_187 wc_281_114 rfl (dq_isa tf_145_0 wa_10_257) (Nat.le_trans (by decide) hF) (ml_le wm_257 (Nat.le_trans (by decide) hLo)) rfl (sp_257 hw (Nat.le_trans (by decide : 7 ≤ 10 - 1) (Nat.sub_le_sub_right hF 1)) (ml_sub wm_257 (Nat.le_trans (by decide : 104 ≤ 181 - 21) (Nat.sub_le_sub_right hLo 21))) (wp_bind h) (fun r9 h => rs_back0 ?_) (fun z10 h => rs_up wh0_281_187 whh_281 (hT z10 (wp_inr h))))
    have h := wp_inl h
    refine rs_aldn wi_281_190 l0 ?_
    refine dq_gr wi_281_191 wf_281_19 tf_145_2 ?_
    refine dq_gr wi_281_194 wf_281_395 tf_114_19 ?_
    refine rs_ildn wi_281_197 l1 ?_
    refine rs_aldn wi_281_198 l0 ?_
    refine rs_V wi_281_199 wc_281_79 rfl (dq_isa tf_145_0 wa_10_42) (Nat.le_trans (by decide) hF) (ml_le wm_42 (Nat.le_trans (by decide) hLo)) rfl (sp_42 hw (Nat.le_trans (by decide : 0 ≤ 10 - 1) (Nat.sub_le_sub_right hF 1)) (ml_sub wm_42 (Nat.le_trans (by decide : 0 ≤ 181 - 20) (Nat.sub_le_sub_right hLo 20))) (wp_bind h) (fun v11 h => rs_back1 ?_))
    obtain ⟨g12, h⟩ := wp_gd h
    obtain ⟨c13, e14, h⟩ := wp_lt h
    refine dq_iast wi_281_202 t_132 g12 e14 ?_
    refine rs_aldn wi_281_203 l0 ?_
    refine dq_gr wi_281_204 wf_281_19 tf_145_2 ?_
    refine dq_gr wi_281_207 wf_281_398 tf_114_16 ?_
    refine rs_ildn wi_281_210 l1 ?_
    refine rs_aldn wi_281_211 l0 ?_
    refine rs_V wi_281_212 wc_281_89 rfl (dq_isa tf_145_0 wa_10_259) (Nat.le_trans (by decide) hF) (ml_le wm_259 (Nat.le_trans (by decide) hLo)) rfl (sp_259 hw (Nat.le_trans (by decide : 7 ≤ 10 - 1) (Nat.sub_le_sub_right hF 1)) (ml_sub wm_259 (Nat.le_trans (by decide : 104 ≤ 181 - 20) (Nat.sub_le_sub_right hLo 20))) (wp_bind h) (fun r15 h => rs_back1 ?_) (fun z16 h => rs_up wh0_281_212 whh_281 (hT z16 (wp_inr h))))
    have h := wp_inl h
    obtain ⟨g17, h⟩ := wp_gd h
    obtain ⟨c18, e19, h⟩ := wp_lt h
    refine dq_last wi_281_215 t_129 g17 e19 ?_
    refine rs_aldn wi_281_216 l0 ?_
    refine rs_pure wi_281_217 rfl ?_
    refine dq_gi wi_281_218 wf_281_49 tf_145_7 ?_
    refine rs_pure wi_281_221 rfl ?_
    refine rs_topi (v := 1) (by decide) ?_
    refine rs_pure wi_281_222 rfl ?_
    obtain ⟨c20, e21, h⟩ := wp_lt h
    refine dq_pi wi_281_223 wp_281_49 tf_145_7 rfl rfl e21 ?_
    refine rs_goto (tg := 258) wi_281_226 ⟨by decide, by decide⟩ ?_
    exact hj258 _ h _
  refine wp_jn (B := fun p22 : Unit => ∀ lv, rx_ld lv 0 = some (.ref 145) → rx_ld lv 1 = some (.int a1) → rs (rt_P sc fm) 281 F Lo 229 lv [] (hq true c y w) Q) h (fun p22 h lv l0 l1 => ?_) (fun j229 hj229 h => ?_)
  ·
    refine rs_aldn wi_281_229 l0 ?_
    refine rs_ildn wi_281_230 l1 ?_
    refine rs_V wi_281_231 wc_281_392 rfl (dq_isa tf_145_0 wa_10_284) (Nat.le_trans (by decide) hF) (ml_le wm_284 (Nat.le_trans (by decide) hLo)) rfl (sp_284 hw (Nat.le_trans (by decide : 8 ≤ 10 - 1) (Nat.sub_le_sub_right hF 1)) (ml_sub wm_284 (Nat.le_trans (by decide : 124 ≤ 181 - 21) (Nat.sub_le_sub_right hLo 21))) (wp_bind h) (fun r23 h => rs_back0 ?_) (fun z24 h => rs_up wh0_281_231 whh_281 (hT z24 (wp_inr h))))
    have h := wp_inl h
    refine rs_goto (tg := 258) wi_281_234 ⟨by decide, by decide⟩ ?_
    exact hj258 _ h _
  by_cases q25 : (c.1 121 (ix a1)) = 214
  ·
    have h := wp_pos h q25
    refine rs_tsk (tg := 92) (off := 83) (v := 214) wi_281_9 q25 (by decide) (by decide) ⟨by decide, by decide⟩ ?_
    refine rs_aldn wi_281_92 l0 ?_
    refine dq_gr wi_281_93 wf_281_19 tf_145_2 ?_
    refine dq_gr wi_281_96 wf_281_382 tf_114_9 ?_
    refine rs_ildn wi_281_99 l1 ?_
    refine rs_aldn wi_281_100 l0 ?_
    refine rs_pure wi_281_101 rfl ?_
    refine rs_topi (v := 1) (by decide) ?_
    refine rs_V wi_281_102 wc_281_207 rfl (dq_isa tf_145_0 wa_10_278) (Nat.le_trans (by decide) hF) (ml_le wm_278 (Nat.le_trans (by decide) hLo)) rfl (sp_278 hw (Nat.le_trans (by decide : 7 ≤ 10 - 1) (Nat.sub_le_sub_right hF 1)) (ml_sub wm_278 (Nat.le_trans (by decide : 104 ≤ 181 - 25) (Nat.sub_le_sub_right hLo 25))) (wp_bind h) (fun r26 h => rs_back1 ?_) (fun z27 h => rs_up wh0_281_102 whh_281 (hT z27 (wp_inr h))))
    have h := wp_inl h
    refine rs_pure wi_281_105 rfl ?_
    obtain ⟨g28, h⟩ := wp_gd h
    obtain ⟨c29, e30, h⟩ := wp_lt h
    refine dq_iast wi_281_106 t_122 g28 e30 ?_
    refine rs_aldn wi_281_107 l0 ?_
    refine rs_pure wi_281_108 rfl ?_
    refine rs_topi (v := 1218) (by decide) ?_
    refine rs_ildn wi_281_111 l1 ?_
    refine rs_pure wi_281_112 rfl ?_
    refine rs_pure wi_281_113 rfl ?_
    refine rs_topi (v := 6) (by decide) ?_
    refine rs_V wi_281_115 wc_281_269 rfl (dq_isa tf_145_0 wa_10_273) (Nat.le_trans (by decide) hF) (ml_le wm_273 (Nat.le_trans (by decide) hLo)) rfl (sp_273 hw (Nat.le_trans (by decide : 9 ≤ 10 - 1) (Nat.sub_le_sub_right hF 1)) (ml_sub wm_273 (Nat.le_trans (by decide : 157 ≤ 181 - 24) (Nat.sub_le_sub_right hLo 24))) (wp_bind h) (fun r31 h => rs_back0 ?_) (fun z32 h => rs_up wh0_281_115 whh_281 (hT z32 (wp_inr h))))
    have h := wp_inl h
    refine rs_aldn wi_281_118 l0 ?_
    refine dq_gr wi_281_119 wf_281_19 tf_145_2 ?_
    refine dq_gr wi_281_122 wf_281_385 tf_114_10 ?_
    refine rs_ildn wi_281_125 l1 ?_
    refine rs_aldn wi_281_126 l0 ?_
    refine rs_pure wi_281_127 rfl ?_
    refine rs_topi (v := 1218) (by decide) ?_
    refine rs_ildn wi_281_130 l1 ?_
    refine rs_pure wi_281_131 rfl ?_
    refine rs_V wi_281_132 wc_281_386 rfl (dq_isa tf_145_0 wa_10_282) (Nat.le_trans (by decide) hF) (ml_le wm_282 (Nat.le_trans (by decide) hLo)) rfl (sp_282 hw (Nat.le_trans (by decide : 6 ≤ 10 - 1) (Nat.sub_le_sub_right hF 1)) (ml_sub wm_282 (Nat.le_trans (by decide : 131 ≤ 181 - 26) (Nat.sub_le_sub_right hLo 26))) (wp_bind h) (fun v33 h => rs_back1 ?_))
    obtain ⟨g34, h⟩ := wp_gd h
    obtain ⟨c35, e36, h⟩ := wp_lt h
    refine dq_iast wi_281_135 t_123 g34 e36 ?_
    refine rs_goto (tg := 258) wi_281_136 ⟨by decide, by decide⟩ ?_
    exact hj258 _ h _
  have h := wp_neg h q25
  by_cases q37 : (c.1 121 (ix a1)) = 215
  ·
    have h := wp_pos h q37
    refine rs_tsk (tg := 139) (off := 130) (v := 215) wi_281_9 q37 (by decide) (by decide) ⟨by decide, by decide⟩ ?_
    refine rs_aldn wi_281_139 l0 ?_
    refine rs_pure wi_281_140 rfl ?_
    refine rs_topi (v := 1218) (by decide) ?_
    refine rs_ildn wi_281_143 l1 ?_
    refine rs_pure wi_281_144 rfl ?_
    refine rs_pure wi_281_145 rfl ?_
    refine rs_topi (v := 6) (by decide) ?_
    refine rs_V wi_281_147 wc_281_269 rfl (dq_isa tf_145_0 wa_10_273) (Nat.le_trans (by decide) hF) (ml_le wm_273 (Nat.le_trans (by decide) hLo)) rfl (sp_273 hw (Nat.le_trans (by decide : 9 ≤ 10 - 1) (Nat.sub_le_sub_right hF 1)) (ml_sub wm_273 (Nat.le_trans (by decide : 157 ≤ 181 - 24) (Nat.sub_le_sub_right hLo 24))) (wp_bind h) (fun r38 h => rs_back0 ?_) (fun z39 h => rs_up wh0_281_147 whh_281 (hT z39 (wp_inr h))))
    have h := wp_inl h
    refine rs_aldn wi_281_150 l0 ?_
    refine dq_gr wi_281_151 wf_281_19 tf_145_2 ?_
    refine dq_gr wi_281_154 wf_281_385 tf_114_10 ?_
    refine rs_ildn wi_281_157 l1 ?_
    refine rs_aldn wi_281_158 l0 ?_
    refine rs_pure wi_281_159 rfl ?_
    refine rs_topi (v := 1218) (by decide) ?_
    refine rs_ildn wi_281_162 l1 ?_
    refine rs_pure wi_281_163 rfl ?_
    refine rs_V wi_281_164 wc_281_386 rfl (dq_isa tf_145_0 wa_10_282) (Nat.le_trans (by decide) hF) (ml_le wm_282 (Nat.le_trans (by decide) hLo)) rfl (sp_282 hw (Nat.le_trans (by decide : 6 ≤ 10 - 1) (Nat.sub_le_sub_right hF 1)) (ml_sub wm_282 (Nat.le_trans (by decide : 131 ≤ 181 - 26) (Nat.sub_le_sub_right hLo 26))) (wp_bind h) (fun v40 h => rs_back1 ?_))
    obtain ⟨g41, h⟩ := wp_gd h
    obtain ⟨c42, e43, h⟩ := wp_lt h
    refine dq_iast wi_281_167 t_123 g41 e43 ?_
    refine rs_goto (tg := 258) wi_281_168 ⟨by decide, by decide⟩ ?_
    exact hj258 _ h _
  have h := wp_neg h q37
  by_cases q44 : (c.1 121 (ix a1)) = 216
  ·
    have h := wp_pos h q44
    refine rs_tsk (tg := 171) (off := 162) (v := 216) wi_281_9 q44 (by decide) (by decide) ⟨by decide, by decide⟩ ?_
    exact hj171 _ h _ l0 l1
  have h := wp_neg h q44
  by_cases q45 : (c.1 121 (ix a1)) = 217
  ·
    have h := wp_pos h q45
    refine rs_tsk (tg := 171) (off := 162) (v := 217) wi_281_9 q45 (by decide) (by decide) ⟨by decide, by decide⟩ ?_
    exact hj171 _ h _ l0 l1
  have h := wp_neg h q45
  by_cases q46 : (c.1 121 (ix a1)) = 218
  ·
    have h := wp_pos h q46
    refine rs_tsk (tg := 179) (off := 170) (v := 218) wi_281_9 q46 (by decide) (by decide) ⟨by decide, by decide⟩ ?_
    exact hj179 _ h _ l0 l1
  have h := wp_neg h q46
  by_cases q47 : (c.1 121 (ix a1)) = 219
  ·
    have h := wp_pos h q47
    refine rs_tsk (tg := 179) (off := 170) (v := 219) wi_281_9 q47 (by decide) (by decide) ⟨by decide, by decide⟩ ?_
    exact hj179 _ h _ l0 l1
  have h := wp_neg h q47
  by_cases q48 : (c.1 121 (ix a1)) = 220
  ·
    have h := wp_pos h q48
    refine rs_tsk (tg := 179) (off := 170) (v := 220) wi_281_9 q48 (by decide) (by decide) ⟨by decide, by decide⟩ ?_
    exact hj179 _ h _ l0 l1
  have h := wp_neg h q48
  by_cases q49 : (c.1 121 (ix a1)) = 221
  ·
    have h := wp_pos h q49
    refine rs_tsk (tg := 258) (off := 249) (v := 221) wi_281_9 q49 (by decide) (by decide) ⟨by decide, by decide⟩ ?_
    exact hj258 _ h _
  have h := wp_neg h q49
  by_cases q50 : (c.1 121 (ix a1)) = 222
  ·
    have h := wp_pos h q50
    refine rs_tsk (tg := 258) (off := 249) (v := 222) wi_281_9 q50 (by decide) (by decide) ⟨by decide, by decide⟩ ?_
    exact hj258 _ h _
  have h := wp_neg h q50
  by_cases q51 : (c.1 121 (ix a1)) = 223
  ·
    have h := wp_pos h q51
    refine rs_tsk (tg := 258) (off := 249) (v := 223) wi_281_9 q51 (by decide) (by decide) ⟨by decide, by decide⟩ ?_
    exact hj258 _ h _
  have h := wp_neg h q51
  by_cases q52 : (c.1 121 (ix a1)) = 224
  ·
    have h := wp_pos h q52
    refine rs_tsk (tg := 258) (off := 249) (v := 224) wi_281_9 q52 (by decide) (by decide) ⟨by decide, by decide⟩ ?_
    exact hj258 _ h _
  have h := wp_neg h q52
  by_cases q53 : (c.1 121 (ix a1)) = 225
  ·
    have h := wp_pos h q53
    refine rs_tsk (tg := 258) (off := 249) (v := 225) wi_281_9 q53 (by decide) (by decide) ⟨by decide, by decide⟩ ?_
    exact hj258 _ h _
  have h := wp_neg h q53
  by_cases q54 : (c.1 121 (ix a1)) = 226
  ·
    have h := wp_pos h q54
    refine rs_tsk (tg := 258) (off := 249) (v := 226) wi_281_9 q54 (by decide) (by decide) ⟨by decide, by decide⟩ ?_
    exact hj258 _ h _
  have h := wp_neg h q54
  by_cases q55 : (c.1 121 (ix a1)) = 227
  ·
    have h := wp_pos h q55
    refine rs_tsk (tg := 229) (off := 220) (v := 227) wi_281_9 q55 (by decide) (by decide) ⟨by decide, by decide⟩ ?_
    exact hj229 _ h _ l0 l1
  have h := wp_neg h q55
  by_cases q56 : (c.1 121 (ix a1)) = 228
  ·
    have h := wp_pos h q56
    refine rs_tsk (tg := 229) (off := 220) (v := 228) wi_281_9 q56 (by decide) (by decide) ⟨by decide, by decide⟩ ?_
    exact hj229 _ h _ l0 l1
  have h := wp_neg h q56
  by_cases q57 : (c.1 121 (ix a1)) = 229
  ·
    have h := wp_pos h q57
    refine rs_tsk (tg := 237) (off := 228) (v := 229) wi_281_9 q57 (by decide) (by decide) ⟨by decide, by decide⟩ ?_
    refine rs_aldn wi_281_237 l0 ?_
    refine rs_ildn wi_281_238 l1 ?_
    refine rs_V wi_281_239 wc_281_401 rfl (dq_isa tf_145_0 wa_10_285) (Nat.le_trans (by decide) hF) (ml_le wm_285 (Nat.le_trans (by decide) hLo)) rfl (sp_285 hw (Nat.le_trans (by decide : 9 ≤ 10 - 1) (Nat.sub_le_sub_right hF 1)) (ml_sub wm_285 (Nat.le_trans (by decide : 146 ≤ 181 - 22) (Nat.sub_le_sub_right hLo 22))) (wp_bind h) (fun r58 h => rs_back0 ?_) (fun z59 h => rs_up wh0_281_239 whh_281 (hT z59 (wp_inr h))))
    have h := wp_inl h
    refine rs_aldn wi_281_242 l0 ?_
    refine rs_ildn wi_281_243 l1 ?_
    refine rs_V wi_281_244 wc_281_392 rfl (dq_isa tf_145_0 wa_10_284) (Nat.le_trans (by decide) hF) (ml_le wm_284 (Nat.le_trans (by decide) hLo)) rfl (sp_284 hw (Nat.le_trans (by decide : 8 ≤ 10 - 1) (Nat.sub_le_sub_right hF 1)) (ml_sub wm_284 (Nat.le_trans (by decide : 124 ≤ 181 - 21) (Nat.sub_le_sub_right hLo 21))) (wp_bind h) (fun r60 h => rs_back0 ?_) (fun z61 h => rs_up wh0_281_244 whh_281 (hT z61 (wp_inr h))))
    have h := wp_inl h
    refine rs_goto (tg := 258) wi_281_247 ⟨by decide, by decide⟩ ?_
    exact hj258 _ h _
  have h := wp_neg h q57
  by_cases q62 : (c.1 121 (ix a1)) = 230
  ·
    have h := wp_pos h q62
    refine rs_tsk (tg := 250) (off := 241) (v := 230) wi_281_9 q62 (by decide) (by decide) ⟨by decide, by decide⟩ ?_
    refine rs_aldn wi_281_250 l0 ?_
    refine rs_ildn wi_281_251 l1 ?_
    refine rs_V wi_281_252 wc_281_401 rfl (dq_isa tf_145_0 wa_10_285) (Nat.le_trans (by decide) hF) (ml_le wm_285 (Nat.le_trans (by decide) hLo)) rfl (sp_285 hw (Nat.le_trans (by decide : 9 ≤ 10 - 1) (Nat.sub_le_sub_right hF 1)) (ml_sub wm_285 (Nat.le_trans (by decide : 146 ≤ 181 - 22) (Nat.sub_le_sub_right hLo 22))) (wp_bind h) (fun r63 h => rs_back0 ?_) (fun z64 h => rs_up wh0_281_252 whh_281 (hT z64 (wp_inr h))))
    have h := wp_inl h
    refine rs_goto (tg := 258) wi_281_255 ⟨by decide, by decide⟩ ?_
    exact hj258 _ h _
  have h := wp_neg h q62
  refine rs_tsd (tg := 258) wi_281_9 (rz_sw fun k k1 k2 => by
    have kk : k = 214 ∨ k = 215 ∨ k = 216 ∨ k = 217 ∨ k = 218 ∨ k = 219 ∨ k = 220 ∨ k = 221 ∨ k = 222 ∨ k = 223 ∨ k = 224 ∨ k = 225 ∨ k = 226 ∨ k = 227 ∨ k = 228 ∨ k = 229 ∨ k = 230 := by omega
    rcases kk with rfl | rfl | rfl | rfl | rfl | rfl | rfl | rfl | rfl | rfl | rfl | rfl | rfl | rfl | rfl | rfl | rfl
    · exact q25
    · exact q37
    · exact q44
    · exact q45
    · exact q46
    · exact q47
    · exact q48
    · exact q49
    · exact q50
    · exact q51
    · exact q52
    · exact q53
    · exact q54
    · exact q55
    · exact q56
    · exact q57
    · exact q62
    ) ⟨by decide, by decide⟩ ?_
  exact hj258 _ h _
theorem wa_10_281 : rz_cn 10 (rx_yn (rt_P sc fm) 281).cls = true := (by decide +kernel : rz_cn 10 (rt_yn 281).cls = true)
theorem wa_2_163 : rz_cn 2 (rx_yn (rt_P sc fm) 163).cls = true := (by decide +kernel : rz_cn 2 (rt_yn 163).cls = true)
theorem wa_2_164 : rz_cn 2 (rx_yn (rt_P sc fm) 164).cls = true := (by decide +kernel : rz_cn 2 (rt_yn 164).cls = true)
theorem wc_279_114 : rx_ct (rt_P sc fm) 279 114 = some (0, 257, 1) := (by decide +kernel : rt_ct 279 114 = some (0, 257, 1))
theorem wc_279_366 : rx_ct (rt_P sc fm) 279 366 = some (1, 280, 1) := (by decide +kernel : rt_ct 279 366 = some (1, 280, 1))
theorem wc_279_369 : rx_ct (rt_P sc fm) 279 369 = some (0, 163, 2) := (by decide +kernel : rt_ct 279 369 = some (0, 163, 2))
theorem wc_279_372 : rx_ct (rt_P sc fm) 279 372 = some (0, 164, 3) := (by decide +kernel : rt_ct 279 372 = some (0, 164, 3))
theorem wc_279_379 : rx_ct (rt_P sc fm) 279 379 = some (0, 281, 1) := (by decide +kernel : rt_ct 279 379 = some (0, 281, 1))
theorem wc_279_61 : rx_ct (rt_P sc fm) 279 61 = some (0, 41, 2) := (by decide +kernel : rt_ct 279 61 = some (0, 41, 2))
theorem wc_279_79 : rx_ct (rt_P sc fm) 279 79 = some (0, 42, 0) := (by decide +kernel : rt_ct 279 79 = some (0, 42, 0))
theorem wc_279_82 : rx_ct (rt_P sc fm) 279 82 = some (0, 43, 0) := (by decide +kernel : rt_ct 279 82 = some (0, 43, 0))
theorem wf_279_19 : rx_ft (rt_P sc fm) 279 19 = some (10, 2) := (by decide +kernel : rt_ft 279 19 = some (10, 2))
theorem wf_279_285 : rx_ft (rt_P sc fm) 279 285 = some (10, 9) := (by decide +kernel : rt_ft 279 285 = some (10, 9))
theorem wf_279_300 : rx_ft (rt_P sc fm) 279 300 = some (2, 6) := (by decide +kernel : rt_ft 279 300 = some (2, 6))
theorem wf_279_32 : rx_ft (rt_P sc fm) 279 32 = some (2, 7) := (by decide +kernel : rt_ft 279 32 = some (2, 7))
theorem wf_279_376 : rx_ft (rt_P sc fm) 279 376 = some (2, 8) := (by decide +kernel : rt_ft 279 376 = some (2, 8))
theorem wf_279_49 : rx_ft (rt_P sc fm) 279 49 = some (10, 7) := (by decide +kernel : rt_ft 279 49 = some (10, 7))
theorem wf_279_85 : rx_ft (rt_P sc fm) 279 85 = some (3, 4) := (by decide +kernel : rt_ft 279 85 = some (3, 4))
theorem wf_279_9 : rx_ft (rt_P sc fm) 279 9 = some (10, 0) := (by decide +kernel : rt_ft 279 9 = some (10, 0))
theorem wh0_279_119 : rx_ht (rt_P sc fm) 279 119 "java/lang/IllegalArgumentException" = none := (by decide +kernel : rt_ht 279 119 "java/lang/IllegalArgumentException" = none)
theorem wh0_279_139 : rx_ht (rt_P sc fm) 279 139 "java/lang/IllegalArgumentException" = none := (by decide +kernel : rt_ht 279 139 "java/lang/IllegalArgumentException" = none)
theorem wh0_279_158 : rx_ht (rt_P sc fm) 279 158 "java/lang/IllegalArgumentException" = none := (by decide +kernel : rt_ht 279 158 "java/lang/IllegalArgumentException" = none)
theorem wh0_279_203 : rx_ht (rt_P sc fm) 279 203 "java/lang/IllegalArgumentException" = none := (by decide +kernel : rt_ht 279 203 "java/lang/IllegalArgumentException" = none)
theorem wh0_279_209 : rx_ht (rt_P sc fm) 279 209 "java/lang/IllegalArgumentException" = none := (by decide +kernel : rt_ht 279 209 "java/lang/IllegalArgumentException" = none)
theorem wh0_279_36 : rx_ht (rt_P sc fm) 279 36 "java/lang/IllegalArgumentException" = none := (by decide +kernel : rt_ht 279 36 "java/lang/IllegalArgumentException" = none)
theorem wh0_279_82 : rx_ht (rt_P sc fm) 279 82 "java/lang/IllegalArgumentException" = none := (by decide +kernel : rt_ht 279 82 "java/lang/IllegalArgumentException" = none)
theorem whh_279 : rx_hh (rt_P sc fm) 279 = [] := (by decide +kernel : rt_hh 279 = [])
theorem wi_279_0 : ri (rt_P sc fm) 279 0 (.aload_n 0) (1) := ri_of (by decide +kernel) rfl
theorem wi_279_1 : ri (rt_P sc fm) 279 1 (.invokevirtual 79) (4) := ri_of (by decide +kernel) rfl
theorem wi_279_10 : ri (rt_P sc fm) 279 10 (.if_icmp .ne 7) (13) := ri_of (by decide +kernel) rfl
theorem wi_279_102 : ri (rt_P sc fm) 279 102 (.aload_n 0) (103) := ri_of (by decide +kernel) rfl
theorem wi_279_103 : ri (rt_P sc fm) 279 103 (.getfield 19) (106) := ri_of (by decide +kernel) rfl
theorem wi_279_106 : ri (rt_P sc fm) 279 106 (.getfield 32) (109) := ri_of (by decide +kernel) rfl
theorem wi_279_109 : ri (rt_P sc fm) 279 109 (.sipush 1024) (112) := ri_of (by decide +kernel) rfl
theorem wi_279_112 : ri (rt_P sc fm) 279 112 (.if_icmp .lt 10) (115) := ri_of (by decide +kernel) rfl
theorem wi_279_115 : ri (rt_P sc fm) 279 115 (.aload_n 0) (116) := ri_of (by decide +kernel) rfl
theorem wi_279_116 : ri (rt_P sc fm) 279 116 (.bipush 6) (118) := ri_of (by decide +kernel) rfl
theorem wi_279_118 : ri (rt_P sc fm) 279 118 (.iload_n 1) (119) := ri_of (by decide +kernel) rfl
theorem wi_279_119 : ri (rt_P sc fm) 279 119 (.invokevirtual 61) (122) := ri_of (by decide +kernel) rfl
theorem wi_279_122 : ri (rt_P sc fm) 279 122 (.iload_n 2) (123) := ri_of (by decide +kernel) rfl
theorem wi_279_123 : ri (rt_P sc fm) 279 123 (.ifCond .eq 19) (126) := ri_of (by decide +kernel) rfl
theorem wi_279_126 : ri (rt_P sc fm) 279 126 (.aload_n 0) (127) := ri_of (by decide +kernel) rfl
theorem wi_279_127 : ri (rt_P sc fm) 279 127 (.dup) (128) := ri_of (by decide +kernel) rfl
theorem wi_279_128 : ri (rt_P sc fm) 279 128 (.getfield 49) (131) := ri_of (by decide +kernel) rfl
theorem wi_279_13 : ri (rt_P sc fm) 279 13 (.iconst 1) (14) := ri_of (by decide +kernel) rfl
theorem wi_279_131 : ri (rt_P sc fm) 279 131 (.iconst 1) (132) := ri_of (by decide +kernel) rfl
theorem wi_279_132 : ri (rt_P sc fm) 279 132 (.iadd) (133) := ri_of (by decide +kernel) rfl
theorem wi_279_133 : ri (rt_P sc fm) 279 133 (.putfield 49) (136) := ri_of (by decide +kernel) rfl
theorem wi_279_136 : ri (rt_P sc fm) 279 136 (.aload_n 0) (137) := ri_of (by decide +kernel) rfl
theorem wi_279_137 : ri (rt_P sc fm) 279 137 (.bipush 58) (139) := ri_of (by decide +kernel) rfl
theorem wi_279_139 : ri (rt_P sc fm) 279 139 (.invokevirtual 114) (142) := ri_of (by decide +kernel) rfl
theorem wi_279_14 : ri (rt_P sc fm) 279 14 (.goto 4) (17) := ri_of (by decide +kernel) rfl
theorem wi_279_142 : ri (rt_P sc fm) 279 142 (.aload_n 0) (143) := ri_of (by decide +kernel) rfl
theorem wi_279_143 : ri (rt_P sc fm) 279 143 (.invokevirtual 82) (146) := ri_of (by decide +kernel) rfl
theorem wi_279_146 : ri (rt_P sc fm) 279 146 (.invokestatic 366) (149) := ri_of (by decide +kernel) rfl
theorem wi_279_149 : ri (rt_P sc fm) 279 149 (.ifCond .ne 12) (152) := ri_of (by decide +kernel) rfl
theorem wi_279_152 : ri (rt_P sc fm) 279 152 (.aload_n 0) (153) := ri_of (by decide +kernel) rfl
theorem wi_279_153 : ri (rt_P sc fm) 279 153 (.iconst 2) (154) := ri_of (by decide +kernel) rfl
theorem wi_279_154 : ri (rt_P sc fm) 279 154 (.aload_n 0) (155) := ri_of (by decide +kernel) rfl
theorem wi_279_155 : ri (rt_P sc fm) 279 155 (.invokevirtual 79) (158) := ri_of (by decide +kernel) rfl
theorem wi_279_158 : ri (rt_P sc fm) 279 158 (.invokevirtual 61) (161) := ri_of (by decide +kernel) rfl
theorem wi_279_161 : ri (rt_P sc fm) 279 161 (.aload_n 0) (162) := ri_of (by decide +kernel) rfl
theorem wi_279_162 : ri (rt_P sc fm) 279 162 (.getfield 19) (165) := ri_of (by decide +kernel) rfl
theorem wi_279_165 : ri (rt_P sc fm) 279 165 (.aload_n 0) (166) := ri_of (by decide +kernel) rfl
theorem wi_279_166 : ri (rt_P sc fm) 279 166 (.getfield 285) (169) := ri_of (by decide +kernel) rfl
theorem wi_279_169 : ri (rt_P sc fm) 279 169 (.lload_n 3) (170) := ri_of (by decide +kernel) rfl
theorem wi_279_17 : ri (rt_P sc fm) 279 17 (.iconst 0) (18) := ri_of (by decide +kernel) rfl
theorem wi_279_170 : ri (rt_P sc fm) 279 170 (.iload_n 1) (171) := ri_of (by decide +kernel) rfl
theorem wi_279_171 : ri (rt_P sc fm) 279 171 (.invokevirtual 372) (174) := ri_of (by decide +kernel) rfl
theorem wi_279_174 : ri (rt_P sc fm) 279 174 (.istore 5) (176) := ri_of (by decide +kernel) rfl
theorem wi_279_176 : ri (rt_P sc fm) 279 176 (.aload_n 0) (177) := ri_of (by decide +kernel) rfl
theorem wi_279_177 : ri (rt_P sc fm) 279 177 (.getfield 19) (180) := ri_of (by decide +kernel) rfl
theorem wi_279_18 : ri (rt_P sc fm) 279 18 (.istore_n 2) (19) := ri_of (by decide +kernel) rfl
theorem wi_279_180 : ri (rt_P sc fm) 279 180 (.getfield 376) (183) := ri_of (by decide +kernel) rfl
theorem wi_279_183 : ri (rt_P sc fm) 279 183 (.iload 5) (185) := ri_of (by decide +kernel) rfl
theorem wi_279_185 : ri (rt_P sc fm) 279 185 (.aload_n 0) (186) := ri_of (by decide +kernel) rfl
theorem wi_279_186 : ri (rt_P sc fm) 279 186 (.invokevirtual 82) (189) := ri_of (by decide +kernel) rfl
theorem wi_279_189 : ri (rt_P sc fm) 279 189 (.iastore) (190) := ri_of (by decide +kernel) rfl
theorem wi_279_19 : ri (rt_P sc fm) 279 19 (.iload_n 2) (20) := ri_of (by decide +kernel) rfl
theorem wi_279_190 : ri (rt_P sc fm) 279 190 (.aload_n 0) (191) := ri_of (by decide +kernel) rfl
theorem wi_279_191 : ri (rt_P sc fm) 279 191 (.dup) (192) := ri_of (by decide +kernel) rfl
theorem wi_279_192 : ri (rt_P sc fm) 279 192 (.getfield 49) (195) := ri_of (by decide +kernel) rfl
theorem wi_279_195 : ri (rt_P sc fm) 279 195 (.iconst 1) (196) := ri_of (by decide +kernel) rfl
theorem wi_279_196 : ri (rt_P sc fm) 279 196 (.iadd) (197) := ri_of (by decide +kernel) rfl
theorem wi_279_197 : ri (rt_P sc fm) 279 197 (.putfield 49) (200) := ri_of (by decide +kernel) rfl
theorem wi_279_20 : ri (rt_P sc fm) 279 20 (.ifCond .ne 19) (23) := ri_of (by decide +kernel) rfl
theorem wi_279_200 : ri (rt_P sc fm) 279 200 (.aload_n 0) (201) := ri_of (by decide +kernel) rfl
theorem wi_279_201 : ri (rt_P sc fm) 279 201 (.iload 5) (203) := ri_of (by decide +kernel) rfl
theorem wi_279_203 : ri (rt_P sc fm) 279 203 (.invokevirtual 379) (206) := ri_of (by decide +kernel) rfl
theorem wi_279_206 : ri (rt_P sc fm) 279 206 (.aload_n 0) (207) := ri_of (by decide +kernel) rfl
theorem wi_279_207 : ri (rt_P sc fm) 279 207 (.bipush 59) (209) := ri_of (by decide +kernel) rfl
theorem wi_279_209 : ri (rt_P sc fm) 279 209 (.invokevirtual 114) (212) := ri_of (by decide +kernel) rfl
theorem wi_279_212 : ri (rt_P sc fm) 279 212 (.return_) (213) := ri_of (by decide +kernel) rfl
theorem wi_279_23 : ri (rt_P sc fm) 279 23 (.aload_n 0) (24) := ri_of (by decide +kernel) rfl
theorem wi_279_24 : ri (rt_P sc fm) 279 24 (.invokevirtual 82) (27) := ri_of (by decide +kernel) rfl
theorem wi_279_27 : ri (rt_P sc fm) 279 27 (.invokestatic 366) (30) := ri_of (by decide +kernel) rfl
theorem wi_279_30 : ri (rt_P sc fm) 279 30 (.ifCond .ne 9) (33) := ri_of (by decide +kernel) rfl
theorem wi_279_33 : ri (rt_P sc fm) 279 33 (.aload_n 0) (34) := ri_of (by decide +kernel) rfl
theorem wi_279_34 : ri (rt_P sc fm) 279 34 (.iconst 2) (35) := ri_of (by decide +kernel) rfl
theorem wi_279_35 : ri (rt_P sc fm) 279 35 (.iload_n 1) (36) := ri_of (by decide +kernel) rfl
theorem wi_279_36 : ri (rt_P sc fm) 279 36 (.invokevirtual 61) (39) := ri_of (by decide +kernel) rfl
theorem wi_279_39 : ri (rt_P sc fm) 279 39 (.iload_n 2) (40) := ri_of (by decide +kernel) rfl
theorem wi_279_4 : ri (rt_P sc fm) 279 4 (.istore_n 1) (5) := ri_of (by decide +kernel) rfl
theorem wi_279_40 : ri (rt_P sc fm) 279 40 (.ifCond .eq 18) (43) := ri_of (by decide +kernel) rfl
theorem wi_279_43 : ri (rt_P sc fm) 279 43 (.aload_n 0) (44) := ri_of (by decide +kernel) rfl
theorem wi_279_44 : ri (rt_P sc fm) 279 44 (.getfield 9) (47) := ri_of (by decide +kernel) rfl
theorem wi_279_47 : ri (rt_P sc fm) 279 47 (.getfield 85) (50) := ri_of (by decide +kernel) rfl
theorem wi_279_5 : ri (rt_P sc fm) 279 5 (.aload_n 0) (6) := ri_of (by decide +kernel) rfl
theorem wi_279_50 : ri (rt_P sc fm) 279 50 (.aload_n 0) (51) := ri_of (by decide +kernel) rfl
theorem wi_279_51 : ri (rt_P sc fm) 279 51 (.getfield 49) (54) := ri_of (by decide +kernel) rfl
theorem wi_279_54 : ri (rt_P sc fm) 279 54 (.laload) (55) := ri_of (by decide +kernel) rfl
theorem wi_279_55 : ri (rt_P sc fm) 279 55 (.goto 4) (58) := ri_of (by decide +kernel) rfl
theorem wi_279_58 : ri (rt_P sc fm) 279 58 (.lconst 0) (59) := ri_of (by decide +kernel) rfl
theorem wi_279_59 : ri (rt_P sc fm) 279 59 (.lstore_n 3) (60) := ri_of (by decide +kernel) rfl
theorem wi_279_6 : ri (rt_P sc fm) 279 6 (.invokevirtual 82) (9) := ri_of (by decide +kernel) rfl
theorem wi_279_60 : ri (rt_P sc fm) 279 60 (.iload_n 2) (61) := ri_of (by decide +kernel) rfl
theorem wi_279_61 : ri (rt_P sc fm) 279 61 (.ifCond .eq 24) (64) := ri_of (by decide +kernel) rfl
theorem wi_279_64 : ri (rt_P sc fm) 279 64 (.aload_n 0) (65) := ri_of (by decide +kernel) rfl
theorem wi_279_65 : ri (rt_P sc fm) 279 65 (.getfield 19) (68) := ri_of (by decide +kernel) rfl
theorem wi_279_68 : ri (rt_P sc fm) 279 68 (.aload_n 0) (69) := ri_of (by decide +kernel) rfl
theorem wi_279_69 : ri (rt_P sc fm) 279 69 (.getfield 285) (72) := ri_of (by decide +kernel) rfl
theorem wi_279_72 : ri (rt_P sc fm) 279 72 (.lload_n 3) (73) := ri_of (by decide +kernel) rfl
theorem wi_279_73 : ri (rt_P sc fm) 279 73 (.invokevirtual 369) (76) := ri_of (by decide +kernel) rfl
theorem wi_279_76 : ri (rt_P sc fm) 279 76 (.ifCond .lt 9) (79) := ri_of (by decide +kernel) rfl
theorem wi_279_79 : ri (rt_P sc fm) 279 79 (.aload_n 0) (80) := ri_of (by decide +kernel) rfl
theorem wi_279_80 : ri (rt_P sc fm) 279 80 (.iconst 3) (81) := ri_of (by decide +kernel) rfl
theorem wi_279_81 : ri (rt_P sc fm) 279 81 (.iload_n 1) (82) := ri_of (by decide +kernel) rfl
theorem wi_279_82 : ri (rt_P sc fm) 279 82 (.invokevirtual 61) (85) := ri_of (by decide +kernel) rfl
theorem wi_279_85 : ri (rt_P sc fm) 279 85 (.aload_n 0) (86) := ri_of (by decide +kernel) rfl
theorem wi_279_86 : ri (rt_P sc fm) 279 86 (.getfield 19) (89) := ri_of (by decide +kernel) rfl
theorem wi_279_89 : ri (rt_P sc fm) 279 89 (.getfield 300) (92) := ri_of (by decide +kernel) rfl
theorem wi_279_9 : ri (rt_P sc fm) 279 9 (.iconst 1) (10) := ri_of (by decide +kernel) rfl
theorem wi_279_92 : ri (rt_P sc fm) 279 92 (.aload_n 0) (93) := ri_of (by decide +kernel) rfl
theorem wi_279_93 : ri (rt_P sc fm) 279 93 (.getfield 285) (96) := ri_of (by decide +kernel) rfl
theorem wi_279_96 : ri (rt_P sc fm) 279 96 (.iaload) (97) := ri_of (by decide +kernel) rfl
theorem wi_279_97 : ri (rt_P sc fm) 279 97 (.bipush 40) (99) := ri_of (by decide +kernel) rfl
theorem wi_279_99 : ri (rt_P sc fm) 279 99 (.if_icmp .ge 16) (102) := ri_of (by decide +kernel) rfl
theorem wm_163 : rx_ml (rt_P sc fm) 163 = 5 := (by decide +kernel : rt_ml 163 = 5)
theorem wm_164 : rx_ml (rt_P sc fm) 164 = 6 := (by decide +kernel : rt_ml 164 = 6)
theorem wm_280 : rx_ml (rt_P sc fm) 280 = 1 := (by decide +kernel : rt_ml 280 = 1)
theorem wm_281 : rx_ml (rt_P sc fm) 281 = 2 := (by decide +kernel : rt_ml 281 = 2)
theorem wp_279_49 : rx_pt (rt_P sc fm) 279 49 = some (10, 7, .int) := (by decide +kernel : rt_pt 279 49 = some (10, 7, .int))
theorem wr_279 : rx_rt (rt_P sc fm) 279 = none := (by decide +kernel : rt_rt 279 = none)
/-- MarkHouse$Reader.readAct()V -/
def d_279 (n : Nat)  (c : cS) : Option ((cS) ⊕ cS) :=
  Option.bind (d_42 n c) (fun v1 =>
  Option.bind (d_43 n c) (fun v3 =>
  jn (fun p4 : Int32 =>
    jn (fun p6 : cS =>
      jn (fun p7 : Int64 =>
        jn (fun p9 : cS =>
          if ib (p9.1 145 9) 96 then
          jn (fun p11 : cS =>
            jn (fun p12 : cS =>
              Option.bind (d_43 n p12) (fun v13 =>
              Option.bind (d_280 n v13) (fun v14 =>
              jn (fun p15 : cS =>
                Option.bind (d_164 n (p15.1 145 9) p7 v1 p15) (fun r16 =>
                Option.bind (d_43 n r16.2) (fun v18 =>
                if ib r16.1 1024 then
                lt (pI r16.2 121 (ix r16.1) v18) (fun c20 =>
                lt (pI c20 145 7 ((c20.1 145 7) + 1)) (fun c22 =>
                Option.bind (d_281 n r16.1 c22) (Sum.elim (fun r24 =>
                Option.bind (d_257 n 59 r24) (Sum.elim (fun r26 =>
                some (.inl r26))
                (fun z27 => some (.inr z27))))
                (fun z25 => some (.inr z25)))))
                else none)))
              (fun j161 =>
              if v14 = 0 then
                Option.bind (d_42 n p12) (fun v28 =>
                Option.bind (d_41 n 2 v28 p12) (Sum.elim (fun r29 =>
                j161 r29)
                (fun z30 => some (.inr z30))))
              else
                j161 p12))))
            (fun j142 =>
            if p4 = 0 then
              j142 p11
            else
              lt (pI p11 145 7 ((p11.1 145 7) + 1)) (fun c31 =>
              Option.bind (d_257 n 58 c31) (Sum.elim (fun r33 =>
              j142 r33)
              (fun z34 => some (.inr z34))))))
          (fun j122 =>
          jn (fun p35 : Unit =>
            Option.bind (d_41 n 6 v1 p9) (Sum.elim (fun r36 =>
            j122 r36)
            (fun z37 => some (.inr z37))))
          (fun j115 =>
          if 40 ≤ (p9.1 120 (ix (p9.1 145 9))) then
            j115 ()
          else
            if (p9.1 114 7) < 1024 then
              j122 p9
            else
              j115 ()))
          else none)
        (fun j85 =>
        if p4 = 0 then
          j85 p6
        else
          Option.bind (d_163 n (p6.1 145 9) p7 p6) (fun v38 =>
          if v38 < 0 then
            j85 p6
          else
            Option.bind (d_41 n 3 v1 p6) (Sum.elim (fun r39 =>
            j85 r39)
            (fun z40 => some (.inr z40))))))
      (fun j59 =>
      if p4 = 0 then
        j59 0
      else
        if ib (p6.1 145 7) 4001 then
        j59 (p6.2 5 (ix (p6.1 145 7)))
        else none))
    (fun j39 =>
    if p4 = 0 then
      Option.bind (d_43 n c) (fun v42 =>
      Option.bind (d_280 n v42) (fun v43 =>
      if v43 = 0 then
        Option.bind (d_41 n 2 v1 c) (Sum.elim (fun r44 =>
        j39 r44)
        (fun z45 => some (.inr z45)))
      else
        j39 c))
    else
      j39 c))
  (fun j18 =>
  if v3 = 1 then
    j18 1
  else
    j18 0)))
theorem sp_279 {F Lo n : Nat}  {c y : cS} {w : cW} {K : (cS) ⊕ cS → Prop} {Q : ((Option Value) ⊕ String) → List va_E → Prop} (hw : rOK fm w) (hF : 11 ≤ F) (hLo : 202 ≤ Lo)  (h : wp (d_279 n  c) K) (hQ : ∀ r, K (.inl r) → Q (.inl none) (hq true r y w)) (hT : ∀ r, K (.inr r) → Q (.inr "java/lang/IllegalArgumentException") (hq true r y w)) : rs (rt_P sc fm) 279 F Lo 0 [(0, .ref 145)] [] (hq true c y w) Q := by
  unfold d_279 at h
  obtain ⟨lv, elv⟩ : ∃ lv : rx_L, lv = [(0, .ref 145)] := ⟨_, rfl⟩
  rw [← elv]
  have l0 : rx_ld lv 0 = some (.ref 145) := by rw [elv]; rfl
  refine rs_aldn wi_279_0 l0 ?_
  refine rs_V wi_279_1 wc_279_79 rfl (dq_isa tf_145_0 wa_10_42) (Nat.le_trans (by decide) hF) (ml_le wm_42 (Nat.le_trans (by decide) hLo)) rfl (sp_42 hw (Nat.le_trans (by decide : 0 ≤ 11 - 1) (Nat.sub_le_sub_right hF 1)) (ml_sub wm_42 (Nat.le_trans (by decide : 0 ≤ 202 - 20) (Nat.sub_le_sub_right hLo 20))) (wp_bind h) (fun v1 h => rs_back1 ?_))
  refine dl_istn wi_279_4 rfl (fun lv l1 t2 => ?_)
  have l0 := t2 _ _ (by decide) (Or.inl rfl) l0
  refine rs_aldn wi_279_5 l0 ?_
  refine rs_V wi_279_6 wc_279_82 rfl (dq_isa tf_145_0 wa_10_43) (Nat.le_trans (by decide) hF) (ml_le wm_43 (Nat.le_trans (by decide) hLo)) rfl (sp_43 hw (Nat.le_trans (by decide : 0 ≤ 11 - 1) (Nat.sub_le_sub_right hF 1)) (ml_sub wm_43 (Nat.le_trans (by decide : 0 ≤ 202 - 20) (Nat.sub_le_sub_right hLo 20))) (wp_bind h) (fun v3 h => rs_back1 ?_))
  refine rs_pure wi_279_9 rfl ?_
  refine rs_topi (v := 1) (by decide) ?_
  refine wp_jn (B := fun p4 : Int32 => ∀ lv, rx_ld lv 0 = some (.ref 145) → rx_ld lv 1 = some (.int v1) → rs (rt_P sc fm) 279 F Lo 18 lv [.int p4] (hq true c y w) Q) h (fun p4 h lv l0 l1 => ?_) (fun j18 hj18 h => ?_)
  ·
    refine dl_istn wi_279_18 rfl (fun lv l2 t5 => ?_)
    have l0 := t5 _ _ (by decide) (Or.inl rfl) l0
    have l1 := t5 _ _ (by decide) (Or.inl rfl) l1
    refine rs_ildn wi_279_19 l2 ?_
    refine wp_jn (B := fun p6 : cS => ∀ lv, rx_ld lv 0 = some (.ref 145) → rx_ld lv 1 = some (.int v1) → rx_ld lv 2 = some (.int p4) → rs (rt_P sc fm) 279 F Lo 39 lv [] (hq true p6 y w) Q) h (fun p6 h lv l0 l1 l2 => ?_) (fun j39 hj39 h => ?_)
    ·
      refine rs_ildn wi_279_39 l2 ?_
      refine wp_jn (B := fun p7 : Int64 => ∀ lv, rx_ld lv 0 = some (.ref 145) → rx_ld lv 1 = some (.int v1) → rx_ld lv 2 = some (.int p4) → rs (rt_P sc fm) 279 F Lo 59 lv [.long p7] (hq true p6 y w) Q) h (fun p7 h lv l0 l1 l2 => ?_) (fun j59 hj59 h => ?_)
      ·
        refine dl_lstn wi_279_59 rfl (fun lv l3 t8 => ?_)
        have l0 := t8 _ _ (by decide) (by decide) (Or.inl rfl) l0
        have l1 := t8 _ _ (by decide) (by decide) (Or.inl rfl) l1
        have l2 := t8 _ _ (by decide) (by decide) (Or.inl rfl) l2
        refine rs_ildn wi_279_60 l2 ?_
        refine wp_jn (B := fun p9 : cS => ∀ lv, rx_ld lv 0 = some (.ref 145) → rx_ld lv 1 = some (.int v1) → rx_ld lv 2 = some (.int p4) → rx_ld lv 3 = some (.long p7) → rs (rt_P sc fm) 279 F Lo 85 lv [] (hq true p9 y w) Q) h (fun p9 h lv l0 l1 l2 l3 => ?_) (fun j85 hj85 h => ?_)
        ·
          refine rs_aldn wi_279_85 l0 ?_
          refine dq_gr wi_279_86 wf_279_19 tf_145_2 ?_
          refine dq_gr wi_279_89 wf_279_300 tf_114_6 ?_
          refine rs_aldn wi_279_92 l0 ?_
          refine dq_gi wi_279_93 wf_279_285 tf_145_9 ?_
          obtain ⟨g10, h⟩ := wp_gd h
          refine dq_iald wi_279_96 t_120 g10 ?_
          refine rs_pure wi_279_97 rfl ?_
          refine rs_topi (v := 40) (by decide) ?_
          refine wp_jn (B := fun p11 : cS => ∀ lv, rx_ld lv 0 = some (.ref 145) → rx_ld lv 1 = some (.int v1) → rx_ld lv 2 = some (.int p4) → rx_ld lv 3 = some (.long p7) → rs (rt_P sc fm) 279 F Lo 122 lv [] (hq true p11 y w) Q) h (fun p11 h lv l0 l1 l2 l3 => ?_) (fun j122 hj122 h => ?_)
          ·
            refine rs_ildn wi_279_122 l2 ?_
            refine wp_jn (B := fun p12 : cS => ∀ lv, rx_ld lv 0 = some (.ref 145) → rx_ld lv 1 = some (.int v1) → rx_ld lv 3 = some (.long p7) → rs (rt_P sc fm) 279 F Lo 142 lv [] (hq true p12 y w) Q) h (fun p12 h lv l0 l1 l3 => ?_) (fun j142 hj142 h => ?_)
            ·
              refine rs_aldn wi_279_142 l0 ?_
              refine rs_V wi_279_143 wc_279_82 rfl (dq_isa tf_145_0 wa_10_43) (Nat.le_trans (by decide) hF) (ml_le wm_43 (Nat.le_trans (by decide) hLo)) rfl (sp_43 hw (Nat.le_trans (by decide : 0 ≤ 11 - 1) (Nat.sub_le_sub_right hF 1)) (ml_sub wm_43 (Nat.le_trans (by decide : 0 ≤ 202 - 20) (Nat.sub_le_sub_right hLo 20))) (wp_bind h) (fun v13 h => rs_back1 ?_))
              refine rs_S wi_279_146 wc_279_366 (Or.inl rfl) rfl (Nat.le_trans (by decide) hF) (ml_le wm_280 (Nat.le_trans (by decide) hLo)) rfl (sp_280 (Nat.le_trans (by decide : 0 ≤ 11 - 1) (Nat.sub_le_sub_right hF 1)) (ml_sub wm_280 (Nat.le_trans (by decide : 0 ≤ 202 - 20) (Nat.sub_le_sub_right hLo 20))) (wp_bind h) (fun v14 h => rs_back1 ?_))
              refine wp_jn (B := fun p15 : cS => ∀ lv, rx_ld lv 0 = some (.ref 145) → rx_ld lv 1 = some (.int v1) → rx_ld lv 3 = some (.long p7) → rs (rt_P sc fm) 279 F Lo 161 lv [] (hq true p15 y w) Q) h (fun p15 h lv l0 l1 l3 => ?_) (fun j161 hj161 h => ?_)
              ·
                refine rs_aldn wi_279_161 l0 ?_
                refine dq_gr wi_279_162 wf_279_19 tf_145_2 ?_
                refine rs_aldn wi_279_165 l0 ?_
                refine dq_gi wi_279_166 wf_279_285 tf_145_9 ?_
                refine rs_lldn wi_279_169 l3 ?_
                refine rs_ildn wi_279_170 l1 ?_
                refine rs_V wi_279_171 wc_279_372 rfl (dq_isa tf_114_0 wa_2_164) (Nat.le_trans (by decide) hF) (ml_le wm_164 (Nat.le_trans (by decide) hLo)) rfl (sp_164 hw (Nat.le_trans (by decide : 0 ≤ 11 - 1) (Nat.sub_le_sub_right hF 1)) (ml_sub wm_164 (Nat.le_trans (by decide : 0 ≤ 202 - 25) (Nat.sub_le_sub_right hLo 25))) (wp_bind h) (fun r16 h => rs_back1 ?_))
                refine dl_ist wi_279_174 rfl (fun lv l5 t17 => ?_)
                have l0 := t17 _ _ (by decide) (Or.inl rfl) l0
                refine rs_aldn wi_279_176 l0 ?_
                refine dq_gr wi_279_177 wf_279_19 tf_145_2 ?_
                refine dq_gr wi_279_180 wf_279_376 tf_114_8 ?_
                refine rs_ild wi_279_183 l5 ?_
                refine rs_aldn wi_279_185 l0 ?_
                refine rs_V wi_279_186 wc_279_82 rfl (dq_isa tf_145_0 wa_10_43) (Nat.le_trans (by decide) hF) (ml_le wm_43 (Nat.le_trans (by decide) hLo)) rfl (sp_43 hw (Nat.le_trans (by decide : 0 ≤ 11 - 1) (Nat.sub_le_sub_right hF 1)) (ml_sub wm_43 (Nat.le_trans (by decide : 0 ≤ 202 - 20) (Nat.sub_le_sub_right hLo 20))) (wp_bind h) (fun v18 h => rs_back1 ?_))
                obtain ⟨g19, h⟩ := wp_gd h
                obtain ⟨c20, e21, h⟩ := wp_lt h
                refine dq_iast wi_279_189 t_121 g19 e21 ?_
                refine rs_aldn wi_279_190 l0 ?_
                refine rs_pure wi_279_191 rfl ?_
                refine dq_gi wi_279_192 wf_279_49 tf_145_7 ?_
                refine rs_pure wi_279_195 rfl ?_
                refine rs_topi (v := 1) (by decide) ?_
                refine rs_pure wi_279_196 rfl ?_
                obtain ⟨c22, e23, h⟩ := wp_lt h
                refine dq_pi wi_279_197 wp_279_49 tf_145_7 rfl rfl e23 ?_
                refine rs_aldn wi_279_200 l0 ?_
                refine rs_ild wi_279_201 l5 ?_
                refine rs_V wi_279_203 wc_279_379 rfl (dq_isa tf_145_0 wa_10_281) (Nat.le_trans (by decide) hF) (ml_le wm_281 (Nat.le_trans (by decide) hLo)) rfl (sp_281 hw (Nat.le_trans (by decide : 10 ≤ 11 - 1) (Nat.sub_le_sub_right hF 1)) (ml_sub wm_281 (Nat.le_trans (by decide : 181 ≤ 202 - 21) (Nat.sub_le_sub_right hLo 21))) (wp_bind h) (fun r24 h => rs_back0 ?_) (fun z25 h => rs_up wh0_279_203 whh_279 (hT z25 (wp_inr h))))
                have h := wp_inl h
                refine rs_aldn wi_279_206 l0 ?_
                refine rs_pure wi_279_207 rfl ?_
                refine rs_topi (v := 59) (by decide) ?_
                refine rs_V wi_279_209 wc_279_114 rfl (dq_isa tf_145_0 wa_10_257) (Nat.le_trans (by decide) hF) (ml_le wm_257 (Nat.le_trans (by decide) hLo)) rfl (sp_257 hw (Nat.le_trans (by decide : 7 ≤ 11 - 1) (Nat.sub_le_sub_right hF 1)) (ml_sub wm_257 (Nat.le_trans (by decide : 104 ≤ 202 - 21) (Nat.sub_le_sub_right hLo 21))) (wp_bind h) (fun r26 h => rs_back0 ?_) (fun z27 h => rs_up wh0_279_209 whh_279 (hT z27 (wp_inr h))))
                have h := wp_inl h
                exact rs_vret wi_279_212 wr_279 (hQ r26 h)
              refine rs_ifne (tg := 161) wi_279_149 ⟨by decide, by decide⟩ (fun q => ?_) (fun q => ?_)
              ·
                have h := wp_neg h q
                exact hj161 _ h _ l0 l1 l3
              ·
                have h := wp_pos h q
                refine rs_aldn wi_279_152 l0 ?_
                refine rs_pure wi_279_153 rfl ?_
                refine rs_topi (v := 2) (by decide) ?_
                refine rs_aldn wi_279_154 l0 ?_
                refine rs_V wi_279_155 wc_279_79 rfl (dq_isa tf_145_0 wa_10_42) (Nat.le_trans (by decide) hF) (ml_le wm_42 (Nat.le_trans (by decide) hLo)) rfl (sp_42 hw (Nat.le_trans (by decide : 0 ≤ 11 - 1) (Nat.sub_le_sub_right hF 1)) (ml_sub wm_42 (Nat.le_trans (by decide : 0 ≤ 202 - 20) (Nat.sub_le_sub_right hLo 20))) (wp_bind h) (fun v28 h => rs_back1 ?_))
                refine rs_V wi_279_158 wc_279_61 rfl (dq_isa tf_145_0 wa_10_41) (Nat.le_trans (by decide) hF) (ml_le wm_41 (Nat.le_trans (by decide) hLo)) rfl (sp_41 hw (Nat.le_trans (by decide : 6 ≤ 11 - 1) (Nat.sub_le_sub_right hF 1)) (ml_sub wm_41 (Nat.le_trans (by decide : 82 ≤ 202 - 22) (Nat.sub_le_sub_right hLo 22))) (wp_bind h) (fun r29 h => rs_back0 ?_) (fun z30 h => rs_up wh0_279_158 whh_279 (hT z30 (wp_inr h))))
                have h := wp_inl h
                exact hj161 _ h _ l0 l1 l3
            refine rs_ifeq (tg := 142) wi_279_123 ⟨by decide, by decide⟩ (fun q => ?_) (fun q => ?_)
            ·
              have h := wp_pos h q
              exact hj142 _ h _ l0 l1 l3
            ·
              have h := wp_neg h q
              refine rs_aldn wi_279_126 l0 ?_
              refine rs_pure wi_279_127 rfl ?_
              refine dq_gi wi_279_128 wf_279_49 tf_145_7 ?_
              refine rs_pure wi_279_131 rfl ?_
              refine rs_topi (v := 1) (by decide) ?_
              refine rs_pure wi_279_132 rfl ?_
              obtain ⟨c31, e32, h⟩ := wp_lt h
              refine dq_pi wi_279_133 wp_279_49 tf_145_7 rfl rfl e32 ?_
              refine rs_aldn wi_279_136 l0 ?_
              refine rs_pure wi_279_137 rfl ?_
              refine rs_topi (v := 58) (by decide) ?_
              refine rs_V wi_279_139 wc_279_114 rfl (dq_isa tf_145_0 wa_10_257) (Nat.le_trans (by decide) hF) (ml_le wm_257 (Nat.le_trans (by decide) hLo)) rfl (sp_257 hw (Nat.le_trans (by decide : 7 ≤ 11 - 1) (Nat.sub_le_sub_right hF 1)) (ml_sub wm_257 (Nat.le_trans (by decide : 104 ≤ 202 - 21) (Nat.sub_le_sub_right hLo 21))) (wp_bind h) (fun r33 h => rs_back0 ?_) (fun z34 h => rs_up wh0_279_139 whh_279 (hT z34 (wp_inr h))))
              have h := wp_inl h
              exact hj142 _ h _ l0 l1 l3
          refine wp_jn (B := fun p35 : Unit => ∀ lv, rx_ld lv 0 = some (.ref 145) → rx_ld lv 1 = some (.int v1) → rx_ld lv 2 = some (.int p4) → rx_ld lv 3 = some (.long p7) → rs (rt_P sc fm) 279 F Lo 115 lv [] (hq true p9 y w) Q) h (fun p35 h lv l0 l1 l2 l3 => ?_) (fun j115 hj115 h => ?_)
          ·
            refine rs_aldn wi_279_115 l0 ?_
            refine rs_pure wi_279_116 rfl ?_
            refine rs_topi (v := 6) (by decide) ?_
            refine rs_ildn wi_279_118 l1 ?_
            refine rs_V wi_279_119 wc_279_61 rfl (dq_isa tf_145_0 wa_10_41) (Nat.le_trans (by decide) hF) (ml_le wm_41 (Nat.le_trans (by decide) hLo)) rfl (sp_41 hw (Nat.le_trans (by decide : 6 ≤ 11 - 1) (Nat.sub_le_sub_right hF 1)) (ml_sub wm_41 (Nat.le_trans (by decide : 82 ≤ 202 - 22) (Nat.sub_le_sub_right hLo 22))) (wp_bind h) (fun r36 h => rs_back0 ?_) (fun z37 h => rs_up wh0_279_119 whh_279 (hT z37 (wp_inr h))))
            have h := wp_inl h
            exact hj122 _ h _ l0 l1 l2 l3
          refine rs_icge (tg := 115) wi_279_99 ⟨by decide, by decide⟩ (fun q => ?_) (fun q => ?_)
          ·
            have h := wp_pos h q
            exact hj115 _ h _ l0 l1 l2 l3
          ·
            have h := wp_neg h q
            refine rs_aldn wi_279_102 l0 ?_
            refine dq_gr wi_279_103 wf_279_19 tf_145_2 ?_
            refine dq_gi wi_279_106 wf_279_32 tf_114_7 ?_
            refine rs_pure wi_279_109 rfl ?_
            refine rs_topi (v := 1024) (by decide) ?_
            refine rs_iclt (tg := 122) wi_279_112 ⟨by decide, by decide⟩ (fun q => ?_) (fun q => ?_)
            ·
              have h := wp_pos h q
              exact hj122 _ h _ l0 l1 l2 l3
            ·
              have h := wp_neg h q
              exact hj115 _ h _ l0 l1 l2 l3
        refine rs_ifeq (tg := 85) wi_279_61 ⟨by decide, by decide⟩ (fun q => ?_) (fun q => ?_)
        ·
          have h := wp_pos h q
          exact hj85 _ h _ l0 l1 l2 l3
        ·
          have h := wp_neg h q
          refine rs_aldn wi_279_64 l0 ?_
          refine dq_gr wi_279_65 wf_279_19 tf_145_2 ?_
          refine rs_aldn wi_279_68 l0 ?_
          refine dq_gi wi_279_69 wf_279_285 tf_145_9 ?_
          refine rs_lldn wi_279_72 l3 ?_
          refine rs_V wi_279_73 wc_279_369 rfl (dq_isa tf_114_0 wa_2_163) (Nat.le_trans (by decide) hF) (ml_le wm_163 (Nat.le_trans (by decide) hLo)) rfl (sp_163 hw (Nat.le_trans (by decide : 0 ≤ 11 - 1) (Nat.sub_le_sub_right hF 1)) (ml_sub wm_163 (Nat.le_trans (by decide : 0 ≤ 202 - 24) (Nat.sub_le_sub_right hLo 24))) (wp_bind h) (fun v38 h => rs_back1 ?_))
          refine rs_iflt (tg := 85) wi_279_76 ⟨by decide, by decide⟩ (fun q => ?_) (fun q => ?_)
          ·
            have h := wp_pos h q
            exact hj85 _ h _ l0 l1 l2 l3
          ·
            have h := wp_neg h q
            refine rs_aldn wi_279_79 l0 ?_
            refine rs_pure wi_279_80 rfl ?_
            refine rs_topi (v := 3) (by decide) ?_
            refine rs_ildn wi_279_81 l1 ?_
            refine rs_V wi_279_82 wc_279_61 rfl (dq_isa tf_145_0 wa_10_41) (Nat.le_trans (by decide) hF) (ml_le wm_41 (Nat.le_trans (by decide) hLo)) rfl (sp_41 hw (Nat.le_trans (by decide : 6 ≤ 11 - 1) (Nat.sub_le_sub_right hF 1)) (ml_sub wm_41 (Nat.le_trans (by decide : 82 ≤ 202 - 22) (Nat.sub_le_sub_right hLo 22))) (wp_bind h) (fun r39 h => rs_back0 ?_) (fun z40 h => rs_up wh0_279_82 whh_279 (hT z40 (wp_inr h))))
            have h := wp_inl h
            exact hj85 _ h _ l0 l1 l2 l3
      refine rs_ifeq (tg := 58) wi_279_40 ⟨by decide, by decide⟩ (fun q => ?_) (fun q => ?_)
      ·
        have h := wp_pos h q
        refine rs_pure wi_279_58 rfl ?_
        refine rs_topl (v := 0) (by decide) ?_
        exact hj59 _ h _ l0 l1 l2
      ·
        have h := wp_neg h q
        refine rs_aldn wi_279_43 l0 ?_
        refine dq_gr wi_279_44 wf_279_9 tf_145_0 ?_
        refine dq_gr wi_279_47 wf_279_85 tf_1_4 ?_
        refine rs_aldn wi_279_50 l0 ?_
        refine dq_gi wi_279_51 wf_279_49 tf_145_7 ?_
        obtain ⟨g41, h⟩ := wp_gd h
        refine dq_lald wi_279_54 t_5 g41 ?_
        refine rs_goto (tg := 59) wi_279_55 ⟨by decide, by decide⟩ ?_
        exact hj59 _ h _ l0 l1 l2
    refine rs_ifne (tg := 39) wi_279_20 ⟨by decide, by decide⟩ (fun q => ?_) (fun q => ?_)
    ·
      have h := wp_neg h q
      exact hj39 _ h _ l0 l1 l2
    ·
      have h := wp_pos h q
      refine rs_aldn wi_279_23 l0 ?_
      refine rs_V wi_279_24 wc_279_82 rfl (dq_isa tf_145_0 wa_10_43) (Nat.le_trans (by decide) hF) (ml_le wm_43 (Nat.le_trans (by decide) hLo)) rfl (sp_43 hw (Nat.le_trans (by decide : 0 ≤ 11 - 1) (Nat.sub_le_sub_right hF 1)) (ml_sub wm_43 (Nat.le_trans (by decide : 0 ≤ 202 - 20) (Nat.sub_le_sub_right hLo 20))) (wp_bind h) (fun v42 h => rs_back1 ?_))
      refine rs_S wi_279_27 wc_279_366 (Or.inl rfl) rfl (Nat.le_trans (by decide) hF) (ml_le wm_280 (Nat.le_trans (by decide) hLo)) rfl (sp_280 (Nat.le_trans (by decide : 0 ≤ 11 - 1) (Nat.sub_le_sub_right hF 1)) (ml_sub wm_280 (Nat.le_trans (by decide : 0 ≤ 202 - 20) (Nat.sub_le_sub_right hLo 20))) (wp_bind h) (fun v43 h => rs_back1 ?_))
      refine rs_ifne (tg := 39) wi_279_30 ⟨by decide, by decide⟩ (fun q => ?_) (fun q => ?_)
      ·
        have h := wp_neg h q
        exact hj39 _ h _ l0 l1 l2
      ·
        have h := wp_pos h q
        refine rs_aldn wi_279_33 l0 ?_
        refine rs_pure wi_279_34 rfl ?_
        refine rs_topi (v := 2) (by decide) ?_
        refine rs_ildn wi_279_35 l1 ?_
        refine rs_V wi_279_36 wc_279_61 rfl (dq_isa tf_145_0 wa_10_41) (Nat.le_trans (by decide) hF) (ml_le wm_41 (Nat.le_trans (by decide) hLo)) rfl (sp_41 hw (Nat.le_trans (by decide : 6 ≤ 11 - 1) (Nat.sub_le_sub_right hF 1)) (ml_sub wm_41 (Nat.le_trans (by decide : 82 ≤ 202 - 22) (Nat.sub_le_sub_right hLo 22))) (wp_bind h) (fun r44 h => rs_back0 ?_) (fun z45 h => rs_up wh0_279_36 whh_279 (hT z45 (wp_inr h))))
        have h := wp_inl h
        exact hj39 _ h _ l0 l1 l2
  refine rs_icne (tg := 17) wi_279_10 ⟨by decide, by decide⟩ (fun q => ?_) (fun q => ?_)
  ·
    have h := wp_neg h q
    refine rs_pure wi_279_17 rfl ?_
    refine rs_topi (v := 0) (by decide) ?_
    exact hj18 _ h _ l0 l1
  ·
    have h := wp_pos h q
    refine rs_pure wi_279_13 rfl ?_
    refine rs_topi (v := 1) (by decide) ?_
    refine rs_goto (tg := 18) wi_279_14 ⟨by decide, by decide⟩ ?_
    exact hj18 _ h _ l0 l1
theorem wa_10_269 : rz_cn 10 (rx_yn (rt_P sc fm) 269).cls = true := (by decide +kernel : rz_cn 10 (rt_yn 269).cls = true)
theorem wa_10_270 : rz_cn 10 (rx_yn (rt_P sc fm) 270).cls = true := (by decide +kernel : rz_cn 10 (rt_yn 270).cls = true)
theorem wa_10_271 : rz_cn 10 (rx_yn (rt_P sc fm) 271).cls = true := (by decide +kernel : rz_cn 10 (rt_yn 271).cls = true)
theorem wa_10_279 : rz_cn 10 (rx_yn (rt_P sc fm) 279).cls = true := (by decide +kernel : rz_cn 10 (rt_yn 279).cls = true)
theorem wc_45_102 : rx_ct (rt_P sc fm) 45 102 = some (0, 269, 0) := (by decide +kernel : rt_ct 45 102 = some (0, 269, 0))
theorem wc_45_105 : rx_ct (rt_P sc fm) 45 105 = some (0, 270, 0) := (by decide +kernel : rt_ct 45 105 = some (0, 270, 0))
theorem wc_45_108 : rx_ct (rt_P sc fm) 45 108 = some (0, 271, 0) := (by decide +kernel : rt_ct 45 108 = some (0, 271, 0))
theorem wc_45_111 : rx_ct (rt_P sc fm) 45 111 = some (0, 279, 0) := (by decide +kernel : rt_ct 45 111 = some (0, 279, 0))
theorem wc_45_114 : rx_ct (rt_P sc fm) 45 114 = some (0, 257, 1) := (by decide +kernel : rt_ct 45 114 = some (0, 257, 1))
theorem wc_45_61 : rx_ct (rt_P sc fm) 45 61 = some (0, 41, 2) := (by decide +kernel : rt_ct 45 61 = some (0, 41, 2))
theorem wc_45_79 : rx_ct (rt_P sc fm) 45 79 = some (0, 42, 0) := (by decide +kernel : rt_ct 45 79 = some (0, 42, 0))
theorem wc_45_82 : rx_ct (rt_P sc fm) 45 82 = some (0, 43, 0) := (by decide +kernel : rt_ct 45 82 = some (0, 43, 0))
theorem wf_45_118 : rx_ft (rt_P sc fm) 45 118 = some (9, 10) := (by decide +kernel : rt_ft 45 118 = some (9, 10))
theorem wf_45_15 : rx_ft (rt_P sc fm) 45 15 = some (10, 1) := (by decide +kernel : rt_ft 45 15 = some (10, 1))
theorem wh0_45_107 : rx_ht (rt_P sc fm) 45 107 "java/lang/IllegalArgumentException" = none := (by decide +kernel : rt_ht 45 107 "java/lang/IllegalArgumentException" = none)
theorem wh0_45_119 : rx_ht (rt_P sc fm) 45 119 "java/lang/IllegalArgumentException" = none := (by decide +kernel : rt_ht 45 119 "java/lang/IllegalArgumentException" = none)
theorem wh0_45_151 : rx_ht (rt_P sc fm) 45 151 "java/lang/IllegalArgumentException" = none := (by decide +kernel : rt_ht 45 151 "java/lang/IllegalArgumentException" = none)
theorem wh0_45_20 : rx_ht (rt_P sc fm) 45 20 "java/lang/IllegalArgumentException" = none := (by decide +kernel : rt_ht 45 20 "java/lang/IllegalArgumentException" = none)
theorem wh0_45_63 : rx_ht (rt_P sc fm) 45 63 "java/lang/IllegalArgumentException" = none := (by decide +kernel : rt_ht 45 63 "java/lang/IllegalArgumentException" = none)
theorem wh0_45_70 : rx_ht (rt_P sc fm) 45 70 "java/lang/IllegalArgumentException" = none := (by decide +kernel : rt_ht 45 70 "java/lang/IllegalArgumentException" = none)
theorem wh0_45_95 : rx_ht (rt_P sc fm) 45 95 "java/lang/IllegalArgumentException" = none := (by decide +kernel : rt_ht 45 95 "java/lang/IllegalArgumentException" = none)
theorem whh_45 : rx_hh (rt_P sc fm) 45 = [] := (by decide +kernel : rt_hh 45 = [])
theorem wi_45_0 : ri (rt_P sc fm) 45 0 (.iconst 0) (1) := ri_of (by decide +kernel) rfl
theorem wi_45_1 : ri (rt_P sc fm) 45 1 (.istore_n 1) (2) := ri_of (by decide +kernel) rfl
theorem wi_45_10 : ri (rt_P sc fm) 45 10 (.invokevirtual 82) (13) := ri_of (by decide +kernel) rfl
theorem wi_45_101 : ri (rt_P sc fm) 45 101 (.goto (-26)) (104) := ri_of (by decide +kernel) rfl
theorem wi_45_104 : ri (rt_P sc fm) 45 104 (.aload_n 0) (105) := ri_of (by decide +kernel) rfl
theorem wi_45_105 : ri (rt_P sc fm) 45 105 (.bipush 125) (107) := ri_of (by decide +kernel) rfl
theorem wi_45_107 : ri (rt_P sc fm) 45 107 (.invokevirtual 114) (110) := ri_of (by decide +kernel) rfl
theorem wi_45_110 : ri (rt_P sc fm) 45 110 (.iinc 2 1) (113) := ri_of (by decide +kernel) rfl
theorem wi_45_113 : ri (rt_P sc fm) 45 113 (.goto (-88)) (116) := ri_of (by decide +kernel) rfl
theorem wi_45_116 : ri (rt_P sc fm) 45 116 (.aload_n 0) (117) := ri_of (by decide +kernel) rfl
theorem wi_45_117 : ri (rt_P sc fm) 45 117 (.bipush 125) (119) := ri_of (by decide +kernel) rfl
theorem wi_45_119 : ri (rt_P sc fm) 45 119 (.invokevirtual 114) (122) := ri_of (by decide +kernel) rfl
theorem wi_45_122 : ri (rt_P sc fm) 45 122 (.iinc 1 1) (125) := ri_of (by decide +kernel) rfl
theorem wi_45_125 : ri (rt_P sc fm) 45 125 (.goto (-123)) (128) := ri_of (by decide +kernel) rfl
theorem wi_45_128 : ri (rt_P sc fm) 45 128 (.aload_n 0) (129) := ri_of (by decide +kernel) rfl
theorem wi_45_129 : ri (rt_P sc fm) 45 129 (.getfield 15) (132) := ri_of (by decide +kernel) rfl
theorem wi_45_13 : ri (rt_P sc fm) 45 13 (.sipush 202) (16) := ri_of (by decide +kernel) rfl
theorem wi_45_132 : ri (rt_P sc fm) 45 132 (.getfield 118) (135) := ri_of (by decide +kernel) rfl
theorem wi_45_135 : ri (rt_P sc fm) 45 135 (.ifCond .eq 10) (138) := ri_of (by decide +kernel) rfl
theorem wi_45_138 : ri (rt_P sc fm) 45 138 (.aload_n 0) (139) := ri_of (by decide +kernel) rfl
theorem wi_45_139 : ri (rt_P sc fm) 45 139 (.invokevirtual 82) (142) := ri_of (by decide +kernel) rfl
theorem wi_45_142 : ri (rt_P sc fm) 45 142 (.ifCond .eq 12) (145) := ri_of (by decide +kernel) rfl
theorem wi_45_145 : ri (rt_P sc fm) 45 145 (.aload_n 0) (146) := ri_of (by decide +kernel) rfl
theorem wi_45_146 : ri (rt_P sc fm) 45 146 (.iconst 2) (147) := ri_of (by decide +kernel) rfl
theorem wi_45_147 : ri (rt_P sc fm) 45 147 (.aload_n 0) (148) := ri_of (by decide +kernel) rfl
theorem wi_45_148 : ri (rt_P sc fm) 45 148 (.invokevirtual 79) (151) := ri_of (by decide +kernel) rfl
theorem wi_45_151 : ri (rt_P sc fm) 45 151 (.invokevirtual 61) (154) := ri_of (by decide +kernel) rfl
theorem wi_45_154 : ri (rt_P sc fm) 45 154 (.return_) (155) := ri_of (by decide +kernel) rfl
theorem wi_45_16 : ri (rt_P sc fm) 45 16 (.if_icmp .ne 112) (19) := ri_of (by decide +kernel) rfl
theorem wi_45_19 : ri (rt_P sc fm) 45 19 (.aload_n 0) (20) := ri_of (by decide +kernel) rfl
theorem wi_45_2 : ri (rt_P sc fm) 45 2 (.iload_n 1) (3) := ri_of (by decide +kernel) rfl
theorem wi_45_20 : ri (rt_P sc fm) 45 20 (.invokevirtual 102) (23) := ri_of (by decide +kernel) rfl
theorem wi_45_23 : ri (rt_P sc fm) 45 23 (.iconst 0) (24) := ri_of (by decide +kernel) rfl
theorem wi_45_24 : ri (rt_P sc fm) 45 24 (.istore_n 2) (25) := ri_of (by decide +kernel) rfl
theorem wi_45_25 : ri (rt_P sc fm) 45 25 (.iload_n 2) (26) := ri_of (by decide +kernel) rfl
theorem wi_45_26 : ri (rt_P sc fm) 45 26 (.sipush 4000) (29) := ri_of (by decide +kernel) rfl
theorem wi_45_29 : ri (rt_P sc fm) 45 29 (.if_icmp .ge 87) (32) := ri_of (by decide +kernel) rfl
theorem wi_45_3 : ri (rt_P sc fm) 45 3 (.sipush 4000) (6) := ri_of (by decide +kernel) rfl
theorem wi_45_32 : ri (rt_P sc fm) 45 32 (.aload_n 0) (33) := ri_of (by decide +kernel) rfl
theorem wi_45_33 : ri (rt_P sc fm) 45 33 (.invokevirtual 82) (36) := ri_of (by decide +kernel) rfl
theorem wi_45_36 : ri (rt_P sc fm) 45 36 (.sipush 203) (39) := ri_of (by decide +kernel) rfl
theorem wi_45_39 : ri (rt_P sc fm) 45 39 (.if_icmp .eq 13) (42) := ri_of (by decide +kernel) rfl
theorem wi_45_42 : ri (rt_P sc fm) 45 42 (.aload_n 0) (43) := ri_of (by decide +kernel) rfl
theorem wi_45_43 : ri (rt_P sc fm) 45 43 (.invokevirtual 82) (46) := ri_of (by decide +kernel) rfl
theorem wi_45_46 : ri (rt_P sc fm) 45 46 (.sipush 204) (49) := ri_of (by decide +kernel) rfl
theorem wi_45_49 : ri (rt_P sc fm) 45 49 (.if_icmp .ne 67) (52) := ri_of (by decide +kernel) rfl
theorem wi_45_52 : ri (rt_P sc fm) 45 52 (.aload_n 0) (53) := ri_of (by decide +kernel) rfl
theorem wi_45_53 : ri (rt_P sc fm) 45 53 (.invokevirtual 82) (56) := ri_of (by decide +kernel) rfl
theorem wi_45_56 : ri (rt_P sc fm) 45 56 (.sipush 203) (59) := ri_of (by decide +kernel) rfl
theorem wi_45_59 : ri (rt_P sc fm) 45 59 (.if_icmp .ne 10) (62) := ri_of (by decide +kernel) rfl
theorem wi_45_6 : ri (rt_P sc fm) 45 6 (.if_icmp .ge 122) (9) := ri_of (by decide +kernel) rfl
theorem wi_45_62 : ri (rt_P sc fm) 45 62 (.aload_n 0) (63) := ri_of (by decide +kernel) rfl
theorem wi_45_63 : ri (rt_P sc fm) 45 63 (.invokevirtual 105) (66) := ri_of (by decide +kernel) rfl
theorem wi_45_66 : ri (rt_P sc fm) 45 66 (.goto 44) (69) := ri_of (by decide +kernel) rfl
theorem wi_45_69 : ri (rt_P sc fm) 45 69 (.aload_n 0) (70) := ri_of (by decide +kernel) rfl
theorem wi_45_70 : ri (rt_P sc fm) 45 70 (.invokevirtual 108) (73) := ri_of (by decide +kernel) rfl
theorem wi_45_73 : ri (rt_P sc fm) 45 73 (.iconst 0) (74) := ri_of (by decide +kernel) rfl
theorem wi_45_74 : ri (rt_P sc fm) 45 74 (.istore_n 3) (75) := ri_of (by decide +kernel) rfl
theorem wi_45_75 : ri (rt_P sc fm) 45 75 (.iload_n 3) (76) := ri_of (by decide +kernel) rfl
theorem wi_45_76 : ri (rt_P sc fm) 45 76 (.bipush 40) (78) := ri_of (by decide +kernel) rfl
theorem wi_45_78 : ri (rt_P sc fm) 45 78 (.if_icmp .gt 26) (81) := ri_of (by decide +kernel) rfl
theorem wi_45_81 : ri (rt_P sc fm) 45 81 (.iload_n 3) (82) := ri_of (by decide +kernel) rfl
theorem wi_45_82 : ri (rt_P sc fm) 45 82 (.ifCond .eq 12) (85) := ri_of (by decide +kernel) rfl
theorem wi_45_85 : ri (rt_P sc fm) 45 85 (.aload_n 0) (86) := ri_of (by decide +kernel) rfl
theorem wi_45_86 : ri (rt_P sc fm) 45 86 (.invokevirtual 82) (89) := ri_of (by decide +kernel) rfl
theorem wi_45_89 : ri (rt_P sc fm) 45 89 (.bipush 125) (91) := ri_of (by decide +kernel) rfl
theorem wi_45_9 : ri (rt_P sc fm) 45 9 (.aload_n 0) (10) := ri_of (by decide +kernel) rfl
theorem wi_45_91 : ri (rt_P sc fm) 45 91 (.if_icmp .eq 13) (94) := ri_of (by decide +kernel) rfl
theorem wi_45_94 : ri (rt_P sc fm) 45 94 (.aload_n 0) (95) := ri_of (by decide +kernel) rfl
theorem wi_45_95 : ri (rt_P sc fm) 45 95 (.invokevirtual 111) (98) := ri_of (by decide +kernel) rfl
theorem wi_45_98 : ri (rt_P sc fm) 45 98 (.iinc 3 1) (101) := ri_of (by decide +kernel) rfl
theorem wm_269 : rx_ml (rt_P sc fm) 269 = 4 := (by decide +kernel : rt_ml 269 = 4)
theorem wm_270 : rx_ml (rt_P sc fm) 270 = 4 := (by decide +kernel : rt_ml 270 = 4)
theorem wm_271 : rx_ml (rt_P sc fm) 271 = 6 := (by decide +kernel : rt_ml 271 = 6)
theorem wm_279 : rx_ml (rt_P sc fm) 279 = 6 := (by decide +kernel : rt_ml 279 = 6)
theorem wr_45 : rx_rt (rt_P sc fm) 45 = none := (by decide +kernel : rt_rt 45 = none)
/-- MarkHouse$Reader.readClasses()V -/
def d_45 (n : Nat)  (c : cS) : Option ((cS) ⊕ cS) :=
  Option.bind (whl (R := (cS) ⊕ ((cS) ⊕ cS)) (fun s2 : Int32 × cS =>
    if 4000 ≤ s2.1 then
      some (.inr (.inl s2.2))
    else
      Option.bind (d_43 n s2.2) (fun v3 =>
      if v3 = 202 then
        Option.bind (d_269 n s2.2) (Sum.elim (fun r4 =>
        Option.bind (whl (R := (cS) ⊕ ((cS) ⊕ cS)) (fun s7 : Int32 × cS =>
          if 4000 ≤ s7.1 then
            some (.inr (.inl s7.2))
          else
            Option.bind (d_43 n s7.2) (fun v8 =>
            jn (fun p9 : Unit =>
              Option.bind (d_43 n s7.2) (fun v10 =>
              jn (fun p11 : cS =>
                lt (s7.1 + 1 : Int32) (fun v13 =>
                some (.inl (v13, p11))))
              (fun j110 =>
              if v10 = 203 then
                Option.bind (d_270 n s7.2) (Sum.elim (fun r30 =>
                j110 r30)
                (fun z31 => some (.inr (.inr (.inr z31)))))
              else
                Option.bind (d_271 n s7.2) (Sum.elim (fun r15 =>
                Option.bind (whl (R := (cS) ⊕ ((cS) ⊕ cS)) (fun s18 : Int32 × cS =>
                  if 40 < s18.1 then
                    some (.inr (.inl s18.2))
                  else
                    jn (fun p19 : Unit =>
                      Option.bind (d_279 n s18.2) (Sum.elim (fun r20 =>
                      lt (s18.1 + 1 : Int32) (fun v23 =>
                      some (.inl (v23, r20))))
                      (fun z21 => some (.inr (.inr (.inr z21))))))
                    (fun j94 =>
                    if s18.1 = 0 then
                      j94 ()
                    else
                      Option.bind (d_43 n s18.2) (fun v25 =>
                      if v25 = 125 then
                        some (.inr (.inl s18.2))
                      else
                        j94 ()))) n (0, r15))
                (Sum.elim (fun x26 : cS =>
                  Option.bind (d_257 n 125 x26) (Sum.elim (fun r27 =>
                  j110 r27)
                  (fun z28 => some (.inr (.inr (.inr z28))))))
                (fun x29 : (cS) ⊕ cS =>
                  some (.inr (.inr x29)))))
                (fun z16 => some (.inr (.inr (.inr z16))))))))
            (fun j52 =>
            if v8 = 203 then
              j52 ()
            else
              Option.bind (d_43 n s7.2) (fun v32 =>
              if v32 = 204 then
                j52 ()
              else
                some (.inr (.inl s7.2)))))) n (0, r4))
        (Sum.elim (fun x33 : cS =>
          Option.bind (d_257 n 125 x33) (Sum.elim (fun r34 =>
          lt (s2.1 + 1 : Int32) (fun v37 =>
          some (.inl (v37, r34))))
          (fun z35 => some (.inr (.inr (.inr z35))))))
        (fun x39 : (cS) ⊕ cS =>
          some (.inr (.inr x39)))))
        (fun z5 => some (.inr (.inr (.inr z5)))))
      else
        some (.inr (.inl s2.2)))) n (0, c))
  (Sum.elim (fun x40 : cS =>
    jn (fun p41 : cS =>
      some (.inl p41))
    (fun j154 =>
    jn (fun p42 : Unit =>
      Option.bind (d_42 n x40) (fun v43 =>
      Option.bind (d_41 n 2 v43 x40) (Sum.elim (fun r44 =>
      j154 r44)
      (fun z45 => some (.inr z45)))))
    (fun j145 =>
    if (x40.1 7 10) = 0 then
      j145 ()
    else
      Option.bind (d_43 n x40) (fun v46 =>
      if v46 = 0 then
        j154 x40
      else
        j145 ()))))
  (fun x47 : (cS) ⊕ cS =>
    some x47))
theorem sp_45 {F Lo n : Nat}  {c y : cS} {w : cW} {K : (cS) ⊕ cS → Prop} {Q : ((Option Value) ⊕ String) → List va_E → Prop} (hw : rOK fm w) (hF : 12 ≤ F) (hLo : 227 ≤ Lo)  (h : wp (d_45 n  c) K) (hQ : ∀ r, K (.inl r) → Q (.inl none) (hq true r y w)) (hT : ∀ r, K (.inr r) → Q (.inr "java/lang/IllegalArgumentException") (hq true r y w)) : rs (rt_P sc fm) 45 F Lo 0 [(0, .ref 145)] [] (hq true c y w) Q := by
  unfold d_45 at h
  obtain ⟨lv, elv⟩ : ∃ lv : rx_L, lv = [(0, .ref 145)] := ⟨_, rfl⟩
  rw [← elv]
  have l0 : rx_ld lv 0 = some (.ref 145) := by rw [elv]; rfl
  refine rs_pure wi_45_0 rfl ?_
  refine rs_topi (v := 0) (by decide) ?_
  refine dl_istn wi_45_1 rfl (fun lv l1 t1 => ?_)
  have l0 := t1 _ _ (by decide) (Or.inl rfl) l0
  refine whl_ex (A := fun s2 : Int32 × cS => ∀ lv, rx_ld lv 0 = some (.ref 145) → rx_ld lv 1 = some (.int s2.1) → rs (rt_P sc fm) 45 F Lo 2 lv [] (hq true s2.2 y w) Q) (B := (Sum.elim (fun x40 : cS => ∀ lv, rx_ld lv 0 = some (.ref 145) → rs (rt_P sc fm) 45 F Lo 128 lv [] (hq true x40 y w) Q) K)) ?_ ?_ _ _ (wp_bind h) _ l0 l1
  · intro s2 h lv l0 l1
    refine rs_ildn wi_45_2 l1 ?_
    refine rs_pure wi_45_3 rfl ?_
    refine rs_topi (v := 4000) (by decide) ?_
    refine rs_icge (tg := 128) wi_45_6 ⟨by decide, by decide⟩ (fun q => ?_) (fun q => ?_)
    ·
      have h := wp_pos h q
      exact h _ l0
    ·
      have h := wp_neg h q
      refine rs_aldn wi_45_9 l0 ?_
      refine rs_V wi_45_10 wc_45_82 rfl (dq_isa tf_145_0 wa_10_43) (Nat.le_trans (by decide) hF) (ml_le wm_43 (Nat.le_trans (by decide) hLo)) rfl (sp_43 hw (Nat.le_trans (by decide : 0 ≤ 12 - 1) (Nat.sub_le_sub_right hF 1)) (ml_sub wm_43 (Nat.le_trans (by decide : 0 ≤ 227 - 20) (Nat.sub_le_sub_right hLo 20))) (wp_bind h) (fun v3 h => rs_back1 ?_))
      refine rs_pure wi_45_13 rfl ?_
      refine rs_topi (v := 202) (by decide) ?_
      refine rs_icne (tg := 128) wi_45_16 ⟨by decide, by decide⟩ (fun q => ?_) (fun q => ?_)
      ·
        have h := wp_neg h q
        exact h _ l0
      ·
        have h := wp_pos h q
        refine rs_aldn wi_45_19 l0 ?_
        refine rs_V wi_45_20 wc_45_102 rfl (dq_isa tf_145_0 wa_10_269) (Nat.le_trans (by decide) hF) (ml_le wm_269 (Nat.le_trans (by decide) hLo)) rfl (sp_269 hw (Nat.le_trans (by decide : 10 ≤ 12 - 1) (Nat.sub_le_sub_right hF 1)) (ml_sub wm_269 (Nat.le_trans (by decide : 181 ≤ 227 - 23) (Nat.sub_le_sub_right hLo 23))) (wp_bind h) (fun r4 h => rs_back0 ?_) (fun z5 h => rs_up wh0_45_20 whh_45 (hT z5 (wp_inr h))))
        have h := wp_inl h
        refine rs_pure wi_45_23 rfl ?_
        refine rs_topi (v := 0) (by decide) ?_
        refine dl_istn wi_45_24 rfl (fun lv l2 t6 => ?_)
        have l0 := t6 _ _ (by decide) (Or.inl rfl) l0
        have l1 := t6 _ _ (by decide) (Or.inl rfl) l1
        refine whl_ex (A := fun s7 : Int32 × cS => ∀ lv, rx_ld lv 0 = some (.ref 145) → rx_ld lv 1 = some (.int s2.1) → rx_ld lv 2 = some (.int s7.1) → rs (rt_P sc fm) 45 F Lo 25 lv [] (hq true s7.2 y w) Q) (B := (Sum.elim (fun x33 : cS => ∀ lv, rx_ld lv 0 = some (.ref 145) → rx_ld lv 1 = some (.int s2.1) → rs (rt_P sc fm) 45 F Lo 116 lv [] (hq true x33 y w) Q) K)) ?_ ?_ _ _ (wp_bind h) _ l0 l1 l2
        · intro s7 h lv l0 l1 l2
          refine rs_ildn wi_45_25 l2 ?_
          refine rs_pure wi_45_26 rfl ?_
          refine rs_topi (v := 4000) (by decide) ?_
          refine rs_icge (tg := 116) wi_45_29 ⟨by decide, by decide⟩ (fun q => ?_) (fun q => ?_)
          ·
            have h := wp_pos h q
            exact h _ l0 l1
          ·
            have h := wp_neg h q
            refine rs_aldn wi_45_32 l0 ?_
            refine rs_V wi_45_33 wc_45_82 rfl (dq_isa tf_145_0 wa_10_43) (Nat.le_trans (by decide) hF) (ml_le wm_43 (Nat.le_trans (by decide) hLo)) rfl (sp_43 hw (Nat.le_trans (by decide : 0 ≤ 12 - 1) (Nat.sub_le_sub_right hF 1)) (ml_sub wm_43 (Nat.le_trans (by decide : 0 ≤ 227 - 20) (Nat.sub_le_sub_right hLo 20))) (wp_bind h) (fun v8 h => rs_back1 ?_))
            refine rs_pure wi_45_36 rfl ?_
            refine rs_topi (v := 203) (by decide) ?_
            refine wp_jn (B := fun p9 : Unit => ∀ lv, rx_ld lv 0 = some (.ref 145) → rx_ld lv 1 = some (.int s2.1) → rx_ld lv 2 = some (.int s7.1) → rs (rt_P sc fm) 45 F Lo 52 lv [] (hq true s7.2 y w) Q) h (fun p9 h lv l0 l1 l2 => ?_) (fun j52 hj52 h => ?_)
            ·
              refine rs_aldn wi_45_52 l0 ?_
              refine rs_V wi_45_53 wc_45_82 rfl (dq_isa tf_145_0 wa_10_43) (Nat.le_trans (by decide) hF) (ml_le wm_43 (Nat.le_trans (by decide) hLo)) rfl (sp_43 hw (Nat.le_trans (by decide : 0 ≤ 12 - 1) (Nat.sub_le_sub_right hF 1)) (ml_sub wm_43 (Nat.le_trans (by decide : 0 ≤ 227 - 20) (Nat.sub_le_sub_right hLo 20))) (wp_bind h) (fun v10 h => rs_back1 ?_))
              refine rs_pure wi_45_56 rfl ?_
              refine rs_topi (v := 203) (by decide) ?_
              refine wp_jn (B := fun p11 : cS => ∀ lv, rx_ld lv 0 = some (.ref 145) → rx_ld lv 1 = some (.int s2.1) → rx_ld lv 2 = some (.int s7.1) → rs (rt_P sc fm) 45 F Lo 110 lv [] (hq true p11 y w) Q) h (fun p11 h lv l0 l1 l2 => ?_) (fun j110 hj110 h => ?_)
              ·
                obtain ⟨v13, e14, h⟩ := wp_lt h
                refine dl_inc wi_45_110 l2 rfl e14 (fun lv l2 t12 => ?_)
                have l0 := t12 _ _ (by decide) (Or.inl rfl) l0
                have l1 := t12 _ _ (by decide) (Or.inl rfl) l1
                refine rs_goto (tg := 25) wi_45_113 ⟨by decide, by decide⟩ ?_
                exact h _ l0 l1 l2
              refine rs_icne (tg := 69) wi_45_59 ⟨by decide, by decide⟩ (fun q => ?_) (fun q => ?_)
              ·
                have h := wp_neg h q
                refine rs_aldn wi_45_69 l0 ?_
                refine rs_V wi_45_70 wc_45_108 rfl (dq_isa tf_145_0 wa_10_271) (Nat.le_trans (by decide) hF) (ml_le wm_271 (Nat.le_trans (by decide) hLo)) rfl (sp_271 hw (Nat.le_trans (by decide : 10 ≤ 12 - 1) (Nat.sub_le_sub_right hF 1)) (ml_sub wm_271 (Nat.le_trans (by decide : 181 ≤ 227 - 25) (Nat.sub_le_sub_right hLo 25))) (wp_bind h) (fun r15 h => rs_back0 ?_) (fun z16 h => rs_up wh0_45_70 whh_45 (hT z16 (wp_inr h))))
                have h := wp_inl h
                refine rs_pure wi_45_73 rfl ?_
                refine rs_topi (v := 0) (by decide) ?_
                refine dl_istn wi_45_74 rfl (fun lv l3 t17 => ?_)
                have l0 := t17 _ _ (by decide) (Or.inl rfl) l0
                have l1 := t17 _ _ (by decide) (Or.inl rfl) l1
                have l2 := t17 _ _ (by decide) (Or.inl rfl) l2
                refine whl_ex (A := fun s18 : Int32 × cS => ∀ lv, rx_ld lv 0 = some (.ref 145) → rx_ld lv 1 = some (.int s2.1) → rx_ld lv 2 = some (.int s7.1) → rx_ld lv 3 = some (.int s18.1) → rs (rt_P sc fm) 45 F Lo 75 lv [] (hq true s18.2 y w) Q) (B := (Sum.elim (fun x26 : cS => ∀ lv, rx_ld lv 0 = some (.ref 145) → rx_ld lv 1 = some (.int s2.1) → rx_ld lv 2 = some (.int s7.1) → rs (rt_P sc fm) 45 F Lo 104 lv [] (hq true x26 y w) Q) K)) ?_ ?_ _ _ (wp_bind h) _ l0 l1 l2 l3
                · intro s18 h lv l0 l1 l2 l3
                  refine rs_ildn wi_45_75 l3 ?_
                  refine rs_pure wi_45_76 rfl ?_
                  refine rs_topi (v := 40) (by decide) ?_
                  refine rs_icgt (tg := 104) wi_45_78 ⟨by decide, by decide⟩ (fun q => ?_) (fun q => ?_)
                  ·
                    have h := wp_pos h q
                    exact h _ l0 l1 l2
                  ·
                    have h := wp_neg h q
                    refine rs_ildn wi_45_81 l3 ?_
                    refine wp_jn (B := fun p19 : Unit => ∀ lv, rx_ld lv 0 = some (.ref 145) → rx_ld lv 1 = some (.int s2.1) → rx_ld lv 2 = some (.int s7.1) → rx_ld lv 3 = some (.int s18.1) → rs (rt_P sc fm) 45 F Lo 94 lv [] (hq true s18.2 y w) Q) h (fun p19 h lv l0 l1 l2 l3 => ?_) (fun j94 hj94 h => ?_)
                    ·
                      refine rs_aldn wi_45_94 l0 ?_
                      refine rs_V wi_45_95 wc_45_111 rfl (dq_isa tf_145_0 wa_10_279) (Nat.le_trans (by decide) hF) (ml_le wm_279 (Nat.le_trans (by decide) hLo)) rfl (sp_279 hw (Nat.le_trans (by decide : 11 ≤ 12 - 1) (Nat.sub_le_sub_right hF 1)) (ml_sub wm_279 (Nat.le_trans (by decide : 202 ≤ 227 - 25) (Nat.sub_le_sub_right hLo 25))) (wp_bind h) (fun r20 h => rs_back0 ?_) (fun z21 h => rs_up wh0_45_95 whh_45 (hT z21 (wp_inr h))))
                      have h := wp_inl h
                      obtain ⟨v23, e24, h⟩ := wp_lt h
                      refine dl_inc wi_45_98 l3 rfl e24 (fun lv l3 t22 => ?_)
                      have l0 := t22 _ _ (by decide) (Or.inl rfl) l0
                      have l1 := t22 _ _ (by decide) (Or.inl rfl) l1
                      have l2 := t22 _ _ (by decide) (Or.inl rfl) l2
                      refine rs_goto (tg := 75) wi_45_101 ⟨by decide, by decide⟩ ?_
                      exact h _ l0 l1 l2 l3
                    refine rs_ifeq (tg := 94) wi_45_82 ⟨by decide, by decide⟩ (fun q => ?_) (fun q => ?_)
                    ·
                      have h := wp_pos h q
                      exact hj94 _ h _ l0 l1 l2 l3
                    ·
                      have h := wp_neg h q
                      refine rs_aldn wi_45_85 l0 ?_
                      refine rs_V wi_45_86 wc_45_82 rfl (dq_isa tf_145_0 wa_10_43) (Nat.le_trans (by decide) hF) (ml_le wm_43 (Nat.le_trans (by decide) hLo)) rfl (sp_43 hw (Nat.le_trans (by decide : 0 ≤ 12 - 1) (Nat.sub_le_sub_right hF 1)) (ml_sub wm_43 (Nat.le_trans (by decide : 0 ≤ 227 - 20) (Nat.sub_le_sub_right hLo 20))) (wp_bind h) (fun v25 h => rs_back1 ?_))
                      refine rs_pure wi_45_89 rfl ?_
                      refine rs_topi (v := 125) (by decide) ?_
                      refine rs_iceq (tg := 104) wi_45_91 ⟨by decide, by decide⟩ (fun q => ?_) (fun q => ?_)
                      ·
                        have h := wp_pos h q
                        exact h _ l0 l1 l2
                      ·
                        have h := wp_neg h q
                        exact hj94 _ h _ l0 l1 l2 l3
                ·
                  refine sum_all ?_ ?_
                  ·
                    intro x26 h lv l0 l1 l2
                    have h := wp_inl h
                    refine rs_aldn wi_45_104 l0 ?_
                    refine rs_pure wi_45_105 rfl ?_
                    refine rs_topi (v := 125) (by decide) ?_
                    refine rs_V wi_45_107 wc_45_114 rfl (dq_isa tf_145_0 wa_10_257) (Nat.le_trans (by decide) hF) (ml_le wm_257 (Nat.le_trans (by decide) hLo)) rfl (sp_257 hw (Nat.le_trans (by decide : 7 ≤ 12 - 1) (Nat.sub_le_sub_right hF 1)) (ml_sub wm_257 (Nat.le_trans (by decide : 104 ≤ 227 - 21) (Nat.sub_le_sub_right hLo 21))) (wp_bind h) (fun r27 h => rs_back0 ?_) (fun z28 h => rs_up wh0_45_107 whh_45 (hT z28 (wp_inr h))))
                    have h := wp_inl h
                    exact hj110 _ h _ l0 l1 l2
                  ·
                    intro x29 h
                    exact h
              ·
                have h := wp_pos h q
                refine rs_aldn wi_45_62 l0 ?_
                refine rs_V wi_45_63 wc_45_105 rfl (dq_isa tf_145_0 wa_10_270) (Nat.le_trans (by decide) hF) (ml_le wm_270 (Nat.le_trans (by decide) hLo)) rfl (sp_270 hw (Nat.le_trans (by decide : 10 ≤ 12 - 1) (Nat.sub_le_sub_right hF 1)) (ml_sub wm_270 (Nat.le_trans (by decide : 181 ≤ 227 - 23) (Nat.sub_le_sub_right hLo 23))) (wp_bind h) (fun r30 h => rs_back0 ?_) (fun z31 h => rs_up wh0_45_63 whh_45 (hT z31 (wp_inr h))))
                have h := wp_inl h
                refine rs_goto (tg := 110) wi_45_66 ⟨by decide, by decide⟩ ?_
                exact hj110 _ h _ l0 l1 l2
            refine rs_iceq (tg := 52) wi_45_39 ⟨by decide, by decide⟩ (fun q => ?_) (fun q => ?_)
            ·
              have h := wp_pos h q
              exact hj52 _ h _ l0 l1 l2
            ·
              have h := wp_neg h q
              refine rs_aldn wi_45_42 l0 ?_
              refine rs_V wi_45_43 wc_45_82 rfl (dq_isa tf_145_0 wa_10_43) (Nat.le_trans (by decide) hF) (ml_le wm_43 (Nat.le_trans (by decide) hLo)) rfl (sp_43 hw (Nat.le_trans (by decide : 0 ≤ 12 - 1) (Nat.sub_le_sub_right hF 1)) (ml_sub wm_43 (Nat.le_trans (by decide : 0 ≤ 227 - 20) (Nat.sub_le_sub_right hLo 20))) (wp_bind h) (fun v32 h => rs_back1 ?_))
              refine rs_pure wi_45_46 rfl ?_
              refine rs_topi (v := 204) (by decide) ?_
              refine rs_icne (tg := 116) wi_45_49 ⟨by decide, by decide⟩ (fun q => ?_) (fun q => ?_)
              ·
                have h := wp_neg h q
                exact h _ l0 l1
              ·
                have h := wp_pos h q
                exact hj52 _ h _ l0 l1 l2
        ·
          refine sum_all ?_ ?_
          ·
            intro x33 h lv l0 l1
            have h := wp_inl h
            refine rs_aldn wi_45_116 l0 ?_
            refine rs_pure wi_45_117 rfl ?_
            refine rs_topi (v := 125) (by decide) ?_
            refine rs_V wi_45_119 wc_45_114 rfl (dq_isa tf_145_0 wa_10_257) (Nat.le_trans (by decide) hF) (ml_le wm_257 (Nat.le_trans (by decide) hLo)) rfl (sp_257 hw (Nat.le_trans (by decide : 7 ≤ 12 - 1) (Nat.sub_le_sub_right hF 1)) (ml_sub wm_257 (Nat.le_trans (by decide : 104 ≤ 227 - 21) (Nat.sub_le_sub_right hLo 21))) (wp_bind h) (fun r34 h => rs_back0 ?_) (fun z35 h => rs_up wh0_45_119 whh_45 (hT z35 (wp_inr h))))
            have h := wp_inl h
            obtain ⟨v37, e38, h⟩ := wp_lt h
            refine dl_inc wi_45_122 l1 rfl e38 (fun lv l1 t36 => ?_)
            have l0 := t36 _ _ (by decide) (Or.inl rfl) l0
            refine rs_goto (tg := 2) wi_45_125 ⟨by decide, by decide⟩ ?_
            exact h _ l0 l1
          ·
            intro x39 h
            exact h
  ·
    refine sum_all ?_ ?_
    ·
      intro x40 h lv l0
      have h := wp_inl h
      refine rs_aldn wi_45_128 l0 ?_
      refine dq_gr wi_45_129 wf_45_15 tf_145_1 ?_
      refine dq_gi wi_45_132 wf_45_118 tf_7_10 ?_
      refine wp_jn (B := fun p41 : cS => ∀ lv, rs (rt_P sc fm) 45 F Lo 154 lv [] (hq true p41 y w) Q) h (fun p41 h lv => ?_) (fun j154 hj154 h => ?_)
      ·
        exact rs_vret wi_45_154 wr_45 (hQ p41 h)
      refine wp_jn (B := fun p42 : Unit => ∀ lv, rx_ld lv 0 = some (.ref 145) → rs (rt_P sc fm) 45 F Lo 145 lv [] (hq true x40 y w) Q) h (fun p42 h lv l0 => ?_) (fun j145 hj145 h => ?_)
      ·
        refine rs_aldn wi_45_145 l0 ?_
        refine rs_pure wi_45_146 rfl ?_
        refine rs_topi (v := 2) (by decide) ?_
        refine rs_aldn wi_45_147 l0 ?_
        refine rs_V wi_45_148 wc_45_79 rfl (dq_isa tf_145_0 wa_10_42) (Nat.le_trans (by decide) hF) (ml_le wm_42 (Nat.le_trans (by decide) hLo)) rfl (sp_42 hw (Nat.le_trans (by decide : 0 ≤ 12 - 1) (Nat.sub_le_sub_right hF 1)) (ml_sub wm_42 (Nat.le_trans (by decide : 0 ≤ 227 - 20) (Nat.sub_le_sub_right hLo 20))) (wp_bind h) (fun v43 h => rs_back1 ?_))
        refine rs_V wi_45_151 wc_45_61 rfl (dq_isa tf_145_0 wa_10_41) (Nat.le_trans (by decide) hF) (ml_le wm_41 (Nat.le_trans (by decide) hLo)) rfl (sp_41 hw (Nat.le_trans (by decide : 6 ≤ 12 - 1) (Nat.sub_le_sub_right hF 1)) (ml_sub wm_41 (Nat.le_trans (by decide : 82 ≤ 227 - 22) (Nat.sub_le_sub_right hLo 22))) (wp_bind h) (fun r44 h => rs_back0 ?_) (fun z45 h => rs_up wh0_45_151 whh_45 (hT z45 (wp_inr h))))
        have h := wp_inl h
        exact hj154 _ h _
      refine rs_ifeq (tg := 145) wi_45_135 ⟨by decide, by decide⟩ (fun q => ?_) (fun q => ?_)
      ·
        have h := wp_pos h q
        exact hj145 _ h _ l0
      ·
        have h := wp_neg h q
        refine rs_aldn wi_45_138 l0 ?_
        refine rs_V wi_45_139 wc_45_82 rfl (dq_isa tf_145_0 wa_10_43) (Nat.le_trans (by decide) hF) (ml_le wm_43 (Nat.le_trans (by decide) hLo)) rfl (sp_43 hw (Nat.le_trans (by decide : 0 ≤ 12 - 1) (Nat.sub_le_sub_right hF 1)) (ml_sub wm_43 (Nat.le_trans (by decide : 0 ≤ 227 - 20) (Nat.sub_le_sub_right hLo 20))) (wp_bind h) (fun v46 h => rs_back1 ?_))
        refine rs_ifeq (tg := 154) wi_45_142 ⟨by decide, by decide⟩ (fun q => ?_) (fun q => ?_)
        ·
          have h := wp_pos h q
          exact hj154 _ h _
        ·
          have h := wp_neg h q
          exact hj145 _ h _ l0
    ·
      intro x47 h
      exact h
theorem t_161 : ta true 161 0 64 := ⟨rfl, by decide, by decide⟩
theorem tf_159_4 : fo true 159 11 4 (.ref 161) := ⟨_, rfl, rfl, by decide, by decide⟩
theorem tf_159_5 : fo true 159 11 5 (.int 0) := ⟨_, rfl, rfl, by decide, by decide⟩
theorem wf_47_15 : rx_ft (rt_P sc fm) 47 15 = some (11, 4) := (by decide +kernel : rt_ft 47 15 = some (11, 4))
theorem wf_47_46 : rx_ft (rt_P sc fm) 47 46 = some (11, 5) := (by decide +kernel : rt_ft 47 46 = some (11, 5))
theorem wi_47_0 : ri (rt_P sc fm) 47 0 (.aload_n 0) (1) := ri_of (by decide +kernel) rfl
theorem wi_47_1 : ri (rt_P sc fm) 47 1 (.getfield 46) (4) := ri_of (by decide +kernel) rfl
theorem wi_47_10 : ri (rt_P sc fm) 47 10 (.ireturn) (11) := ri_of (by decide +kernel) rfl
theorem wi_47_11 : ri (rt_P sc fm) 47 11 (.aload_n 0) (12) := ri_of (by decide +kernel) rfl
theorem wi_47_12 : ri (rt_P sc fm) 47 12 (.getfield 15) (15) := ri_of (by decide +kernel) rfl
theorem wi_47_15 : ri (rt_P sc fm) 47 15 (.aload_n 0) (16) := ri_of (by decide +kernel) rfl
theorem wi_47_16 : ri (rt_P sc fm) 47 16 (.dup) (17) := ri_of (by decide +kernel) rfl
theorem wi_47_17 : ri (rt_P sc fm) 47 17 (.getfield 46) (20) := ri_of (by decide +kernel) rfl
theorem wi_47_20 : ri (rt_P sc fm) 47 20 (.dup_x1) (21) := ri_of (by decide +kernel) rfl
theorem wi_47_21 : ri (rt_P sc fm) 47 21 (.iconst 1) (22) := ri_of (by decide +kernel) rfl
theorem wi_47_22 : ri (rt_P sc fm) 47 22 (.iadd) (23) := ri_of (by decide +kernel) rfl
theorem wi_47_23 : ri (rt_P sc fm) 47 23 (.putfield 46) (26) := ri_of (by decide +kernel) rfl
theorem wi_47_26 : ri (rt_P sc fm) 47 26 (.iload_n 1) (27) := ri_of (by decide +kernel) rfl
theorem wi_47_27 : ri (rt_P sc fm) 47 27 (.iastore) (28) := ri_of (by decide +kernel) rfl
theorem wi_47_28 : ri (rt_P sc fm) 47 28 (.aload_n 0) (29) := ri_of (by decide +kernel) rfl
theorem wi_47_29 : ri (rt_P sc fm) 47 29 (.getfield 46) (32) := ri_of (by decide +kernel) rfl
theorem wi_47_32 : ri (rt_P sc fm) 47 32 (.ireturn) (33) := ri_of (by decide +kernel) rfl
theorem wi_47_4 : ri (rt_P sc fm) 47 4 (.bipush 64) (6) := ri_of (by decide +kernel) rfl
theorem wi_47_6 : ri (rt_P sc fm) 47 6 (.if_icmp .lt 5) (9) := ri_of (by decide +kernel) rfl
theorem wi_47_9 : ri (rt_P sc fm) 47 9 (.iconst (-1)) (10) := ri_of (by decide +kernel) rfl
theorem wp_47_46 : rx_pt (rt_P sc fm) 47 46 = some (11, 5, .int) := (by decide +kernel : rt_pt 47 46 = some (11, 5, .int))
theorem wr_47 : rx_rt (rt_P sc fm) 47 = (some FieldType.int) := (by decide +kernel : rt_rt 47 = (some FieldType.int))
/-- MarkHouse$Run.addInput(I)I -/
def d_47 (n : Nat) (a1 : Int32) (c : cS) : Option (Int32 × cS) :=
  if (c.1 159 5) < 64 then
    lt (pI c 159 5 ((c.1 159 5) + 1)) (fun c1 =>
    if ib (c.1 159 5) 64 then
    lt (pI c1 161 (ix (c.1 159 5)) a1) (fun c4 =>
    some ((c4.1 159 5), c4))
    else none)
  else
    some ((-1), c)
theorem sp_47 {F Lo n : Nat} {a1 : Int32} {c y : cS} {w : cW} {K : Int32 × cS → Prop} {Q : ((Option Value) ⊕ String) → List va_E → Prop} (hw : rOK fm w) (hF : 0 ≤ F) (hLo : 0 ≤ Lo)  (h : wp (d_47 n a1 c) K) (hQ : ∀ r, K r → Q (.inl (some (.int r.1))) (hq true r.2 y w)) : rs (rt_P sc fm) 47 F Lo 0 [(0, .ref 159), (1, .int a1)] [] (hq true c y w) Q := by
  unfold d_47 at h
  obtain ⟨lv, elv⟩ : ∃ lv : rx_L, lv = [(0, .ref 159), (1, .int a1)] := ⟨_, rfl⟩
  rw [← elv]
  have l0 : rx_ld lv 0 = some (.ref 159) := by rw [elv]; rfl
  have l1 : rx_ld lv 1 = some (.int a1) := by rw [elv]; rfl
  refine rs_aldn wi_47_0 l0 ?_
  refine dq_gi wi_47_1 wf_47_46 tf_159_5 ?_
  refine rs_pure wi_47_4 rfl ?_
  refine rs_topi (v := 64) (by decide) ?_
  refine rs_iclt (tg := 11) wi_47_6 ⟨by decide, by decide⟩ (fun q => ?_) (fun q => ?_)
  ·
    have h := wp_pos h q
    refine rs_aldn wi_47_11 l0 ?_
    refine dq_gr wi_47_12 wf_47_15 tf_159_4 ?_
    refine rs_aldn wi_47_15 l0 ?_
    refine rs_pure wi_47_16 rfl ?_
    refine dq_gi wi_47_17 wf_47_46 tf_159_5 ?_
    refine rs_pure wi_47_20 rfl ?_
    refine rs_pure wi_47_21 rfl ?_
    refine rs_topi (v := 1) (by decide) ?_
    refine rs_pure wi_47_22 rfl ?_
    obtain ⟨c1, e2, h⟩ := wp_lt h
    refine dq_pi wi_47_23 wp_47_46 tf_159_5 rfl rfl e2 ?_
    refine rs_ildn wi_47_26 l1 ?_
    obtain ⟨g3, h⟩ := wp_gd h
    obtain ⟨c4, e5, h⟩ := wp_lt h
    refine dq_iast wi_47_27 t_161 g3 e5 ?_
    refine rs_aldn wi_47_28 l0 ?_
    refine dq_gi wi_47_29 wf_47_46 tf_159_5 ?_
    exact rs_iret wi_47_32 wr_47 rfl (hQ ((c4.1 159 5), c4) h)
  ·
    have h := wp_neg h q
    refine rs_pure wi_47_9 rfl ?_
    refine rs_topi (v := (-1)) (by decide) ?_
    exact rs_iret wi_47_10 wr_47 rfl (hQ ((-1), c) h)
theorem t_162 : ta true 162 0 12 := ⟨rfl, by decide, by decide⟩
theorem tf_159_6 : fo true 159 11 6 (.ref 162) := ⟨_, rfl, rfl, by decide, by decide⟩
theorem wc_48_56 : rx_ct (rt_P sc fm) 48 56 = some (1, 153, 2) := (by decide +kernel : rt_ct 48 56 = some (1, 153, 2))
theorem wc_48_62 : rx_ct (rt_P sc fm) 48 62 = some (1, 154, 4) := (by decide +kernel : rt_ct 48 62 = some (1, 154, 4))
theorem wf_48_18 : rx_ft (rt_P sc fm) 48 18 = some (11, 6) := (by decide +kernel : rt_ft 48 18 = some (11, 6))
theorem wi_48_0 : ri (rt_P sc fm) 48 0 (.aload_n 0) (1) := ri_of (by decide +kernel) rfl
theorem wi_48_1 : ri (rt_P sc fm) 48 1 (.getfield 18) (4) := ri_of (by decide +kernel) rfl
theorem wi_48_12 : ri (rt_P sc fm) 48 12 (.bipush 7) (14) := ri_of (by decide +kernel) rfl
theorem wi_48_14 : ri (rt_P sc fm) 48 14 (.bipush 10) (16) := ri_of (by decide +kernel) rfl
theorem wi_48_16 : ri (rt_P sc fm) 48 16 (.iconst (-1)) (17) := ri_of (by decide +kernel) rfl
theorem wi_48_17 : ri (rt_P sc fm) 48 17 (.invokestatic 62) (20) := ri_of (by decide +kernel) rfl
theorem wi_48_20 : ri (rt_P sc fm) 48 20 (.return_) (21) := ri_of (by decide +kernel) rfl
theorem wi_48_4 : ri (rt_P sc fm) 48 4 (.iconst 0) (5) := ri_of (by decide +kernel) rfl
theorem wi_48_5 : ri (rt_P sc fm) 48 5 (.invokestatic 56) (8) := ri_of (by decide +kernel) rfl
theorem wi_48_8 : ri (rt_P sc fm) 48 8 (.aload_n 0) (9) := ri_of (by decide +kernel) rfl
theorem wi_48_9 : ri (rt_P sc fm) 48 9 (.getfield 18) (12) := ri_of (by decide +kernel) rfl
theorem wr_48 : rx_rt (rt_P sc fm) 48 = none := (by decide +kernel : rt_rt 48 = none)
/-- MarkHouse$Run.stop()V -/
def d_48 (n : Nat)  (c : cS) : Option (cS) :=
  Option.bind (d_153 n 162 12 0 c) (fun r1 =>
  Option.bind (d_154 n 162 12 7 10 (-1) r1) (fun r2 =>
  some r2))
theorem sp_48 {F Lo n : Nat}  {c y : cS} {w : cW} {K : cS → Prop} {Q : ((Option Value) ⊕ String) → List va_E → Prop} (hw : rOK fm w) (hF : 2 ≤ F) (hLo : 46 ≤ Lo)  (h : wp (d_48 n  c) K) (hQ : ∀ r, K r → Q (.inl none) (hq true r y w)) : rs (rt_P sc fm) 48 F Lo 0 [(0, .ref 159)] [] (hq true c y w) Q := by
  unfold d_48 at h
  obtain ⟨lv, elv⟩ : ∃ lv : rx_L, lv = [(0, .ref 159)] := ⟨_, rfl⟩
  rw [← elv]
  have l0 : rx_ld lv 0 = some (.ref 159) := by rw [elv]; rfl
  refine rs_aldn wi_48_0 l0 ?_
  refine dq_gr wi_48_1 wf_48_18 tf_159_6 ?_
  refine rs_pure wi_48_4 rfl ?_
  refine rs_topi (v := 0) (by decide) ?_
  refine rs_S wi_48_5 wc_48_56 (Or.inl rfl) rfl (Nat.le_trans (by decide) hF) (ml_le wm_153 (Nat.le_trans (by decide) hLo)) rfl (sp_153 hw (Nat.le_trans (by decide : 0 ≤ 2 - 1) (Nat.sub_le_sub_right hF 1)) (ml_sub wm_153 (Nat.le_trans (by decide : 0 ≤ 46 - 23) (Nat.sub_le_sub_right hLo 23))) t_162 (wp_bind h) (fun r1 h => rs_back0 ?_))
  refine rs_aldn wi_48_8 l0 ?_
  refine dq_gr wi_48_9 wf_48_18 tf_159_6 ?_
  refine rs_pure wi_48_12 rfl ?_
  refine rs_topi (v := 7) (by decide) ?_
  refine rs_pure wi_48_14 rfl ?_
  refine rs_topi (v := 10) (by decide) ?_
  refine rs_pure wi_48_16 rfl ?_
  refine rs_topi (v := (-1)) (by decide) ?_
  refine rs_S wi_48_17 wc_48_62 (Or.inl rfl) rfl (Nat.le_trans (by decide) hF) (ml_le wm_154 (Nat.le_trans (by decide) hLo)) rfl (sp_154 hw (Nat.le_trans (by decide : 1 ≤ 2 - 1) (Nat.sub_le_sub_right hF 1)) (ml_sub wm_154 (Nat.le_trans (by decide : 22 ≤ 46 - 24) (Nat.sub_le_sub_right hLo 24))) t_162 (wp_bind h) (fun r2 h => rs_back0 ?_))
  exact rs_vret wi_48_20 wr_48 (hQ r2 h)
theorem wf_49_18 : rx_ft (rt_P sc fm) 49 18 = some (11, 6) := (by decide +kernel : rt_ft 49 18 = some (11, 6))
theorem wi_49_0 : ri (rt_P sc fm) 49 0 (.aload_n 0) (1) := ri_of (by decide +kernel) rfl
theorem wi_49_1 : ri (rt_P sc fm) 49 1 (.getfield 18) (4) := ri_of (by decide +kernel) rfl
theorem wi_49_10 : ri (rt_P sc fm) 49 10 (.iconst 1) (11) := ri_of (by decide +kernel) rfl
theorem wi_49_11 : ri (rt_P sc fm) 49 11 (.goto 4) (14) := ri_of (by decide +kernel) rfl
theorem wi_49_14 : ri (rt_P sc fm) 49 14 (.iconst 0) (15) := ri_of (by decide +kernel) rfl
theorem wi_49_15 : ri (rt_P sc fm) 49 15 (.ireturn) (16) := ri_of (by decide +kernel) rfl
theorem wi_49_4 : ri (rt_P sc fm) 49 4 (.iconst 0) (5) := ri_of (by decide +kernel) rfl
theorem wi_49_5 : ri (rt_P sc fm) 49 5 (.iaload) (6) := ri_of (by decide +kernel) rfl
theorem wi_49_6 : ri (rt_P sc fm) 49 6 (.iconst 1) (7) := ri_of (by decide +kernel) rfl
theorem wi_49_7 : ri (rt_P sc fm) 49 7 (.if_icmp .ne 7) (10) := ri_of (by decide +kernel) rfl
theorem wr_49 : rx_rt (rt_P sc fm) 49 = (some FieldType.boolean) := (by decide +kernel : rt_rt 49 = (some FieldType.boolean))
/-- MarkHouse$Run.isUnderWay()Z -/
def d_49 (n : Nat)  (c : cS) : Option (Int32) :=
  if ib 0 12 then
  jn (fun p2 : Int32 =>
    if nb p2 then
    some p2
    else none)
  (fun j15 =>
  if (c.1 162 (ix 0)) = 1 then
    j15 1
  else
    j15 0)
  else none
theorem sp_49 {F Lo n : Nat}  {c y : cS} {w : cW} {K : Int32 → Prop} {Q : ((Option Value) ⊕ String) → List va_E → Prop} (hw : rOK fm w) (hF : 0 ≤ F) (hLo : 0 ≤ Lo)  (h : wp (d_49 n  c) K) (hQ : ∀ r, K r → Q (.inl (some (.int r))) (hq true c y w)) : rs (rt_P sc fm) 49 F Lo 0 [(0, .ref 159)] [] (hq true c y w) Q := by
  unfold d_49 at h
  obtain ⟨lv, elv⟩ : ∃ lv : rx_L, lv = [(0, .ref 159)] := ⟨_, rfl⟩
  rw [← elv]
  have l0 : rx_ld lv 0 = some (.ref 159) := by rw [elv]; rfl
  refine rs_aldn wi_49_0 l0 ?_
  refine dq_gr wi_49_1 wf_49_18 tf_159_6 ?_
  refine rs_pure wi_49_4 rfl ?_
  refine rs_topi (v := 0) (by decide) ?_
  obtain ⟨g1, h⟩ := wp_gd h
  refine dq_iald wi_49_5 t_162 g1 ?_
  refine rs_pure wi_49_6 rfl ?_
  refine rs_topi (v := 1) (by decide) ?_
  refine wp_jn (B := fun p2 : Int32 => ∀ lv, rs (rt_P sc fm) 49 F Lo 15 lv [.int p2] (hq true c y w) Q) h (fun p2 h lv => ?_) (fun j15 hj15 h => ?_)
  ·
    obtain ⟨g3, h⟩ := wp_gd h
    exact rs_iret wi_49_15 wr_49 (nb_n g3) (hQ p2 h)
  refine rs_icne (tg := 14) wi_49_7 ⟨by decide, by decide⟩ (fun q => ?_) (fun q => ?_)
  ·
    have h := wp_neg h q
    refine rs_pure wi_49_14 rfl ?_
    refine rs_topi (v := 0) (by decide) ?_
    exact hj15 _ h _
  ·
    have h := wp_pos h q
    refine rs_pure wi_49_10 rfl ?_
    refine rs_topi (v := 1) (by decide) ?_
    refine rs_goto (tg := 15) wi_49_11 ⟨by decide, by decide⟩ ?_
    exact hj15 _ h _
theorem t_163 : ta true 163 0 12 := ⟨rfl, by decide, by decide⟩
theorem t_164 : ta true 164 0 12 := ⟨rfl, by decide, by decide⟩
theorem tf_159_0 : fo true 159 11 0 (.ref 7) := ⟨_, rfl, rfl, by decide, by decide⟩
theorem tf_159_1 : fo true 159 11 1 (.ref 114) := ⟨_, rfl, rfl, by decide, by decide⟩
theorem tf_159_10 : fo true 159 11 10 (.int 0) := ⟨_, rfl, rfl, by decide, by decide⟩
theorem tf_159_7 : fo true 159 11 7 (.ref 163) := ⟨_, rfl, rfl, by decide, by decide⟩
theorem tf_159_8 : fo true 159 11 8 (.ref 164) := ⟨_, rfl, rfl, by decide, by decide⟩
theorem wa_11_49 : rz_cn 11 (rx_yn (rt_P sc fm) 49).cls = true := (by decide +kernel : rz_cn 11 (rt_yn 49).cls = true)
theorem wc_50_114 : rx_ct (rt_P sc fm) 50 114 = some (0, 49, 0) := (by decide +kernel : rt_ct 50 114 = some (0, 49, 0))
theorem wc_50_192 : rx_ct (rt_P sc fm) 50 192 = some (0, 156, 1) := (by decide +kernel : rt_ct 50 192 = some (0, 156, 1))
theorem wf_50_18 : rx_ft (rt_P sc fm) 50 18 = some (11, 6) := (by decide +kernel : rt_ft 50 18 = some (11, 6))
theorem wf_50_21 : rx_ft (rt_P sc fm) 50 21 = some (11, 7) := (by decide +kernel : rt_ft 50 21 = some (11, 7))
theorem wf_50_24 : rx_ft (rt_P sc fm) 50 24 = some (11, 8) := (by decide +kernel : rt_ft 50 24 = some (11, 8))
theorem wf_50_38 : rx_ft (rt_P sc fm) 50 38 = some (11, 1) := (by decide +kernel : rt_ft 50 38 = some (11, 1))
theorem wf_50_99 : rx_ft (rt_P sc fm) 50 99 = some (11, 10) := (by decide +kernel : rt_ft 50 99 = some (11, 10))
theorem wi_50_0 : ri (rt_P sc fm) 50 0 (.iload_n 1) (1) := ri_of (by decide +kernel) rfl
theorem wi_50_1 : ri (rt_P sc fm) 50 1 (.ifCond .lt 9) (4) := ri_of (by decide +kernel) rfl
theorem wi_50_10 : ri (rt_P sc fm) 50 10 (.iconst (-1)) (11) := ri_of (by decide +kernel) rfl
theorem wi_50_100 : ri (rt_P sc fm) 50 100 (.isub) (101) := ri_of (by decide +kernel) rfl
theorem wi_50_101 : ri (rt_P sc fm) 50 101 (.iaload) (102) := ri_of (by decide +kernel) rfl
theorem wi_50_102 : ri (rt_P sc fm) 50 102 (.ireturn) (103) := ri_of (by decide +kernel) rfl
theorem wi_50_103 : ri (rt_P sc fm) 50 103 (.aload_n 0) (104) := ri_of (by decide +kernel) rfl
theorem wi_50_104 : ri (rt_P sc fm) 50 104 (.invokevirtual 114) (107) := ri_of (by decide +kernel) rfl
theorem wi_50_107 : ri (rt_P sc fm) 50 107 (.ifCond .eq 10) (110) := ri_of (by decide +kernel) rfl
theorem wi_50_11 : ri (rt_P sc fm) 50 11 (.ireturn) (12) := ri_of (by decide +kernel) rfl
theorem wi_50_110 : ri (rt_P sc fm) 50 110 (.aload_n 0) (111) := ri_of (by decide +kernel) rfl
theorem wi_50_111 : ri (rt_P sc fm) 50 111 (.getfield 99) (114) := ri_of (by decide +kernel) rfl
theorem wi_50_114 : ri (rt_P sc fm) 50 114 (.goto 4) (117) := ri_of (by decide +kernel) rfl
theorem wi_50_117 : ri (rt_P sc fm) 50 117 (.iconst 0) (118) := ri_of (by decide +kernel) rfl
theorem wi_50_118 : ri (rt_P sc fm) 50 118 (.ireturn) (119) := ri_of (by decide +kernel) rfl
theorem wi_50_119 : ri (rt_P sc fm) 50 119 (.aload_n 0) (120) := ri_of (by decide +kernel) rfl
theorem wi_50_12 : ri (rt_P sc fm) 50 12 (.aload_n 0) (13) := ri_of (by decide +kernel) rfl
theorem wi_50_120 : ri (rt_P sc fm) 50 120 (.getfield 18) (123) := ri_of (by decide +kernel) rfl
theorem wi_50_123 : ri (rt_P sc fm) 50 123 (.iload_n 1) (124) := ri_of (by decide +kernel) rfl
theorem wi_50_124 : ri (rt_P sc fm) 50 124 (.iaload) (125) := ri_of (by decide +kernel) rfl
theorem wi_50_125 : ri (rt_P sc fm) 50 125 (.ireturn) (126) := ri_of (by decide +kernel) rfl
theorem wi_50_13 : ri (rt_P sc fm) 50 13 (.getfield 18) (16) := ri_of (by decide +kernel) rfl
theorem wi_50_16 : ri (rt_P sc fm) 50 16 (.iconst 0) (17) := ri_of (by decide +kernel) rfl
theorem wi_50_17 : ri (rt_P sc fm) 50 17 (.iaload) (18) := ri_of (by decide +kernel) rfl
theorem wi_50_18 : ri (rt_P sc fm) 50 18 (.ifCond .ne 7) (21) := ri_of (by decide +kernel) rfl
theorem wi_50_21 : ri (rt_P sc fm) 50 21 (.iconst 1) (22) := ri_of (by decide +kernel) rfl
theorem wi_50_22 : ri (rt_P sc fm) 50 22 (.goto 4) (25) := ri_of (by decide +kernel) rfl
theorem wi_50_25 : ri (rt_P sc fm) 50 25 (.iconst 0) (26) := ri_of (by decide +kernel) rfl
theorem wi_50_26 : ri (rt_P sc fm) 50 26 (.istore_n 2) (27) := ri_of (by decide +kernel) rfl
theorem wi_50_27 : ri (rt_P sc fm) 50 27 (.iload_n 1) (28) := ri_of (by decide +kernel) rfl
theorem wi_50_28 : ri (rt_P sc fm) 50 28 (.tableswitch 91 3 5 #[28, 55, 75]) (28 + rx_len (.tableswitch 91 3 5 #[28, 55, 75])) := ri_of (by decide +kernel) rfl
theorem wi_50_4 : ri (rt_P sc fm) 50 4 (.iload_n 1) (5) := ri_of (by decide +kernel) rfl
theorem wi_50_5 : ri (rt_P sc fm) 50 5 (.bipush 12) (7) := ri_of (by decide +kernel) rfl
theorem wi_50_56 : ri (rt_P sc fm) 50 56 (.iload_n 2) (57) := ri_of (by decide +kernel) rfl
theorem wi_50_57 : ri (rt_P sc fm) 50 57 (.ifCond .eq 7) (60) := ri_of (by decide +kernel) rfl
theorem wi_50_60 : ri (rt_P sc fm) 50 60 (.iconst 0) (61) := ri_of (by decide +kernel) rfl
theorem wi_50_61 : ri (rt_P sc fm) 50 61 (.goto 21) (64) := ri_of (by decide +kernel) rfl
theorem wi_50_64 : ri (rt_P sc fm) 50 64 (.aload_n 0) (65) := ri_of (by decide +kernel) rfl
theorem wi_50_65 : ri (rt_P sc fm) 50 65 (.getfield 38) (68) := ri_of (by decide +kernel) rfl
theorem wi_50_68 : ri (rt_P sc fm) 50 68 (.aload_n 0) (69) := ri_of (by decide +kernel) rfl
theorem wi_50_69 : ri (rt_P sc fm) 50 69 (.getfield 21) (72) := ri_of (by decide +kernel) rfl
theorem wi_50_7 : ri (rt_P sc fm) 50 7 (.if_icmp .lt 5) (10) := ri_of (by decide +kernel) rfl
theorem wi_50_72 : ri (rt_P sc fm) 50 72 (.aload_n 0) (73) := ri_of (by decide +kernel) rfl
theorem wi_50_73 : ri (rt_P sc fm) 50 73 (.getfield 99) (76) := ri_of (by decide +kernel) rfl
theorem wi_50_76 : ri (rt_P sc fm) 50 76 (.iconst 1) (77) := ri_of (by decide +kernel) rfl
theorem wi_50_77 : ri (rt_P sc fm) 50 77 (.isub) (78) := ri_of (by decide +kernel) rfl
theorem wi_50_78 : ri (rt_P sc fm) 50 78 (.iaload) (79) := ri_of (by decide +kernel) rfl
theorem wi_50_79 : ri (rt_P sc fm) 50 79 (.invokevirtual 192) (82) := ri_of (by decide +kernel) rfl
theorem wi_50_82 : ri (rt_P sc fm) 50 82 (.ireturn) (83) := ri_of (by decide +kernel) rfl
theorem wi_50_83 : ri (rt_P sc fm) 50 83 (.iload_n 2) (84) := ri_of (by decide +kernel) rfl
theorem wi_50_84 : ri (rt_P sc fm) 50 84 (.ifCond .eq 7) (87) := ri_of (by decide +kernel) rfl
theorem wi_50_87 : ri (rt_P sc fm) 50 87 (.iconst 0) (88) := ri_of (by decide +kernel) rfl
theorem wi_50_88 : ri (rt_P sc fm) 50 88 (.goto 14) (91) := ri_of (by decide +kernel) rfl
theorem wi_50_91 : ri (rt_P sc fm) 50 91 (.aload_n 0) (92) := ri_of (by decide +kernel) rfl
theorem wi_50_92 : ri (rt_P sc fm) 50 92 (.getfield 24) (95) := ri_of (by decide +kernel) rfl
theorem wi_50_95 : ri (rt_P sc fm) 50 95 (.aload_n 0) (96) := ri_of (by decide +kernel) rfl
theorem wi_50_96 : ri (rt_P sc fm) 50 96 (.getfield 99) (99) := ri_of (by decide +kernel) rfl
theorem wi_50_99 : ri (rt_P sc fm) 50 99 (.iconst 1) (100) := ri_of (by decide +kernel) rfl
theorem wm_49 : rx_ml (rt_P sc fm) 49 = 1 := (by decide +kernel : rt_ml 49 = 1)
theorem wr_50 : rx_rt (rt_P sc fm) 50 = (some FieldType.int) := (by decide +kernel : rt_rt 50 = (some FieldType.int))
/-- MarkHouse$Run.tellTally(I)I -/
def d_50 (n : Nat) (a1 : Int32) (c : cS) : Option (Int32) :=
  jn (fun p1 : Unit =>
    some (-1))
  (fun j10 =>
  if a1 < 0 then
    j10 ()
  else
    if a1 < 12 then
      if ib 0 12 then
      jn (fun p3 : Int32 =>
        if a1 = 3 then
          jn (fun p6 : Int32 =>
            some p6)
          (fun j82 =>
          if p3 = 0 then
            if ib ((c.1 159 10) - 1) 12 then
            Option.bind (d_156 n (c.1 163 (ix ((c.1 159 10) - 1)))) (fun v8 =>
            j82 v8)
            else none
          else
            j82 0)
        else
        if a1 = 4 then
          jn (fun p10 : Int32 =>
            some p10)
          (fun j102 =>
          if p3 = 0 then
            if ib ((c.1 159 10) - 1) 12 then
            j102 (c.1 164 (ix ((c.1 159 10) - 1)))
            else none
          else
            j102 0)
        else
        if a1 = 5 then
          Option.bind (d_49 n c) (fun v13 =>
          jn (fun p14 : Int32 =>
            some p14)
          (fun j118 =>
          if v13 = 0 then
            j118 0
          else
            j118 (c.1 159 10)))
        else
        if ib a1 12 then
        some (c.1 162 (ix a1))
        else none)
      (fun j26 =>
      if (c.1 162 (ix 0)) = 0 then
        j26 1
      else
        j26 0)
      else none
    else
      j10 ())
theorem sp_50 {F Lo n : Nat} {a1 : Int32} {c y : cS} {w : cW} {K : Int32 → Prop} {Q : ((Option Value) ⊕ String) → List va_E → Prop} (hw : rOK fm w) (hF : 1 ≤ F) (hLo : 21 ≤ Lo)  (h : wp (d_50 n a1 c) K) (hQ : ∀ r, K r → Q (.inl (some (.int r))) (hq true c y w)) : rs (rt_P sc fm) 50 F Lo 0 [(0, .ref 159), (1, .int a1)] [] (hq true c y w) Q := by
  unfold d_50 at h
  obtain ⟨lv, elv⟩ : ∃ lv : rx_L, lv = [(0, .ref 159), (1, .int a1)] := ⟨_, rfl⟩
  rw [← elv]
  have l0 : rx_ld lv 0 = some (.ref 159) := by rw [elv]; rfl
  have l1 : rx_ld lv 1 = some (.int a1) := by rw [elv]; rfl
  refine rs_ildn wi_50_0 l1 ?_
  refine wp_jn (B := fun p1 : Unit => ∀ lv, rs (rt_P sc fm) 50 F Lo 10 lv [] (hq true c y w) Q) h (fun p1 h lv => ?_) (fun j10 hj10 h => ?_)
  ·
    refine rs_pure wi_50_10 rfl ?_
    refine rs_topi (v := (-1)) (by decide) ?_
    exact rs_iret wi_50_11 wr_50 rfl (hQ (-1) h)
  refine rs_iflt (tg := 10) wi_50_1 ⟨by decide, by decide⟩ (fun q => ?_) (fun q => ?_)
  ·
    have h := wp_pos h q
    exact hj10 _ h _
  ·
    have h := wp_neg h q
    refine rs_ildn wi_50_4 l1 ?_
    refine rs_pure wi_50_5 rfl ?_
    refine rs_topi (v := 12) (by decide) ?_
    refine rs_iclt (tg := 12) wi_50_7 ⟨by decide, by decide⟩ (fun q => ?_) (fun q => ?_)
    ·
      have h := wp_pos h q
      refine rs_aldn wi_50_12 l0 ?_
      refine dq_gr wi_50_13 wf_50_18 tf_159_6 ?_
      refine rs_pure wi_50_16 rfl ?_
      refine rs_topi (v := 0) (by decide) ?_
      obtain ⟨g2, h⟩ := wp_gd h
      refine dq_iald wi_50_17 t_162 g2 ?_
      refine wp_jn (B := fun p3 : Int32 => ∀ lv, rx_ld lv 0 = some (.ref 159) → rx_ld lv 1 = some (.int a1) → rs (rt_P sc fm) 50 F Lo 26 lv [.int p3] (hq true c y w) Q) h (fun p3 h lv l0 l1 => ?_) (fun j26 hj26 h => ?_)
      ·
        refine dl_istn wi_50_26 rfl (fun lv l2 t4 => ?_)
        have l0 := t4 _ _ (by decide) (Or.inl rfl) l0
        have l1 := t4 _ _ (by decide) (Or.inl rfl) l1
        refine rs_ildn wi_50_27 l1 ?_
        by_cases q5 : a1 = 3
        ·
          have h := wp_pos h q5
          refine rs_tsk (tg := 56) (off := 28) (v := 3) wi_50_28 q5 (by decide) (by decide) ⟨by decide, by decide⟩ ?_
          refine rs_ildn wi_50_56 l2 ?_
          refine wp_jn (B := fun p6 : Int32 => ∀ lv, rs (rt_P sc fm) 50 F Lo 82 lv [.int p6] (hq true c y w) Q) h (fun p6 h lv => ?_) (fun j82 hj82 h => ?_)
          ·
            exact rs_iret wi_50_82 wr_50 rfl (hQ p6 h)
          refine rs_ifeq (tg := 64) wi_50_57 ⟨by decide, by decide⟩ (fun q => ?_) (fun q => ?_)
          ·
            have h := wp_pos h q
            refine rs_aldn wi_50_64 l0 ?_
            refine dq_gr wi_50_65 wf_50_38 tf_159_1 ?_
            refine rs_aldn wi_50_68 l0 ?_
            refine dq_gr wi_50_69 wf_50_21 tf_159_7 ?_
            refine rs_aldn wi_50_72 l0 ?_
            refine dq_gi wi_50_73 wf_50_99 tf_159_10 ?_
            refine rs_pure wi_50_76 rfl ?_
            refine rs_topi (v := 1) (by decide) ?_
            refine rs_pure wi_50_77 rfl ?_
            obtain ⟨g7, h⟩ := wp_gd h
            refine dq_iald wi_50_78 t_163 g7 ?_
            refine rs_V wi_50_79 wc_50_192 rfl (dq_isa tf_114_0 wa_2_156) (Nat.le_trans (by decide) hF) (ml_le wm_156 (Nat.le_trans (by decide) hLo)) rfl (sp_156 (Nat.le_trans (by decide : 0 ≤ 1 - 1) (Nat.sub_le_sub_right hF 1)) (ml_sub wm_156 (Nat.le_trans (by decide : 0 ≤ 21 - 21) (Nat.sub_le_sub_right hLo 21))) (wp_bind h) (fun v8 h => rs_back1 ?_))
            exact hj82 _ h _
          ·
            have h := wp_neg h q
            refine rs_pure wi_50_60 rfl ?_
            refine rs_topi (v := 0) (by decide) ?_
            refine rs_goto (tg := 82) wi_50_61 ⟨by decide, by decide⟩ ?_
            exact hj82 _ h _
        have h := wp_neg h q5
        by_cases q9 : a1 = 4
        ·
          have h := wp_pos h q9
          refine rs_tsk (tg := 83) (off := 55) (v := 4) wi_50_28 q9 (by decide) (by decide) ⟨by decide, by decide⟩ ?_
          refine rs_ildn wi_50_83 l2 ?_
          refine wp_jn (B := fun p10 : Int32 => ∀ lv, rs (rt_P sc fm) 50 F Lo 102 lv [.int p10] (hq true c y w) Q) h (fun p10 h lv => ?_) (fun j102 hj102 h => ?_)
          ·
            exact rs_iret wi_50_102 wr_50 rfl (hQ p10 h)
          refine rs_ifeq (tg := 91) wi_50_84 ⟨by decide, by decide⟩ (fun q => ?_) (fun q => ?_)
          ·
            have h := wp_pos h q
            refine rs_aldn wi_50_91 l0 ?_
            refine dq_gr wi_50_92 wf_50_24 tf_159_8 ?_
            refine rs_aldn wi_50_95 l0 ?_
            refine dq_gi wi_50_96 wf_50_99 tf_159_10 ?_
            refine rs_pure wi_50_99 rfl ?_
            refine rs_topi (v := 1) (by decide) ?_
            refine rs_pure wi_50_100 rfl ?_
            obtain ⟨g11, h⟩ := wp_gd h
            refine dq_iald wi_50_101 t_164 g11 ?_
            exact hj102 _ h _
          ·
            have h := wp_neg h q
            refine rs_pure wi_50_87 rfl ?_
            refine rs_topi (v := 0) (by decide) ?_
            refine rs_goto (tg := 102) wi_50_88 ⟨by decide, by decide⟩ ?_
            exact hj102 _ h _
        have h := wp_neg h q9
        by_cases q12 : a1 = 5
        ·
          have h := wp_pos h q12
          refine rs_tsk (tg := 103) (off := 75) (v := 5) wi_50_28 q12 (by decide) (by decide) ⟨by decide, by decide⟩ ?_
          refine rs_aldn wi_50_103 l0 ?_
          refine rs_V wi_50_104 wc_50_114 rfl (dq_isa tf_159_0 wa_11_49) (Nat.le_trans (by decide) hF) (ml_le wm_49 (Nat.le_trans (by decide) hLo)) rfl (sp_49 hw (Nat.le_trans (by decide : 0 ≤ 1 - 1) (Nat.sub_le_sub_right hF 1)) (ml_sub wm_49 (Nat.le_trans (by decide : 0 ≤ 21 - 20) (Nat.sub_le_sub_right hLo 20))) (wp_bind h) (fun v13 h => rs_back1 ?_))
          refine wp_jn (B := fun p14 : Int32 => ∀ lv, rs (rt_P sc fm) 50 F Lo 118 lv [.int p14] (hq true c y w) Q) h (fun p14 h lv => ?_) (fun j118 hj118 h => ?_)
          ·
            exact rs_iret wi_50_118 wr_50 rfl (hQ p14 h)
          refine rs_ifeq (tg := 117) wi_50_107 ⟨by decide, by decide⟩ (fun q => ?_) (fun q => ?_)
          ·
            have h := wp_pos h q
            refine rs_pure wi_50_117 rfl ?_
            refine rs_topi (v := 0) (by decide) ?_
            exact hj118 _ h _
          ·
            have h := wp_neg h q
            refine rs_aldn wi_50_110 l0 ?_
            refine dq_gi wi_50_111 wf_50_99 tf_159_10 ?_
            refine rs_goto (tg := 118) wi_50_114 ⟨by decide, by decide⟩ ?_
            exact hj118 _ h _
        have h := wp_neg h q12
        refine rs_tsd (tg := 119) wi_50_28 (rz_sw fun k k1 k2 => by
          have kk : k = 3 ∨ k = 4 ∨ k = 5 := by omega
          rcases kk with rfl | rfl | rfl
          · exact q5
          · exact q9
          · exact q12
          ) ⟨by decide, by decide⟩ ?_
        refine rs_aldn wi_50_119 l0 ?_
        refine dq_gr wi_50_120 wf_50_18 tf_159_6 ?_
        refine rs_ildn wi_50_123 l1 ?_
        obtain ⟨g15, h⟩ := wp_gd h
        refine dq_iald wi_50_124 t_162 g15 ?_
        exact rs_iret wi_50_125 wr_50 rfl (hQ (c.1 162 (ix a1)) h)
      refine rs_ifne (tg := 25) wi_50_18 ⟨by decide, by decide⟩ (fun q => ?_) (fun q => ?_)
      ·
        have h := wp_neg h q
        refine rs_pure wi_50_25 rfl ?_
        refine rs_topi (v := 0) (by decide) ?_
        exact hj26 _ h _ l0 l1
      ·
        have h := wp_pos h q
        refine rs_pure wi_50_21 rfl ?_
        refine rs_topi (v := 1) (by decide) ?_
        refine rs_goto (tg := 26) wi_50_22 ⟨by decide, by decide⟩ ?_
        exact hj26 _ h _ l0 l1
    ·
      have h := wp_neg h q
      exact hj10 _ h _
theorem tf_167_7 : fo true 167 13 7 (.int 0) := ⟨_, rfl, rfl, by decide, by decide⟩
theorem tf_167_8 : fo true 167 13 8 (.int (-1)) := ⟨_, rfl, rfl, by decide, by decide⟩
theorem tf_167_9 : fo true 167 13 9 (.int (-1)) := ⟨_, rfl, rfl, by decide, by decide⟩
theorem wi_53_0 : ri (rt_P sc fm) 53 0 (.aload_n 0) (1) := ri_of (by decide +kernel) rfl
theorem wi_53_1 : ri (rt_P sc fm) 53 1 (.iconst 0) (2) := ri_of (by decide +kernel) rfl
theorem wi_53_10 : ri (rt_P sc fm) 53 10 (.aload_n 0) (11) := ri_of (by decide +kernel) rfl
theorem wi_53_11 : ri (rt_P sc fm) 53 11 (.iconst (-1)) (12) := ri_of (by decide +kernel) rfl
theorem wi_53_12 : ri (rt_P sc fm) 53 12 (.putfield 30) (15) := ri_of (by decide +kernel) rfl
theorem wi_53_15 : ri (rt_P sc fm) 53 15 (.return_) (16) := ri_of (by decide +kernel) rfl
theorem wi_53_2 : ri (rt_P sc fm) 53 2 (.putfield 45) (5) := ri_of (by decide +kernel) rfl
theorem wi_53_5 : ri (rt_P sc fm) 53 5 (.aload_n 0) (6) := ri_of (by decide +kernel) rfl
theorem wi_53_6 : ri (rt_P sc fm) 53 6 (.iconst (-1)) (7) := ri_of (by decide +kernel) rfl
theorem wi_53_7 : ri (rt_P sc fm) 53 7 (.putfield 26) (10) := ri_of (by decide +kernel) rfl
theorem wp_53_26 : rx_pt (rt_P sc fm) 53 26 = some (13, 8, .int) := (by decide +kernel : rt_pt 53 26 = some (13, 8, .int))
theorem wp_53_30 : rx_pt (rt_P sc fm) 53 30 = some (13, 9, .int) := (by decide +kernel : rt_pt 53 30 = some (13, 9, .int))
theorem wp_53_45 : rx_pt (rt_P sc fm) 53 45 = some (13, 7, .int) := (by decide +kernel : rt_pt 53 45 = some (13, 7, .int))
theorem wr_53 : rx_rt (rt_P sc fm) 53 = none := (by decide +kernel : rt_rt 53 = none)
/-- MarkHouse$Wiring.forget()V -/
def d_53 (n : Nat)  (c : cS) : Option (cS) :=
  lt (pI c 167 7 0) (fun c1 =>
  lt (pI c1 167 8 (-1)) (fun c3 =>
  lt (pI c3 167 9 (-1)) (fun c5 =>
  some c5)))
theorem sp_53 {F Lo n : Nat}  {c y : cS} {w : cW} {K : cS → Prop} {Q : ((Option Value) ⊕ String) → List va_E → Prop} (hw : rOK fm w) (hF : 0 ≤ F) (hLo : 0 ≤ Lo)  (h : wp (d_53 n  c) K) (hQ : ∀ r, K r → Q (.inl none) (hq true r y w)) : rs (rt_P sc fm) 53 F Lo 0 [(0, .ref 167)] [] (hq true c y w) Q := by
  unfold d_53 at h
  obtain ⟨lv, elv⟩ : ∃ lv : rx_L, lv = [(0, .ref 167)] := ⟨_, rfl⟩
  rw [← elv]
  have l0 : rx_ld lv 0 = some (.ref 167) := by rw [elv]; rfl
  refine rs_aldn wi_53_0 l0 ?_
  refine rs_pure wi_53_1 rfl ?_
  refine rs_topi (v := 0) (by decide) ?_
  obtain ⟨c1, e2, h⟩ := wp_lt h
  refine dq_pi wi_53_2 wp_53_45 tf_167_7 rfl rfl e2 ?_
  refine rs_aldn wi_53_5 l0 ?_
  refine rs_pure wi_53_6 rfl ?_
  refine rs_topi (v := (-1)) (by decide) ?_
  obtain ⟨c3, e4, h⟩ := wp_lt h
  refine dq_pi wi_53_7 wp_53_26 tf_167_8 rfl rfl e4 ?_
  refine rs_aldn wi_53_10 l0 ?_
  refine rs_pure wi_53_11 rfl ?_
  refine rs_topi (v := (-1)) (by decide) ?_
  obtain ⟨c5, e6, h⟩ := wp_lt h
  refine dq_pi wi_53_12 wp_53_30 tf_167_9 rfl rfl e6 ?_
  exact rs_vret wi_53_15 wr_53 (hQ c5 h)
theorem t_171 : ta true 171 0 12 := ⟨rfl, by decide, by decide⟩
theorem tf_167_6 : fo true 167 13 6 (.ref 171) := ⟨_, rfl, rfl, by decide, by decide⟩
theorem wf_54_23 : rx_ft (rt_P sc fm) 54 23 = some (13, 6) := (by decide +kernel : rt_ft 54 23 = some (13, 6))
theorem wf_54_26 : rx_ft (rt_P sc fm) 54 26 = some (13, 8) := (by decide +kernel : rt_ft 54 26 = some (13, 8))
theorem wf_54_30 : rx_ft (rt_P sc fm) 54 30 = some (13, 9) := (by decide +kernel : rt_ft 54 30 = some (13, 9))
theorem wf_54_45 : rx_ft (rt_P sc fm) 54 45 = some (13, 7) := (by decide +kernel : rt_ft 54 45 = some (13, 7))
theorem wi_54_0 : ri (rt_P sc fm) 54 0 (.iload_n 1) (1) := ri_of (by decide +kernel) rfl
theorem wi_54_1 : ri (rt_P sc fm) 54 1 (.ifCond .ne 8) (4) := ri_of (by decide +kernel) rfl
theorem wi_54_10 : ri (rt_P sc fm) 54 10 (.iconst 1) (11) := ri_of (by decide +kernel) rfl
theorem wi_54_11 : ri (rt_P sc fm) 54 11 (.if_icmp .ne 8) (14) := ri_of (by decide +kernel) rfl
theorem wi_54_14 : ri (rt_P sc fm) 54 14 (.aload_n 0) (15) := ri_of (by decide +kernel) rfl
theorem wi_54_15 : ri (rt_P sc fm) 54 15 (.getfield 30) (18) := ri_of (by decide +kernel) rfl
theorem wi_54_18 : ri (rt_P sc fm) 54 18 (.ireturn) (19) := ri_of (by decide +kernel) rfl
theorem wi_54_19 : ri (rt_P sc fm) 54 19 (.iload_n 1) (20) := ri_of (by decide +kernel) rfl
theorem wi_54_20 : ri (rt_P sc fm) 54 20 (.iconst 2) (21) := ri_of (by decide +kernel) rfl
theorem wi_54_21 : ri (rt_P sc fm) 54 21 (.if_icmp .lt 24) (24) := ri_of (by decide +kernel) rfl
theorem wi_54_24 : ri (rt_P sc fm) 54 24 (.iload_n 1) (25) := ri_of (by decide +kernel) rfl
theorem wi_54_25 : ri (rt_P sc fm) 54 25 (.iconst 2) (26) := ri_of (by decide +kernel) rfl
theorem wi_54_26 : ri (rt_P sc fm) 54 26 (.isub) (27) := ri_of (by decide +kernel) rfl
theorem wi_54_27 : ri (rt_P sc fm) 54 27 (.aload_n 0) (28) := ri_of (by decide +kernel) rfl
theorem wi_54_28 : ri (rt_P sc fm) 54 28 (.getfield 45) (31) := ri_of (by decide +kernel) rfl
theorem wi_54_31 : ri (rt_P sc fm) 54 31 (.if_icmp .ge 14) (34) := ri_of (by decide +kernel) rfl
theorem wi_54_34 : ri (rt_P sc fm) 54 34 (.aload_n 0) (35) := ri_of (by decide +kernel) rfl
theorem wi_54_35 : ri (rt_P sc fm) 54 35 (.getfield 23) (38) := ri_of (by decide +kernel) rfl
theorem wi_54_38 : ri (rt_P sc fm) 54 38 (.iload_n 1) (39) := ri_of (by decide +kernel) rfl
theorem wi_54_39 : ri (rt_P sc fm) 54 39 (.iconst 2) (40) := ri_of (by decide +kernel) rfl
theorem wi_54_4 : ri (rt_P sc fm) 54 4 (.aload_n 0) (5) := ri_of (by decide +kernel) rfl
theorem wi_54_40 : ri (rt_P sc fm) 54 40 (.isub) (41) := ri_of (by decide +kernel) rfl
theorem wi_54_41 : ri (rt_P sc fm) 54 41 (.iaload) (42) := ri_of (by decide +kernel) rfl
theorem wi_54_42 : ri (rt_P sc fm) 54 42 (.goto 4) (45) := ri_of (by decide +kernel) rfl
theorem wi_54_45 : ri (rt_P sc fm) 54 45 (.iconst (-1)) (46) := ri_of (by decide +kernel) rfl
theorem wi_54_46 : ri (rt_P sc fm) 54 46 (.ireturn) (47) := ri_of (by decide +kernel) rfl
theorem wi_54_5 : ri (rt_P sc fm) 54 5 (.getfield 26) (8) := ri_of (by decide +kernel) rfl
theorem wi_54_8 : ri (rt_P sc fm) 54 8 (.ireturn) (9) := ri_of (by decide +kernel) rfl
theorem wi_54_9 : ri (rt_P sc fm) 54 9 (.iload_n 1) (10) := ri_of (by decide +kernel) rfl
theorem wr_54 : rx_rt (rt_P sc fm) 54 = (some FieldType.int) := (by decide +kernel : rt_rt 54 = (some FieldType.int))
/-- MarkHouse$Wiring.tellWired(I)I -/
def d_54 (n : Nat) (a1 : Int32) (c : cS) : Option (Int32) :=
  if a1 = 0 then
    some (c.1 167 8)
  else
    if a1 = 1 then
      some (c.1 167 9)
    else
      jn (fun p1 : Int32 =>
        some p1)
      (fun j46 =>
      jn (fun p2 : Unit =>
        j46 (-1))
      (fun j45 =>
      if a1 < 2 then
        j45 ()
      else
        if (c.1 167 7) ≤ (a1 - 2) then
          j45 ()
        else
          if ib (a1 - 2) 12 then
          j46 (c.1 171 (ix (a1 - 2)))
          else none))
theorem sp_54 {F Lo n : Nat} {a1 : Int32} {c y : cS} {w : cW} {K : Int32 → Prop} {Q : ((Option Value) ⊕ String) → List va_E → Prop} (hw : rOK fm w) (hF : 0 ≤ F) (hLo : 0 ≤ Lo)  (h : wp (d_54 n a1 c) K) (hQ : ∀ r, K r → Q (.inl (some (.int r))) (hq true c y w)) : rs (rt_P sc fm) 54 F Lo 0 [(0, .ref 167), (1, .int a1)] [] (hq true c y w) Q := by
  unfold d_54 at h
  obtain ⟨lv, elv⟩ : ∃ lv : rx_L, lv = [(0, .ref 167), (1, .int a1)] := ⟨_, rfl⟩
  rw [← elv]
  have l0 : rx_ld lv 0 = some (.ref 167) := by rw [elv]; rfl
  have l1 : rx_ld lv 1 = some (.int a1) := by rw [elv]; rfl
  refine rs_ildn wi_54_0 l1 ?_
  refine rs_ifne (tg := 9) wi_54_1 ⟨by decide, by decide⟩ (fun q => ?_) (fun q => ?_)
  ·
    have h := wp_neg h q
    refine rs_ildn wi_54_9 l1 ?_
    refine rs_pure wi_54_10 rfl ?_
    refine rs_topi (v := 1) (by decide) ?_
    refine rs_icne (tg := 19) wi_54_11 ⟨by decide, by decide⟩ (fun q => ?_) (fun q => ?_)
    ·
      have h := wp_neg h q
      refine rs_ildn wi_54_19 l1 ?_
      refine rs_pure wi_54_20 rfl ?_
      refine rs_topi (v := 2) (by decide) ?_
      refine wp_jn (B := fun p1 : Int32 => ∀ lv, rs (rt_P sc fm) 54 F Lo 46 lv [.int p1] (hq true c y w) Q) h (fun p1 h lv => ?_) (fun j46 hj46 h => ?_)
      ·
        exact rs_iret wi_54_46 wr_54 rfl (hQ p1 h)
      refine wp_jn (B := fun p2 : Unit => ∀ lv, rs (rt_P sc fm) 54 F Lo 45 lv [] (hq true c y w) Q) h (fun p2 h lv => ?_) (fun j45 hj45 h => ?_)
      ·
        refine rs_pure wi_54_45 rfl ?_
        refine rs_topi (v := (-1)) (by decide) ?_
        exact hj46 _ h _
      refine rs_iclt (tg := 45) wi_54_21 ⟨by decide, by decide⟩ (fun q => ?_) (fun q => ?_)
      ·
        have h := wp_pos h q
        exact hj45 _ h _
      ·
        have h := wp_neg h q
        refine rs_ildn wi_54_24 l1 ?_
        refine rs_pure wi_54_25 rfl ?_
        refine rs_topi (v := 2) (by decide) ?_
        refine rs_pure wi_54_26 rfl ?_
        refine rs_aldn wi_54_27 l0 ?_
        refine dq_gi wi_54_28 wf_54_45 tf_167_7 ?_
        refine rs_icge (tg := 45) wi_54_31 ⟨by decide, by decide⟩ (fun q => ?_) (fun q => ?_)
        ·
          have h := wp_pos h q
          exact hj45 _ h _
        ·
          have h := wp_neg h q
          refine rs_aldn wi_54_34 l0 ?_
          refine dq_gr wi_54_35 wf_54_23 tf_167_6 ?_
          refine rs_ildn wi_54_38 l1 ?_
          refine rs_pure wi_54_39 rfl ?_
          refine rs_topi (v := 2) (by decide) ?_
          refine rs_pure wi_54_40 rfl ?_
          obtain ⟨g3, h⟩ := wp_gd h
          refine dq_iald wi_54_41 t_171 g3 ?_
          refine rs_goto (tg := 46) wi_54_42 ⟨by decide, by decide⟩ ?_
          exact hj46 _ h _
    ·
      have h := wp_pos h q
      refine rs_aldn wi_54_14 l0 ?_
      refine dq_gi wi_54_15 wf_54_30 tf_167_9 ?_
      exact rs_iret wi_54_18 wr_54 rfl (hQ (c.1 167 9) h)
  ·
    have h := wp_pos h q
    refine rs_aldn wi_54_4 l0 ?_
    refine dq_gi wi_54_5 wf_54_26 tf_167_8 ?_
    exact rs_iret wi_54_8 wr_54 rfl (hQ (c.1 167 8) h)
theorem tf_0_0 : fo true 0 14 0 (.ref 1) := ⟨_, rfl, rfl, by decide, by decide⟩
theorem wa_3_24 : rz_cn 3 (rx_yn (rt_P sc fm) 24).cls = true := (by decide +kernel : rz_cn 3 (rt_yn 24).cls = true)
theorem wc_56_99 : rx_ct (rt_P sc fm) 56 99 = some (0, 24, 1) := (by decide +kernel : rt_ct 56 99 = some (0, 24, 1))
theorem wf_56_12 : rx_ft (rt_P sc fm) 56 12 = some (14, 0) := (by decide +kernel : rt_ft 56 12 = some (14, 0))
theorem wf_56_95 : rx_ft (rt_P sc fm) 56 95 = some (3, 1) := (by decide +kernel : rt_ft 56 95 = some (3, 1))
theorem wi_56_0 : ri (rt_P sc fm) 56 0 (.aload_n 0) (1) := ri_of (by decide +kernel) rfl
theorem wi_56_1 : ri (rt_P sc fm) 56 1 (.getfield 12) (4) := ri_of (by decide +kernel) rfl
theorem wi_56_10 : ri (rt_P sc fm) 56 10 (.sipush 4000) (13) := ri_of (by decide +kernel) rfl
theorem wi_56_13 : ri (rt_P sc fm) 56 13 (.if_icmp .le 5) (16) := ri_of (by decide +kernel) rfl
theorem wi_56_16 : ri (rt_P sc fm) 56 16 (.iconst (-1)) (17) := ri_of (by decide +kernel) rfl
theorem wi_56_17 : ri (rt_P sc fm) 56 17 (.ireturn) (18) := ri_of (by decide +kernel) rfl
theorem wi_56_18 : ri (rt_P sc fm) 56 18 (.aload_n 0) (19) := ri_of (by decide +kernel) rfl
theorem wi_56_19 : ri (rt_P sc fm) 56 19 (.getfield 12) (22) := ri_of (by decide +kernel) rfl
theorem wi_56_22 : ri (rt_P sc fm) 56 22 (.iload_n 1) (23) := ri_of (by decide +kernel) rfl
theorem wi_56_23 : ri (rt_P sc fm) 56 23 (.invokevirtual 99) (26) := ri_of (by decide +kernel) rfl
theorem wi_56_26 : ri (rt_P sc fm) 56 26 (.aload_n 0) (27) := ri_of (by decide +kernel) rfl
theorem wi_56_27 : ri (rt_P sc fm) 56 27 (.getfield 12) (30) := ri_of (by decide +kernel) rfl
theorem wi_56_30 : ri (rt_P sc fm) 56 30 (.iload_n 2) (31) := ri_of (by decide +kernel) rfl
theorem wi_56_31 : ri (rt_P sc fm) 56 31 (.invokevirtual 99) (34) := ri_of (by decide +kernel) rfl
theorem wi_56_34 : ri (rt_P sc fm) 56 34 (.aload_n 0) (35) := ri_of (by decide +kernel) rfl
theorem wi_56_35 : ri (rt_P sc fm) 56 35 (.getfield 12) (38) := ri_of (by decide +kernel) rfl
theorem wi_56_38 : ri (rt_P sc fm) 56 38 (.iload_n 3) (39) := ri_of (by decide +kernel) rfl
theorem wi_56_39 : ri (rt_P sc fm) 56 39 (.invokevirtual 99) (42) := ri_of (by decide +kernel) rfl
theorem wi_56_4 : ri (rt_P sc fm) 56 4 (.getfield 95) (7) := ri_of (by decide +kernel) rfl
theorem wi_56_42 : ri (rt_P sc fm) 56 42 (.aload_n 0) (43) := ri_of (by decide +kernel) rfl
theorem wi_56_43 : ri (rt_P sc fm) 56 43 (.getfield 12) (46) := ri_of (by decide +kernel) rfl
theorem wi_56_46 : ri (rt_P sc fm) 56 46 (.iload 4) (48) := ri_of (by decide +kernel) rfl
theorem wi_56_48 : ri (rt_P sc fm) 56 48 (.invokevirtual 99) (51) := ri_of (by decide +kernel) rfl
theorem wi_56_51 : ri (rt_P sc fm) 56 51 (.aload_n 0) (52) := ri_of (by decide +kernel) rfl
theorem wi_56_52 : ri (rt_P sc fm) 56 52 (.getfield 12) (55) := ri_of (by decide +kernel) rfl
theorem wi_56_55 : ri (rt_P sc fm) 56 55 (.iload 5) (57) := ri_of (by decide +kernel) rfl
theorem wi_56_57 : ri (rt_P sc fm) 56 57 (.invokevirtual 99) (60) := ri_of (by decide +kernel) rfl
theorem wi_56_60 : ri (rt_P sc fm) 56 60 (.aload_n 0) (61) := ri_of (by decide +kernel) rfl
theorem wi_56_61 : ri (rt_P sc fm) 56 61 (.getfield 12) (64) := ri_of (by decide +kernel) rfl
theorem wi_56_64 : ri (rt_P sc fm) 56 64 (.getfield 95) (67) := ri_of (by decide +kernel) rfl
theorem wi_56_67 : ri (rt_P sc fm) 56 67 (.ireturn) (68) := ri_of (by decide +kernel) rfl
theorem wi_56_7 : ri (rt_P sc fm) 56 7 (.bipush 20) (9) := ri_of (by decide +kernel) rfl
theorem wi_56_9 : ri (rt_P sc fm) 56 9 (.iadd) (10) := ri_of (by decide +kernel) rfl
theorem wm_24 : rx_ml (rt_P sc fm) 24 = 3 := (by decide +kernel : rt_ml 24 = 3)
theorem wr_56 : rx_rt (rt_P sc fm) 56 = (some FieldType.int) := (by decide +kernel : rt_rt 56 = (some FieldType.int))
/-- MarkHouse.feed(IIIII)I -/
def d_56 (n : Nat) (a1 : Int32) (a2 : Int32) (a3 : Int32) (a4 : Int32) (a5 : Int32) (c : cS) : Option (Int32 × cS) :=
  if ((c.1 1 1) + 20) ≤ 4000 then
    Option.bind (d_24 n a1 c) (fun r1 =>
    Option.bind (d_24 n a2 r1) (fun r2 =>
    Option.bind (d_24 n a3 r2) (fun r3 =>
    Option.bind (d_24 n a4 r3) (fun r4 =>
    Option.bind (d_24 n a5 r4) (fun r5 =>
    some ((r5.1 1 1), r5))))))
  else
    some ((-1), c)
theorem sp_56 {F Lo n : Nat} {a1 : Int32} {a2 : Int32} {a3 : Int32} {a4 : Int32} {a5 : Int32} {c y : cS} {w : cW} {K : Int32 × cS → Prop} {Q : ((Option Value) ⊕ String) → List va_E → Prop} (hw : rOK fm w) (hF : 1 ≤ F) (hLo : 22 ≤ Lo)  (h : wp (d_56 n a1 a2 a3 a4 a5 c) K) (hQ : ∀ r, K r → Q (.inl (some (.int r.1))) (hq true r.2 y w)) : rs (rt_P sc fm) 56 F Lo 0 [(0, .ref 0), (1, .int a1), (2, .int a2), (3, .int a3), (4, .int a4), (5, .int a5)] [] (hq true c y w) Q := by
  unfold d_56 at h
  obtain ⟨lv, elv⟩ : ∃ lv : rx_L, lv = [(0, .ref 0), (1, .int a1), (2, .int a2), (3, .int a3), (4, .int a4), (5, .int a5)] := ⟨_, rfl⟩
  rw [← elv]
  have l0 : rx_ld lv 0 = some (.ref 0) := by rw [elv]; rfl
  have l1 : rx_ld lv 1 = some (.int a1) := by rw [elv]; rfl
  have l2 : rx_ld lv 2 = some (.int a2) := by rw [elv]; rfl
  have l3 : rx_ld lv 3 = some (.int a3) := by rw [elv]; rfl
  have l4 : rx_ld lv 4 = some (.int a4) := by rw [elv]; rfl
  have l5 : rx_ld lv 5 = some (.int a5) := by rw [elv]; rfl
  refine rs_aldn wi_56_0 l0 ?_
  refine dq_gr wi_56_1 wf_56_12 tf_0_0 ?_
  refine dq_gi wi_56_4 wf_56_95 tf_1_1 ?_
  refine rs_pure wi_56_7 rfl ?_
  refine rs_topi (v := 20) (by decide) ?_
  refine rs_pure wi_56_9 rfl ?_
  refine rs_pure wi_56_10 rfl ?_
  refine rs_topi (v := 4000) (by decide) ?_
  refine rs_icle (tg := 18) wi_56_13 ⟨by decide, by decide⟩ (fun q => ?_) (fun q => ?_)
  ·
    have h := wp_pos h q
    refine rs_aldn wi_56_18 l0 ?_
    refine dq_gr wi_56_19 wf_56_12 tf_0_0 ?_
    refine rs_ildn wi_56_22 l1 ?_
    refine rs_V wi_56_23 wc_56_99 rfl (dq_isa tf_1_0 wa_3_24) (Nat.le_trans (by decide) hF) (ml_le wm_24 (Nat.le_trans (by decide) hLo)) rfl (sp_24 hw (Nat.le_trans (by decide : 0 ≤ 1 - 1) (Nat.sub_le_sub_right hF 1)) (ml_sub wm_24 (Nat.le_trans (by decide : 0 ≤ 22 - 22) (Nat.sub_le_sub_right hLo 22))) (wp_bind h) (fun r1 h => rs_back0 ?_))
    refine rs_aldn wi_56_26 l0 ?_
    refine dq_gr wi_56_27 wf_56_12 tf_0_0 ?_
    refine rs_ildn wi_56_30 l2 ?_
    refine rs_V wi_56_31 wc_56_99 rfl (dq_isa tf_1_0 wa_3_24) (Nat.le_trans (by decide) hF) (ml_le wm_24 (Nat.le_trans (by decide) hLo)) rfl (sp_24 hw (Nat.le_trans (by decide : 0 ≤ 1 - 1) (Nat.sub_le_sub_right hF 1)) (ml_sub wm_24 (Nat.le_trans (by decide : 0 ≤ 22 - 22) (Nat.sub_le_sub_right hLo 22))) (wp_bind h) (fun r2 h => rs_back0 ?_))
    refine rs_aldn wi_56_34 l0 ?_
    refine dq_gr wi_56_35 wf_56_12 tf_0_0 ?_
    refine rs_ildn wi_56_38 l3 ?_
    refine rs_V wi_56_39 wc_56_99 rfl (dq_isa tf_1_0 wa_3_24) (Nat.le_trans (by decide) hF) (ml_le wm_24 (Nat.le_trans (by decide) hLo)) rfl (sp_24 hw (Nat.le_trans (by decide : 0 ≤ 1 - 1) (Nat.sub_le_sub_right hF 1)) (ml_sub wm_24 (Nat.le_trans (by decide : 0 ≤ 22 - 22) (Nat.sub_le_sub_right hLo 22))) (wp_bind h) (fun r3 h => rs_back0 ?_))
    refine rs_aldn wi_56_42 l0 ?_
    refine dq_gr wi_56_43 wf_56_12 tf_0_0 ?_
    refine rs_ild wi_56_46 l4 ?_
    refine rs_V wi_56_48 wc_56_99 rfl (dq_isa tf_1_0 wa_3_24) (Nat.le_trans (by decide) hF) (ml_le wm_24 (Nat.le_trans (by decide) hLo)) rfl (sp_24 hw (Nat.le_trans (by decide : 0 ≤ 1 - 1) (Nat.sub_le_sub_right hF 1)) (ml_sub wm_24 (Nat.le_trans (by decide : 0 ≤ 22 - 22) (Nat.sub_le_sub_right hLo 22))) (wp_bind h) (fun r4 h => rs_back0 ?_))
    refine rs_aldn wi_56_51 l0 ?_
    refine dq_gr wi_56_52 wf_56_12 tf_0_0 ?_
    refine rs_ild wi_56_55 l5 ?_
    refine rs_V wi_56_57 wc_56_99 rfl (dq_isa tf_1_0 wa_3_24) (Nat.le_trans (by decide) hF) (ml_le wm_24 (Nat.le_trans (by decide) hLo)) rfl (sp_24 hw (Nat.le_trans (by decide : 0 ≤ 1 - 1) (Nat.sub_le_sub_right hF 1)) (ml_sub wm_24 (Nat.le_trans (by decide : 0 ≤ 22 - 22) (Nat.sub_le_sub_right hLo 22))) (wp_bind h) (fun r5 h => rs_back0 ?_))
    refine rs_aldn wi_56_60 l0 ?_
    refine dq_gr wi_56_61 wf_56_12 tf_0_0 ?_
    refine dq_gi wi_56_64 wf_56_95 tf_1_1 ?_
    exact rs_iret wi_56_67 wr_56 rfl (hQ ((r5.1 1 1), r5) h)
  ·
    have h := wp_neg h q
    refine rs_pure wi_56_16 rfl ?_
    refine rs_topi (v := (-1)) (by decide) ?_
    exact rs_iret wi_56_17 wr_56 rfl (hQ ((-1), c) h)
theorem wf_57_12 : rx_ft (rt_P sc fm) 57 12 = some (14, 0) := (by decide +kernel : rt_ft 57 12 = some (14, 0))
theorem wf_57_95 : rx_ft (rt_P sc fm) 57 95 = some (3, 1) := (by decide +kernel : rt_ft 57 95 = some (3, 1))
theorem wi_57_0 : ri (rt_P sc fm) 57 0 (.iload_n 1) (1) := ri_of (by decide +kernel) rfl
theorem wi_57_1 : ri (rt_P sc fm) 57 1 (.ifCond .lt 14) (4) := ri_of (by decide +kernel) rfl
theorem wi_57_12 : ri (rt_P sc fm) 57 12 (.if_icmp .le 5) (15) := ri_of (by decide +kernel) rfl
theorem wi_57_15 : ri (rt_P sc fm) 57 15 (.iconst (-1)) (16) := ri_of (by decide +kernel) rfl
theorem wi_57_16 : ri (rt_P sc fm) 57 16 (.ireturn) (17) := ri_of (by decide +kernel) rfl
theorem wi_57_17 : ri (rt_P sc fm) 57 17 (.aload_n 0) (18) := ri_of (by decide +kernel) rfl
theorem wi_57_18 : ri (rt_P sc fm) 57 18 (.getfield 12) (21) := ri_of (by decide +kernel) rfl
theorem wi_57_21 : ri (rt_P sc fm) 57 21 (.iload_n 1) (22) := ri_of (by decide +kernel) rfl
theorem wi_57_22 : ri (rt_P sc fm) 57 22 (.putfield 95) (25) := ri_of (by decide +kernel) rfl
theorem wi_57_25 : ri (rt_P sc fm) 57 25 (.iload_n 1) (26) := ri_of (by decide +kernel) rfl
theorem wi_57_26 : ri (rt_P sc fm) 57 26 (.ireturn) (27) := ri_of (by decide +kernel) rfl
theorem wi_57_4 : ri (rt_P sc fm) 57 4 (.iload_n 1) (5) := ri_of (by decide +kernel) rfl
theorem wi_57_5 : ri (rt_P sc fm) 57 5 (.aload_n 0) (6) := ri_of (by decide +kernel) rfl
theorem wi_57_6 : ri (rt_P sc fm) 57 6 (.getfield 12) (9) := ri_of (by decide +kernel) rfl
theorem wi_57_9 : ri (rt_P sc fm) 57 9 (.getfield 95) (12) := ri_of (by decide +kernel) rfl
theorem wp_57_95 : rx_pt (rt_P sc fm) 57 95 = some (3, 1, .int) := (by decide +kernel : rt_pt 57 95 = some (3, 1, .int))
theorem wr_57 : rx_rt (rt_P sc fm) 57 = (some FieldType.int) := (by decide +kernel : rt_rt 57 = (some FieldType.int))
/-- MarkHouse.end(I)I -/
def d_57 (n : Nat) (a1 : Int32) (c : cS) : Option (Int32 × cS) :=
  jn (fun p1 : Unit =>
    some ((-1), c))
  (fun j15 =>
  if a1 < 0 then
    j15 ()
  else
    if a1 ≤ (c.1 1 1) then
      lt (pI c 1 1 a1) (fun c2 =>
      some (a1, c2))
    else
      j15 ())
theorem sp_57 {F Lo n : Nat} {a1 : Int32} {c y : cS} {w : cW} {K : Int32 × cS → Prop} {Q : ((Option Value) ⊕ String) → List va_E → Prop} (hw : rOK fm w) (hF : 0 ≤ F) (hLo : 0 ≤ Lo)  (h : wp (d_57 n a1 c) K) (hQ : ∀ r, K r → Q (.inl (some (.int r.1))) (hq true r.2 y w)) : rs (rt_P sc fm) 57 F Lo 0 [(0, .ref 0), (1, .int a1)] [] (hq true c y w) Q := by
  unfold d_57 at h
  obtain ⟨lv, elv⟩ : ∃ lv : rx_L, lv = [(0, .ref 0), (1, .int a1)] := ⟨_, rfl⟩
  rw [← elv]
  have l0 : rx_ld lv 0 = some (.ref 0) := by rw [elv]; rfl
  have l1 : rx_ld lv 1 = some (.int a1) := by rw [elv]; rfl
  refine rs_ildn wi_57_0 l1 ?_
  refine wp_jn (B := fun p1 : Unit => ∀ lv, rs (rt_P sc fm) 57 F Lo 15 lv [] (hq true c y w) Q) h (fun p1 h lv => ?_) (fun j15 hj15 h => ?_)
  ·
    refine rs_pure wi_57_15 rfl ?_
    refine rs_topi (v := (-1)) (by decide) ?_
    exact rs_iret wi_57_16 wr_57 rfl (hQ ((-1), c) h)
  refine rs_iflt (tg := 15) wi_57_1 ⟨by decide, by decide⟩ (fun q => ?_) (fun q => ?_)
  ·
    have h := wp_pos h q
    exact hj15 _ h _
  ·
    have h := wp_neg h q
    refine rs_ildn wi_57_4 l1 ?_
    refine rs_aldn wi_57_5 l0 ?_
    refine dq_gr wi_57_6 wf_57_12 tf_0_0 ?_
    refine dq_gi wi_57_9 wf_57_95 tf_1_1 ?_
    refine rs_icle (tg := 17) wi_57_12 ⟨by decide, by decide⟩ (fun q => ?_) (fun q => ?_)
    ·
      have h := wp_pos h q
      refine rs_aldn wi_57_17 l0 ?_
      refine dq_gr wi_57_18 wf_57_12 tf_0_0 ?_
      refine rs_ildn wi_57_21 l1 ?_
      obtain ⟨c2, e3, h⟩ := wp_lt h
      refine dq_pi wi_57_22 wp_57_95 tf_1_1 rfl rfl e3 ?_
      refine rs_ildn wi_57_25 l1 ?_
      exact rs_iret wi_57_26 wr_57 rfl (hQ (a1, c2) h)
    ·
      have h := wp_neg h q
      exact hj15 _ h _
theorem t_173 : ta true 173 2 8000 := ⟨rfl, by decide, by decide⟩
theorem tf_0_9 : fo true 0 14 9 (.ref 172) := ⟨_, rfl, rfl, by decide, by decide⟩
theorem tf_172_0 : fo true 172 12 0 (.ref 173) := ⟨_, rfl, rfl, by decide, by decide⟩
theorem tf_172_1 : fo true 172 12 1 (.int 0) := ⟨_, rfl, rfl, by decide, by decide⟩
theorem wf_58_103 : rx_ft (rt_P sc fm) 58 103 = some (12, 1) := (by decide +kernel : rt_ft 58 103 = some (12, 1))
theorem wf_58_104 : rx_ft (rt_P sc fm) 58 104 = some (12, 0) := (by decide +kernel : rt_ft 58 104 = some (12, 0))
theorem wf_58_91 : rx_ft (rt_P sc fm) 58 91 = some (14, 9) := (by decide +kernel : rt_ft 58 91 = some (14, 9))
theorem wi_58_0 : ri (rt_P sc fm) 58 0 (.iload_n 1) (1) := ri_of (by decide +kernel) rfl
theorem wi_58_1 : ri (rt_P sc fm) 58 1 (.ifCond .lt 14) (4) := ri_of (by decide +kernel) rfl
theorem wi_58_12 : ri (rt_P sc fm) 58 12 (.if_icmp .lt 5) (15) := ri_of (by decide +kernel) rfl
theorem wi_58_15 : ri (rt_P sc fm) 58 15 (.iconst (-1)) (16) := ri_of (by decide +kernel) rfl
theorem wi_58_16 : ri (rt_P sc fm) 58 16 (.ireturn) (17) := ri_of (by decide +kernel) rfl
theorem wi_58_17 : ri (rt_P sc fm) 58 17 (.aload_n 0) (18) := ri_of (by decide +kernel) rfl
theorem wi_58_18 : ri (rt_P sc fm) 58 18 (.getfield 91) (21) := ri_of (by decide +kernel) rfl
theorem wi_58_21 : ri (rt_P sc fm) 58 21 (.getfield 104) (24) := ri_of (by decide +kernel) rfl
theorem wi_58_24 : ri (rt_P sc fm) 58 24 (.iload_n 1) (25) := ri_of (by decide +kernel) rfl
theorem wi_58_25 : ri (rt_P sc fm) 58 25 (.baload) (26) := ri_of (by decide +kernel) rfl
theorem wi_58_26 : ri (rt_P sc fm) 58 26 (.sipush 255) (29) := ri_of (by decide +kernel) rfl
theorem wi_58_29 : ri (rt_P sc fm) 58 29 (.iand) (30) := ri_of (by decide +kernel) rfl
theorem wi_58_30 : ri (rt_P sc fm) 58 30 (.ireturn) (31) := ri_of (by decide +kernel) rfl
theorem wi_58_4 : ri (rt_P sc fm) 58 4 (.iload_n 1) (5) := ri_of (by decide +kernel) rfl
theorem wi_58_5 : ri (rt_P sc fm) 58 5 (.aload_n 0) (6) := ri_of (by decide +kernel) rfl
theorem wi_58_6 : ri (rt_P sc fm) 58 6 (.getfield 91) (9) := ri_of (by decide +kernel) rfl
theorem wi_58_9 : ri (rt_P sc fm) 58 9 (.getfield 103) (12) := ri_of (by decide +kernel) rfl
theorem wr_58 : rx_rt (rt_P sc fm) 58 = (some FieldType.int) := (by decide +kernel : rt_rt 58 = (some FieldType.int))
/-- MarkHouse.out(I)I -/
def d_58 (n : Nat) (a1 : Int32) (c : cS) : Option (Int32) :=
  jn (fun p1 : Unit =>
    some (-1))
  (fun j15 =>
  if a1 < 0 then
    j15 ()
  else
    if a1 < (c.1 172 1) then
      if ib a1 8000 then
      some ((c.1 173 (ix a1)) &&& 255)
      else none
    else
      j15 ())
theorem sp_58 {F Lo n : Nat} {a1 : Int32} {c y : cS} {w : cW} {K : Int32 → Prop} {Q : ((Option Value) ⊕ String) → List va_E → Prop} (hw : rOK fm w) (hF : 0 ≤ F) (hLo : 0 ≤ Lo)  (h : wp (d_58 n a1 c) K) (hQ : ∀ r, K r → Q (.inl (some (.int r))) (hq true c y w)) : rs (rt_P sc fm) 58 F Lo 0 [(0, .ref 0), (1, .int a1)] [] (hq true c y w) Q := by
  unfold d_58 at h
  obtain ⟨lv, elv⟩ : ∃ lv : rx_L, lv = [(0, .ref 0), (1, .int a1)] := ⟨_, rfl⟩
  rw [← elv]
  have l0 : rx_ld lv 0 = some (.ref 0) := by rw [elv]; rfl
  have l1 : rx_ld lv 1 = some (.int a1) := by rw [elv]; rfl
  refine rs_ildn wi_58_0 l1 ?_
  refine wp_jn (B := fun p1 : Unit => ∀ lv, rs (rt_P sc fm) 58 F Lo 15 lv [] (hq true c y w) Q) h (fun p1 h lv => ?_) (fun j15 hj15 h => ?_)
  ·
    refine rs_pure wi_58_15 rfl ?_
    refine rs_topi (v := (-1)) (by decide) ?_
    exact rs_iret wi_58_16 wr_58 rfl (hQ (-1) h)
  refine rs_iflt (tg := 15) wi_58_1 ⟨by decide, by decide⟩ (fun q => ?_) (fun q => ?_)
  ·
    have h := wp_pos h q
    exact hj15 _ h _
  ·
    have h := wp_neg h q
    refine rs_ildn wi_58_4 l1 ?_
    refine rs_aldn wi_58_5 l0 ?_
    refine dq_gr wi_58_6 wf_58_91 tf_0_9 ?_
    refine dq_gi wi_58_9 wf_58_103 tf_172_1 ?_
    refine rs_iclt (tg := 17) wi_58_12 ⟨by decide, by decide⟩ (fun q => ?_) (fun q => ?_)
    ·
      have h := wp_pos h q
      refine rs_aldn wi_58_17 l0 ?_
      refine dq_gr wi_58_18 wf_58_91 tf_0_9 ?_
      refine dq_gr wi_58_21 wf_58_104 tf_172_0 ?_
      refine rs_ildn wi_58_24 l1 ?_
      obtain ⟨g2, h⟩ := wp_gd h
      refine dq_bald wi_58_25 t_173 g2 ?_
      refine rs_pure wi_58_26 rfl ?_
      refine rs_topi (v := 255) (by decide) ?_
      refine rs_pure wi_58_29 rfl ?_
      exact rs_iret wi_58_30 wr_58 rfl (hQ ((c.1 173 (ix a1)) &&& 255) h)
    ·
      have h := wp_neg h q
      exact hj15 _ h _
theorem tf_0_2 : fo true 0 14 2 (.ref 114) := ⟨_, rfl, rfl, by decide, by decide⟩
theorem tf_0_6 : fo true 0 14 6 (.ref 150) := ⟨_, rfl, rfl, by decide, by decide⟩
theorem tf_0_7 : fo true 0 14 7 (.ref 159) := ⟨_, rfl, rfl, by decide, by decide⟩
theorem tf_0_8 : fo true 0 14 8 (.ref 167) := ⟨_, rfl, rfl, by decide, by decide⟩
theorem tf_150_0 : fo true 150 5 0 (.ref 7) := ⟨_, rfl, rfl, by decide, by decide⟩
theorem tf_167_0 : fo true 167 13 0 (.ref 7) := ⟨_, rfl, rfl, by decide, by decide⟩
theorem wa_11_48 : rz_cn 11 (rx_yn (rt_P sc fm) 48).cls = true := (by decide +kernel : rz_cn 11 (rt_yn 48).cls = true)
theorem wa_13_53 : rz_cn 13 (rx_yn (rt_P sc fm) 53).cls = true := (by decide +kernel : rz_cn 13 (rt_yn 53).cls = true)
theorem wa_2_20 : rz_cn 2 (rx_yn (rt_P sc fm) 20).cls = true := (by decide +kernel : rz_cn 2 (rt_yn 20).cls = true)
theorem wa_5_29 : rz_cn 5 (rx_yn (rt_P sc fm) 29).cls = true := (by decide +kernel : rz_cn 5 (rt_yn 29).cls = true)
theorem wc_90_312 : rx_ct (rt_P sc fm) 90 312 = some (0, 29, 0) := (by decide +kernel : rt_ct 90 312 = some (0, 29, 0))
theorem wc_90_319 : rx_ct (rt_P sc fm) 90 319 = some (0, 20, 0) := (by decide +kernel : rt_ct 90 319 = some (0, 20, 0))
theorem wc_90_380 : rx_ct (rt_P sc fm) 90 380 = some (0, 48, 0) := (by decide +kernel : rt_ct 90 380 = some (0, 48, 0))
theorem wc_90_383 : rx_ct (rt_P sc fm) 90 383 = some (0, 53, 0) := (by decide +kernel : rt_ct 90 383 = some (0, 53, 0))
theorem wf_90_28 : rx_ft (rt_P sc fm) 90 28 = some (14, 2) := (by decide +kernel : rt_ft 90 28 = some (14, 2))
theorem wf_90_62 : rx_ft (rt_P sc fm) 90 62 = some (14, 6) := (by decide +kernel : rt_ft 90 62 = some (14, 6))
theorem wf_90_69 : rx_ft (rt_P sc fm) 90 69 = some (14, 7) := (by decide +kernel : rt_ft 90 69 = some (14, 7))
theorem wf_90_78 : rx_ft (rt_P sc fm) 90 78 = some (14, 8) := (by decide +kernel : rt_ft 90 78 = some (14, 8))
theorem wi_90_0 : ri (rt_P sc fm) 90 0 (.aload_n 0) (1) := ri_of (by decide +kernel) rfl
theorem wi_90_1 : ri (rt_P sc fm) 90 1 (.getfield 28) (4) := ri_of (by decide +kernel) rfl
theorem wi_90_11 : ri (rt_P sc fm) 90 11 (.invokevirtual 380) (14) := ri_of (by decide +kernel) rfl
theorem wi_90_14 : ri (rt_P sc fm) 90 14 (.aload_n 0) (15) := ri_of (by decide +kernel) rfl
theorem wi_90_15 : ri (rt_P sc fm) 90 15 (.getfield 62) (18) := ri_of (by decide +kernel) rfl
theorem wi_90_18 : ri (rt_P sc fm) 90 18 (.invokevirtual 312) (21) := ri_of (by decide +kernel) rfl
theorem wi_90_21 : ri (rt_P sc fm) 90 21 (.aload_n 0) (22) := ri_of (by decide +kernel) rfl
theorem wi_90_22 : ri (rt_P sc fm) 90 22 (.getfield 78) (25) := ri_of (by decide +kernel) rfl
theorem wi_90_25 : ri (rt_P sc fm) 90 25 (.invokevirtual 383) (28) := ri_of (by decide +kernel) rfl
theorem wi_90_28 : ri (rt_P sc fm) 90 28 (.return_) (29) := ri_of (by decide +kernel) rfl
theorem wi_90_4 : ri (rt_P sc fm) 90 4 (.invokevirtual 319) (7) := ri_of (by decide +kernel) rfl
theorem wi_90_7 : ri (rt_P sc fm) 90 7 (.aload_n 0) (8) := ri_of (by decide +kernel) rfl
theorem wi_90_8 : ri (rt_P sc fm) 90 8 (.getfield 69) (11) := ri_of (by decide +kernel) rfl
theorem wm_20 : rx_ml (rt_P sc fm) 20 = 1 := (by decide +kernel : rt_ml 20 = 1)
theorem wm_29 : rx_ml (rt_P sc fm) 29 = 1 := (by decide +kernel : rt_ml 29 = 1)
theorem wm_48 : rx_ml (rt_P sc fm) 48 = 1 := (by decide +kernel : rt_ml 48 = 1)
theorem wm_53 : rx_ml (rt_P sc fm) 53 = 1 := (by decide +kernel : rt_ml 53 = 1)
theorem wr_90 : rx_rt (rt_P sc fm) 90 = none := (by decide +kernel : rt_rt 90 = none)
/-- MarkHouse.forget()V -/
def d_90 (n : Nat)  (c : cS) : Option (cS) :=
  Option.bind (d_20 n c) (fun r1 =>
  Option.bind (d_48 n r1) (fun r2 =>
  Option.bind (d_29 n r2) (fun r3 =>
  Option.bind (d_53 n r3) (fun r4 =>
  some r4))))
theorem sp_90 {F Lo n : Nat}  {c y : cS} {w : cW} {K : cS → Prop} {Q : ((Option Value) ⊕ String) → List va_E → Prop} (hw : rOK fm w) (hF : 3 ≤ F) (hLo : 66 ≤ Lo)  (h : wp (d_90 n  c) K) (hQ : ∀ r, K r → Q (.inl none) (hq true r y w)) : rs (rt_P sc fm) 90 F Lo 0 [(0, .ref 0)] [] (hq true c y w) Q := by
  unfold d_90 at h
  obtain ⟨lv, elv⟩ : ∃ lv : rx_L, lv = [(0, .ref 0)] := ⟨_, rfl⟩
  rw [← elv]
  have l0 : rx_ld lv 0 = some (.ref 0) := by rw [elv]; rfl
  refine rs_aldn wi_90_0 l0 ?_
  refine dq_gr wi_90_1 wf_90_28 tf_0_2 ?_
  refine rs_V wi_90_4 wc_90_319 rfl (dq_isa tf_114_0 wa_2_20) (Nat.le_trans (by decide) hF) (ml_le wm_20 (Nat.le_trans (by decide) hLo)) rfl (sp_20 hw (Nat.le_trans (by decide : 2 ≤ 3 - 1) (Nat.sub_le_sub_right hF 1)) (ml_sub wm_20 (Nat.le_trans (by decide : 46 ≤ 66 - 20) (Nat.sub_le_sub_right hLo 20))) (wp_bind h) (fun r1 h => rs_back0 ?_))
  refine rs_aldn wi_90_7 l0 ?_
  refine dq_gr wi_90_8 wf_90_69 tf_0_7 ?_
  refine rs_V wi_90_11 wc_90_380 rfl (dq_isa tf_159_0 wa_11_48) (Nat.le_trans (by decide) hF) (ml_le wm_48 (Nat.le_trans (by decide) hLo)) rfl (sp_48 hw (Nat.le_trans (by decide : 2 ≤ 3 - 1) (Nat.sub_le_sub_right hF 1)) (ml_sub wm_48 (Nat.le_trans (by decide : 46 ≤ 66 - 20) (Nat.sub_le_sub_right hLo 20))) (wp_bind h) (fun r2 h => rs_back0 ?_))
  refine rs_aldn wi_90_14 l0 ?_
  refine dq_gr wi_90_15 wf_90_62 tf_0_6 ?_
  refine rs_V wi_90_18 wc_90_312 rfl (dq_isa tf_150_0 wa_5_29) (Nat.le_trans (by decide) hF) (ml_le wm_29 (Nat.le_trans (by decide) hLo)) rfl (sp_29 hw (Nat.le_trans (by decide : 0 ≤ 3 - 1) (Nat.sub_le_sub_right hF 1)) (ml_sub wm_29 (Nat.le_trans (by decide : 0 ≤ 66 - 20) (Nat.sub_le_sub_right hLo 20))) (wp_bind h) (fun r3 h => rs_back0 ?_))
  refine rs_aldn wi_90_21 l0 ?_
  refine dq_gr wi_90_22 wf_90_78 tf_0_8 ?_
  refine rs_V wi_90_25 wc_90_383 rfl (dq_isa tf_167_0 wa_13_53) (Nat.le_trans (by decide) hF) (ml_le wm_53 (Nat.le_trans (by decide) hLo)) rfl (sp_53 hw (Nat.le_trans (by decide : 0 ≤ 3 - 1) (Nat.sub_le_sub_right hF 1)) (ml_sub wm_53 (Nat.le_trans (by decide : 0 ≤ 66 - 20) (Nat.sub_le_sub_right hLo 20))) (wp_bind h) (fun r4 h => rs_back0 ?_))
  exact rs_vret wi_90_28 wr_90 (hQ r4 h)
theorem wf_158_67 : rx_ft (rt_P sc fm) 158 67 = some (2, 0) := (by decide +kernel : rt_ft 158 67 = some (2, 0))
theorem wf_158_87 : rx_ft (rt_P sc fm) 158 87 = some (9, 10) := (by decide +kernel : rt_ft 158 87 = some (9, 10))
theorem wi_158_0 : ri (rt_P sc fm) 158 0 (.aload_n 0) (1) := ri_of (by decide +kernel) rfl
theorem wi_158_1 : ri (rt_P sc fm) 158 1 (.getfield 67) (4) := ri_of (by decide +kernel) rfl
theorem wi_158_10 : ri (rt_P sc fm) 158 10 (.ireturn) (11) := ri_of (by decide +kernel) rfl
theorem wi_158_4 : ri (rt_P sc fm) 158 4 (.getfield 87) (7) := ri_of (by decide +kernel) rfl
theorem wi_158_7 : ri (rt_P sc fm) 158 7 (.bipush 8) (9) := ri_of (by decide +kernel) rfl
theorem wi_158_9 : ri (rt_P sc fm) 158 9 (.imul) (10) := ri_of (by decide +kernel) rfl
theorem wr_158 : rx_rt (rt_P sc fm) 158 = (some FieldType.int) := (by decide +kernel : rt_rt 158 = (some FieldType.int))
/-- MarkHouse$Code.methodCountAll()I -/
def d_158 (n : Nat)  (c : cS) : Option (Int32) :=
  some ((c.1 7 10) * 8)
theorem sp_158 {F Lo n : Nat}  {c y : cS} {w : cW} {K : Int32 → Prop} {Q : ((Option Value) ⊕ String) → List va_E → Prop} (hw : rOK fm w) (hF : 0 ≤ F) (hLo : 0 ≤ Lo)  (h : wp (d_158 n  c) K) (hQ : ∀ r, K r → Q (.inl (some (.int r))) (hq true c y w)) : rs (rt_P sc fm) 158 F Lo 0 [(0, .ref 114)] [] (hq true c y w) Q := by
  unfold d_158 at h
  obtain ⟨lv, elv⟩ : ∃ lv : rx_L, lv = [(0, .ref 114)] := ⟨_, rfl⟩
  rw [← elv]
  have l0 : rx_ld lv 0 = some (.ref 114) := by rw [elv]; rfl
  refine rs_aldn wi_158_0 l0 ?_
  refine dq_gr wi_158_1 wf_158_67 tf_114_0 ?_
  refine dq_gi wi_158_4 wf_158_87 tf_7_10 ?_
  refine rs_pure wi_158_7 rfl ?_
  refine rs_topi (v := 8) (by decide) ?_
  refine rs_pure wi_158_9 rfl ?_
  exact rs_iret wi_158_10 wr_158 rfl (hQ ((c.1 7 10) * 8) h)
theorem wf_157_67 : rx_ft (rt_P sc fm) 157 67 = some (2, 0) := (by decide +kernel : rt_ft 157 67 = some (2, 0))
theorem wf_157_93 : rx_ft (rt_P sc fm) 157 93 = some (9, 14) := (by decide +kernel : rt_ft 157 93 = some (9, 14))
theorem wi_157_0 : ri (rt_P sc fm) 157 0 (.iload_n 1) (1) := ri_of (by decide +kernel) rfl
theorem wi_157_1 : ri (rt_P sc fm) 157 1 (.bipush 8) (3) := ri_of (by decide +kernel) rfl
theorem wi_157_11 : ri (rt_P sc fm) 157 11 (.iload_n 1) (12) := ri_of (by decide +kernel) rfl
theorem wi_157_12 : ri (rt_P sc fm) 157 12 (.bipush 8) (14) := ri_of (by decide +kernel) rfl
theorem wi_157_14 : ri (rt_P sc fm) 157 14 (.idiv) (15) := ri_of (by decide +kernel) rfl
theorem wi_157_15 : ri (rt_P sc fm) 157 15 (.iaload) (16) := ri_of (by decide +kernel) rfl
theorem wi_157_16 : ri (rt_P sc fm) 157 16 (.if_icmp .ge 7) (19) := ri_of (by decide +kernel) rfl
theorem wi_157_19 : ri (rt_P sc fm) 157 19 (.iconst 1) (20) := ri_of (by decide +kernel) rfl
theorem wi_157_20 : ri (rt_P sc fm) 157 20 (.goto 4) (23) := ri_of (by decide +kernel) rfl
theorem wi_157_23 : ri (rt_P sc fm) 157 23 (.iconst 0) (24) := ri_of (by decide +kernel) rfl
theorem wi_157_24 : ri (rt_P sc fm) 157 24 (.ireturn) (25) := ri_of (by decide +kernel) rfl
theorem wi_157_3 : ri (rt_P sc fm) 157 3 (.irem) (4) := ri_of (by decide +kernel) rfl
theorem wi_157_4 : ri (rt_P sc fm) 157 4 (.aload_n 0) (5) := ri_of (by decide +kernel) rfl
theorem wi_157_5 : ri (rt_P sc fm) 157 5 (.getfield 67) (8) := ri_of (by decide +kernel) rfl
theorem wi_157_8 : ri (rt_P sc fm) 157 8 (.getfield 93) (11) := ri_of (by decide +kernel) rfl
theorem wr_157 : rx_rt (rt_P sc fm) 157 = (some FieldType.boolean) := (by decide +kernel : rt_rt 157 = (some FieldType.boolean))
/-- MarkHouse$Code.isMethod(I)Z -/
def d_157 (n : Nat) (a1 : Int32) (c : cS) : Option (Int32) :=
  if ib (a1 / 8) 12 then
  jn (fun p2 : Int32 =>
    if nb p2 then
    some p2
    else none)
  (fun j24 =>
  if (c.1 17 (ix (a1 / 8))) ≤ (a1 - a1 / 8 * 8) then
    j24 0
  else
    j24 1)
  else none
theorem sp_157 {F Lo n : Nat} {a1 : Int32} {c y : cS} {w : cW} {K : Int32 → Prop} {Q : ((Option Value) ⊕ String) → List va_E → Prop} (hw : rOK fm w) (hF : 0 ≤ F) (hLo : 0 ≤ Lo)  (h : wp (d_157 n a1 c) K) (hQ : ∀ r, K r → Q (.inl (some (.int r))) (hq true c y w)) : rs (rt_P sc fm) 157 F Lo 0 [(0, .ref 114), (1, .int a1)] [] (hq true c y w) Q := by
  unfold d_157 at h
  obtain ⟨lv, elv⟩ : ∃ lv : rx_L, lv = [(0, .ref 114), (1, .int a1)] := ⟨_, rfl⟩
  rw [← elv]
  have l0 : rx_ld lv 0 = some (.ref 114) := by rw [elv]; rfl
  have l1 : rx_ld lv 1 = some (.int a1) := by rw [elv]; rfl
  refine rs_ildn wi_157_0 l1 ?_
  refine rs_pure wi_157_1 rfl ?_
  refine rs_topi (v := 8) (by decide) ?_
  refine dl_irem wi_157_3 (by decide) ?_
  refine rs_aldn wi_157_4 l0 ?_
  refine dq_gr wi_157_5 wf_157_67 tf_114_0 ?_
  refine dq_gr wi_157_8 wf_157_93 tf_7_14 ?_
  refine rs_ildn wi_157_11 l1 ?_
  refine rs_pure wi_157_12 rfl ?_
  refine rs_topi (v := 8) (by decide) ?_
  refine dl_idiv wi_157_14 (by decide) ?_
  obtain ⟨g1, h⟩ := wp_gd h
  refine dq_iald wi_157_15 t_17 g1 ?_
  refine wp_jn (B := fun p2 : Int32 => ∀ lv, rs (rt_P sc fm) 157 F Lo 24 lv [.int p2] (hq true c y w) Q) h (fun p2 h lv => ?_) (fun j24 hj24 h => ?_)
  ·
    obtain ⟨g3, h⟩ := wp_gd h
    exact rs_iret wi_157_24 wr_157 (nb_n g3) (hQ p2 h)
  refine rs_icge (tg := 23) wi_157_16 ⟨by decide, by decide⟩ (fun q => ?_) (fun q => ?_)
  ·
    have h := wp_pos h q
    refine rs_pure wi_157_23 rfl ?_
    refine rs_topi (v := 0) (by decide) ?_
    exact hj24 _ h _
  ·
    have h := wp_neg h q
    refine rs_pure wi_157_19 rfl ?_
    refine rs_topi (v := 1) (by decide) ?_
    refine rs_goto (tg := 24) wi_157_20 ⟨by decide, by decide⟩ ?_
    exact hj24 _ h _
theorem wc_160_100 : rx_ct (rt_P sc fm) 160 100 = some (0, 159, 2) := (by decide +kernel : rt_ct 160 100 = some (0, 159, 2))
theorem wc_160_104 : rx_ct (rt_P sc fm) 160 104 = some (0, 156, 1) := (by decide +kernel : rt_ct 160 104 = some (0, 156, 1))
theorem wf_160_107 : rx_ft (rt_P sc fm) 160 107 = some (9, 9) := (by decide +kernel : rt_ft 160 107 = some (9, 9))
theorem wf_160_67 : rx_ft (rt_P sc fm) 160 67 = some (2, 0) := (by decide +kernel : rt_ft 160 67 = some (2, 0))
theorem wi_160_0 : ri (rt_P sc fm) 160 0 (.iload_n 1) (1) := ri_of (by decide +kernel) rfl
theorem wi_160_1 : ri (rt_P sc fm) 160 1 (.istore 4) (3) := ri_of (by decide +kernel) rfl
theorem wi_160_10 : ri (rt_P sc fm) 160 10 (.if_icmp .ge 47) (13) := ri_of (by decide +kernel) rfl
theorem wi_160_13 : ri (rt_P sc fm) 160 13 (.iload 4) (15) := ri_of (by decide +kernel) rfl
theorem wi_160_15 : ri (rt_P sc fm) 160 15 (.ifCond .lt 42) (18) := ri_of (by decide +kernel) rfl
theorem wi_160_18 : ri (rt_P sc fm) 160 18 (.aload_n 0) (19) := ri_of (by decide +kernel) rfl
theorem wi_160_19 : ri (rt_P sc fm) 160 19 (.iload 4) (21) := ri_of (by decide +kernel) rfl
theorem wi_160_21 : ri (rt_P sc fm) 160 21 (.lload_n 2) (22) := ri_of (by decide +kernel) rfl
theorem wi_160_22 : ri (rt_P sc fm) 160 22 (.invokevirtual 100) (25) := ri_of (by decide +kernel) rfl
theorem wi_160_25 : ri (rt_P sc fm) 160 25 (.istore 6) (27) := ri_of (by decide +kernel) rfl
theorem wi_160_27 : ri (rt_P sc fm) 160 27 (.iload 6) (29) := ri_of (by decide +kernel) rfl
theorem wi_160_29 : ri (rt_P sc fm) 160 29 (.ifCond .lt 10) (32) := ri_of (by decide +kernel) rfl
theorem wi_160_3 : ri (rt_P sc fm) 160 3 (.iconst 0) (4) := ri_of (by decide +kernel) rfl
theorem wi_160_32 : ri (rt_P sc fm) 160 32 (.aload_n 0) (33) := ri_of (by decide +kernel) rfl
theorem wi_160_33 : ri (rt_P sc fm) 160 33 (.iload 6) (35) := ri_of (by decide +kernel) rfl
theorem wi_160_35 : ri (rt_P sc fm) 160 35 (.invokevirtual 104) (38) := ri_of (by decide +kernel) rfl
theorem wi_160_38 : ri (rt_P sc fm) 160 38 (.ireturn) (39) := ri_of (by decide +kernel) rfl
theorem wi_160_39 : ri (rt_P sc fm) 160 39 (.aload_n 0) (40) := ri_of (by decide +kernel) rfl
theorem wi_160_4 : ri (rt_P sc fm) 160 4 (.istore 5) (6) := ri_of (by decide +kernel) rfl
theorem wi_160_40 : ri (rt_P sc fm) 160 40 (.getfield 67) (43) := ri_of (by decide +kernel) rfl
theorem wi_160_43 : ri (rt_P sc fm) 160 43 (.getfield 107) (46) := ri_of (by decide +kernel) rfl
theorem wi_160_46 : ri (rt_P sc fm) 160 46 (.iload 4) (48) := ri_of (by decide +kernel) rfl
theorem wi_160_48 : ri (rt_P sc fm) 160 48 (.iaload) (49) := ri_of (by decide +kernel) rfl
theorem wi_160_49 : ri (rt_P sc fm) 160 49 (.istore 4) (51) := ri_of (by decide +kernel) rfl
theorem wi_160_51 : ri (rt_P sc fm) 160 51 (.iinc 5 1) (54) := ri_of (by decide +kernel) rfl
theorem wi_160_54 : ri (rt_P sc fm) 160 54 (.goto (-48)) (57) := ri_of (by decide +kernel) rfl
theorem wi_160_57 : ri (rt_P sc fm) 160 57 (.iconst (-1)) (58) := ri_of (by decide +kernel) rfl
theorem wi_160_58 : ri (rt_P sc fm) 160 58 (.ireturn) (59) := ri_of (by decide +kernel) rfl
theorem wi_160_6 : ri (rt_P sc fm) 160 6 (.iload 5) (8) := ri_of (by decide +kernel) rfl
theorem wi_160_8 : ri (rt_P sc fm) 160 8 (.bipush 12) (10) := ri_of (by decide +kernel) rfl
theorem wr_160 : rx_rt (rt_P sc fm) 160 = (some FieldType.int) := (by decide +kernel : rt_rt 160 = (some FieldType.int))
/-- MarkHouse$Code.nearestMethod(IJ)I -/
def d_160 (n : Nat) (a1 : Int32) (a2 : Int64) (c : cS) : Option (Int32) :=
  Option.bind (whl (R := (Unit) ⊕ (Int32)) (fun s3 : Int32 × Int32 =>
    if 12 ≤ s3.2 then
      some (.inr (.inl ()))
    else
      if s3.1 < 0 then
        some (.inr (.inl ()))
      else
        Option.bind (d_159 n s3.1 a2 c) (fun v4 =>
        if v4 < 0 then
          if ib s3.1 12 then
          lt ((c.1 13 (ix s3.1)) : Int32) (fun v8 =>
          lt (s3.2 + 1 : Int32) (fun v11 =>
          some (.inl (v8, v11))))
          else none
        else
          some (.inr (.inr v4)))) n (a1, 0))
  (Sum.elim (fun x13 : Unit =>
    some (-1))
  (fun x14 : Int32 =>
    Option.bind (d_156 n x14) (fun v15 =>
    some v15)))
theorem sp_160 {F Lo n : Nat} {a1 : Int32} {a2 : Int64} {c y : cS} {w : cW} {K : Int32 → Prop} {Q : ((Option Value) ⊕ String) → List va_E → Prop} (hw : rOK fm w) (hF : 1 ≤ F) (hLo : 24 ≤ Lo)  (h : wp (d_160 n a1 a2 c) K) (hQ : ∀ r, K r → Q (.inl (some (.int r))) (hq true c y w)) : rs (rt_P sc fm) 160 F Lo 0 [(0, .ref 114), (1, .int a1), (2, .long a2)] [] (hq true c y w) Q := by
  unfold d_160 at h
  obtain ⟨lv, elv⟩ : ∃ lv : rx_L, lv = [(0, .ref 114), (1, .int a1), (2, .long a2)] := ⟨_, rfl⟩
  rw [← elv]
  have l0 : rx_ld lv 0 = some (.ref 114) := by rw [elv]; rfl
  have l1 : rx_ld lv 1 = some (.int a1) := by rw [elv]; rfl
  have l2 : rx_ld lv 2 = some (.long a2) := by rw [elv]; rfl
  refine rs_ildn wi_160_0 l1 ?_
  refine dl_ist wi_160_1 rfl (fun lv l4 t1 => ?_)
  have l0 := t1 _ _ (by decide) (Or.inl rfl) l0
  have l2 := t1 _ _ (by decide) (Or.inr (by decide)) l2
  refine rs_pure wi_160_3 rfl ?_
  refine rs_topi (v := 0) (by decide) ?_
  refine dl_ist wi_160_4 rfl (fun lv l5 t2 => ?_)
  have l0 := t2 _ _ (by decide) (Or.inl rfl) l0
  have l2 := t2 _ _ (by decide) (Or.inr (by decide)) l2
  have l4 := t2 _ _ (by decide) (Or.inl rfl) l4
  refine whl_ex (A := fun s3 : Int32 × Int32 => ∀ lv, rx_ld lv 0 = some (.ref 114) → rx_ld lv 2 = some (.long a2) → rx_ld lv 4 = some (.int s3.1) → rx_ld lv 5 = some (.int s3.2) → rs (rt_P sc fm) 160 F Lo 6 lv [] (hq true c y w) Q) (B := (Sum.elim (fun x13 : Unit => ∀ lv, rs (rt_P sc fm) 160 F Lo 57 lv [] (hq true c y w) Q) (fun x14 : Int32 => ∀ lv, rx_ld lv 0 = some (.ref 114) → rx_ld lv 6 = some (.int x14) → rs (rt_P sc fm) 160 F Lo 32 lv [] (hq true c y w) Q))) ?_ ?_ _ _ (wp_bind h) _ l0 l2 l4 l5
  · intro s3 h lv l0 l2 l4 l5
    refine rs_ild wi_160_6 l5 ?_
    refine rs_pure wi_160_8 rfl ?_
    refine rs_topi (v := 12) (by decide) ?_
    refine rs_icge (tg := 57) wi_160_10 ⟨by decide, by decide⟩ (fun q => ?_) (fun q => ?_)
    ·
      have h := wp_pos h q
      exact h _
    ·
      have h := wp_neg h q
      refine rs_ild wi_160_13 l4 ?_
      refine rs_iflt (tg := 57) wi_160_15 ⟨by decide, by decide⟩ (fun q => ?_) (fun q => ?_)
      ·
        have h := wp_pos h q
        exact h _
      ·
        have h := wp_neg h q
        refine rs_aldn wi_160_18 l0 ?_
        refine rs_ild wi_160_19 l4 ?_
        refine rs_lldn wi_160_21 l2 ?_
        refine rs_V wi_160_22 wc_160_100 rfl (dq_isa tf_114_0 wa_2_159) (Nat.le_trans (by decide) hF) (ml_le wm_159 (Nat.le_trans (by decide) hLo)) rfl (sp_159 hw (Nat.le_trans (by decide : 0 ≤ 1 - 1) (Nat.sub_le_sub_right hF 1)) (ml_sub wm_159 (Nat.le_trans (by decide : 0 ≤ 24 - 24) (Nat.sub_le_sub_right hLo 24))) (wp_bind h) (fun v4 h => rs_back1 ?_))
        refine dl_ist wi_160_25 rfl (fun lv l6 t5 => ?_)
        have l0 := t5 _ _ (by decide) (Or.inl rfl) l0
        have l2 := t5 _ _ (by decide) (Or.inr (by decide)) l2
        have l4 := t5 _ _ (by decide) (Or.inl rfl) l4
        have l5 := t5 _ _ (by decide) (Or.inl rfl) l5
        refine rs_ild wi_160_27 l6 ?_
        refine rs_iflt (tg := 39) wi_160_29 ⟨by decide, by decide⟩ (fun q => ?_) (fun q => ?_)
        ·
          have h := wp_pos h q
          refine rs_aldn wi_160_39 l0 ?_
          refine dq_gr wi_160_40 wf_160_67 tf_114_0 ?_
          refine dq_gr wi_160_43 wf_160_107 tf_7_9 ?_
          refine rs_ild wi_160_46 l4 ?_
          obtain ⟨g6, h⟩ := wp_gd h
          refine dq_iald wi_160_48 t_13 g6 ?_
          obtain ⟨v8, e9, h⟩ := wp_lt h
          refine rs_topi e9 ?_
          refine dl_ist wi_160_49 rfl (fun lv l4 t7 => ?_)
          have l0 := t7 _ _ (by decide) (Or.inl rfl) l0
          have l2 := t7 _ _ (by decide) (Or.inr (by decide)) l2
          have l5 := t7 _ _ (by decide) (Or.inl rfl) l5
          obtain ⟨v11, e12, h⟩ := wp_lt h
          refine dl_inc wi_160_51 l5 rfl e12 (fun lv l5 t10 => ?_)
          have l0 := t10 _ _ (by decide) (Or.inl rfl) l0
          have l2 := t10 _ _ (by decide) (Or.inr (by decide)) l2
          have l4 := t10 _ _ (by decide) (Or.inl rfl) l4
          refine rs_goto (tg := 6) wi_160_54 ⟨by decide, by decide⟩ ?_
          exact h _ l0 l2 l4 l5
        ·
          have h := wp_neg h q
          exact h _ l0 l6
  ·
    refine sum_all ?_ ?_
    ·
      intro x13 h lv
      have h := wp_inl h
      refine rs_pure wi_160_57 rfl ?_
      refine rs_topi (v := (-1)) (by decide) ?_
      exact rs_iret wi_160_58 wr_160 rfl (hQ (-1) h)
    ·
      intro x14 h lv l0 l6
      have h := wp_inr h
      refine rs_aldn wi_160_32 l0 ?_
      refine rs_ild wi_160_33 l6 ?_
      refine rs_V wi_160_35 wc_160_104 rfl (dq_isa tf_114_0 wa_2_156) (Nat.le_trans (by decide) hF) (ml_le wm_156 (Nat.le_trans (by decide) hLo)) rfl (sp_156 (Nat.le_trans (by decide : 0 ≤ 1 - 1) (Nat.sub_le_sub_right hF 1)) (ml_sub wm_156 (Nat.le_trans (by decide : 0 ≤ 24 - 21) (Nat.sub_le_sub_right hLo 21))) (wp_bind h) (fun v15 h => rs_back1 ?_))
      exact rs_iret wi_160_38 wr_160 rfl (hQ v15 h)
theorem wc_254_104 : rx_ct (rt_P sc fm) 254 104 = some (0, 253, 2) := (by decide +kernel : rt_ct 254 104 = some (0, 253, 2))
theorem wf_254_34 : rx_ft (rt_P sc fm) 254 34 = some (9, 9) := (by decide +kernel : rt_ft 254 34 = some (9, 9))
theorem wi_254_0 : ri (rt_P sc fm) 254 0 (.iload_n 1) (1) := ri_of (by decide +kernel) rfl
theorem wi_254_1 : ri (rt_P sc fm) 254 1 (.istore 4) (3) := ri_of (by decide +kernel) rfl
theorem wi_254_10 : ri (rt_P sc fm) 254 10 (.if_icmp .ge 48) (13) := ri_of (by decide +kernel) rfl
theorem wi_254_13 : ri (rt_P sc fm) 254 13 (.iload 4) (15) := ri_of (by decide +kernel) rfl
theorem wi_254_15 : ri (rt_P sc fm) 254 15 (.ifCond .lt 43) (18) := ri_of (by decide +kernel) rfl
theorem wi_254_18 : ri (rt_P sc fm) 254 18 (.aload_n 0) (19) := ri_of (by decide +kernel) rfl
theorem wi_254_19 : ri (rt_P sc fm) 254 19 (.iload 4) (21) := ri_of (by decide +kernel) rfl
theorem wi_254_21 : ri (rt_P sc fm) 254 21 (.lload_n 2) (22) := ri_of (by decide +kernel) rfl
theorem wi_254_22 : ri (rt_P sc fm) 254 22 (.invokevirtual 104) (25) := ri_of (by decide +kernel) rfl
theorem wi_254_25 : ri (rt_P sc fm) 254 25 (.istore 6) (27) := ri_of (by decide +kernel) rfl
theorem wi_254_27 : ri (rt_P sc fm) 254 27 (.iload 6) (29) := ri_of (by decide +kernel) rfl
theorem wi_254_29 : ri (rt_P sc fm) 254 29 (.ifCond .lt 14) (32) := ri_of (by decide +kernel) rfl
theorem wi_254_3 : ri (rt_P sc fm) 254 3 (.iconst 0) (4) := ri_of (by decide +kernel) rfl
theorem wi_254_32 : ri (rt_P sc fm) 254 32 (.bipush 100) (34) := ri_of (by decide +kernel) rfl
theorem wi_254_34 : ri (rt_P sc fm) 254 34 (.iload 4) (36) := ri_of (by decide +kernel) rfl
theorem wi_254_36 : ri (rt_P sc fm) 254 36 (.imul) (37) := ri_of (by decide +kernel) rfl
theorem wi_254_37 : ri (rt_P sc fm) 254 37 (.iconst 1) (38) := ri_of (by decide +kernel) rfl
theorem wi_254_38 : ri (rt_P sc fm) 254 38 (.iadd) (39) := ri_of (by decide +kernel) rfl
theorem wi_254_39 : ri (rt_P sc fm) 254 39 (.iload 6) (41) := ri_of (by decide +kernel) rfl
theorem wi_254_4 : ri (rt_P sc fm) 254 4 (.istore 5) (6) := ri_of (by decide +kernel) rfl
theorem wi_254_41 : ri (rt_P sc fm) 254 41 (.iadd) (42) := ri_of (by decide +kernel) rfl
theorem wi_254_42 : ri (rt_P sc fm) 254 42 (.ireturn) (43) := ri_of (by decide +kernel) rfl
theorem wi_254_43 : ri (rt_P sc fm) 254 43 (.aload_n 0) (44) := ri_of (by decide +kernel) rfl
theorem wi_254_44 : ri (rt_P sc fm) 254 44 (.getfield 34) (47) := ri_of (by decide +kernel) rfl
theorem wi_254_47 : ri (rt_P sc fm) 254 47 (.iload 4) (49) := ri_of (by decide +kernel) rfl
theorem wi_254_49 : ri (rt_P sc fm) 254 49 (.iaload) (50) := ri_of (by decide +kernel) rfl
theorem wi_254_50 : ri (rt_P sc fm) 254 50 (.istore 4) (52) := ri_of (by decide +kernel) rfl
theorem wi_254_52 : ri (rt_P sc fm) 254 52 (.iinc 5 1) (55) := ri_of (by decide +kernel) rfl
theorem wi_254_55 : ri (rt_P sc fm) 254 55 (.goto (-49)) (58) := ri_of (by decide +kernel) rfl
theorem wi_254_58 : ri (rt_P sc fm) 254 58 (.iconst (-1)) (59) := ri_of (by decide +kernel) rfl
theorem wi_254_59 : ri (rt_P sc fm) 254 59 (.ireturn) (60) := ri_of (by decide +kernel) rfl
theorem wi_254_6 : ri (rt_P sc fm) 254 6 (.iload 5) (8) := ri_of (by decide +kernel) rfl
theorem wi_254_8 : ri (rt_P sc fm) 254 8 (.bipush 12) (10) := ri_of (by decide +kernel) rfl
theorem wr_254 : rx_rt (rt_P sc fm) 254 = (some FieldType.int) := (by decide +kernel : rt_rt 254 = (some FieldType.int))
/-- MarkHouse$Program.nearestField(IJ)I -/
def d_254 (n : Nat) (a1 : Int32) (a2 : Int64) (c : cS) : Option (Int32) :=
  Option.bind (whl (R := (Unit) ⊕ (Int32 × Int32)) (fun s3 : Int32 × Int32 =>
    if 12 ≤ s3.2 then
      some (.inr (.inl ()))
    else
      if s3.1 < 0 then
        some (.inr (.inl ()))
      else
        Option.bind (d_253 n s3.1 a2 c) (fun v4 =>
        if v4 < 0 then
          if ib s3.1 12 then
          lt ((c.1 13 (ix s3.1)) : Int32) (fun v8 =>
          lt (s3.2 + 1 : Int32) (fun v11 =>
          some (.inl (v8, v11))))
          else none
        else
          some (.inr (.inr (s3.1, v4))))) n (a1, 0))
  (Sum.elim (fun x13 : Unit =>
    some (-1))
  (fun x14 : Int32 × Int32 =>
    some (((100 * x14.1) + 1) + x14.2)))
theorem sp_254 {F Lo n : Nat} {a1 : Int32} {a2 : Int64} {c y : cS} {w : cW} {K : Int32 → Prop} {Q : ((Option Value) ⊕ String) → List va_E → Prop} (hw : rOK fm w) (hF : 1 ≤ F) (hLo : 24 ≤ Lo)  (h : wp (d_254 n a1 a2 c) K) (hQ : ∀ r, K r → Q (.inl (some (.int r))) (hq true c y w)) : rs (rt_P sc fm) 254 F Lo 0 [(0, .ref 7), (1, .int a1), (2, .long a2)] [] (hq true c y w) Q := by
  unfold d_254 at h
  obtain ⟨lv, elv⟩ : ∃ lv : rx_L, lv = [(0, .ref 7), (1, .int a1), (2, .long a2)] := ⟨_, rfl⟩
  rw [← elv]
  have l0 : rx_ld lv 0 = some (.ref 7) := by rw [elv]; rfl
  have l1 : rx_ld lv 1 = some (.int a1) := by rw [elv]; rfl
  have l2 : rx_ld lv 2 = some (.long a2) := by rw [elv]; rfl
  refine rs_ildn wi_254_0 l1 ?_
  refine dl_ist wi_254_1 rfl (fun lv l4 t1 => ?_)
  have l0 := t1 _ _ (by decide) (Or.inl rfl) l0
  have l2 := t1 _ _ (by decide) (Or.inr (by decide)) l2
  refine rs_pure wi_254_3 rfl ?_
  refine rs_topi (v := 0) (by decide) ?_
  refine dl_ist wi_254_4 rfl (fun lv l5 t2 => ?_)
  have l0 := t2 _ _ (by decide) (Or.inl rfl) l0
  have l2 := t2 _ _ (by decide) (Or.inr (by decide)) l2
  have l4 := t2 _ _ (by decide) (Or.inl rfl) l4
  refine whl_ex (A := fun s3 : Int32 × Int32 => ∀ lv, rx_ld lv 0 = some (.ref 7) → rx_ld lv 2 = some (.long a2) → rx_ld lv 4 = some (.int s3.1) → rx_ld lv 5 = some (.int s3.2) → rs (rt_P sc fm) 254 F Lo 6 lv [] (hq true c y w) Q) (B := (Sum.elim (fun x13 : Unit => ∀ lv, rs (rt_P sc fm) 254 F Lo 58 lv [] (hq true c y w) Q) (fun x14 : Int32 × Int32 => ∀ lv, rx_ld lv 4 = some (.int x14.1) → rx_ld lv 6 = some (.int x14.2) → rs (rt_P sc fm) 254 F Lo 32 lv [] (hq true c y w) Q))) ?_ ?_ _ _ (wp_bind h) _ l0 l2 l4 l5
  · intro s3 h lv l0 l2 l4 l5
    refine rs_ild wi_254_6 l5 ?_
    refine rs_pure wi_254_8 rfl ?_
    refine rs_topi (v := 12) (by decide) ?_
    refine rs_icge (tg := 58) wi_254_10 ⟨by decide, by decide⟩ (fun q => ?_) (fun q => ?_)
    ·
      have h := wp_pos h q
      exact h _
    ·
      have h := wp_neg h q
      refine rs_ild wi_254_13 l4 ?_
      refine rs_iflt (tg := 58) wi_254_15 ⟨by decide, by decide⟩ (fun q => ?_) (fun q => ?_)
      ·
        have h := wp_pos h q
        exact h _
      ·
        have h := wp_neg h q
        refine rs_aldn wi_254_18 l0 ?_
        refine rs_ild wi_254_19 l4 ?_
        refine rs_lldn wi_254_21 l2 ?_
        refine rs_V wi_254_22 wc_254_104 rfl (dq_isa tf_7_0 wa_9_253) (Nat.le_trans (by decide) hF) (ml_le wm_253 (Nat.le_trans (by decide) hLo)) rfl (sp_253 hw (Nat.le_trans (by decide : 0 ≤ 1 - 1) (Nat.sub_le_sub_right hF 1)) (ml_sub wm_253 (Nat.le_trans (by decide : 0 ≤ 24 - 24) (Nat.sub_le_sub_right hLo 24))) (wp_bind h) (fun v4 h => rs_back1 ?_))
        refine dl_ist wi_254_25 rfl (fun lv l6 t5 => ?_)
        have l0 := t5 _ _ (by decide) (Or.inl rfl) l0
        have l2 := t5 _ _ (by decide) (Or.inr (by decide)) l2
        have l4 := t5 _ _ (by decide) (Or.inl rfl) l4
        have l5 := t5 _ _ (by decide) (Or.inl rfl) l5
        refine rs_ild wi_254_27 l6 ?_
        refine rs_iflt (tg := 43) wi_254_29 ⟨by decide, by decide⟩ (fun q => ?_) (fun q => ?_)
        ·
          have h := wp_pos h q
          refine rs_aldn wi_254_43 l0 ?_
          refine dq_gr wi_254_44 wf_254_34 tf_7_9 ?_
          refine rs_ild wi_254_47 l4 ?_
          obtain ⟨g6, h⟩ := wp_gd h
          refine dq_iald wi_254_49 t_13 g6 ?_
          obtain ⟨v8, e9, h⟩ := wp_lt h
          refine rs_topi e9 ?_
          refine dl_ist wi_254_50 rfl (fun lv l4 t7 => ?_)
          have l0 := t7 _ _ (by decide) (Or.inl rfl) l0
          have l2 := t7 _ _ (by decide) (Or.inr (by decide)) l2
          have l5 := t7 _ _ (by decide) (Or.inl rfl) l5
          obtain ⟨v11, e12, h⟩ := wp_lt h
          refine dl_inc wi_254_52 l5 rfl e12 (fun lv l5 t10 => ?_)
          have l0 := t10 _ _ (by decide) (Or.inl rfl) l0
          have l2 := t10 _ _ (by decide) (Or.inr (by decide)) l2
          have l4 := t10 _ _ (by decide) (Or.inl rfl) l4
          refine rs_goto (tg := 6) wi_254_55 ⟨by decide, by decide⟩ ?_
          exact h _ l0 l2 l4 l5
        ·
          have h := wp_neg h q
          exact h _ l4 l6
  ·
    refine sum_all ?_ ?_
    ·
      intro x13 h lv
      have h := wp_inl h
      refine rs_pure wi_254_58 rfl ?_
      refine rs_topi (v := (-1)) (by decide) ?_
      exact rs_iret wi_254_59 wr_254 rfl (hQ (-1) h)
    ·
      intro x14 h lv l4 l6
      have h := wp_inr h
      refine rs_pure wi_254_32 rfl ?_
      refine rs_topi (v := 100) (by decide) ?_
      refine rs_ild wi_254_34 l4 ?_
      refine rs_pure wi_254_36 rfl ?_
      refine rs_pure wi_254_37 rfl ?_
      refine rs_topi (v := 1) (by decide) ?_
      refine rs_pure wi_254_38 rfl ?_
      refine rs_ild wi_254_39 l6 ?_
      refine rs_pure wi_254_41 rfl ?_
      exact rs_iret wi_254_42 wr_254 rfl (hQ (((100 * x14.1) + 1) + x14.2) h)
theorem wa_2_160 : rz_cn 2 (rx_yn (rt_P sc fm) 160).cls = true := (by decide +kernel : rz_cn 2 (rt_yn 160).cls = true)
theorem wa_9_254 : rz_cn 9 (rx_yn (rt_P sc fm) 254).cls = true := (by decide +kernel : rz_cn 9 (rt_yn 254).cls = true)
theorem wc_287_251 : rx_ct (rt_P sc fm) 287 251 = some (0, 249, 1) := (by decide +kernel : rt_ct 287 251 = some (0, 249, 1))
theorem wc_287_369 : rx_ct (rt_P sc fm) 287 369 = some (0, 163, 2) := (by decide +kernel : rt_ct 287 369 = some (0, 163, 2))
theorem wc_287_435 : rx_ct (rt_P sc fm) 287 435 = some (0, 160, 2) := (by decide +kernel : rt_ct 287 435 = some (0, 160, 2))
theorem wc_287_438 : rx_ct (rt_P sc fm) 287 438 = some (0, 254, 2) := (by decide +kernel : rt_ct 287 438 = some (0, 254, 2))
theorem wc_287_441 : rx_ct (rt_P sc fm) 287 441 = some (0, 22, 1) := (by decide +kernel : rt_ct 287 441 = some (0, 22, 1))
theorem wc_287_61 : rx_ct (rt_P sc fm) 287 61 = some (0, 41, 2) := (by decide +kernel : rt_ct 287 61 = some (0, 41, 2))
theorem wf_287_15 : rx_ft (rt_P sc fm) 287 15 = some (10, 1) := (by decide +kernel : rt_ft 287 15 = some (10, 1))
theorem wf_287_19 : rx_ft (rt_P sc fm) 287 19 = some (10, 2) := (by decide +kernel : rt_ft 287 19 = some (10, 2))
theorem wf_287_291 : rx_ft (rt_P sc fm) 287 291 = some (2, 2) := (by decide +kernel : rt_ft 287 291 = some (2, 2))
theorem wf_287_376 : rx_ft (rt_P sc fm) 287 376 = some (2, 8) := (by decide +kernel : rt_ft 287 376 = some (2, 8))
theorem wf_287_382 : rx_ft (rt_P sc fm) 287 382 = some (2, 9) := (by decide +kernel : rt_ft 287 382 = some (2, 9))
theorem wf_287_385 : rx_ft (rt_P sc fm) 287 385 = some (2, 10) := (by decide +kernel : rt_ft 287 385 = some (2, 10))
theorem wf_287_395 : rx_ft (rt_P sc fm) 287 395 = some (2, 19) := (by decide +kernel : rt_ft 287 395 = some (2, 19))
theorem wf_287_398 : rx_ft (rt_P sc fm) 287 398 = some (2, 16) := (by decide +kernel : rt_ft 287 398 = some (2, 16))
theorem wf_287_414 : rx_ft (rt_P sc fm) 287 414 = some (2, 18) := (by decide +kernel : rt_ft 287 414 = some (2, 18))
theorem wf_287_417 : rx_ft (rt_P sc fm) 287 417 = some (2, 15) := (by decide +kernel : rt_ft 287 417 = some (2, 15))
theorem wf_287_432 : rx_ft (rt_P sc fm) 287 432 = some (2, 11) := (by decide +kernel : rt_ft 287 432 = some (2, 11))
theorem wh0_287_138 : rx_ht (rt_P sc fm) 287 138 "java/lang/IllegalArgumentException" = none := (by decide +kernel : rt_ht 287 138 "java/lang/IllegalArgumentException" = none)
theorem wh0_287_216 : rx_ht (rt_P sc fm) 287 216 "java/lang/IllegalArgumentException" = none := (by decide +kernel : rt_ht 287 216 "java/lang/IllegalArgumentException" = none)
theorem wh0_287_80 : rx_ht (rt_P sc fm) 287 80 "java/lang/IllegalArgumentException" = none := (by decide +kernel : rt_ht 287 80 "java/lang/IllegalArgumentException" = none)
theorem whh_287 : rx_hh (rt_P sc fm) 287 = [] := (by decide +kernel : rt_hh 287 = [])
theorem wi_287_0 : ri (rt_P sc fm) 287 0 (.aload_n 0) (1) := ri_of (by decide +kernel) rfl
theorem wi_287_1 : ri (rt_P sc fm) 287 1 (.getfield 19) (4) := ri_of (by decide +kernel) rfl
theorem wi_287_10 : ri (rt_P sc fm) 287 10 (.iload_n 3) (11) := ri_of (by decide +kernel) rfl
theorem wi_287_101 : ri (rt_P sc fm) 287 101 (.if_icmp .ne 162) (104) := ri_of (by decide +kernel) rfl
theorem wi_287_104 : ri (rt_P sc fm) 287 104 (.aload_n 0) (105) := ri_of (by decide +kernel) rfl
theorem wi_287_105 : ri (rt_P sc fm) 287 105 (.getfield 15) (108) := ri_of (by decide +kernel) rfl
theorem wi_287_108 : ri (rt_P sc fm) 287 108 (.aload_n 0) (109) := ri_of (by decide +kernel) rfl
theorem wi_287_109 : ri (rt_P sc fm) 287 109 (.getfield 19) (112) := ri_of (by decide +kernel) rfl
theorem wi_287_11 : ri (rt_P sc fm) 287 11 (.sipush 227) (14) := ri_of (by decide +kernel) rfl
theorem wi_287_112 : ri (rt_P sc fm) 287 112 (.getfield 417) (115) := ri_of (by decide +kernel) rfl
theorem wi_287_115 : ri (rt_P sc fm) 287 115 (.iload_n 2) (116) := ri_of (by decide +kernel) rfl
theorem wi_287_116 : ri (rt_P sc fm) 287 116 (.laload) (117) := ri_of (by decide +kernel) rfl
theorem wi_287_117 : ri (rt_P sc fm) 287 117 (.invokevirtual 251) (120) := ri_of (by decide +kernel) rfl
theorem wi_287_120 : ri (rt_P sc fm) 287 120 (.istore 4) (122) := ri_of (by decide +kernel) rfl
theorem wi_287_122 : ri (rt_P sc fm) 287 122 (.iload 4) (124) := ri_of (by decide +kernel) rfl
theorem wi_287_124 : ri (rt_P sc fm) 287 124 (.ifCond .ge 17) (127) := ri_of (by decide +kernel) rfl
theorem wi_287_127 : ri (rt_P sc fm) 287 127 (.aload_n 0) (128) := ri_of (by decide +kernel) rfl
theorem wi_287_128 : ri (rt_P sc fm) 287 128 (.iconst 5) (129) := ri_of (by decide +kernel) rfl
theorem wi_287_129 : ri (rt_P sc fm) 287 129 (.aload_n 0) (130) := ri_of (by decide +kernel) rfl
theorem wi_287_130 : ri (rt_P sc fm) 287 130 (.getfield 19) (133) := ri_of (by decide +kernel) rfl
theorem wi_287_133 : ri (rt_P sc fm) 287 133 (.getfield 414) (136) := ri_of (by decide +kernel) rfl
theorem wi_287_136 : ri (rt_P sc fm) 287 136 (.iload_n 2) (137) := ri_of (by decide +kernel) rfl
theorem wi_287_137 : ri (rt_P sc fm) 287 137 (.iaload) (138) := ri_of (by decide +kernel) rfl
theorem wi_287_138 : ri (rt_P sc fm) 287 138 (.invokevirtual 61) (141) := ri_of (by decide +kernel) rfl
theorem wi_287_14 : ri (rt_P sc fm) 287 14 (.if_icmp .eq 17) (17) := ri_of (by decide +kernel) rfl
theorem wi_287_141 : ri (rt_P sc fm) 287 141 (.aload_n 0) (142) := ri_of (by decide +kernel) rfl
theorem wi_287_142 : ri (rt_P sc fm) 287 142 (.getfield 19) (145) := ri_of (by decide +kernel) rfl
theorem wi_287_145 : ri (rt_P sc fm) 287 145 (.getfield 398) (148) := ri_of (by decide +kernel) rfl
theorem wi_287_148 : ri (rt_P sc fm) 287 148 (.iload_n 2) (149) := ri_of (by decide +kernel) rfl
theorem wi_287_149 : ri (rt_P sc fm) 287 149 (.laload) (150) := ri_of (by decide +kernel) rfl
theorem wi_287_150 : ri (rt_P sc fm) 287 150 (.lstore 5) (152) := ri_of (by decide +kernel) rfl
theorem wi_287_152 : ri (rt_P sc fm) 287 152 (.aload_n 0) (153) := ri_of (by decide +kernel) rfl
theorem wi_287_153 : ri (rt_P sc fm) 287 153 (.getfield 19) (156) := ri_of (by decide +kernel) rfl
theorem wi_287_156 : ri (rt_P sc fm) 287 156 (.getfield 385) (159) := ri_of (by decide +kernel) rfl
theorem wi_287_159 : ri (rt_P sc fm) 287 159 (.iload_n 2) (160) := ri_of (by decide +kernel) rfl
theorem wi_287_160 : ri (rt_P sc fm) 287 160 (.iload_n 3) (161) := ri_of (by decide +kernel) rfl
theorem wi_287_161 : ri (rt_P sc fm) 287 161 (.sipush 220) (164) := ri_of (by decide +kernel) rfl
theorem wi_287_164 : ri (rt_P sc fm) 287 164 (.if_icmp .ne 17) (167) := ri_of (by decide +kernel) rfl
theorem wi_287_167 : ri (rt_P sc fm) 287 167 (.aload_n 0) (168) := ri_of (by decide +kernel) rfl
theorem wi_287_168 : ri (rt_P sc fm) 287 168 (.getfield 19) (171) := ri_of (by decide +kernel) rfl
theorem wi_287_17 : ri (rt_P sc fm) 287 17 (.iload_n 3) (18) := ri_of (by decide +kernel) rfl
theorem wi_287_171 : ri (rt_P sc fm) 287 171 (.iload 4) (173) := ri_of (by decide +kernel) rfl
theorem wi_287_173 : ri (rt_P sc fm) 287 173 (.lload 5) (175) := ri_of (by decide +kernel) rfl
theorem wi_287_175 : ri (rt_P sc fm) 287 175 (.invokevirtual 435) (178) := ri_of (by decide +kernel) rfl
theorem wi_287_178 : ri (rt_P sc fm) 287 178 (.goto 14) (181) := ri_of (by decide +kernel) rfl
theorem wi_287_18 : ri (rt_P sc fm) 287 18 (.sipush 228) (21) := ri_of (by decide +kernel) rfl
theorem wi_287_181 : ri (rt_P sc fm) 287 181 (.aload_n 0) (182) := ri_of (by decide +kernel) rfl
theorem wi_287_182 : ri (rt_P sc fm) 287 182 (.getfield 15) (185) := ri_of (by decide +kernel) rfl
theorem wi_287_185 : ri (rt_P sc fm) 287 185 (.iload 4) (187) := ri_of (by decide +kernel) rfl
theorem wi_287_187 : ri (rt_P sc fm) 287 187 (.lload 5) (189) := ri_of (by decide +kernel) rfl
theorem wi_287_189 : ri (rt_P sc fm) 287 189 (.invokevirtual 438) (192) := ri_of (by decide +kernel) rfl
theorem wi_287_192 : ri (rt_P sc fm) 287 192 (.iastore) (193) := ri_of (by decide +kernel) rfl
theorem wi_287_193 : ri (rt_P sc fm) 287 193 (.aload_n 0) (194) := ri_of (by decide +kernel) rfl
theorem wi_287_194 : ri (rt_P sc fm) 287 194 (.getfield 19) (197) := ri_of (by decide +kernel) rfl
theorem wi_287_197 : ri (rt_P sc fm) 287 197 (.getfield 385) (200) := ri_of (by decide +kernel) rfl
theorem wi_287_200 : ri (rt_P sc fm) 287 200 (.iload_n 2) (201) := ri_of (by decide +kernel) rfl
theorem wi_287_201 : ri (rt_P sc fm) 287 201 (.iaload) (202) := ri_of (by decide +kernel) rfl
theorem wi_287_202 : ri (rt_P sc fm) 287 202 (.ifCond .ge 17) (205) := ri_of (by decide +kernel) rfl
theorem wi_287_205 : ri (rt_P sc fm) 287 205 (.aload_n 0) (206) := ri_of (by decide +kernel) rfl
theorem wi_287_206 : ri (rt_P sc fm) 287 206 (.iconst 5) (207) := ri_of (by decide +kernel) rfl
theorem wi_287_207 : ri (rt_P sc fm) 287 207 (.aload_n 0) (208) := ri_of (by decide +kernel) rfl
theorem wi_287_208 : ri (rt_P sc fm) 287 208 (.getfield 19) (211) := ri_of (by decide +kernel) rfl
theorem wi_287_21 : ri (rt_P sc fm) 287 21 (.if_icmp .eq 10) (24) := ri_of (by decide +kernel) rfl
theorem wi_287_211 : ri (rt_P sc fm) 287 211 (.getfield 395) (214) := ri_of (by decide +kernel) rfl
theorem wi_287_214 : ri (rt_P sc fm) 287 214 (.iload_n 2) (215) := ri_of (by decide +kernel) rfl
theorem wi_287_215 : ri (rt_P sc fm) 287 215 (.iaload) (216) := ri_of (by decide +kernel) rfl
theorem wi_287_216 : ri (rt_P sc fm) 287 216 (.invokevirtual 61) (219) := ri_of (by decide +kernel) rfl
theorem wi_287_219 : ri (rt_P sc fm) 287 219 (.aload_n 0) (220) := ri_of (by decide +kernel) rfl
theorem wi_287_220 : ri (rt_P sc fm) 287 220 (.getfield 19) (223) := ri_of (by decide +kernel) rfl
theorem wi_287_223 : ri (rt_P sc fm) 287 223 (.getfield 382) (226) := ri_of (by decide +kernel) rfl
theorem wi_287_226 : ri (rt_P sc fm) 287 226 (.iload_n 2) (227) := ri_of (by decide +kernel) rfl
theorem wi_287_227 : ri (rt_P sc fm) 287 227 (.iload_n 3) (228) := ri_of (by decide +kernel) rfl
theorem wi_287_228 : ri (rt_P sc fm) 287 228 (.sipush 220) (231) := ri_of (by decide +kernel) rfl
theorem wi_287_231 : ri (rt_P sc fm) 287 231 (.if_icmp .ne 30) (234) := ri_of (by decide +kernel) rfl
theorem wi_287_234 : ri (rt_P sc fm) 287 234 (.aload_n 0) (235) := ri_of (by decide +kernel) rfl
theorem wi_287_235 : ri (rt_P sc fm) 287 235 (.getfield 19) (238) := ri_of (by decide +kernel) rfl
theorem wi_287_238 : ri (rt_P sc fm) 287 238 (.getfield 291) (241) := ri_of (by decide +kernel) rfl
theorem wi_287_24 : ri (rt_P sc fm) 287 24 (.iload_n 3) (25) := ri_of (by decide +kernel) rfl
theorem wi_287_241 : ri (rt_P sc fm) 287 241 (.aload_n 0) (242) := ri_of (by decide +kernel) rfl
theorem wi_287_242 : ri (rt_P sc fm) 287 242 (.getfield 19) (245) := ri_of (by decide +kernel) rfl
theorem wi_287_245 : ri (rt_P sc fm) 287 245 (.aload_n 0) (246) := ri_of (by decide +kernel) rfl
theorem wi_287_246 : ri (rt_P sc fm) 287 246 (.getfield 19) (249) := ri_of (by decide +kernel) rfl
theorem wi_287_249 : ri (rt_P sc fm) 287 249 (.getfield 385) (252) := ri_of (by decide +kernel) rfl
theorem wi_287_25 : ri (rt_P sc fm) 287 25 (.sipush 229) (28) := ri_of (by decide +kernel) rfl
theorem wi_287_252 : ri (rt_P sc fm) 287 252 (.iload_n 2) (253) := ri_of (by decide +kernel) rfl
theorem wi_287_253 : ri (rt_P sc fm) 287 253 (.iaload) (254) := ri_of (by decide +kernel) rfl
theorem wi_287_254 : ri (rt_P sc fm) 287 254 (.invokevirtual 441) (257) := ri_of (by decide +kernel) rfl
theorem wi_287_257 : ri (rt_P sc fm) 287 257 (.iaload) (258) := ri_of (by decide +kernel) rfl
theorem wi_287_258 : ri (rt_P sc fm) 287 258 (.goto 4) (261) := ri_of (by decide +kernel) rfl
theorem wi_287_261 : ri (rt_P sc fm) 287 261 (.iconst 0) (262) := ri_of (by decide +kernel) rfl
theorem wi_287_262 : ri (rt_P sc fm) 287 262 (.iastore) (263) := ri_of (by decide +kernel) rfl
theorem wi_287_263 : ri (rt_P sc fm) 287 263 (.return_) (264) := ri_of (by decide +kernel) rfl
theorem wi_287_28 : ri (rt_P sc fm) 287 28 (.if_icmp .ne 55) (31) := ri_of (by decide +kernel) rfl
theorem wi_287_31 : ri (rt_P sc fm) 287 31 (.aload_n 0) (32) := ri_of (by decide +kernel) rfl
theorem wi_287_32 : ri (rt_P sc fm) 287 32 (.getfield 19) (35) := ri_of (by decide +kernel) rfl
theorem wi_287_35 : ri (rt_P sc fm) 287 35 (.getfield 432) (38) := ri_of (by decide +kernel) rfl
theorem wi_287_38 : ri (rt_P sc fm) 287 38 (.iload_n 2) (39) := ri_of (by decide +kernel) rfl
theorem wi_287_39 : ri (rt_P sc fm) 287 39 (.aload_n 0) (40) := ri_of (by decide +kernel) rfl
theorem wi_287_4 : ri (rt_P sc fm) 287 4 (.getfield 376) (7) := ri_of (by decide +kernel) rfl
theorem wi_287_40 : ri (rt_P sc fm) 287 40 (.getfield 19) (43) := ri_of (by decide +kernel) rfl
theorem wi_287_43 : ri (rt_P sc fm) 287 43 (.iload_n 1) (44) := ri_of (by decide +kernel) rfl
theorem wi_287_44 : ri (rt_P sc fm) 287 44 (.aload_n 0) (45) := ri_of (by decide +kernel) rfl
theorem wi_287_45 : ri (rt_P sc fm) 287 45 (.getfield 19) (48) := ri_of (by decide +kernel) rfl
theorem wi_287_48 : ri (rt_P sc fm) 287 48 (.getfield 417) (51) := ri_of (by decide +kernel) rfl
theorem wi_287_51 : ri (rt_P sc fm) 287 51 (.iload_n 2) (52) := ri_of (by decide +kernel) rfl
theorem wi_287_52 : ri (rt_P sc fm) 287 52 (.laload) (53) := ri_of (by decide +kernel) rfl
theorem wi_287_53 : ri (rt_P sc fm) 287 53 (.invokevirtual 369) (56) := ri_of (by decide +kernel) rfl
theorem wi_287_56 : ri (rt_P sc fm) 287 56 (.iastore) (57) := ri_of (by decide +kernel) rfl
theorem wi_287_57 : ri (rt_P sc fm) 287 57 (.aload_n 0) (58) := ri_of (by decide +kernel) rfl
theorem wi_287_58 : ri (rt_P sc fm) 287 58 (.getfield 19) (61) := ri_of (by decide +kernel) rfl
theorem wi_287_61 : ri (rt_P sc fm) 287 61 (.getfield 432) (64) := ri_of (by decide +kernel) rfl
theorem wi_287_64 : ri (rt_P sc fm) 287 64 (.iload_n 2) (65) := ri_of (by decide +kernel) rfl
theorem wi_287_65 : ri (rt_P sc fm) 287 65 (.iaload) (66) := ri_of (by decide +kernel) rfl
theorem wi_287_66 : ri (rt_P sc fm) 287 66 (.ifCond .ge 17) (69) := ri_of (by decide +kernel) rfl
theorem wi_287_69 : ri (rt_P sc fm) 287 69 (.aload_n 0) (70) := ri_of (by decide +kernel) rfl
theorem wi_287_7 : ri (rt_P sc fm) 287 7 (.iload_n 2) (8) := ri_of (by decide +kernel) rfl
theorem wi_287_70 : ri (rt_P sc fm) 287 70 (.iconst 5) (71) := ri_of (by decide +kernel) rfl
theorem wi_287_71 : ri (rt_P sc fm) 287 71 (.aload_n 0) (72) := ri_of (by decide +kernel) rfl
theorem wi_287_72 : ri (rt_P sc fm) 287 72 (.getfield 19) (75) := ri_of (by decide +kernel) rfl
theorem wi_287_75 : ri (rt_P sc fm) 287 75 (.getfield 414) (78) := ri_of (by decide +kernel) rfl
theorem wi_287_78 : ri (rt_P sc fm) 287 78 (.iload_n 2) (79) := ri_of (by decide +kernel) rfl
theorem wi_287_79 : ri (rt_P sc fm) 287 79 (.iaload) (80) := ri_of (by decide +kernel) rfl
theorem wi_287_8 : ri (rt_P sc fm) 287 8 (.iaload) (9) := ri_of (by decide +kernel) rfl
theorem wi_287_80 : ri (rt_P sc fm) 287 80 (.invokevirtual 61) (83) := ri_of (by decide +kernel) rfl
theorem wi_287_83 : ri (rt_P sc fm) 287 83 (.iload_n 3) (84) := ri_of (by decide +kernel) rfl
theorem wi_287_84 : ri (rt_P sc fm) 287 84 (.sipush 218) (87) := ri_of (by decide +kernel) rfl
theorem wi_287_87 : ri (rt_P sc fm) 287 87 (.if_icmp .eq 17) (90) := ri_of (by decide +kernel) rfl
theorem wi_287_9 : ri (rt_P sc fm) 287 9 (.istore_n 3) (10) := ri_of (by decide +kernel) rfl
theorem wi_287_90 : ri (rt_P sc fm) 287 90 (.iload_n 3) (91) := ri_of (by decide +kernel) rfl
theorem wi_287_91 : ri (rt_P sc fm) 287 91 (.sipush 219) (94) := ri_of (by decide +kernel) rfl
theorem wi_287_94 : ri (rt_P sc fm) 287 94 (.if_icmp .eq 10) (97) := ri_of (by decide +kernel) rfl
theorem wi_287_97 : ri (rt_P sc fm) 287 97 (.iload_n 3) (98) := ri_of (by decide +kernel) rfl
theorem wi_287_98 : ri (rt_P sc fm) 287 98 (.sipush 220) (101) := ri_of (by decide +kernel) rfl
theorem wm_160 : rx_ml (rt_P sc fm) 160 = 7 := (by decide +kernel : rt_ml 160 = 7)
theorem wm_254 : rx_ml (rt_P sc fm) 254 = 7 := (by decide +kernel : rt_ml 254 = 7)
theorem wr_287 : rx_rt (rt_P sc fm) 287 = none := (by decide +kernel : rt_rt 287 = none)
/-- MarkHouse$Reader.settleNamesOf(II)V -/
def d_287 (n : Nat) (a1 : Int32) (a2 : Int32) (c : cS) : Option ((cS) ⊕ cS) :=
  if ib a2 1024 then
  lt ((c.1 121 (ix a2)) : Int32) (fun v3 =>
  jn (fun p5 : cS =>
    jn (fun p6 : cS =>
      some (.inl p6))
    (fun j263 =>
    jn (fun p7 : Unit =>
      if ib a2 1024 then
      Option.bind (d_249 n (p5.2 128 (ix a2)) p5) (fun v9 =>
      jn (fun p11 : cS =>
        if ib a2 1024 then
        lt ((p11.2 129 (ix a2)) : Int64) (fun v14 =>
        jn (fun p16 : Int32 =>
          if ib a2 1024 then
          lt (pI p11 123 (ix a2) p16) (fun c18 =>
          if ib a2 1024 then
          jn (fun p21 : cS =>
            jn (fun p22 : Int32 =>
              if ib a2 1024 then
              lt (pI p21 122 (ix a2) p22) (fun c24 =>
              j263 c24)
              else none)
            (fun j262 =>
            if v3 = 220 then
              if ib a2 1024 then
              Option.bind (d_22 n (p21.1 123 (ix a2))) (fun v27 =>
              if ib v27 96 then
              j262 (p21.1 116 (ix v27))
              else none)
              else none
            else
              j262 0))
          (fun j219 =>
          if 0 ≤ (c18.1 123 (ix a2)) then
            j219 c18
          else
            if ib a2 1024 then
            Option.bind (d_41 n 5 (c18.1 132 (ix a2)) c18) (Sum.elim (fun r30 =>
            j219 r30)
            (fun z31 => some (.inr z31)))
            else none)
          else none)
          else none)
        (fun j192 =>
        if v3 = 220 then
          Option.bind (d_160 n v9 v14 p11) (fun v33 =>
          j192 v33)
        else
          Option.bind (d_254 n v9 v14 p11) (fun v32 =>
          j192 v32)))
        else none)
      (fun j141 =>
      if 0 ≤ v9 then
        j141 p5
      else
        if ib a2 1024 then
        Option.bind (d_41 n 5 (p5.1 131 (ix a2)) p5) (Sum.elim (fun r35 =>
        j141 r35)
        (fun z36 => some (.inr z36)))
        else none))
      else none)
    (fun j104 =>
    if v3 = 218 then
      j104 ()
    else
      if v3 = 219 then
        j104 ()
      else
        if v3 = 220 then
          j104 ()
        else
          j263 p5)))
  (fun j83 =>
  jn (fun p37 : Unit =>
    if ib a2 1024 then
    Option.bind (d_163 n a1 (c.2 128 (ix a2)) c) (fun v39 =>
    if ib a2 1024 then
    lt (pI c 124 (ix a2) v39) (fun c41 =>
    if ib a2 1024 then
    if 0 ≤ (c41.1 124 (ix a2)) then
      j83 c41
    else
      if ib a2 1024 then
      Option.bind (d_41 n 5 (c41.1 131 (ix a2)) c41) (Sum.elim (fun r45 =>
      j83 r45)
      (fun z46 => some (.inr z46)))
      else none
    else none)
    else none)
    else none)
  (fun j31 =>
  if v3 = 227 then
    j31 ()
  else
    if v3 = 228 then
      j31 ()
    else
      if v3 = 229 then
        j31 ()
      else
        j83 c)))
  else none
theorem sp_287 {F Lo n : Nat} {a1 : Int32} {a2 : Int32} {c y : cS} {w : cW} {K : (cS) ⊕ cS → Prop} {Q : ((Option Value) ⊕ String) → List va_E → Prop} (hw : rOK fm w) (hF : 7 ≤ F) (hLo : 104 ≤ Lo)  (h : wp (d_287 n a1 a2 c) K) (hQ : ∀ r, K (.inl r) → Q (.inl none) (hq true r y w)) (hT : ∀ r, K (.inr r) → Q (.inr "java/lang/IllegalArgumentException") (hq true r y w)) : rs (rt_P sc fm) 287 F Lo 0 [(0, .ref 145), (1, .int a1), (2, .int a2)] [] (hq true c y w) Q := by
  unfold d_287 at h
  obtain ⟨lv, elv⟩ : ∃ lv : rx_L, lv = [(0, .ref 145), (1, .int a1), (2, .int a2)] := ⟨_, rfl⟩
  rw [← elv]
  have l0 : rx_ld lv 0 = some (.ref 145) := by rw [elv]; rfl
  have l1 : rx_ld lv 1 = some (.int a1) := by rw [elv]; rfl
  have l2 : rx_ld lv 2 = some (.int a2) := by rw [elv]; rfl
  refine rs_aldn wi_287_0 l0 ?_
  refine dq_gr wi_287_1 wf_287_19 tf_145_2 ?_
  refine dq_gr wi_287_4 wf_287_376 tf_114_8 ?_
  refine rs_ildn wi_287_7 l2 ?_
  obtain ⟨g1, h⟩ := wp_gd h
  refine dq_iald wi_287_8 t_121 g1 ?_
  obtain ⟨v3, e4, h⟩ := wp_lt h
  refine rs_topi e4 ?_
  refine dl_istn wi_287_9 rfl (fun lv l3 t2 => ?_)
  have l0 := t2 _ _ (by decide) (Or.inl rfl) l0
  have l1 := t2 _ _ (by decide) (Or.inl rfl) l1
  have l2 := t2 _ _ (by decide) (Or.inl rfl) l2
  refine rs_ildn wi_287_10 l3 ?_
  refine rs_pure wi_287_11 rfl ?_
  refine rs_topi (v := 227) (by decide) ?_
  refine wp_jn (B := fun p5 : cS => ∀ lv, rx_ld lv 0 = some (.ref 145) → rx_ld lv 2 = some (.int a2) → rx_ld lv 3 = some (.int v3) → rs (rt_P sc fm) 287 F Lo 83 lv [] (hq true p5 y w) Q) h (fun p5 h lv l0 l2 l3 => ?_) (fun j83 hj83 h => ?_)
  ·
    refine rs_ildn wi_287_83 l3 ?_
    refine rs_pure wi_287_84 rfl ?_
    refine rs_topi (v := 218) (by decide) ?_
    refine wp_jn (B := fun p6 : cS => ∀ lv, rs (rt_P sc fm) 287 F Lo 263 lv [] (hq true p6 y w) Q) h (fun p6 h lv => ?_) (fun j263 hj263 h => ?_)
    ·
      exact rs_vret wi_287_263 wr_287 (hQ p6 h)
    refine wp_jn (B := fun p7 : Unit => ∀ lv, rx_ld lv 0 = some (.ref 145) → rx_ld lv 2 = some (.int a2) → rx_ld lv 3 = some (.int v3) → rs (rt_P sc fm) 287 F Lo 104 lv [] (hq true p5 y w) Q) h (fun p7 h lv l0 l2 l3 => ?_) (fun j104 hj104 h => ?_)
    ·
      refine rs_aldn wi_287_104 l0 ?_
      refine dq_gr wi_287_105 wf_287_15 tf_145_1 ?_
      refine rs_aldn wi_287_108 l0 ?_
      refine dq_gr wi_287_109 wf_287_19 tf_145_2 ?_
      refine dq_gr wi_287_112 wf_287_417 tf_114_15 ?_
      refine rs_ildn wi_287_115 l2 ?_
      obtain ⟨g8, h⟩ := wp_gd h
      refine dq_lald wi_287_116 t_128 g8 ?_
      refine rs_V wi_287_117 wc_287_251 rfl (dq_isa tf_7_0 wa_9_249) (Nat.le_trans (by decide) hF) (ml_le wm_249 (Nat.le_trans (by decide) hLo)) rfl (sp_249 hw (Nat.le_trans (by decide : 0 ≤ 7 - 1) (Nat.sub_le_sub_right hF 1)) (ml_sub wm_249 (Nat.le_trans (by decide : 0 ≤ 104 - 23) (Nat.sub_le_sub_right hLo 23))) (wp_bind h) (fun v9 h => rs_back1 ?_))
      refine dl_ist wi_287_120 rfl (fun lv l4 t10 => ?_)
      have l0 := t10 _ _ (by decide) (Or.inl rfl) l0
      have l2 := t10 _ _ (by decide) (Or.inl rfl) l2
      have l3 := t10 _ _ (by decide) (Or.inl rfl) l3
      refine rs_ild wi_287_122 l4 ?_
      refine wp_jn (B := fun p11 : cS => ∀ lv, rx_ld lv 0 = some (.ref 145) → rx_ld lv 2 = some (.int a2) → rx_ld lv 3 = some (.int v3) → rx_ld lv 4 = some (.int v9) → rs (rt_P sc fm) 287 F Lo 141 lv [] (hq true p11 y w) Q) h (fun p11 h lv l0 l2 l3 l4 => ?_) (fun j141 hj141 h => ?_)
      ·
        refine rs_aldn wi_287_141 l0 ?_
        refine dq_gr wi_287_142 wf_287_19 tf_145_2 ?_
        refine dq_gr wi_287_145 wf_287_398 tf_114_16 ?_
        refine rs_ildn wi_287_148 l2 ?_
        obtain ⟨g12, h⟩ := wp_gd h
        refine dq_lald wi_287_149 t_129 g12 ?_
        obtain ⟨v14, e15, h⟩ := wp_lt h
        refine rs_topl e15 ?_
        refine dl_lst wi_287_150 rfl (fun lv l5 t13 => ?_)
        have l0 := t13 _ _ (by decide) (by decide) (Or.inl rfl) l0
        have l2 := t13 _ _ (by decide) (by decide) (Or.inl rfl) l2
        have l3 := t13 _ _ (by decide) (by decide) (Or.inl rfl) l3
        have l4 := t13 _ _ (by decide) (by decide) (Or.inl rfl) l4
        refine rs_aldn wi_287_152 l0 ?_
        refine dq_gr wi_287_153 wf_287_19 tf_145_2 ?_
        refine dq_gr wi_287_156 wf_287_385 tf_114_10 ?_
        refine rs_ildn wi_287_159 l2 ?_
        refine rs_ildn wi_287_160 l3 ?_
        refine rs_pure wi_287_161 rfl ?_
        refine rs_topi (v := 220) (by decide) ?_
        refine wp_jn (B := fun p16 : Int32 => ∀ lv, rx_ld lv 0 = some (.ref 145) → rx_ld lv 2 = some (.int a2) → rx_ld lv 3 = some (.int v3) → rs (rt_P sc fm) 287 F Lo 192 lv [.int p16, .int a2, .ref 123] (hq true p11 y w) Q) h (fun p16 h lv l0 l2 l3 => ?_) (fun j192 hj192 h => ?_)
        ·
          obtain ⟨g17, h⟩ := wp_gd h
          obtain ⟨c18, e19, h⟩ := wp_lt h
          refine dq_iast wi_287_192 t_123 g17 e19 ?_
          refine rs_aldn wi_287_193 l0 ?_
          refine dq_gr wi_287_194 wf_287_19 tf_145_2 ?_
          refine dq_gr wi_287_197 wf_287_385 tf_114_10 ?_
          refine rs_ildn wi_287_200 l2 ?_
          obtain ⟨g20, h⟩ := wp_gd h
          refine dq_iald wi_287_201 t_123 g20 ?_
          refine wp_jn (B := fun p21 : cS => ∀ lv, rx_ld lv 0 = some (.ref 145) → rx_ld lv 2 = some (.int a2) → rx_ld lv 3 = some (.int v3) → rs (rt_P sc fm) 287 F Lo 219 lv [] (hq true p21 y w) Q) h (fun p21 h lv l0 l2 l3 => ?_) (fun j219 hj219 h => ?_)
          ·
            refine rs_aldn wi_287_219 l0 ?_
            refine dq_gr wi_287_220 wf_287_19 tf_145_2 ?_
            refine dq_gr wi_287_223 wf_287_382 tf_114_9 ?_
            refine rs_ildn wi_287_226 l2 ?_
            refine rs_ildn wi_287_227 l3 ?_
            refine rs_pure wi_287_228 rfl ?_
            refine rs_topi (v := 220) (by decide) ?_
            refine wp_jn (B := fun p22 : Int32 => ∀ lv, rs (rt_P sc fm) 287 F Lo 262 lv [.int p22, .int a2, .ref 122] (hq true p21 y w) Q) h (fun p22 h lv => ?_) (fun j262 hj262 h => ?_)
            ·
              obtain ⟨g23, h⟩ := wp_gd h
              obtain ⟨c24, e25, h⟩ := wp_lt h
              refine dq_iast wi_287_262 t_122 g23 e25 ?_
              exact hj263 _ h _
            refine rs_icne (tg := 261) wi_287_231 ⟨by decide, by decide⟩ (fun q => ?_) (fun q => ?_)
            ·
              have h := wp_neg h q
              refine rs_pure wi_287_261 rfl ?_
              refine rs_topi (v := 0) (by decide) ?_
              exact hj262 _ h _
            ·
              have h := wp_pos h q
              refine rs_aldn wi_287_234 l0 ?_
              refine dq_gr wi_287_235 wf_287_19 tf_145_2 ?_
              refine dq_gr wi_287_238 wf_287_291 tf_114_2 ?_
              refine rs_aldn wi_287_241 l0 ?_
              refine dq_gr wi_287_242 wf_287_19 tf_145_2 ?_
              refine rs_aldn wi_287_245 l0 ?_
              refine dq_gr wi_287_246 wf_287_19 tf_145_2 ?_
              refine dq_gr wi_287_249 wf_287_385 tf_114_10 ?_
              refine rs_ildn wi_287_252 l2 ?_
              obtain ⟨g26, h⟩ := wp_gd h
              refine dq_iald wi_287_253 t_123 g26 ?_
              refine rs_V wi_287_254 wc_287_441 rfl (dq_isa tf_114_0 wa_2_22) (Nat.le_trans (by decide) hF) (ml_le wm_22 (Nat.le_trans (by decide) hLo)) rfl (sp_22 (Nat.le_trans (by decide : 0 ≤ 7 - 1) (Nat.sub_le_sub_right hF 1)) (ml_sub wm_22 (Nat.le_trans (by decide : 0 ≤ 104 - 21) (Nat.sub_le_sub_right hLo 21))) (wp_bind h) (fun v27 h => rs_back1 ?_))
              obtain ⟨g28, h⟩ := wp_gd h
              refine dq_iald wi_287_257 t_116 g28 ?_
              refine rs_goto (tg := 262) wi_287_258 ⟨by decide, by decide⟩ ?_
              exact hj262 _ h _
          refine rs_ifge (tg := 219) wi_287_202 ⟨by decide, by decide⟩ (fun q => ?_) (fun q => ?_)
          ·
            have h := wp_pos h q
            exact hj219 _ h _ l0 l2 l3
          ·
            have h := wp_neg h q
            refine rs_aldn wi_287_205 l0 ?_
            refine rs_pure wi_287_206 rfl ?_
            refine rs_topi (v := 5) (by decide) ?_
            refine rs_aldn wi_287_207 l0 ?_
            refine dq_gr wi_287_208 wf_287_19 tf_145_2 ?_
            refine dq_gr wi_287_211 wf_287_395 tf_114_19 ?_
            refine rs_ildn wi_287_214 l2 ?_
            obtain ⟨g29, h⟩ := wp_gd h
            refine dq_iald wi_287_215 t_132 g29 ?_
            refine rs_V wi_287_216 wc_287_61 rfl (dq_isa tf_145_0 wa_10_41) (Nat.le_trans (by decide) hF) (ml_le wm_41 (Nat.le_trans (by decide) hLo)) rfl (sp_41 hw (Nat.le_trans (by decide : 6 ≤ 7 - 1) (Nat.sub_le_sub_right hF 1)) (ml_sub wm_41 (Nat.le_trans (by decide : 82 ≤ 104 - 22) (Nat.sub_le_sub_right hLo 22))) (wp_bind h) (fun r30 h => rs_back0 ?_) (fun z31 h => rs_up wh0_287_216 whh_287 (hT z31 (wp_inr h))))
            have h := wp_inl h
            exact hj219 _ h _ l0 l2 l3
        refine rs_icne (tg := 181) wi_287_164 ⟨by decide, by decide⟩ (fun q => ?_) (fun q => ?_)
        ·
          have h := wp_neg h q
          refine rs_aldn wi_287_181 l0 ?_
          refine dq_gr wi_287_182 wf_287_15 tf_145_1 ?_
          refine rs_ild wi_287_185 l4 ?_
          refine rs_lld wi_287_187 l5 ?_
          refine rs_V wi_287_189 wc_287_438 rfl (dq_isa tf_7_0 wa_9_254) (Nat.le_trans (by decide) hF) (ml_le wm_254 (Nat.le_trans (by decide) hLo)) rfl (sp_254 hw (Nat.le_trans (by decide : 1 ≤ 7 - 1) (Nat.sub_le_sub_right hF 1)) (ml_sub wm_254 (Nat.le_trans (by decide : 24 ≤ 104 - 26) (Nat.sub_le_sub_right hLo 26))) (wp_bind h) (fun v32 h => rs_back1 ?_))
          exact hj192 _ h _ l0 l2 l3
        ·
          have h := wp_pos h q
          refine rs_aldn wi_287_167 l0 ?_
          refine dq_gr wi_287_168 wf_287_19 tf_145_2 ?_
          refine rs_ild wi_287_171 l4 ?_
          refine rs_lld wi_287_173 l5 ?_
          refine rs_V wi_287_175 wc_287_435 rfl (dq_isa tf_114_0 wa_2_160) (Nat.le_trans (by decide) hF) (ml_le wm_160 (Nat.le_trans (by decide) hLo)) rfl (sp_160 hw (Nat.le_trans (by decide : 1 ≤ 7 - 1) (Nat.sub_le_sub_right hF 1)) (ml_sub wm_160 (Nat.le_trans (by decide : 24 ≤ 104 - 26) (Nat.sub_le_sub_right hLo 26))) (wp_bind h) (fun v33 h => rs_back1 ?_))
          refine rs_goto (tg := 192) wi_287_178 ⟨by decide, by decide⟩ ?_
          exact hj192 _ h _ l0 l2 l3
      refine rs_ifge (tg := 141) wi_287_124 ⟨by decide, by decide⟩ (fun q => ?_) (fun q => ?_)
      ·
        have h := wp_pos h q
        exact hj141 _ h _ l0 l2 l3 l4
      ·
        have h := wp_neg h q
        refine rs_aldn wi_287_127 l0 ?_
        refine rs_pure wi_287_128 rfl ?_
        refine rs_topi (v := 5) (by decide) ?_
        refine rs_aldn wi_287_129 l0 ?_
        refine dq_gr wi_287_130 wf_287_19 tf_145_2 ?_
        refine dq_gr wi_287_133 wf_287_414 tf_114_18 ?_
        refine rs_ildn wi_287_136 l2 ?_
        obtain ⟨g34, h⟩ := wp_gd h
        refine dq_iald wi_287_137 t_131 g34 ?_
        refine rs_V wi_287_138 wc_287_61 rfl (dq_isa tf_145_0 wa_10_41) (Nat.le_trans (by decide) hF) (ml_le wm_41 (Nat.le_trans (by decide) hLo)) rfl (sp_41 hw (Nat.le_trans (by decide : 6 ≤ 7 - 1) (Nat.sub_le_sub_right hF 1)) (ml_sub wm_41 (Nat.le_trans (by decide : 82 ≤ 104 - 22) (Nat.sub_le_sub_right hLo 22))) (wp_bind h) (fun r35 h => rs_back0 ?_) (fun z36 h => rs_up wh0_287_138 whh_287 (hT z36 (wp_inr h))))
        have h := wp_inl h
        exact hj141 _ h _ l0 l2 l3 l4
    refine rs_iceq (tg := 104) wi_287_87 ⟨by decide, by decide⟩ (fun q => ?_) (fun q => ?_)
    ·
      have h := wp_pos h q
      exact hj104 _ h _ l0 l2 l3
    ·
      have h := wp_neg h q
      refine rs_ildn wi_287_90 l3 ?_
      refine rs_pure wi_287_91 rfl ?_
      refine rs_topi (v := 219) (by decide) ?_
      refine rs_iceq (tg := 104) wi_287_94 ⟨by decide, by decide⟩ (fun q => ?_) (fun q => ?_)
      ·
        have h := wp_pos h q
        exact hj104 _ h _ l0 l2 l3
      ·
        have h := wp_neg h q
        refine rs_ildn wi_287_97 l3 ?_
        refine rs_pure wi_287_98 rfl ?_
        refine rs_topi (v := 220) (by decide) ?_
        refine rs_icne (tg := 263) wi_287_101 ⟨by decide, by decide⟩ (fun q => ?_) (fun q => ?_)
        ·
          have h := wp_neg h q
          exact hj263 _ h _
        ·
          have h := wp_pos h q
          exact hj104 _ h _ l0 l2 l3
  refine wp_jn (B := fun p37 : Unit => ∀ lv, rx_ld lv 0 = some (.ref 145) → rx_ld lv 1 = some (.int a1) → rx_ld lv 2 = some (.int a2) → rx_ld lv 3 = some (.int v3) → rs (rt_P sc fm) 287 F Lo 31 lv [] (hq true c y w) Q) h (fun p37 h lv l0 l1 l2 l3 => ?_) (fun j31 hj31 h => ?_)
  ·
    refine rs_aldn wi_287_31 l0 ?_
    refine dq_gr wi_287_32 wf_287_19 tf_145_2 ?_
    refine dq_gr wi_287_35 wf_287_432 tf_114_11 ?_
    refine rs_ildn wi_287_38 l2 ?_
    refine rs_aldn wi_287_39 l0 ?_
    refine dq_gr wi_287_40 wf_287_19 tf_145_2 ?_
    refine rs_ildn wi_287_43 l1 ?_
    refine rs_aldn wi_287_44 l0 ?_
    refine dq_gr wi_287_45 wf_287_19 tf_145_2 ?_
    refine dq_gr wi_287_48 wf_287_417 tf_114_15 ?_
    refine rs_ildn wi_287_51 l2 ?_
    obtain ⟨g38, h⟩ := wp_gd h
    refine dq_lald wi_287_52 t_128 g38 ?_
    refine rs_V wi_287_53 wc_287_369 rfl (dq_isa tf_114_0 wa_2_163) (Nat.le_trans (by decide) hF) (ml_le wm_163 (Nat.le_trans (by decide) hLo)) rfl (sp_163 hw (Nat.le_trans (by decide : 0 ≤ 7 - 1) (Nat.sub_le_sub_right hF 1)) (ml_sub wm_163 (Nat.le_trans (by decide : 0 ≤ 104 - 24) (Nat.sub_le_sub_right hLo 24))) (wp_bind h) (fun v39 h => rs_back1 ?_))
    obtain ⟨g40, h⟩ := wp_gd h
    obtain ⟨c41, e42, h⟩ := wp_lt h
    refine dq_iast wi_287_56 t_124 g40 e42 ?_
    refine rs_aldn wi_287_57 l0 ?_
    refine dq_gr wi_287_58 wf_287_19 tf_145_2 ?_
    refine dq_gr wi_287_61 wf_287_432 tf_114_11 ?_
    refine rs_ildn wi_287_64 l2 ?_
    obtain ⟨g43, h⟩ := wp_gd h
    refine dq_iald wi_287_65 t_124 g43 ?_
    refine rs_ifge (tg := 83) wi_287_66 ⟨by decide, by decide⟩ (fun q => ?_) (fun q => ?_)
    ·
      have h := wp_pos h q
      exact hj83 _ h _ l0 l2 l3
    ·
      have h := wp_neg h q
      refine rs_aldn wi_287_69 l0 ?_
      refine rs_pure wi_287_70 rfl ?_
      refine rs_topi (v := 5) (by decide) ?_
      refine rs_aldn wi_287_71 l0 ?_
      refine dq_gr wi_287_72 wf_287_19 tf_145_2 ?_
      refine dq_gr wi_287_75 wf_287_414 tf_114_18 ?_
      refine rs_ildn wi_287_78 l2 ?_
      obtain ⟨g44, h⟩ := wp_gd h
      refine dq_iald wi_287_79 t_131 g44 ?_
      refine rs_V wi_287_80 wc_287_61 rfl (dq_isa tf_145_0 wa_10_41) (Nat.le_trans (by decide) hF) (ml_le wm_41 (Nat.le_trans (by decide) hLo)) rfl (sp_41 hw (Nat.le_trans (by decide : 6 ≤ 7 - 1) (Nat.sub_le_sub_right hF 1)) (ml_sub wm_41 (Nat.le_trans (by decide : 82 ≤ 104 - 22) (Nat.sub_le_sub_right hLo 22))) (wp_bind h) (fun r45 h => rs_back0 ?_) (fun z46 h => rs_up wh0_287_80 whh_287 (hT z46 (wp_inr h))))
      have h := wp_inl h
      exact hj83 _ h _ l0 l2 l3
  refine rs_iceq (tg := 31) wi_287_14 ⟨by decide, by decide⟩ (fun q => ?_) (fun q => ?_)
  ·
    have h := wp_pos h q
    exact hj31 _ h _ l0 l1 l2 l3
  ·
    have h := wp_neg h q
    refine rs_ildn wi_287_17 l3 ?_
    refine rs_pure wi_287_18 rfl ?_
    refine rs_topi (v := 228) (by decide) ?_
    refine rs_iceq (tg := 31) wi_287_21 ⟨by decide, by decide⟩ (fun q => ?_) (fun q => ?_)
    ·
      have h := wp_pos h q
      exact hj31 _ h _ l0 l1 l2 l3
    ·
      have h := wp_neg h q
      refine rs_ildn wi_287_24 l3 ?_
      refine rs_pure wi_287_25 rfl ?_
      refine rs_topi (v := 229) (by decide) ?_
      refine rs_icne (tg := 83) wi_287_28 ⟨by decide, by decide⟩ (fun q => ?_) (fun q => ?_)
      ·
        have h := wp_neg h q
        exact hj83 _ h _ l0 l2 l3
      ·
        have h := wp_pos h q
        exact hj31 _ h _ l0 l1 l2 l3
end D45
