/-! THE CODE AS PURE PROGRAMS, 2: by wip/whole/dc.py -/
section D43
variable {sc : Nat × (Nat → Int32)} {fm : Value}
theorem wf_237_15 : rx_ft (rt_P sc fm) 237 15 = some (8, 5) := (by decide +kernel : rt_ft 237 15 = some (8, 5))
theorem wi_237_0 : ri (rt_P sc fm) 237 0 (.aload_n 0) (1) := ri_of (by decide +kernel) rfl
theorem wi_237_1 : ri (rt_P sc fm) 237 1 (.getfield 15) (4) := ri_of (by decide +kernel) rfl
theorem wi_237_10 : ri (rt_P sc fm) 237 10 (.ifCond .eq 7) (13) := ri_of (by decide +kernel) rfl
theorem wi_237_13 : ri (rt_P sc fm) 237 13 (.iconst 1) (14) := ri_of (by decide +kernel) rfl
theorem wi_237_14 : ri (rt_P sc fm) 237 14 (.goto 4) (17) := ri_of (by decide +kernel) rfl
theorem wi_237_17 : ri (rt_P sc fm) 237 17 (.iconst 0) (18) := ri_of (by decide +kernel) rfl
theorem wi_237_18 : ri (rt_P sc fm) 237 18 (.ireturn) (19) := ri_of (by decide +kernel) rfl
theorem wi_237_4 : ri (rt_P sc fm) 237 4 (.iload_n 1) (5) := ri_of (by decide +kernel) rfl
theorem wi_237_5 : ri (rt_P sc fm) 237 5 (.iaload) (6) := ri_of (by decide +kernel) rfl
theorem wi_237_6 : ri (rt_P sc fm) 237 6 (.iload_n 2) (7) := ri_of (by decide +kernel) rfl
theorem wi_237_7 : ri (rt_P sc fm) 237 7 (.ishr) (8) := ri_of (by decide +kernel) rfl
theorem wi_237_8 : ri (rt_P sc fm) 237 8 (.iconst 1) (9) := ri_of (by decide +kernel) rfl
theorem wi_237_9 : ri (rt_P sc fm) 237 9 (.iand) (10) := ri_of (by decide +kernel) rfl
theorem wr_237 : rx_rt (rt_P sc fm) 237 = (some FieldType.boolean) := (by decide +kernel : rt_rt 237 = (some FieldType.boolean))
/-- MarkHouse$Order.isBelow(II)Z -/
def d_237 (n : Nat) (o0 : Nat) (a1 : Int32) (a2 : Int32) (c : cS) : Option (Int32) :=
  if ib a1 12 then
  jn (fun p2 : Int32 =>
    if nb p2 then
    some p2
    else none)
  (fun j18 =>
  if (((c.1 (oA o0 + 2) (ix a1)) >>> (a2 &&& 31)) &&& 1) = 0 then
    j18 0
  else
    j18 1)
  else none
theorem sp_237 {F Lo n : Nat} {o0 : Nat} {a1 : Int32} {a2 : Int32} {c y : cS} {w : cW} {K : Int32 → Prop} {Q : ((Option Value) ⊕ String) → List va_E → Prop} (hw : rOK fm w) (hF : 0 ≤ F) (hLo : 0 ≤ Lo) (ho0 : o0 < 4) (h : wp (d_237 n o0 a1 a2 c) K) (hQ : ∀ r, K r → Q (.inl (some (.int r))) (hq true c y w)) : rs (rt_P sc fm) 237 F Lo 0 [(0, .ref (oA o0)), (1, .int a1), (2, .int a2)] [] (hq true c y w) Q := by
  unfold d_237 at h
  obtain ⟨lv, elv⟩ : ∃ lv : rx_L, lv = [(0, .ref (oA o0)), (1, .int a1), (2, .int a2)] := ⟨_, rfl⟩
  rw [← elv]
  have l0 : rx_ld lv 0 = some (.ref (oA o0)) := by rw [elv]; rfl
  have l1 : rx_ld lv 1 = some (.int a1) := by rw [elv]; rfl
  have l2 : rx_ld lv 2 = some (.int a2) := by rw [elv]; rfl
  refine rs_aldn wi_237_0 l0 ?_
  refine dq_gr wi_237_1 wf_237_15 (fO_5 ho0) ?_
  refine rs_ildn wi_237_4 l1 ?_
  obtain ⟨g1, h⟩ := wp_gd h
  refine dq_iald wi_237_5 (tO_2 ho0) g1 ?_
  refine rs_ildn wi_237_6 l2 ?_
  refine rs_pure wi_237_7 rfl ?_
  refine rs_pure wi_237_8 rfl ?_
  refine rs_topi (v := 1) (by decide) ?_
  refine rs_pure wi_237_9 rfl ?_
  refine wp_jn (B := fun p2 : Int32 => ∀ lv, rs (rt_P sc fm) 237 F Lo 18 lv [.int p2] (hq true c y w) Q) h (fun p2 h lv => ?_) (fun j18 hj18 h => ?_)
  ·
    obtain ⟨g3, h⟩ := wp_gd h
    exact rs_iret wi_237_18 wr_237 (nb_n g3) (hQ p2 h)
  refine rs_ifeq (tg := 17) wi_237_10 ⟨by decide, by decide⟩ (fun q => ?_) (fun q => ?_)
  ·
    have h := wp_pos h q
    refine rs_pure wi_237_17 rfl ?_
    refine rs_topi (v := 0) (by decide) ?_
    exact hj18 _ h _
  ·
    have h := wp_neg h q
    refine rs_pure wi_237_13 rfl ?_
    refine rs_topi (v := 1) (by decide) ?_
    refine rs_goto (tg := 18) wi_237_14 ⟨by decide, by decide⟩ ?_
    exact hj18 _ h _
theorem fO_6 : ∀ {o : Nat}, o < 4 → fo true (oA o) 8 6 (.ref (oA o + 3))
  | 0, _ => ⟨_, rfl, rfl, by decide, by decide⟩
  | 1, _ => ⟨_, rfl, rfl, by decide, by decide⟩
  | 2, _ => ⟨_, rfl, rfl, by decide, by decide⟩
  | 3, _ => ⟨_, rfl, rfl, by decide, by decide⟩
  | n + 4, h => absurd h (by omega)
theorem tO_3 : ∀ {o : Nat}, o < 4 → ta true (oA o + 3) 0 12
  | 0, _ => ⟨rfl, by decide, by decide⟩
  | 1, _ => ⟨rfl, by decide, by decide⟩
  | 2, _ => ⟨rfl, by decide, by decide⟩
  | 3, _ => ⟨rfl, by decide, by decide⟩
  | n + 4, h => absurd h (by omega)
theorem wa_8_237 : rz_cn 8 (rx_yn (rt_P sc fm) 237).cls = true := (by decide +kernel : rz_cn 8 (rt_yn 237).cls = true)
theorem wc_242_36 : rx_ct (rt_P sc fm) 242 36 = some (0, 237, 2) := (by decide +kernel : rt_ct 242 36 = some (0, 237, 2))
theorem wf_242_15 : rx_ft (rt_P sc fm) 242 15 = some (8, 5) := (by decide +kernel : rt_ft 242 15 = some (8, 5))
theorem wf_242_19 : rx_ft (rt_P sc fm) 242 19 = some (8, 6) := (by decide +kernel : rt_ft 242 19 = some (8, 6))
theorem wf_242_32 : rx_ft (rt_P sc fm) 242 32 = some (8, 1) := (by decide +kernel : rt_ft 242 32 = some (8, 1))
theorem wi_242_0 : ri (rt_P sc fm) 242 0 (.iconst 0) (1) := ri_of (by decide +kernel) rfl
theorem wi_242_1 : ri (rt_P sc fm) 242 1 (.istore_n 1) (2) := ri_of (by decide +kernel) rfl
theorem wi_242_10 : ri (rt_P sc fm) 242 10 (.iconst 0) (11) := ri_of (by decide +kernel) rfl
theorem wi_242_100 : ri (rt_P sc fm) 242 100 (.iload_n 2) (101) := ri_of (by decide +kernel) rfl
theorem wi_242_101 : ri (rt_P sc fm) 242 101 (.ishl) (102) := ri_of (by decide +kernel) rfl
theorem wi_242_102 : ri (rt_P sc fm) 242 102 (.goto 4) (105) := ri_of (by decide +kernel) rfl
theorem wi_242_105 : ri (rt_P sc fm) 242 105 (.iconst 0) (106) := ri_of (by decide +kernel) rfl
theorem wi_242_106 : ri (rt_P sc fm) 242 106 (.ior) (107) := ri_of (by decide +kernel) rfl
theorem wi_242_107 : ri (rt_P sc fm) 242 107 (.iastore) (108) := ri_of (by decide +kernel) rfl
theorem wi_242_108 : ri (rt_P sc fm) 242 108 (.iinc 2 1) (111) := ri_of (by decide +kernel) rfl
theorem wi_242_11 : ri (rt_P sc fm) 242 11 (.istore_n 2) (12) := ri_of (by decide +kernel) rfl
theorem wi_242_111 : ri (rt_P sc fm) 242 111 (.goto (-36)) (114) := ri_of (by decide +kernel) rfl
theorem wi_242_114 : ri (rt_P sc fm) 242 114 (.iinc 1 1) (117) := ri_of (by decide +kernel) rfl
theorem wi_242_117 : ri (rt_P sc fm) 242 117 (.goto (-59)) (120) := ri_of (by decide +kernel) rfl
theorem wi_242_12 : ri (rt_P sc fm) 242 12 (.iload_n 2) (13) := ri_of (by decide +kernel) rfl
theorem wi_242_120 : ri (rt_P sc fm) 242 120 (.return_) (121) := ri_of (by decide +kernel) rfl
theorem wi_242_13 : ri (rt_P sc fm) 242 13 (.aload_n 0) (14) := ri_of (by decide +kernel) rfl
theorem wi_242_14 : ri (rt_P sc fm) 242 14 (.getfield 32) (17) := ri_of (by decide +kernel) rfl
theorem wi_242_17 : ri (rt_P sc fm) 242 17 (.if_icmp .ge 33) (20) := ri_of (by decide +kernel) rfl
theorem wi_242_2 : ri (rt_P sc fm) 242 2 (.iload_n 1) (3) := ri_of (by decide +kernel) rfl
theorem wi_242_20 : ri (rt_P sc fm) 242 20 (.aload_n 0) (21) := ri_of (by decide +kernel) rfl
theorem wi_242_21 : ri (rt_P sc fm) 242 21 (.iload_n 2) (22) := ri_of (by decide +kernel) rfl
theorem wi_242_22 : ri (rt_P sc fm) 242 22 (.iload_n 1) (23) := ri_of (by decide +kernel) rfl
theorem wi_242_23 : ri (rt_P sc fm) 242 23 (.invokevirtual 36) (26) := ri_of (by decide +kernel) rfl
theorem wi_242_26 : ri (rt_P sc fm) 242 26 (.ifCond .eq 18) (29) := ri_of (by decide +kernel) rfl
theorem wi_242_29 : ri (rt_P sc fm) 242 29 (.aload_n 0) (30) := ri_of (by decide +kernel) rfl
theorem wi_242_3 : ri (rt_P sc fm) 242 3 (.aload_n 0) (4) := ri_of (by decide +kernel) rfl
theorem wi_242_30 : ri (rt_P sc fm) 242 30 (.getfield 15) (33) := ri_of (by decide +kernel) rfl
theorem wi_242_33 : ri (rt_P sc fm) 242 33 (.iload_n 2) (34) := ri_of (by decide +kernel) rfl
theorem wi_242_34 : ri (rt_P sc fm) 242 34 (.dup2) (35) := ri_of (by decide +kernel) rfl
theorem wi_242_35 : ri (rt_P sc fm) 242 35 (.iaload) (36) := ri_of (by decide +kernel) rfl
theorem wi_242_36 : ri (rt_P sc fm) 242 36 (.aload_n 0) (37) := ri_of (by decide +kernel) rfl
theorem wi_242_37 : ri (rt_P sc fm) 242 37 (.getfield 15) (40) := ri_of (by decide +kernel) rfl
theorem wi_242_4 : ri (rt_P sc fm) 242 4 (.getfield 32) (7) := ri_of (by decide +kernel) rfl
theorem wi_242_40 : ri (rt_P sc fm) 242 40 (.iload_n 1) (41) := ri_of (by decide +kernel) rfl
theorem wi_242_41 : ri (rt_P sc fm) 242 41 (.iaload) (42) := ri_of (by decide +kernel) rfl
theorem wi_242_42 : ri (rt_P sc fm) 242 42 (.ior) (43) := ri_of (by decide +kernel) rfl
theorem wi_242_43 : ri (rt_P sc fm) 242 43 (.iastore) (44) := ri_of (by decide +kernel) rfl
theorem wi_242_44 : ri (rt_P sc fm) 242 44 (.iinc 2 1) (47) := ri_of (by decide +kernel) rfl
theorem wi_242_47 : ri (rt_P sc fm) 242 47 (.goto (-35)) (50) := ri_of (by decide +kernel) rfl
theorem wi_242_50 : ri (rt_P sc fm) 242 50 (.iinc 1 1) (53) := ri_of (by decide +kernel) rfl
theorem wi_242_53 : ri (rt_P sc fm) 242 53 (.goto (-51)) (56) := ri_of (by decide +kernel) rfl
theorem wi_242_56 : ri (rt_P sc fm) 242 56 (.iconst 0) (57) := ri_of (by decide +kernel) rfl
theorem wi_242_57 : ri (rt_P sc fm) 242 57 (.istore_n 1) (58) := ri_of (by decide +kernel) rfl
theorem wi_242_58 : ri (rt_P sc fm) 242 58 (.iload_n 1) (59) := ri_of (by decide +kernel) rfl
theorem wi_242_59 : ri (rt_P sc fm) 242 59 (.aload_n 0) (60) := ri_of (by decide +kernel) rfl
theorem wi_242_60 : ri (rt_P sc fm) 242 60 (.getfield 32) (63) := ri_of (by decide +kernel) rfl
theorem wi_242_63 : ri (rt_P sc fm) 242 63 (.if_icmp .ge 57) (66) := ri_of (by decide +kernel) rfl
theorem wi_242_66 : ri (rt_P sc fm) 242 66 (.aload_n 0) (67) := ri_of (by decide +kernel) rfl
theorem wi_242_67 : ri (rt_P sc fm) 242 67 (.getfield 19) (70) := ri_of (by decide +kernel) rfl
theorem wi_242_7 : ri (rt_P sc fm) 242 7 (.if_icmp .ge 49) (10) := ri_of (by decide +kernel) rfl
theorem wi_242_70 : ri (rt_P sc fm) 242 70 (.iload_n 1) (71) := ri_of (by decide +kernel) rfl
theorem wi_242_71 : ri (rt_P sc fm) 242 71 (.iconst 0) (72) := ri_of (by decide +kernel) rfl
theorem wi_242_72 : ri (rt_P sc fm) 242 72 (.iastore) (73) := ri_of (by decide +kernel) rfl
theorem wi_242_73 : ri (rt_P sc fm) 242 73 (.iconst 0) (74) := ri_of (by decide +kernel) rfl
theorem wi_242_74 : ri (rt_P sc fm) 242 74 (.istore_n 2) (75) := ri_of (by decide +kernel) rfl
theorem wi_242_75 : ri (rt_P sc fm) 242 75 (.iload_n 2) (76) := ri_of (by decide +kernel) rfl
theorem wi_242_76 : ri (rt_P sc fm) 242 76 (.aload_n 0) (77) := ri_of (by decide +kernel) rfl
theorem wi_242_77 : ri (rt_P sc fm) 242 77 (.getfield 32) (80) := ri_of (by decide +kernel) rfl
theorem wi_242_80 : ri (rt_P sc fm) 242 80 (.if_icmp .ge 34) (83) := ri_of (by decide +kernel) rfl
theorem wi_242_83 : ri (rt_P sc fm) 242 83 (.aload_n 0) (84) := ri_of (by decide +kernel) rfl
theorem wi_242_84 : ri (rt_P sc fm) 242 84 (.getfield 19) (87) := ri_of (by decide +kernel) rfl
theorem wi_242_87 : ri (rt_P sc fm) 242 87 (.iload_n 1) (88) := ri_of (by decide +kernel) rfl
theorem wi_242_88 : ri (rt_P sc fm) 242 88 (.dup2) (89) := ri_of (by decide +kernel) rfl
theorem wi_242_89 : ri (rt_P sc fm) 242 89 (.iaload) (90) := ri_of (by decide +kernel) rfl
theorem wi_242_90 : ri (rt_P sc fm) 242 90 (.aload_n 0) (91) := ri_of (by decide +kernel) rfl
theorem wi_242_91 : ri (rt_P sc fm) 242 91 (.iload_n 2) (92) := ri_of (by decide +kernel) rfl
theorem wi_242_92 : ri (rt_P sc fm) 242 92 (.iload_n 1) (93) := ri_of (by decide +kernel) rfl
theorem wi_242_93 : ri (rt_P sc fm) 242 93 (.invokevirtual 36) (96) := ri_of (by decide +kernel) rfl
theorem wi_242_96 : ri (rt_P sc fm) 242 96 (.ifCond .eq 9) (99) := ri_of (by decide +kernel) rfl
theorem wi_242_99 : ri (rt_P sc fm) 242 99 (.iconst 1) (100) := ri_of (by decide +kernel) rfl
theorem wm_237 : rx_ml (rt_P sc fm) 237 = 3 := (by decide +kernel : rt_ml 237 = 3)
theorem wr_242 : rx_rt (rt_P sc fm) 242 = none := (by decide +kernel : rt_rt 242 = none)
/-- MarkHouse$Order.close()V -/
def d_242 (n : Nat) (o0 : Nat) (c : cS) : Option (cS) :=
  Option.bind (whl (R := (cS)) (fun s2 : Int32 × cS =>
    if (s2.2.1 (oA o0) 1) ≤ s2.1 then
      some (.inr s2.2)
    else
      Option.bind (whl (R := (cS)) (fun s4 : Int32 × cS =>
        if (s4.2.1 (oA o0) 1) ≤ s4.1 then
          some (.inr s4.2)
        else
          Option.bind (d_237 n o0 s4.1 s2.1 s4.2) (fun v5 =>
          jn (fun p6 : cS =>
            lt (s4.1 + 1 : Int32) (fun v8 =>
            some (.inl (v8, p6))))
          (fun j44 =>
          if v5 = 0 then
            j44 s4.2
          else
            if ib s4.1 12 then
            if ib s2.1 12 then
            if ib s4.1 12 then
            lt (pI s4.2 (oA o0 + 2) (ix s4.1) ((s4.2.1 (oA o0 + 2) (ix s4.1)) ||| (s4.2.1 (oA o0 + 2) (ix s2.1)))) (fun c13 =>
            j44 c13)
            else none
            else none
            else none))) n (0, s2.2))
      (fun x15 : cS =>
        lt (s2.1 + 1 : Int32) (fun v17 =>
        some (.inl (v17, x15))))) n (0, c))
  (fun x19 : cS =>
    Option.bind (whl (R := (cS)) (fun s21 : Int32 × cS =>
      if (s21.2.1 (oA o0) 1) ≤ s21.1 then
        some (.inr s21.2)
      else
        if ib s21.1 12 then
        lt (pI s21.2 (oA o0 + 3) (ix s21.1) 0) (fun c23 =>
        Option.bind (whl (R := (cS)) (fun s26 : Int32 × cS =>
          if (s26.2.1 (oA o0) 1) ≤ s26.1 then
            some (.inr s26.2)
          else
            if ib s21.1 12 then
            Option.bind (d_237 n o0 s26.1 s21.1 s26.2) (fun v28 =>
            jn (fun p29 : Int32 =>
              if ib s21.1 12 then
              lt (pI s26.2 (oA o0 + 3) (ix s21.1) ((s26.2.1 (oA o0 + 3) (ix s21.1)) ||| p29)) (fun c31 =>
              lt (s26.1 + 1 : Int32) (fun v34 =>
              some (.inl (v34, c31))))
              else none)
            (fun j106 =>
            if v28 = 0 then
              j106 0
            else
              j106 (1 <<< (s26.1 &&& 31))))
            else none) n (0, c23))
        (fun x36 : cS =>
          lt (s21.1 + 1 : Int32) (fun v38 =>
          some (.inl (v38, x36)))))
        else none) n (0, x19))
    (fun x40 : cS =>
      some x40))
theorem sp_242 {F Lo n : Nat} {o0 : Nat} {c y : cS} {w : cW} {K : cS → Prop} {Q : ((Option Value) ⊕ String) → List va_E → Prop} (hw : rOK fm w) (hF : 1 ≤ F) (hLo : 22 ≤ Lo) (ho0 : o0 < 4) (h : wp (d_242 n o0 c) K) (hQ : ∀ r, K r → Q (.inl none) (hq true r y w)) : rs (rt_P sc fm) 242 F Lo 0 [(0, .ref (oA o0))] [] (hq true c y w) Q := by
  unfold d_242 at h
  obtain ⟨lv, elv⟩ : ∃ lv : rx_L, lv = [(0, .ref (oA o0))] := ⟨_, rfl⟩
  rw [← elv]
  have l0 : rx_ld lv 0 = some (.ref (oA o0)) := by rw [elv]; rfl
  refine rs_pure wi_242_0 rfl ?_
  refine rs_topi (v := 0) (by decide) ?_
  refine dl_istn wi_242_1 rfl (fun lv l1 t1 => ?_)
  have l0 := t1 _ _ (by decide) (Or.inl rfl) l0
  refine whl_ex (A := fun s2 : Int32 × cS => ∀ lv, rx_ld lv 0 = some (.ref (oA o0)) → rx_ld lv 1 = some (.int s2.1) → rs (rt_P sc fm) 242 F Lo 2 lv [] (hq true s2.2 y w) Q) (B := (fun x19 : cS => ∀ lv, rx_ld lv 0 = some (.ref (oA o0)) → rs (rt_P sc fm) 242 F Lo 56 lv [] (hq true x19 y w) Q)) ?_ ?_ _ _ (wp_bind h) _ l0 l1
  · intro s2 h lv l0 l1
    refine rs_ildn wi_242_2 l1 ?_
    refine rs_aldn wi_242_3 l0 ?_
    refine dq_gi wi_242_4 wf_242_32 (fO_1 ho0) ?_
    refine rs_icge (tg := 56) wi_242_7 ⟨by decide, by decide⟩ (fun q => ?_) (fun q => ?_)
    ·
      have h := wp_pos h q
      exact h _ l0
    ·
      have h := wp_neg h q
      refine rs_pure wi_242_10 rfl ?_
      refine rs_topi (v := 0) (by decide) ?_
      refine dl_istn wi_242_11 rfl (fun lv l2 t3 => ?_)
      have l0 := t3 _ _ (by decide) (Or.inl rfl) l0
      have l1 := t3 _ _ (by decide) (Or.inl rfl) l1
      refine whl_ex (A := fun s4 : Int32 × cS => ∀ lv, rx_ld lv 0 = some (.ref (oA o0)) → rx_ld lv 1 = some (.int s2.1) → rx_ld lv 2 = some (.int s4.1) → rs (rt_P sc fm) 242 F Lo 12 lv [] (hq true s4.2 y w) Q) (B := (fun x15 : cS => ∀ lv, rx_ld lv 0 = some (.ref (oA o0)) → rx_ld lv 1 = some (.int s2.1) → rs (rt_P sc fm) 242 F Lo 50 lv [] (hq true x15 y w) Q)) ?_ ?_ _ _ (wp_bind h) _ l0 l1 l2
      · intro s4 h lv l0 l1 l2
        refine rs_ildn wi_242_12 l2 ?_
        refine rs_aldn wi_242_13 l0 ?_
        refine dq_gi wi_242_14 wf_242_32 (fO_1 ho0) ?_
        refine rs_icge (tg := 50) wi_242_17 ⟨by decide, by decide⟩ (fun q => ?_) (fun q => ?_)
        ·
          have h := wp_pos h q
          exact h _ l0 l1
        ·
          have h := wp_neg h q
          refine rs_aldn wi_242_20 l0 ?_
          refine rs_ildn wi_242_21 l2 ?_
          refine rs_ildn wi_242_22 l1 ?_
          refine rs_V wi_242_23 wc_242_36 rfl (dq_isa (fO_0 ho0) wa_8_237) (Nat.le_trans (by decide) hF) (ml_le wm_237 (Nat.le_trans (by decide) hLo)) rfl (sp_237 hw (Nat.le_trans (by decide : 0 ≤ 1 - 1) (Nat.sub_le_sub_right hF 1)) (ml_sub wm_237 (Nat.le_trans (by decide : 0 ≤ 22 - 22) (Nat.sub_le_sub_right hLo 22))) ho0 (wp_bind h) (fun v5 h => rs_back1 ?_))
          refine wp_jn (B := fun p6 : cS => ∀ lv, rx_ld lv 0 = some (.ref (oA o0)) → rx_ld lv 1 = some (.int s2.1) → rx_ld lv 2 = some (.int s4.1) → rs (rt_P sc fm) 242 F Lo 44 lv [] (hq true p6 y w) Q) h (fun p6 h lv l0 l1 l2 => ?_) (fun j44 hj44 h => ?_)
          ·
            obtain ⟨v8, e9, h⟩ := wp_lt h
            refine dl_inc wi_242_44 l2 rfl e9 (fun lv l2 t7 => ?_)
            have l0 := t7 _ _ (by decide) (Or.inl rfl) l0
            have l1 := t7 _ _ (by decide) (Or.inl rfl) l1
            refine rs_goto (tg := 12) wi_242_47 ⟨by decide, by decide⟩ ?_
            exact h _ l0 l1 l2
          refine rs_ifeq (tg := 44) wi_242_26 ⟨by decide, by decide⟩ (fun q => ?_) (fun q => ?_)
          ·
            have h := wp_pos h q
            exact hj44 _ h _ l0 l1 l2
          ·
            have h := wp_neg h q
            refine rs_aldn wi_242_29 l0 ?_
            refine dq_gr wi_242_30 wf_242_15 (fO_5 ho0) ?_
            refine rs_ildn wi_242_33 l2 ?_
            refine rs_pure wi_242_34 rfl ?_
            obtain ⟨g10, h⟩ := wp_gd h
            refine dq_iald wi_242_35 (tO_2 ho0) g10 ?_
            refine rs_aldn wi_242_36 l0 ?_
            refine dq_gr wi_242_37 wf_242_15 (fO_5 ho0) ?_
            refine rs_ildn wi_242_40 l1 ?_
            obtain ⟨g11, h⟩ := wp_gd h
            refine dq_iald wi_242_41 (tO_2 ho0) g11 ?_
            refine rs_pure wi_242_42 rfl ?_
            obtain ⟨g12, h⟩ := wp_gd h
            obtain ⟨c13, e14, h⟩ := wp_lt h
            refine dq_iast wi_242_43 (tO_2 ho0) g12 e14 ?_
            exact hj44 _ h _ l0 l1 l2
      ·
        intro x15 h lv l0 l1
        obtain ⟨v17, e18, h⟩ := wp_lt h
        refine dl_inc wi_242_50 l1 rfl e18 (fun lv l1 t16 => ?_)
        have l0 := t16 _ _ (by decide) (Or.inl rfl) l0
        refine rs_goto (tg := 2) wi_242_53 ⟨by decide, by decide⟩ ?_
        exact h _ l0 l1
  ·
    intro x19 h lv l0
    refine rs_pure wi_242_56 rfl ?_
    refine rs_topi (v := 0) (by decide) ?_
    refine dl_istn wi_242_57 rfl (fun lv l1 t20 => ?_)
    have l0 := t20 _ _ (by decide) (Or.inl rfl) l0
    refine whl_ex (A := fun s21 : Int32 × cS => ∀ lv, rx_ld lv 0 = some (.ref (oA o0)) → rx_ld lv 1 = some (.int s21.1) → rs (rt_P sc fm) 242 F Lo 58 lv [] (hq true s21.2 y w) Q) (B := (fun x40 : cS => ∀ lv, rs (rt_P sc fm) 242 F Lo 120 lv [] (hq true x40 y w) Q)) ?_ ?_ _ _ (wp_bind h) _ l0 l1
    · intro s21 h lv l0 l1
      refine rs_ildn wi_242_58 l1 ?_
      refine rs_aldn wi_242_59 l0 ?_
      refine dq_gi wi_242_60 wf_242_32 (fO_1 ho0) ?_
      refine rs_icge (tg := 120) wi_242_63 ⟨by decide, by decide⟩ (fun q => ?_) (fun q => ?_)
      ·
        have h := wp_pos h q
        exact h _
      ·
        have h := wp_neg h q
        refine rs_aldn wi_242_66 l0 ?_
        refine dq_gr wi_242_67 wf_242_19 (fO_6 ho0) ?_
        refine rs_ildn wi_242_70 l1 ?_
        refine rs_pure wi_242_71 rfl ?_
        refine rs_topi (v := 0) (by decide) ?_
        obtain ⟨g22, h⟩ := wp_gd h
        obtain ⟨c23, e24, h⟩ := wp_lt h
        refine dq_iast wi_242_72 (tO_3 ho0) g22 e24 ?_
        refine rs_pure wi_242_73 rfl ?_
        refine rs_topi (v := 0) (by decide) ?_
        refine dl_istn wi_242_74 rfl (fun lv l2 t25 => ?_)
        have l0 := t25 _ _ (by decide) (Or.inl rfl) l0
        have l1 := t25 _ _ (by decide) (Or.inl rfl) l1
        refine whl_ex (A := fun s26 : Int32 × cS => ∀ lv, rx_ld lv 0 = some (.ref (oA o0)) → rx_ld lv 1 = some (.int s21.1) → rx_ld lv 2 = some (.int s26.1) → rs (rt_P sc fm) 242 F Lo 75 lv [] (hq true s26.2 y w) Q) (B := (fun x36 : cS => ∀ lv, rx_ld lv 0 = some (.ref (oA o0)) → rx_ld lv 1 = some (.int s21.1) → rs (rt_P sc fm) 242 F Lo 114 lv [] (hq true x36 y w) Q)) ?_ ?_ _ _ (wp_bind h) _ l0 l1 l2
        · intro s26 h lv l0 l1 l2
          refine rs_ildn wi_242_75 l2 ?_
          refine rs_aldn wi_242_76 l0 ?_
          refine dq_gi wi_242_77 wf_242_32 (fO_1 ho0) ?_
          refine rs_icge (tg := 114) wi_242_80 ⟨by decide, by decide⟩ (fun q => ?_) (fun q => ?_)
          ·
            have h := wp_pos h q
            exact h _ l0 l1
          ·
            have h := wp_neg h q
            refine rs_aldn wi_242_83 l0 ?_
            refine dq_gr wi_242_84 wf_242_19 (fO_6 ho0) ?_
            refine rs_ildn wi_242_87 l1 ?_
            refine rs_pure wi_242_88 rfl ?_
            obtain ⟨g27, h⟩ := wp_gd h
            refine dq_iald wi_242_89 (tO_3 ho0) g27 ?_
            refine rs_aldn wi_242_90 l0 ?_
            refine rs_ildn wi_242_91 l2 ?_
            refine rs_ildn wi_242_92 l1 ?_
            refine rs_V wi_242_93 wc_242_36 rfl (dq_isa (fO_0 ho0) wa_8_237) (Nat.le_trans (by decide) hF) (ml_le wm_237 (Nat.le_trans (by decide) hLo)) rfl (sp_237 hw (Nat.le_trans (by decide : 0 ≤ 1 - 1) (Nat.sub_le_sub_right hF 1)) (ml_sub wm_237 (Nat.le_trans (by decide : 0 ≤ 22 - 22) (Nat.sub_le_sub_right hLo 22))) ho0 (wp_bind h) (fun v28 h => rs_back1 ?_))
            refine wp_jn (B := fun p29 : Int32 => ∀ lv, rx_ld lv 0 = some (.ref (oA o0)) → rx_ld lv 1 = some (.int s21.1) → rx_ld lv 2 = some (.int s26.1) → rs (rt_P sc fm) 242 F Lo 106 lv [.int p29, .int (s26.2.1 (oA o0 + 3) (ix s21.1)), .int s21.1, .ref (oA o0 + 3)] (hq true s26.2 y w) Q) h (fun p29 h lv l0 l1 l2 => ?_) (fun j106 hj106 h => ?_)
            ·
              refine rs_pure wi_242_106 rfl ?_
              obtain ⟨g30, h⟩ := wp_gd h
              obtain ⟨c31, e32, h⟩ := wp_lt h
              refine dq_iast wi_242_107 (tO_3 ho0) g30 e32 ?_
              obtain ⟨v34, e35, h⟩ := wp_lt h
              refine dl_inc wi_242_108 l2 rfl e35 (fun lv l2 t33 => ?_)
              have l0 := t33 _ _ (by decide) (Or.inl rfl) l0
              have l1 := t33 _ _ (by decide) (Or.inl rfl) l1
              refine rs_goto (tg := 75) wi_242_111 ⟨by decide, by decide⟩ ?_
              exact h _ l0 l1 l2
            refine rs_ifeq (tg := 105) wi_242_96 ⟨by decide, by decide⟩ (fun q => ?_) (fun q => ?_)
            ·
              have h := wp_pos h q
              refine rs_pure wi_242_105 rfl ?_
              refine rs_topi (v := 0) (by decide) ?_
              exact hj106 _ h _ l0 l1 l2
            ·
              have h := wp_neg h q
              refine rs_pure wi_242_99 rfl ?_
              refine rs_topi (v := 1) (by decide) ?_
              refine rs_ildn wi_242_100 l2 ?_
              refine rs_pure wi_242_101 rfl ?_
              refine rs_goto (tg := 106) wi_242_102 ⟨by decide, by decide⟩ ?_
              exact hj106 _ h _ l0 l1 l2
        ·
          intro x36 h lv l0 l1
          obtain ⟨v38, e39, h⟩ := wp_lt h
          refine dl_inc wi_242_114 l1 rfl e39 (fun lv l1 t37 => ?_)
          have l0 := t37 _ _ (by decide) (Or.inl rfl) l0
          refine rs_goto (tg := 58) wi_242_117 ⟨by decide, by decide⟩ ?_
          exact h _ l0 l1
    ·
      intro x40 h lv
      exact rs_vret wi_242_120 wr_242 (hQ x40 h)
theorem wf_243_32 : rx_ft (rt_P sc fm) 243 32 = some (8, 1) := (by decide +kernel : rt_ft 243 32 = some (8, 1))
theorem wi_243_0 : ri (rt_P sc fm) 243 0 (.iconst 0) (1) := ri_of (by decide +kernel) rfl
theorem wi_243_1 : ri (rt_P sc fm) 243 1 (.istore_n 3) (2) := ri_of (by decide +kernel) rfl
theorem wi_243_10 : ri (rt_P sc fm) 243 10 (.iload_n 1) (11) := ri_of (by decide +kernel) rfl
theorem wi_243_11 : ri (rt_P sc fm) 243 11 (.iload_n 3) (12) := ri_of (by decide +kernel) rfl
theorem wi_243_12 : ri (rt_P sc fm) 243 12 (.ishr) (13) := ri_of (by decide +kernel) rfl
theorem wi_243_13 : ri (rt_P sc fm) 243 13 (.iconst 1) (14) := ri_of (by decide +kernel) rfl
theorem wi_243_14 : ri (rt_P sc fm) 243 14 (.iand) (15) := ri_of (by decide +kernel) rfl
theorem wi_243_15 : ri (rt_P sc fm) 243 15 (.ifCond .eq 15) (18) := ri_of (by decide +kernel) rfl
theorem wi_243_18 : ri (rt_P sc fm) 243 18 (.iload_n 1) (19) := ri_of (by decide +kernel) rfl
theorem wi_243_19 : ri (rt_P sc fm) 243 19 (.aload_n 2) (20) := ri_of (by decide +kernel) rfl
theorem wi_243_2 : ri (rt_P sc fm) 243 2 (.iload_n 3) (3) := ri_of (by decide +kernel) rfl
theorem wi_243_20 : ri (rt_P sc fm) 243 20 (.iload_n 3) (21) := ri_of (by decide +kernel) rfl
theorem wi_243_21 : ri (rt_P sc fm) 243 21 (.iaload) (22) := ri_of (by decide +kernel) rfl
theorem wi_243_22 : ri (rt_P sc fm) 243 22 (.iconst (-1)) (23) := ri_of (by decide +kernel) rfl
theorem wi_243_23 : ri (rt_P sc fm) 243 23 (.ixor) (24) := ri_of (by decide +kernel) rfl
theorem wi_243_24 : ri (rt_P sc fm) 243 24 (.iand) (25) := ri_of (by decide +kernel) rfl
theorem wi_243_25 : ri (rt_P sc fm) 243 25 (.ifCond .ne 5) (28) := ri_of (by decide +kernel) rfl
theorem wi_243_28 : ri (rt_P sc fm) 243 28 (.iload_n 3) (29) := ri_of (by decide +kernel) rfl
theorem wi_243_29 : ri (rt_P sc fm) 243 29 (.ireturn) (30) := ri_of (by decide +kernel) rfl
theorem wi_243_3 : ri (rt_P sc fm) 243 3 (.aload_n 0) (4) := ri_of (by decide +kernel) rfl
theorem wi_243_30 : ri (rt_P sc fm) 243 30 (.iinc 3 1) (33) := ri_of (by decide +kernel) rfl
theorem wi_243_33 : ri (rt_P sc fm) 243 33 (.goto (-31)) (36) := ri_of (by decide +kernel) rfl
theorem wi_243_36 : ri (rt_P sc fm) 243 36 (.iconst (-1)) (37) := ri_of (by decide +kernel) rfl
theorem wi_243_37 : ri (rt_P sc fm) 243 37 (.ireturn) (38) := ri_of (by decide +kernel) rfl
theorem wi_243_4 : ri (rt_P sc fm) 243 4 (.getfield 32) (7) := ri_of (by decide +kernel) rfl
theorem wi_243_7 : ri (rt_P sc fm) 243 7 (.if_icmp .ge 29) (10) := ri_of (by decide +kernel) rfl
theorem wr_243 : rx_rt (rt_P sc fm) 243 = (some FieldType.int) := (by decide +kernel : rt_rt 243 = (some FieldType.int))
/-- MarkHouse$Order.least(I[I)I -/
def d_243 (n : Nat) (o0 : Nat) (a1 : Int32) (r2 : Nat) (nr2 : Nat) (c : cS) : Option (Int32) :=
  Option.bind (whl (R := (Unit) ⊕ (Int32)) (fun s2 : Int32 =>
    if (c.1 (oA o0) 1) ≤ s2 then
      some (.inr (.inl ()))
    else
      jn (fun p3 : Unit =>
        lt (s2 + 1 : Int32) (fun v5 =>
        some (.inl v5)))
      (fun j30 =>
      if ((a1 >>> (s2 &&& 31)) &&& 1) = 0 then
        j30 ()
      else
        if ib s2 nr2 then
        if (a1 &&& ((c.1 r2 (ix s2)) ^^^ (-1))) = 0 then
          some (.inr (.inr s2))
        else
          j30 ()
        else none)) n 0)
  (Sum.elim (fun x8 : Unit =>
    some (-1))
  (fun x9 : Int32 =>
    some x9))
theorem sp_243 {F Lo n : Nat} {o0 : Nat} {a1 : Int32} {r2 : Nat} {nr2 : Nat} {c y : cS} {w : cW} {K : Int32 → Prop} {Q : ((Option Value) ⊕ String) → List va_E → Prop} (hw : rOK fm w) (hF : 0 ≤ F) (hLo : 0 ≤ Lo) (ho0 : o0 < 4) (hr2 : ta true r2 0 nr2) (h : wp (d_243 n o0 a1 r2 nr2 c) K) (hQ : ∀ r, K r → Q (.inl (some (.int r))) (hq true c y w)) : rs (rt_P sc fm) 243 F Lo 0 [(0, .ref (oA o0)), (1, .int a1), (2, .ref r2)] [] (hq true c y w) Q := by
  unfold d_243 at h
  obtain ⟨lv, elv⟩ : ∃ lv : rx_L, lv = [(0, .ref (oA o0)), (1, .int a1), (2, .ref r2)] := ⟨_, rfl⟩
  rw [← elv]
  have l0 : rx_ld lv 0 = some (.ref (oA o0)) := by rw [elv]; rfl
  have l1 : rx_ld lv 1 = some (.int a1) := by rw [elv]; rfl
  have l2 : rx_ld lv 2 = some (.ref r2) := by rw [elv]; rfl
  refine rs_pure wi_243_0 rfl ?_
  refine rs_topi (v := 0) (by decide) ?_
  refine dl_istn wi_243_1 rfl (fun lv l3 t1 => ?_)
  have l0 := t1 _ _ (by decide) (Or.inl rfl) l0
  have l1 := t1 _ _ (by decide) (Or.inl rfl) l1
  have l2 := t1 _ _ (by decide) (Or.inl rfl) l2
  refine whl_ex (A := fun s2 : Int32 => ∀ lv, rx_ld lv 0 = some (.ref (oA o0)) → rx_ld lv 1 = some (.int a1) → rx_ld lv 2 = some (.ref r2) → rx_ld lv 3 = some (.int s2) → rs (rt_P sc fm) 243 F Lo 2 lv [] (hq true c y w) Q) (B := (Sum.elim (fun x8 : Unit => ∀ lv, rs (rt_P sc fm) 243 F Lo 36 lv [] (hq true c y w) Q) (fun x9 : Int32 => ∀ lv, rx_ld lv 3 = some (.int x9) → rs (rt_P sc fm) 243 F Lo 28 lv [] (hq true c y w) Q))) ?_ ?_ _ _ (wp_bind h) _ l0 l1 l2 l3
  · intro s2 h lv l0 l1 l2 l3
    refine rs_ildn wi_243_2 l3 ?_
    refine rs_aldn wi_243_3 l0 ?_
    refine dq_gi wi_243_4 wf_243_32 (fO_1 ho0) ?_
    refine rs_icge (tg := 36) wi_243_7 ⟨by decide, by decide⟩ (fun q => ?_) (fun q => ?_)
    ·
      have h := wp_pos h q
      exact h _
    ·
      have h := wp_neg h q
      refine rs_ildn wi_243_10 l1 ?_
      refine rs_ildn wi_243_11 l3 ?_
      refine rs_pure wi_243_12 rfl ?_
      refine rs_pure wi_243_13 rfl ?_
      refine rs_topi (v := 1) (by decide) ?_
      refine rs_pure wi_243_14 rfl ?_
      refine wp_jn (B := fun p3 : Unit => ∀ lv, rx_ld lv 0 = some (.ref (oA o0)) → rx_ld lv 1 = some (.int a1) → rx_ld lv 2 = some (.ref r2) → rx_ld lv 3 = some (.int s2) → rs (rt_P sc fm) 243 F Lo 30 lv [] (hq true c y w) Q) h (fun p3 h lv l0 l1 l2 l3 => ?_) (fun j30 hj30 h => ?_)
      ·
        obtain ⟨v5, e6, h⟩ := wp_lt h
        refine dl_inc wi_243_30 l3 rfl e6 (fun lv l3 t4 => ?_)
        have l0 := t4 _ _ (by decide) (Or.inl rfl) l0
        have l1 := t4 _ _ (by decide) (Or.inl rfl) l1
        have l2 := t4 _ _ (by decide) (Or.inl rfl) l2
        refine rs_goto (tg := 2) wi_243_33 ⟨by decide, by decide⟩ ?_
        exact h _ l0 l1 l2 l3
      refine rs_ifeq (tg := 30) wi_243_15 ⟨by decide, by decide⟩ (fun q => ?_) (fun q => ?_)
      ·
        have h := wp_pos h q
        exact hj30 _ h _ l0 l1 l2 l3
      ·
        have h := wp_neg h q
        refine rs_ildn wi_243_18 l1 ?_
        refine rs_aldn wi_243_19 l2 ?_
        refine rs_ildn wi_243_20 l3 ?_
        obtain ⟨g7, h⟩ := wp_gd h
        refine dq_iald wi_243_21 hr2 g7 ?_
        refine rs_pure wi_243_22 rfl ?_
        refine rs_topi (v := (-1)) (by decide) ?_
        refine rs_pure wi_243_23 rfl ?_
        refine rs_pure wi_243_24 rfl ?_
        refine rs_ifne (tg := 30) wi_243_25 ⟨by decide, by decide⟩ (fun q => ?_) (fun q => ?_)
        ·
          have h := wp_neg h q
          exact hj30 _ h _ l0 l1 l2 l3
        ·
          have h := wp_pos h q
          exact h _ l3
  ·
    refine sum_all ?_ ?_
    ·
      intro x8 h lv
      have h := wp_inl h
      refine rs_pure wi_243_36 rfl ?_
      refine rs_topi (v := (-1)) (by decide) ?_
      exact rs_iret wi_243_37 wr_243 rfl (hQ (-1) h)
    ·
      intro x9 h lv l3
      have h := wp_inr h
      refine rs_ildn wi_243_28 l3 ?_
      exact rs_iret wi_243_29 wr_243 rfl (hQ x9 h)
theorem fO_7 : ∀ {o : Nat}, o < 4 → fo true (oA o) 8 7 (.ref (oA o + 4))
  | 0, _ => ⟨_, rfl, rfl, by decide, by decide⟩
  | 1, _ => ⟨_, rfl, rfl, by decide, by decide⟩
  | 2, _ => ⟨_, rfl, rfl, by decide, by decide⟩
  | 3, _ => ⟨_, rfl, rfl, by decide, by decide⟩
  | n + 4, h => absurd h (by omega)
theorem tO_4 : ∀ {o : Nat}, o < 4 → ta true (oA o + 4) 0 144
  | 0, _ => ⟨rfl, by decide, by decide⟩
  | 1, _ => ⟨rfl, by decide, by decide⟩
  | 2, _ => ⟨rfl, by decide, by decide⟩
  | 3, _ => ⟨rfl, by decide, by decide⟩
  | n + 4, h => absurd h (by omega)
theorem wf_238_22 : rx_ft (rt_P sc fm) 238 22 = some (8, 7) := (by decide +kernel : rt_ft 238 22 = some (8, 7))
theorem wi_238_0 : ri (rt_P sc fm) 238 0 (.aload_n 0) (1) := ri_of (by decide +kernel) rfl
theorem wi_238_1 : ri (rt_P sc fm) 238 1 (.getfield 22) (4) := ri_of (by decide +kernel) rfl
theorem wi_238_10 : ri (rt_P sc fm) 238 10 (.iaload) (11) := ri_of (by decide +kernel) rfl
theorem wi_238_11 : ri (rt_P sc fm) 238 11 (.ireturn) (12) := ri_of (by decide +kernel) rfl
theorem wi_238_4 : ri (rt_P sc fm) 238 4 (.iload_n 1) (5) := ri_of (by decide +kernel) rfl
theorem wi_238_5 : ri (rt_P sc fm) 238 5 (.bipush 12) (7) := ri_of (by decide +kernel) rfl
theorem wi_238_7 : ri (rt_P sc fm) 238 7 (.imul) (8) := ri_of (by decide +kernel) rfl
theorem wi_238_8 : ri (rt_P sc fm) 238 8 (.iload_n 2) (9) := ri_of (by decide +kernel) rfl
theorem wi_238_9 : ri (rt_P sc fm) 238 9 (.iadd) (10) := ri_of (by decide +kernel) rfl
theorem wr_238 : rx_rt (rt_P sc fm) 238 = (some FieldType.int) := (by decide +kernel : rt_rt 238 = (some FieldType.int))
/-- MarkHouse$Order.joinOf(II)I -/
def d_238 (n : Nat) (o0 : Nat) (a1 : Int32) (a2 : Int32) (c : cS) : Option (Int32) :=
  if ib ((a1 * 12) + a2) 144 then
  some (c.1 (oA o0 + 4) (ix ((a1 * 12) + a2)))
  else none
theorem sp_238 {F Lo n : Nat} {o0 : Nat} {a1 : Int32} {a2 : Int32} {c y : cS} {w : cW} {K : Int32 → Prop} {Q : ((Option Value) ⊕ String) → List va_E → Prop} (hw : rOK fm w) (hF : 0 ≤ F) (hLo : 0 ≤ Lo) (ho0 : o0 < 4) (h : wp (d_238 n o0 a1 a2 c) K) (hQ : ∀ r, K r → Q (.inl (some (.int r))) (hq true c y w)) : rs (rt_P sc fm) 238 F Lo 0 [(0, .ref (oA o0)), (1, .int a1), (2, .int a2)] [] (hq true c y w) Q := by
  unfold d_238 at h
  obtain ⟨lv, elv⟩ : ∃ lv : rx_L, lv = [(0, .ref (oA o0)), (1, .int a1), (2, .int a2)] := ⟨_, rfl⟩
  rw [← elv]
  have l0 : rx_ld lv 0 = some (.ref (oA o0)) := by rw [elv]; rfl
  have l1 : rx_ld lv 1 = some (.int a1) := by rw [elv]; rfl
  have l2 : rx_ld lv 2 = some (.int a2) := by rw [elv]; rfl
  refine rs_aldn wi_238_0 l0 ?_
  refine dq_gr wi_238_1 wf_238_22 (fO_7 ho0) ?_
  refine rs_ildn wi_238_4 l1 ?_
  refine rs_pure wi_238_5 rfl ?_
  refine rs_topi (v := 12) (by decide) ?_
  refine rs_pure wi_238_7 rfl ?_
  refine rs_ildn wi_238_8 l2 ?_
  refine rs_pure wi_238_9 rfl ?_
  obtain ⟨g1, h⟩ := wp_gd h
  refine dq_iald wi_238_10 (tO_4 ho0) g1 ?_
  exact rs_iret wi_238_11 wr_238 rfl (hQ (c.1 (oA o0 + 4) (ix ((a1 * 12) + a2))) h)
theorem fO_8 : ∀ {o : Nat}, o < 4 → fo true (oA o) 8 8 (.ref (oA o + 5))
  | 0, _ => ⟨_, rfl, rfl, by decide, by decide⟩
  | 1, _ => ⟨_, rfl, rfl, by decide, by decide⟩
  | 2, _ => ⟨_, rfl, rfl, by decide, by decide⟩
  | 3, _ => ⟨_, rfl, rfl, by decide, by decide⟩
  | n + 4, h => absurd h (by omega)
theorem tO_5 : ∀ {o : Nat}, o < 4 → ta true (oA o + 5) 0 144
  | 0, _ => ⟨rfl, by decide, by decide⟩
  | 1, _ => ⟨rfl, by decide, by decide⟩
  | 2, _ => ⟨rfl, by decide, by decide⟩
  | 3, _ => ⟨rfl, by decide, by decide⟩
  | n + 4, h => absurd h (by omega)
theorem wf_239_25 : rx_ft (rt_P sc fm) 239 25 = some (8, 8) := (by decide +kernel : rt_ft 239 25 = some (8, 8))
theorem wi_239_0 : ri (rt_P sc fm) 239 0 (.aload_n 0) (1) := ri_of (by decide +kernel) rfl
theorem wi_239_1 : ri (rt_P sc fm) 239 1 (.getfield 25) (4) := ri_of (by decide +kernel) rfl
theorem wi_239_10 : ri (rt_P sc fm) 239 10 (.iaload) (11) := ri_of (by decide +kernel) rfl
theorem wi_239_11 : ri (rt_P sc fm) 239 11 (.ireturn) (12) := ri_of (by decide +kernel) rfl
theorem wi_239_4 : ri (rt_P sc fm) 239 4 (.iload_n 1) (5) := ri_of (by decide +kernel) rfl
theorem wi_239_5 : ri (rt_P sc fm) 239 5 (.bipush 12) (7) := ri_of (by decide +kernel) rfl
theorem wi_239_7 : ri (rt_P sc fm) 239 7 (.imul) (8) := ri_of (by decide +kernel) rfl
theorem wi_239_8 : ri (rt_P sc fm) 239 8 (.iload_n 2) (9) := ri_of (by decide +kernel) rfl
theorem wi_239_9 : ri (rt_P sc fm) 239 9 (.iadd) (10) := ri_of (by decide +kernel) rfl
theorem wr_239 : rx_rt (rt_P sc fm) 239 = (some FieldType.int) := (by decide +kernel : rt_rt 239 = (some FieldType.int))
/-- MarkHouse$Order.meetOf(II)I -/
def d_239 (n : Nat) (o0 : Nat) (a1 : Int32) (a2 : Int32) (c : cS) : Option (Int32) :=
  if ib ((a1 * 12) + a2) 144 then
  some (c.1 (oA o0 + 5) (ix ((a1 * 12) + a2)))
  else none
theorem sp_239 {F Lo n : Nat} {o0 : Nat} {a1 : Int32} {a2 : Int32} {c y : cS} {w : cW} {K : Int32 → Prop} {Q : ((Option Value) ⊕ String) → List va_E → Prop} (hw : rOK fm w) (hF : 0 ≤ F) (hLo : 0 ≤ Lo) (ho0 : o0 < 4) (h : wp (d_239 n o0 a1 a2 c) K) (hQ : ∀ r, K r → Q (.inl (some (.int r))) (hq true c y w)) : rs (rt_P sc fm) 239 F Lo 0 [(0, .ref (oA o0)), (1, .int a1), (2, .int a2)] [] (hq true c y w) Q := by
  unfold d_239 at h
  obtain ⟨lv, elv⟩ : ∃ lv : rx_L, lv = [(0, .ref (oA o0)), (1, .int a1), (2, .int a2)] := ⟨_, rfl⟩
  rw [← elv]
  have l0 : rx_ld lv 0 = some (.ref (oA o0)) := by rw [elv]; rfl
  have l1 : rx_ld lv 1 = some (.int a1) := by rw [elv]; rfl
  have l2 : rx_ld lv 2 = some (.int a2) := by rw [elv]; rfl
  refine rs_aldn wi_239_0 l0 ?_
  refine dq_gr wi_239_1 wf_239_25 (fO_8 ho0) ?_
  refine rs_ildn wi_239_4 l1 ?_
  refine rs_pure wi_239_5 rfl ?_
  refine rs_topi (v := 12) (by decide) ?_
  refine rs_pure wi_239_7 rfl ?_
  refine rs_ildn wi_239_8 l2 ?_
  refine rs_pure wi_239_9 rfl ?_
  obtain ⟨g1, h⟩ := wp_gd h
  refine dq_iald wi_239_10 (tO_5 ho0) g1 ?_
  exact rs_iret wi_239_11 wr_239 rfl (hQ (c.1 (oA o0 + 5) (ix ((a1 * 12) + a2))) h)
theorem fO_2 : ∀ {o : Nat}, o < 4 → fo true (oA o) 8 2 (.int 0)
  | 0, _ => ⟨_, rfl, rfl, by decide, by decide⟩
  | 1, _ => ⟨_, rfl, rfl, by decide, by decide⟩
  | 2, _ => ⟨_, rfl, rfl, by decide, by decide⟩
  | 3, _ => ⟨_, rfl, rfl, by decide, by decide⟩
  | n + 4, h => absurd h (by omega)
theorem fO_3 : ∀ {o : Nat}, o < 4 → fo true (oA o) 8 3 (.int 0)
  | 0, _ => ⟨_, rfl, rfl, by decide, by decide⟩
  | 1, _ => ⟨_, rfl, rfl, by decide, by decide⟩
  | 2, _ => ⟨_, rfl, rfl, by decide, by decide⟩
  | 3, _ => ⟨_, rfl, rfl, by decide, by decide⟩
  | n + 4, h => absurd h (by omega)
theorem wa_8_238 : rz_cn 8 (rx_yn (rt_P sc fm) 238).cls = true := (by decide +kernel : rz_cn 8 (rt_yn 238).cls = true)
theorem wa_8_239 : rz_cn 8 (rx_yn (rt_P sc fm) 239).cls = true := (by decide +kernel : rz_cn 8 (rt_yn 239).cls = true)
theorem wa_8_242 : rz_cn 8 (rx_yn (rt_P sc fm) 242).cls = true := (by decide +kernel : rz_cn 8 (rt_yn 242).cls = true)
theorem wa_8_243 : rz_cn 8 (rx_yn (rt_P sc fm) 243).cls = true := (by decide +kernel : rz_cn 8 (rt_yn 243).cls = true)
theorem wc_241_36 : rx_ct (rt_P sc fm) 241 36 = some (0, 237, 2) := (by decide +kernel : rt_ct 241 36 = some (0, 237, 2))
theorem wc_241_40 : rx_ct (rt_P sc fm) 241 40 = some (0, 242, 0) := (by decide +kernel : rt_ct 241 40 = some (0, 242, 0))
theorem wc_241_43 : rx_ct (rt_P sc fm) 241 43 = some (0, 243, 2) := (by decide +kernel : rt_ct 241 43 = some (0, 243, 2))
theorem wc_241_53 : rx_ct (rt_P sc fm) 241 53 = some (0, 238, 2) := (by decide +kernel : rt_ct 241 53 = some (0, 238, 2))
theorem wc_241_57 : rx_ct (rt_P sc fm) 241 57 = some (0, 239, 2) := (by decide +kernel : rt_ct 241 57 = some (0, 239, 2))
theorem wf_241_15 : rx_ft (rt_P sc fm) 241 15 = some (8, 5) := (by decide +kernel : rt_ft 241 15 = some (8, 5))
theorem wf_241_19 : rx_ft (rt_P sc fm) 241 19 = some (8, 6) := (by decide +kernel : rt_ft 241 19 = some (8, 6))
theorem wf_241_22 : rx_ft (rt_P sc fm) 241 22 = some (8, 7) := (by decide +kernel : rt_ft 241 22 = some (8, 7))
theorem wf_241_25 : rx_ft (rt_P sc fm) 241 25 = some (8, 8) := (by decide +kernel : rt_ft 241 25 = some (8, 8))
theorem wf_241_32 : rx_ft (rt_P sc fm) 241 32 = some (8, 1) := (by decide +kernel : rt_ft 241 32 = some (8, 1))
theorem wf_241_47 : rx_ft (rt_P sc fm) 241 47 = some (8, 2) := (by decide +kernel : rt_ft 241 47 = some (8, 2))
theorem wf_241_50 : rx_ft (rt_P sc fm) 241 50 = some (8, 3) := (by decide +kernel : rt_ft 241 50 = some (8, 3))
theorem wi_241_0 : ri (rt_P sc fm) 241 0 (.aload_n 0) (1) := ri_of (by decide +kernel) rfl
theorem wi_241_1 : ri (rt_P sc fm) 241 1 (.invokevirtual 40) (4) := ri_of (by decide +kernel) rfl
theorem wi_241_101 : ri (rt_P sc fm) 241 101 (.iconst 0) (102) := ri_of (by decide +kernel) rfl
theorem wi_241_102 : ri (rt_P sc fm) 241 102 (.ireturn) (103) := ri_of (by decide +kernel) rfl
theorem wi_241_103 : ri (rt_P sc fm) 241 103 (.aload_n 0) (104) := ri_of (by decide +kernel) rfl
theorem wi_241_104 : ri (rt_P sc fm) 241 104 (.getfield 22) (107) := ri_of (by decide +kernel) rfl
theorem wi_241_107 : ri (rt_P sc fm) 241 107 (.iload_n 1) (108) := ri_of (by decide +kernel) rfl
theorem wi_241_108 : ri (rt_P sc fm) 241 108 (.bipush 12) (110) := ri_of (by decide +kernel) rfl
theorem wi_241_11 : ri (rt_P sc fm) 241 11 (.if_icmp .ge 129) (14) := ri_of (by decide +kernel) rfl
theorem wi_241_110 : ri (rt_P sc fm) 241 110 (.imul) (111) := ri_of (by decide +kernel) rfl
theorem wi_241_111 : ri (rt_P sc fm) 241 111 (.iload_n 2) (112) := ri_of (by decide +kernel) rfl
theorem wi_241_112 : ri (rt_P sc fm) 241 112 (.iadd) (113) := ri_of (by decide +kernel) rfl
theorem wi_241_113 : ri (rt_P sc fm) 241 113 (.iload_n 3) (114) := ri_of (by decide +kernel) rfl
theorem wi_241_114 : ri (rt_P sc fm) 241 114 (.iastore) (115) := ri_of (by decide +kernel) rfl
theorem wi_241_115 : ri (rt_P sc fm) 241 115 (.aload_n 0) (116) := ri_of (by decide +kernel) rfl
theorem wi_241_116 : ri (rt_P sc fm) 241 116 (.getfield 25) (119) := ri_of (by decide +kernel) rfl
theorem wi_241_119 : ri (rt_P sc fm) 241 119 (.iload_n 1) (120) := ri_of (by decide +kernel) rfl
theorem wi_241_120 : ri (rt_P sc fm) 241 120 (.bipush 12) (122) := ri_of (by decide +kernel) rfl
theorem wi_241_122 : ri (rt_P sc fm) 241 122 (.imul) (123) := ri_of (by decide +kernel) rfl
theorem wi_241_123 : ri (rt_P sc fm) 241 123 (.iload_n 2) (124) := ri_of (by decide +kernel) rfl
theorem wi_241_124 : ri (rt_P sc fm) 241 124 (.iadd) (125) := ri_of (by decide +kernel) rfl
theorem wi_241_125 : ri (rt_P sc fm) 241 125 (.iload 4) (127) := ri_of (by decide +kernel) rfl
theorem wi_241_127 : ri (rt_P sc fm) 241 127 (.iastore) (128) := ri_of (by decide +kernel) rfl
theorem wi_241_128 : ri (rt_P sc fm) 241 128 (.iinc 2 1) (131) := ri_of (by decide +kernel) rfl
theorem wi_241_131 : ri (rt_P sc fm) 241 131 (.goto (-115)) (134) := ri_of (by decide +kernel) rfl
theorem wi_241_134 : ri (rt_P sc fm) 241 134 (.iinc 1 1) (137) := ri_of (by decide +kernel) rfl
theorem wi_241_137 : ri (rt_P sc fm) 241 137 (.goto (-131)) (140) := ri_of (by decide +kernel) rfl
theorem wi_241_14 : ri (rt_P sc fm) 241 14 (.iconst 0) (15) := ri_of (by decide +kernel) rfl
theorem wi_241_140 : ri (rt_P sc fm) 241 140 (.aload_n 0) (141) := ri_of (by decide +kernel) rfl
theorem wi_241_141 : ri (rt_P sc fm) 241 141 (.iconst 0) (142) := ri_of (by decide +kernel) rfl
theorem wi_241_142 : ri (rt_P sc fm) 241 142 (.putfield 47) (145) := ri_of (by decide +kernel) rfl
theorem wi_241_145 : ri (rt_P sc fm) 241 145 (.aload_n 0) (146) := ri_of (by decide +kernel) rfl
theorem wi_241_146 : ri (rt_P sc fm) 241 146 (.iconst 0) (147) := ri_of (by decide +kernel) rfl
theorem wi_241_147 : ri (rt_P sc fm) 241 147 (.putfield 50) (150) := ri_of (by decide +kernel) rfl
theorem wi_241_15 : ri (rt_P sc fm) 241 15 (.istore_n 2) (16) := ri_of (by decide +kernel) rfl
theorem wi_241_150 : ri (rt_P sc fm) 241 150 (.iconst 1) (151) := ri_of (by decide +kernel) rfl
theorem wi_241_151 : ri (rt_P sc fm) 241 151 (.istore_n 1) (152) := ri_of (by decide +kernel) rfl
theorem wi_241_152 : ri (rt_P sc fm) 241 152 (.iload_n 1) (153) := ri_of (by decide +kernel) rfl
theorem wi_241_153 : ri (rt_P sc fm) 241 153 (.aload_n 0) (154) := ri_of (by decide +kernel) rfl
theorem wi_241_154 : ri (rt_P sc fm) 241 154 (.getfield 32) (157) := ri_of (by decide +kernel) rfl
theorem wi_241_157 : ri (rt_P sc fm) 241 157 (.if_icmp .ge 35) (160) := ri_of (by decide +kernel) rfl
theorem wi_241_16 : ri (rt_P sc fm) 241 16 (.iload_n 2) (17) := ri_of (by decide +kernel) rfl
theorem wi_241_160 : ri (rt_P sc fm) 241 160 (.aload_n 0) (161) := ri_of (by decide +kernel) rfl
theorem wi_241_161 : ri (rt_P sc fm) 241 161 (.aload_n 0) (162) := ri_of (by decide +kernel) rfl
theorem wi_241_162 : ri (rt_P sc fm) 241 162 (.aload_n 0) (163) := ri_of (by decide +kernel) rfl
theorem wi_241_163 : ri (rt_P sc fm) 241 163 (.getfield 47) (166) := ri_of (by decide +kernel) rfl
theorem wi_241_166 : ri (rt_P sc fm) 241 166 (.iload_n 1) (167) := ri_of (by decide +kernel) rfl
theorem wi_241_167 : ri (rt_P sc fm) 241 167 (.invokevirtual 53) (170) := ri_of (by decide +kernel) rfl
theorem wi_241_17 : ri (rt_P sc fm) 241 17 (.aload_n 0) (18) := ri_of (by decide +kernel) rfl
theorem wi_241_170 : ri (rt_P sc fm) 241 170 (.putfield 47) (173) := ri_of (by decide +kernel) rfl
theorem wi_241_173 : ri (rt_P sc fm) 241 173 (.aload_n 0) (174) := ri_of (by decide +kernel) rfl
theorem wi_241_174 : ri (rt_P sc fm) 241 174 (.aload_n 0) (175) := ri_of (by decide +kernel) rfl
theorem wi_241_175 : ri (rt_P sc fm) 241 175 (.aload_n 0) (176) := ri_of (by decide +kernel) rfl
theorem wi_241_176 : ri (rt_P sc fm) 241 176 (.getfield 50) (179) := ri_of (by decide +kernel) rfl
theorem wi_241_179 : ri (rt_P sc fm) 241 179 (.iload_n 1) (180) := ri_of (by decide +kernel) rfl
theorem wi_241_18 : ri (rt_P sc fm) 241 18 (.getfield 32) (21) := ri_of (by decide +kernel) rfl
theorem wi_241_180 : ri (rt_P sc fm) 241 180 (.invokevirtual 57) (183) := ri_of (by decide +kernel) rfl
theorem wi_241_183 : ri (rt_P sc fm) 241 183 (.putfield 50) (186) := ri_of (by decide +kernel) rfl
theorem wi_241_186 : ri (rt_P sc fm) 241 186 (.iinc 1 1) (189) := ri_of (by decide +kernel) rfl
theorem wi_241_189 : ri (rt_P sc fm) 241 189 (.goto (-37)) (192) := ri_of (by decide +kernel) rfl
theorem wi_241_192 : ri (rt_P sc fm) 241 192 (.iconst 1) (193) := ri_of (by decide +kernel) rfl
theorem wi_241_193 : ri (rt_P sc fm) 241 193 (.ireturn) (194) := ri_of (by decide +kernel) rfl
theorem wi_241_21 : ri (rt_P sc fm) 241 21 (.if_icmp .ge 113) (24) := ri_of (by decide +kernel) rfl
theorem wi_241_24 : ri (rt_P sc fm) 241 24 (.aload_n 0) (25) := ri_of (by decide +kernel) rfl
theorem wi_241_25 : ri (rt_P sc fm) 241 25 (.aload_n 0) (26) := ri_of (by decide +kernel) rfl
theorem wi_241_26 : ri (rt_P sc fm) 241 26 (.getfield 15) (29) := ri_of (by decide +kernel) rfl
theorem wi_241_29 : ri (rt_P sc fm) 241 29 (.iload_n 1) (30) := ri_of (by decide +kernel) rfl
theorem wi_241_30 : ri (rt_P sc fm) 241 30 (.iaload) (31) := ri_of (by decide +kernel) rfl
theorem wi_241_31 : ri (rt_P sc fm) 241 31 (.aload_n 0) (32) := ri_of (by decide +kernel) rfl
theorem wi_241_32 : ri (rt_P sc fm) 241 32 (.getfield 15) (35) := ri_of (by decide +kernel) rfl
theorem wi_241_35 : ri (rt_P sc fm) 241 35 (.iload_n 2) (36) := ri_of (by decide +kernel) rfl
theorem wi_241_36 : ri (rt_P sc fm) 241 36 (.iaload) (37) := ri_of (by decide +kernel) rfl
theorem wi_241_37 : ri (rt_P sc fm) 241 37 (.iand) (38) := ri_of (by decide +kernel) rfl
theorem wi_241_38 : ri (rt_P sc fm) 241 38 (.aload_n 0) (39) := ri_of (by decide +kernel) rfl
theorem wi_241_39 : ri (rt_P sc fm) 241 39 (.getfield 15) (42) := ri_of (by decide +kernel) rfl
theorem wi_241_4 : ri (rt_P sc fm) 241 4 (.iconst 0) (5) := ri_of (by decide +kernel) rfl
theorem wi_241_42 : ri (rt_P sc fm) 241 42 (.invokevirtual 43) (45) := ri_of (by decide +kernel) rfl
theorem wi_241_45 : ri (rt_P sc fm) 241 45 (.istore_n 3) (46) := ri_of (by decide +kernel) rfl
theorem wi_241_46 : ri (rt_P sc fm) 241 46 (.aload_n 0) (47) := ri_of (by decide +kernel) rfl
theorem wi_241_47 : ri (rt_P sc fm) 241 47 (.aload_n 0) (48) := ri_of (by decide +kernel) rfl
theorem wi_241_48 : ri (rt_P sc fm) 241 48 (.getfield 19) (51) := ri_of (by decide +kernel) rfl
theorem wi_241_5 : ri (rt_P sc fm) 241 5 (.istore_n 1) (6) := ri_of (by decide +kernel) rfl
theorem wi_241_51 : ri (rt_P sc fm) 241 51 (.iload_n 1) (52) := ri_of (by decide +kernel) rfl
theorem wi_241_52 : ri (rt_P sc fm) 241 52 (.iaload) (53) := ri_of (by decide +kernel) rfl
theorem wi_241_53 : ri (rt_P sc fm) 241 53 (.aload_n 0) (54) := ri_of (by decide +kernel) rfl
theorem wi_241_54 : ri (rt_P sc fm) 241 54 (.getfield 19) (57) := ri_of (by decide +kernel) rfl
theorem wi_241_57 : ri (rt_P sc fm) 241 57 (.iload_n 2) (58) := ri_of (by decide +kernel) rfl
theorem wi_241_58 : ri (rt_P sc fm) 241 58 (.iaload) (59) := ri_of (by decide +kernel) rfl
theorem wi_241_59 : ri (rt_P sc fm) 241 59 (.iand) (60) := ri_of (by decide +kernel) rfl
theorem wi_241_6 : ri (rt_P sc fm) 241 6 (.iload_n 1) (7) := ri_of (by decide +kernel) rfl
theorem wi_241_60 : ri (rt_P sc fm) 241 60 (.aload_n 0) (61) := ri_of (by decide +kernel) rfl
theorem wi_241_61 : ri (rt_P sc fm) 241 61 (.getfield 19) (64) := ri_of (by decide +kernel) rfl
theorem wi_241_64 : ri (rt_P sc fm) 241 64 (.invokevirtual 43) (67) := ri_of (by decide +kernel) rfl
theorem wi_241_67 : ri (rt_P sc fm) 241 67 (.istore 4) (69) := ri_of (by decide +kernel) rfl
theorem wi_241_69 : ri (rt_P sc fm) 241 69 (.iload_n 3) (70) := ri_of (by decide +kernel) rfl
theorem wi_241_7 : ri (rt_P sc fm) 241 7 (.aload_n 0) (8) := ri_of (by decide +kernel) rfl
theorem wi_241_70 : ri (rt_P sc fm) 241 70 (.ifCond .lt 31) (73) := ri_of (by decide +kernel) rfl
theorem wi_241_73 : ri (rt_P sc fm) 241 73 (.iload 4) (75) := ri_of (by decide +kernel) rfl
theorem wi_241_75 : ri (rt_P sc fm) 241 75 (.ifCond .lt 26) (78) := ri_of (by decide +kernel) rfl
theorem wi_241_78 : ri (rt_P sc fm) 241 78 (.iload_n 1) (79) := ri_of (by decide +kernel) rfl
theorem wi_241_79 : ri (rt_P sc fm) 241 79 (.iload_n 2) (80) := ri_of (by decide +kernel) rfl
theorem wi_241_8 : ri (rt_P sc fm) 241 8 (.getfield 32) (11) := ri_of (by decide +kernel) rfl
theorem wi_241_80 : ri (rt_P sc fm) 241 80 (.if_icmp .eq 23) (83) := ri_of (by decide +kernel) rfl
theorem wi_241_83 : ri (rt_P sc fm) 241 83 (.aload_n 0) (84) := ri_of (by decide +kernel) rfl
theorem wi_241_84 : ri (rt_P sc fm) 241 84 (.iload_n 1) (85) := ri_of (by decide +kernel) rfl
theorem wi_241_85 : ri (rt_P sc fm) 241 85 (.iload_n 2) (86) := ri_of (by decide +kernel) rfl
theorem wi_241_86 : ri (rt_P sc fm) 241 86 (.invokevirtual 36) (89) := ri_of (by decide +kernel) rfl
theorem wi_241_89 : ri (rt_P sc fm) 241 89 (.ifCond .eq 14) (92) := ri_of (by decide +kernel) rfl
theorem wi_241_92 : ri (rt_P sc fm) 241 92 (.aload_n 0) (93) := ri_of (by decide +kernel) rfl
theorem wi_241_93 : ri (rt_P sc fm) 241 93 (.iload_n 2) (94) := ri_of (by decide +kernel) rfl
theorem wi_241_94 : ri (rt_P sc fm) 241 94 (.iload_n 1) (95) := ri_of (by decide +kernel) rfl
theorem wi_241_95 : ri (rt_P sc fm) 241 95 (.invokevirtual 36) (98) := ri_of (by decide +kernel) rfl
theorem wi_241_98 : ri (rt_P sc fm) 241 98 (.ifCond .eq 5) (101) := ri_of (by decide +kernel) rfl
theorem wm_238 : rx_ml (rt_P sc fm) 238 = 3 := (by decide +kernel : rt_ml 238 = 3)
theorem wm_239 : rx_ml (rt_P sc fm) 239 = 3 := (by decide +kernel : rt_ml 239 = 3)
theorem wm_242 : rx_ml (rt_P sc fm) 242 = 3 := (by decide +kernel : rt_ml 242 = 3)
theorem wm_243 : rx_ml (rt_P sc fm) 243 = 4 := (by decide +kernel : rt_ml 243 = 4)
theorem wp_241_47 : rx_pt (rt_P sc fm) 241 47 = some (8, 2, .int) := (by decide +kernel : rt_pt 241 47 = some (8, 2, .int))
theorem wp_241_50 : rx_pt (rt_P sc fm) 241 50 = some (8, 3, .int) := (by decide +kernel : rt_pt 241 50 = some (8, 3, .int))
theorem wr_241 : rx_rt (rt_P sc fm) 241 = (some FieldType.boolean) := (by decide +kernel : rt_rt 241 = (some FieldType.boolean))
/-- MarkHouse$Order.settle()Z -/
def d_241 (n : Nat) (o0 : Nat) (c : cS) : Option (Int32 × cS) :=
  Option.bind (d_242 n o0 c) (fun r1 =>
  Option.bind (whl (R := (cS) ⊕ (cS)) (fun s3 : Int32 × cS =>
    if (s3.2.1 (oA o0) 1) ≤ s3.1 then
      some (.inr (.inl s3.2))
    else
      Option.bind (whl (R := (cS) ⊕ (cS)) (fun s5 : Int32 × cS =>
        if (s5.2.1 (oA o0) 1) ≤ s5.1 then
          some (.inr (.inl s5.2))
        else
          if ib s3.1 12 then
          if ib s5.1 12 then
          Option.bind (d_243 n o0 ((s5.2.1 (oA o0 + 2) (ix s3.1)) &&& (s5.2.1 (oA o0 + 2) (ix s5.1))) (oA o0 + 2) 12 s5.2) (fun v8 =>
          if ib s3.1 12 then
          if ib s5.1 12 then
          Option.bind (d_243 n o0 ((s5.2.1 (oA o0 + 3) (ix s3.1)) &&& (s5.2.1 (oA o0 + 3) (ix s5.1))) (oA o0 + 3) 12 s5.2) (fun v12 =>
          if v8 < 0 then
            some (.inr (.inr s5.2))
          else
            if v12 < 0 then
              some (.inr (.inr s5.2))
            else
              jn (fun p14 : Unit =>
                if ib ((s3.1 * 12) + s5.1) 144 then
                lt (pI s5.2 (oA o0 + 4) (ix ((s3.1 * 12) + s5.1)) v8) (fun c16 =>
                if ib ((s3.1 * 12) + s5.1) 144 then
                lt (pI c16 (oA o0 + 5) (ix ((s3.1 * 12) + s5.1)) v12) (fun c19 =>
                lt (s5.1 + 1 : Int32) (fun v22 =>
                some (.inl (v22, c19))))
                else none)
                else none)
              (fun j103 =>
              if s3.1 = s5.1 then
                j103 ()
              else
                Option.bind (d_237 n o0 s3.1 s5.1 s5.2) (fun v24 =>
                if v24 = 0 then
                  j103 ()
                else
                  Option.bind (d_237 n o0 s5.1 s3.1 s5.2) (fun v25 =>
                  if v25 = 0 then
                    j103 ()
                  else
                    some (.inr (.inr s5.2))))))
          else none
          else none)
          else none
          else none) n (0, s3.2))
      (Sum.elim (fun x26 : cS =>
        lt (s3.1 + 1 : Int32) (fun v28 =>
        some (.inl (v28, x26))))
      (fun x30 : cS =>
        some (.inr (.inr x30))))) n (0, r1))
  (Sum.elim (fun x31 : cS =>
    lt (pI x31 (oA o0) 2 0) (fun c32 =>
    lt (pI c32 (oA o0) 3 0) (fun c34 =>
    Option.bind (whl (R := (cS)) (fun s37 : Int32 × cS =>
      if (s37.2.1 (oA o0) 1) ≤ s37.1 then
        some (.inr s37.2)
      else
        Option.bind (d_238 n o0 (s37.2.1 (oA o0) 2) s37.1 s37.2) (fun v38 =>
        lt (pI s37.2 (oA o0) 2 v38) (fun c39 =>
        Option.bind (d_239 n o0 (c39.1 (oA o0) 3) s37.1 c39) (fun v41 =>
        lt (pI c39 (oA o0) 3 v41) (fun c42 =>
        lt (s37.1 + 1 : Int32) (fun v45 =>
        some (.inl (v45, c42)))))))) n (1, c34))
    (fun x47 : cS =>
      some (1, x47)))))
  (fun x48 : cS =>
    some (0, x48))))
theorem sp_241 {F Lo n : Nat} {o0 : Nat} {c y : cS} {w : cW} {K : Int32 × cS → Prop} {Q : ((Option Value) ⊕ String) → List va_E → Prop} (hw : rOK fm w) (hF : 2 ≤ F) (hLo : 44 ≤ Lo) (ho0 : o0 < 4) (h : wp (d_241 n o0 c) K) (hQ : ∀ r, K r → Q (.inl (some (.int r.1))) (hq true r.2 y w)) : rs (rt_P sc fm) 241 F Lo 0 [(0, .ref (oA o0))] [] (hq true c y w) Q := by
  unfold d_241 at h
  obtain ⟨lv, elv⟩ : ∃ lv : rx_L, lv = [(0, .ref (oA o0))] := ⟨_, rfl⟩
  rw [← elv]
  have l0 : rx_ld lv 0 = some (.ref (oA o0)) := by rw [elv]; rfl
  refine rs_aldn wi_241_0 l0 ?_
  refine rs_V wi_241_1 wc_241_40 rfl (dq_isa (fO_0 ho0) wa_8_242) (Nat.le_trans (by decide) hF) (ml_le wm_242 (Nat.le_trans (by decide) hLo)) rfl (sp_242 hw (Nat.le_trans (by decide : 1 ≤ 2 - 1) (Nat.sub_le_sub_right hF 1)) (ml_sub wm_242 (Nat.le_trans (by decide : 22 ≤ 44 - 22) (Nat.sub_le_sub_right hLo 22))) ho0 (wp_bind h) (fun r1 h => rs_back0 ?_))
  refine rs_pure wi_241_4 rfl ?_
  refine rs_topi (v := 0) (by decide) ?_
  refine dl_istn wi_241_5 rfl (fun lv l1 t2 => ?_)
  have l0 := t2 _ _ (by decide) (Or.inl rfl) l0
  refine whl_ex (A := fun s3 : Int32 × cS => ∀ lv, rx_ld lv 0 = some (.ref (oA o0)) → rx_ld lv 1 = some (.int s3.1) → rs (rt_P sc fm) 241 F Lo 6 lv [] (hq true s3.2 y w) Q) (B := (Sum.elim (fun x31 : cS => ∀ lv, rx_ld lv 0 = some (.ref (oA o0)) → rs (rt_P sc fm) 241 F Lo 140 lv [] (hq true x31 y w) Q) (fun x48 : cS => ∀ lv, rs (rt_P sc fm) 241 F Lo 101 lv [] (hq true x48 y w) Q))) ?_ ?_ _ _ (wp_bind h) _ l0 l1
  · intro s3 h lv l0 l1
    refine rs_ildn wi_241_6 l1 ?_
    refine rs_aldn wi_241_7 l0 ?_
    refine dq_gi wi_241_8 wf_241_32 (fO_1 ho0) ?_
    refine rs_icge (tg := 140) wi_241_11 ⟨by decide, by decide⟩ (fun q => ?_) (fun q => ?_)
    ·
      have h := wp_pos h q
      exact h _ l0
    ·
      have h := wp_neg h q
      refine rs_pure wi_241_14 rfl ?_
      refine rs_topi (v := 0) (by decide) ?_
      refine dl_istn wi_241_15 rfl (fun lv l2 t4 => ?_)
      have l0 := t4 _ _ (by decide) (Or.inl rfl) l0
      have l1 := t4 _ _ (by decide) (Or.inl rfl) l1
      refine whl_ex (A := fun s5 : Int32 × cS => ∀ lv, rx_ld lv 0 = some (.ref (oA o0)) → rx_ld lv 1 = some (.int s3.1) → rx_ld lv 2 = some (.int s5.1) → rs (rt_P sc fm) 241 F Lo 16 lv [] (hq true s5.2 y w) Q) (B := (Sum.elim (fun x26 : cS => ∀ lv, rx_ld lv 0 = some (.ref (oA o0)) → rx_ld lv 1 = some (.int s3.1) → rs (rt_P sc fm) 241 F Lo 134 lv [] (hq true x26 y w) Q) (fun x30 : cS => ∀ lv, rs (rt_P sc fm) 241 F Lo 101 lv [] (hq true x30 y w) Q))) ?_ ?_ _ _ (wp_bind h) _ l0 l1 l2
      · intro s5 h lv l0 l1 l2
        refine rs_ildn wi_241_16 l2 ?_
        refine rs_aldn wi_241_17 l0 ?_
        refine dq_gi wi_241_18 wf_241_32 (fO_1 ho0) ?_
        refine rs_icge (tg := 134) wi_241_21 ⟨by decide, by decide⟩ (fun q => ?_) (fun q => ?_)
        ·
          have h := wp_pos h q
          exact h _ l0 l1
        ·
          have h := wp_neg h q
          refine rs_aldn wi_241_24 l0 ?_
          refine rs_aldn wi_241_25 l0 ?_
          refine dq_gr wi_241_26 wf_241_15 (fO_5 ho0) ?_
          refine rs_ildn wi_241_29 l1 ?_
          obtain ⟨g6, h⟩ := wp_gd h
          refine dq_iald wi_241_30 (tO_2 ho0) g6 ?_
          refine rs_aldn wi_241_31 l0 ?_
          refine dq_gr wi_241_32 wf_241_15 (fO_5 ho0) ?_
          refine rs_ildn wi_241_35 l2 ?_
          obtain ⟨g7, h⟩ := wp_gd h
          refine dq_iald wi_241_36 (tO_2 ho0) g7 ?_
          refine rs_pure wi_241_37 rfl ?_
          refine rs_aldn wi_241_38 l0 ?_
          refine dq_gr wi_241_39 wf_241_15 (fO_5 ho0) ?_
          refine rs_V wi_241_42 wc_241_43 rfl (dq_isa (fO_0 ho0) wa_8_243) (Nat.le_trans (by decide) hF) (ml_le wm_243 (Nat.le_trans (by decide) hLo)) rfl (sp_243 hw (Nat.le_trans (by decide : 0 ≤ 2 - 1) (Nat.sub_le_sub_right hF 1)) (ml_sub wm_243 (Nat.le_trans (by decide : 0 ≤ 44 - 23) (Nat.sub_le_sub_right hLo 23))) ho0 (tO_2 ho0) (wp_bind h) (fun v8 h => rs_back1 ?_))
          refine dl_istn wi_241_45 rfl (fun lv l3 t9 => ?_)
          have l0 := t9 _ _ (by decide) (Or.inl rfl) l0
          have l1 := t9 _ _ (by decide) (Or.inl rfl) l1
          have l2 := t9 _ _ (by decide) (Or.inl rfl) l2
          refine rs_aldn wi_241_46 l0 ?_
          refine rs_aldn wi_241_47 l0 ?_
          refine dq_gr wi_241_48 wf_241_19 (fO_6 ho0) ?_
          refine rs_ildn wi_241_51 l1 ?_
          obtain ⟨g10, h⟩ := wp_gd h
          refine dq_iald wi_241_52 (tO_3 ho0) g10 ?_
          refine rs_aldn wi_241_53 l0 ?_
          refine dq_gr wi_241_54 wf_241_19 (fO_6 ho0) ?_
          refine rs_ildn wi_241_57 l2 ?_
          obtain ⟨g11, h⟩ := wp_gd h
          refine dq_iald wi_241_58 (tO_3 ho0) g11 ?_
          refine rs_pure wi_241_59 rfl ?_
          refine rs_aldn wi_241_60 l0 ?_
          refine dq_gr wi_241_61 wf_241_19 (fO_6 ho0) ?_
          refine rs_V wi_241_64 wc_241_43 rfl (dq_isa (fO_0 ho0) wa_8_243) (Nat.le_trans (by decide) hF) (ml_le wm_243 (Nat.le_trans (by decide) hLo)) rfl (sp_243 hw (Nat.le_trans (by decide : 0 ≤ 2 - 1) (Nat.sub_le_sub_right hF 1)) (ml_sub wm_243 (Nat.le_trans (by decide : 0 ≤ 44 - 23) (Nat.sub_le_sub_right hLo 23))) ho0 (tO_3 ho0) (wp_bind h) (fun v12 h => rs_back1 ?_))
          refine dl_ist wi_241_67 rfl (fun lv l4 t13 => ?_)
          have l0 := t13 _ _ (by decide) (Or.inl rfl) l0
          have l1 := t13 _ _ (by decide) (Or.inl rfl) l1
          have l2 := t13 _ _ (by decide) (Or.inl rfl) l2
          have l3 := t13 _ _ (by decide) (Or.inl rfl) l3
          refine rs_ildn wi_241_69 l3 ?_
          refine rs_iflt (tg := 101) wi_241_70 ⟨by decide, by decide⟩ (fun q => ?_) (fun q => ?_)
          ·
            have h := wp_pos h q
            exact h _
          ·
            have h := wp_neg h q
            refine rs_ild wi_241_73 l4 ?_
            refine rs_iflt (tg := 101) wi_241_75 ⟨by decide, by decide⟩ (fun q => ?_) (fun q => ?_)
            ·
              have h := wp_pos h q
              exact h _
            ·
              have h := wp_neg h q
              refine rs_ildn wi_241_78 l1 ?_
              refine rs_ildn wi_241_79 l2 ?_
              refine wp_jn (B := fun p14 : Unit => ∀ lv, rx_ld lv 0 = some (.ref (oA o0)) → rx_ld lv 1 = some (.int s3.1) → rx_ld lv 2 = some (.int s5.1) → rx_ld lv 3 = some (.int v8) → rx_ld lv 4 = some (.int v12) → rs (rt_P sc fm) 241 F Lo 103 lv [] (hq true s5.2 y w) Q) h (fun p14 h lv l0 l1 l2 l3 l4 => ?_) (fun j103 hj103 h => ?_)
              ·
                refine rs_aldn wi_241_103 l0 ?_
                refine dq_gr wi_241_104 wf_241_22 (fO_7 ho0) ?_
                refine rs_ildn wi_241_107 l1 ?_
                refine rs_pure wi_241_108 rfl ?_
                refine rs_topi (v := 12) (by decide) ?_
                refine rs_pure wi_241_110 rfl ?_
                refine rs_ildn wi_241_111 l2 ?_
                refine rs_pure wi_241_112 rfl ?_
                refine rs_ildn wi_241_113 l3 ?_
                obtain ⟨g15, h⟩ := wp_gd h
                obtain ⟨c16, e17, h⟩ := wp_lt h
                refine dq_iast wi_241_114 (tO_4 ho0) g15 e17 ?_
                refine rs_aldn wi_241_115 l0 ?_
                refine dq_gr wi_241_116 wf_241_25 (fO_8 ho0) ?_
                refine rs_ildn wi_241_119 l1 ?_
                refine rs_pure wi_241_120 rfl ?_
                refine rs_topi (v := 12) (by decide) ?_
                refine rs_pure wi_241_122 rfl ?_
                refine rs_ildn wi_241_123 l2 ?_
                refine rs_pure wi_241_124 rfl ?_
                refine rs_ild wi_241_125 l4 ?_
                obtain ⟨g18, h⟩ := wp_gd h
                obtain ⟨c19, e20, h⟩ := wp_lt h
                refine dq_iast wi_241_127 (tO_5 ho0) g18 e20 ?_
                obtain ⟨v22, e23, h⟩ := wp_lt h
                refine dl_inc wi_241_128 l2 rfl e23 (fun lv l2 t21 => ?_)
                have l0 := t21 _ _ (by decide) (Or.inl rfl) l0
                have l1 := t21 _ _ (by decide) (Or.inl rfl) l1
                refine rs_goto (tg := 16) wi_241_131 ⟨by decide, by decide⟩ ?_
                exact h _ l0 l1 l2
              refine rs_iceq (tg := 103) wi_241_80 ⟨by decide, by decide⟩ (fun q => ?_) (fun q => ?_)
              ·
                have h := wp_pos h q
                exact hj103 _ h _ l0 l1 l2 l3 l4
              ·
                have h := wp_neg h q
                refine rs_aldn wi_241_83 l0 ?_
                refine rs_ildn wi_241_84 l1 ?_
                refine rs_ildn wi_241_85 l2 ?_
                refine rs_V wi_241_86 wc_241_36 rfl (dq_isa (fO_0 ho0) wa_8_237) (Nat.le_trans (by decide) hF) (ml_le wm_237 (Nat.le_trans (by decide) hLo)) rfl (sp_237 hw (Nat.le_trans (by decide : 0 ≤ 2 - 1) (Nat.sub_le_sub_right hF 1)) (ml_sub wm_237 (Nat.le_trans (by decide : 0 ≤ 44 - 22) (Nat.sub_le_sub_right hLo 22))) ho0 (wp_bind h) (fun v24 h => rs_back1 ?_))
                refine rs_ifeq (tg := 103) wi_241_89 ⟨by decide, by decide⟩ (fun q => ?_) (fun q => ?_)
                ·
                  have h := wp_pos h q
                  exact hj103 _ h _ l0 l1 l2 l3 l4
                ·
                  have h := wp_neg h q
                  refine rs_aldn wi_241_92 l0 ?_
                  refine rs_ildn wi_241_93 l2 ?_
                  refine rs_ildn wi_241_94 l1 ?_
                  refine rs_V wi_241_95 wc_241_36 rfl (dq_isa (fO_0 ho0) wa_8_237) (Nat.le_trans (by decide) hF) (ml_le wm_237 (Nat.le_trans (by decide) hLo)) rfl (sp_237 hw (Nat.le_trans (by decide : 0 ≤ 2 - 1) (Nat.sub_le_sub_right hF 1)) (ml_sub wm_237 (Nat.le_trans (by decide : 0 ≤ 44 - 22) (Nat.sub_le_sub_right hLo 22))) ho0 (wp_bind h) (fun v25 h => rs_back1 ?_))
                  refine rs_ifeq (tg := 103) wi_241_98 ⟨by decide, by decide⟩ (fun q => ?_) (fun q => ?_)
                  ·
                    have h := wp_pos h q
                    exact hj103 _ h _ l0 l1 l2 l3 l4
                  ·
                    have h := wp_neg h q
                    exact h _
      ·
        refine sum_all ?_ ?_
        ·
          intro x26 h lv l0 l1
          have h := wp_inl h
          obtain ⟨v28, e29, h⟩ := wp_lt h
          refine dl_inc wi_241_134 l1 rfl e29 (fun lv l1 t27 => ?_)
          have l0 := t27 _ _ (by decide) (Or.inl rfl) l0
          refine rs_goto (tg := 6) wi_241_137 ⟨by decide, by decide⟩ ?_
          exact h _ l0 l1
        ·
          intro x30 h lv
          have h := wp_inr h
          exact h _
  ·
    refine sum_all ?_ ?_
    ·
      intro x31 h lv l0
      have h := wp_inl h
      refine rs_aldn wi_241_140 l0 ?_
      refine rs_pure wi_241_141 rfl ?_
      refine rs_topi (v := 0) (by decide) ?_
      obtain ⟨c32, e33, h⟩ := wp_lt h
      refine dq_pi wi_241_142 wp_241_47 (fO_2 ho0) rfl rfl e33 ?_
      refine rs_aldn wi_241_145 l0 ?_
      refine rs_pure wi_241_146 rfl ?_
      refine rs_topi (v := 0) (by decide) ?_
      obtain ⟨c34, e35, h⟩ := wp_lt h
      refine dq_pi wi_241_147 wp_241_50 (fO_3 ho0) rfl rfl e35 ?_
      refine rs_pure wi_241_150 rfl ?_
      refine rs_topi (v := 1) (by decide) ?_
      refine dl_istn wi_241_151 rfl (fun lv l1 t36 => ?_)
      have l0 := t36 _ _ (by decide) (Or.inl rfl) l0
      refine whl_ex (A := fun s37 : Int32 × cS => ∀ lv, rx_ld lv 0 = some (.ref (oA o0)) → rx_ld lv 1 = some (.int s37.1) → rs (rt_P sc fm) 241 F Lo 152 lv [] (hq true s37.2 y w) Q) (B := (fun x47 : cS => ∀ lv, rs (rt_P sc fm) 241 F Lo 192 lv [] (hq true x47 y w) Q)) ?_ ?_ _ _ (wp_bind h) _ l0 l1
      · intro s37 h lv l0 l1
        refine rs_ildn wi_241_152 l1 ?_
        refine rs_aldn wi_241_153 l0 ?_
        refine dq_gi wi_241_154 wf_241_32 (fO_1 ho0) ?_
        refine rs_icge (tg := 192) wi_241_157 ⟨by decide, by decide⟩ (fun q => ?_) (fun q => ?_)
        ·
          have h := wp_pos h q
          exact h _
        ·
          have h := wp_neg h q
          refine rs_aldn wi_241_160 l0 ?_
          refine rs_aldn wi_241_161 l0 ?_
          refine rs_aldn wi_241_162 l0 ?_
          refine dq_gi wi_241_163 wf_241_47 (fO_2 ho0) ?_
          refine rs_ildn wi_241_166 l1 ?_
          refine rs_V wi_241_167 wc_241_53 rfl (dq_isa (fO_0 ho0) wa_8_238) (Nat.le_trans (by decide) hF) (ml_le wm_238 (Nat.le_trans (by decide) hLo)) rfl (sp_238 hw (Nat.le_trans (by decide : 0 ≤ 2 - 1) (Nat.sub_le_sub_right hF 1)) (ml_sub wm_238 (Nat.le_trans (by decide : 0 ≤ 44 - 22) (Nat.sub_le_sub_right hLo 22))) ho0 (wp_bind h) (fun v38 h => rs_back1 ?_))
          obtain ⟨c39, e40, h⟩ := wp_lt h
          refine dq_pi wi_241_170 wp_241_47 (fO_2 ho0) rfl rfl e40 ?_
          refine rs_aldn wi_241_173 l0 ?_
          refine rs_aldn wi_241_174 l0 ?_
          refine rs_aldn wi_241_175 l0 ?_
          refine dq_gi wi_241_176 wf_241_50 (fO_3 ho0) ?_
          refine rs_ildn wi_241_179 l1 ?_
          refine rs_V wi_241_180 wc_241_57 rfl (dq_isa (fO_0 ho0) wa_8_239) (Nat.le_trans (by decide) hF) (ml_le wm_239 (Nat.le_trans (by decide) hLo)) rfl (sp_239 hw (Nat.le_trans (by decide : 0 ≤ 2 - 1) (Nat.sub_le_sub_right hF 1)) (ml_sub wm_239 (Nat.le_trans (by decide : 0 ≤ 44 - 22) (Nat.sub_le_sub_right hLo 22))) ho0 (wp_bind h) (fun v41 h => rs_back1 ?_))
          obtain ⟨c42, e43, h⟩ := wp_lt h
          refine dq_pi wi_241_183 wp_241_50 (fO_3 ho0) rfl rfl e43 ?_
          obtain ⟨v45, e46, h⟩ := wp_lt h
          refine dl_inc wi_241_186 l1 rfl e46 (fun lv l1 t44 => ?_)
          have l0 := t44 _ _ (by decide) (Or.inl rfl) l0
          refine rs_goto (tg := 152) wi_241_189 ⟨by decide, by decide⟩ ?_
          exact h _ l0 l1
      ·
        intro x47 h lv
        refine rs_pure wi_241_192 rfl ?_
        refine rs_topi (v := 1) (by decide) ?_
        exact rs_iret wi_241_193 wr_241 (nb_n (by decide)) (hQ (1, x47) h)
    ·
      intro x48 h lv
      have h := wp_inr h
      refine rs_pure wi_241_101 rfl ?_
      refine rs_topi (v := 0) (by decide) ?_
      exact rs_iret wi_241_102 wr_241 (nb_n (by decide)) (hQ (0, x48) h)
theorem wa_10_257 : rz_cn 10 (rx_yn (rt_P sc fm) 257).cls = true := (by decide +kernel : rz_cn 10 (rt_yn 257).cls = true)
theorem wa_10_258 : rz_cn 10 (rx_yn (rt_P sc fm) 258).cls = true := (by decide +kernel : rz_cn 10 (rt_yn 258).cls = true)
theorem wa_10_260 : rz_cn 10 (rx_yn (rt_P sc fm) 260).cls = true := (by decide +kernel : rz_cn 10 (rt_yn 260).cls = true)
theorem wa_10_261 : rz_cn 10 (rx_yn (rt_P sc fm) 261).cls = true := (by decide +kernel : rz_cn 10 (rt_yn 261).cls = true)
theorem wa_10_263 : rz_cn 10 (rx_yn (rt_P sc fm) 263).cls = true := (by decide +kernel : rz_cn 10 (rt_yn 263).cls = true)
theorem wa_8_234 : rz_cn 8 (rx_yn (rt_P sc fm) 234).cls = true := (by decide +kernel : rz_cn 8 (rt_yn 234).cls = true)
theorem wa_8_241 : rz_cn 8 (rx_yn (rt_P sc fm) 241).cls = true := (by decide +kernel : rz_cn 8 (rt_yn 241).cls = true)
theorem wc_262_114 : rx_ct (rt_P sc fm) 262 114 = some (0, 257, 1) := (by decide +kernel : rt_ct 262 114 = some (0, 257, 1))
theorem wc_262_125 : rx_ct (rt_P sc fm) 262 125 = some (0, 261, 0) := (by decide +kernel : rt_ct 262 125 = some (0, 261, 0))
theorem wc_262_132 : rx_ct (rt_P sc fm) 262 132 = some (0, 260, 2) := (by decide +kernel : rt_ct 262 132 = some (0, 260, 2))
theorem wc_262_140 : rx_ct (rt_P sc fm) 262 140 = some (0, 234, 1) := (by decide +kernel : rt_ct 262 140 = some (0, 234, 1))
theorem wc_262_145 : rx_ct (rt_P sc fm) 262 145 = some (0, 263, 1) := (by decide +kernel : rt_ct 262 145 = some (0, 263, 1))
theorem wc_262_149 : rx_ct (rt_P sc fm) 262 149 = some (0, 258, 1) := (by decide +kernel : rt_ct 262 149 = some (0, 258, 1))
theorem wc_262_156 : rx_ct (rt_P sc fm) 262 156 = some (0, 241, 0) := (by decide +kernel : rt_ct 262 156 = some (0, 241, 0))
theorem wc_262_61 : rx_ct (rt_P sc fm) 262 61 = some (0, 41, 2) := (by decide +kernel : rt_ct 262 61 = some (0, 41, 2))
theorem wc_262_79 : rx_ct (rt_P sc fm) 262 79 = some (0, 42, 0) := (by decide +kernel : rt_ct 262 79 = some (0, 42, 0))
theorem wf_262_129 : rx_ft (rt_P sc fm) 262 129 = some (9, 2) := (by decide +kernel : rt_ft 262 129 = some (9, 2))
theorem wf_262_136 : rx_ft (rt_P sc fm) 262 136 = some (9, 1) := (by decide +kernel : rt_ft 262 136 = some (9, 1))
theorem wf_262_15 : rx_ft (rt_P sc fm) 262 15 = some (10, 1) := (by decide +kernel : rt_ft 262 15 = some (10, 1))
theorem wf_262_153 : rx_ft (rt_P sc fm) 262 153 = some (8, 5) := (by decide +kernel : rt_ft 262 153 = some (8, 5))
theorem wf_262_49 : rx_ft (rt_P sc fm) 262 49 = some (10, 7) := (by decide +kernel : rt_ft 262 49 = some (10, 7))
theorem wh0_262_118 : rx_ht (rt_P sc fm) 262 118 "java/lang/IllegalArgumentException" = none := (by decide +kernel : rt_ht 262 118 "java/lang/IllegalArgumentException" = none)
theorem wh0_262_141 : rx_ht (rt_P sc fm) 262 141 "java/lang/IllegalArgumentException" = none := (by decide +kernel : rt_ht 262 141 "java/lang/IllegalArgumentException" = none)
theorem wh0_262_155 : rx_ht (rt_P sc fm) 262 155 "java/lang/IllegalArgumentException" = none := (by decide +kernel : rt_ht 262 155 "java/lang/IllegalArgumentException" = none)
theorem wh0_262_36 : rx_ht (rt_P sc fm) 262 36 "java/lang/IllegalArgumentException" = none := (by decide +kernel : rt_ht 262 36 "java/lang/IllegalArgumentException" = none)
theorem wh0_262_66 : rx_ht (rt_P sc fm) 262 66 "java/lang/IllegalArgumentException" = none := (by decide +kernel : rt_ht 262 66 "java/lang/IllegalArgumentException" = none)
theorem wh0_262_91 : rx_ht (rt_P sc fm) 262 91 "java/lang/IllegalArgumentException" = none := (by decide +kernel : rt_ht 262 91 "java/lang/IllegalArgumentException" = none)
theorem whh_262 : rx_hh (rt_P sc fm) 262 = [] := (by decide +kernel : rt_hh 262 = [])
theorem wi_262_0 : ri (rt_P sc fm) 262 0 (.aload_n 0) (1) := ri_of (by decide +kernel) rfl
theorem wi_262_1 : ri (rt_P sc fm) 262 1 (.dup) (2) := ri_of (by decide +kernel) rfl
theorem wi_262_10 : ri (rt_P sc fm) 262 10 (.aload_n 0) (11) := ri_of (by decide +kernel) rfl
theorem wi_262_102 : ri (rt_P sc fm) 262 102 (.ifCond .eq 22) (105) := ri_of (by decide +kernel) rfl
theorem wi_262_105 : ri (rt_P sc fm) 262 105 (.aload 4) (107) := ri_of (by decide +kernel) rfl
theorem wi_262_107 : ri (rt_P sc fm) 262 107 (.getfield 153) (110) := ri_of (by decide +kernel) rfl
theorem wi_262_11 : ri (rt_P sc fm) 262 11 (.invokevirtual 79) (14) := ri_of (by decide +kernel) rfl
theorem wi_262_110 : ri (rt_P sc fm) 262 110 (.iload 7) (112) := ri_of (by decide +kernel) rfl
theorem wi_262_112 : ri (rt_P sc fm) 262 112 (.dup2) (113) := ri_of (by decide +kernel) rfl
theorem wi_262_113 : ri (rt_P sc fm) 262 113 (.iaload) (114) := ri_of (by decide +kernel) rfl
theorem wi_262_114 : ri (rt_P sc fm) 262 114 (.iconst 1) (115) := ri_of (by decide +kernel) rfl
theorem wi_262_115 : ri (rt_P sc fm) 262 115 (.aload_n 0) (116) := ri_of (by decide +kernel) rfl
theorem wi_262_116 : ri (rt_P sc fm) 262 116 (.aload 4) (118) := ri_of (by decide +kernel) rfl
theorem wi_262_118 : ri (rt_P sc fm) 262 118 (.invokevirtual 145) (121) := ri_of (by decide +kernel) rfl
theorem wi_262_121 : ri (rt_P sc fm) 262 121 (.ishl) (122) := ri_of (by decide +kernel) rfl
theorem wi_262_122 : ri (rt_P sc fm) 262 122 (.ior) (123) := ri_of (by decide +kernel) rfl
theorem wi_262_123 : ri (rt_P sc fm) 262 123 (.iastore) (124) := ri_of (by decide +kernel) rfl
theorem wi_262_124 : ri (rt_P sc fm) 262 124 (.aload_n 0) (125) := ri_of (by decide +kernel) rfl
theorem wi_262_125 : ri (rt_P sc fm) 262 125 (.bipush 44) (127) := ri_of (by decide +kernel) rfl
theorem wi_262_127 : ri (rt_P sc fm) 262 127 (.invokevirtual 149) (130) := ri_of (by decide +kernel) rfl
theorem wi_262_130 : ri (rt_P sc fm) 262 130 (.istore 5) (132) := ri_of (by decide +kernel) rfl
theorem wi_262_132 : ri (rt_P sc fm) 262 132 (.iinc 6 1) (135) := ri_of (by decide +kernel) rfl
theorem wi_262_135 : ri (rt_P sc fm) 262 135 (.goto (-60)) (138) := ri_of (by decide +kernel) rfl
theorem wi_262_138 : ri (rt_P sc fm) 262 138 (.aload_n 0) (139) := ri_of (by decide +kernel) rfl
theorem wi_262_139 : ri (rt_P sc fm) 262 139 (.bipush 59) (141) := ri_of (by decide +kernel) rfl
theorem wi_262_14 : ri (rt_P sc fm) 262 14 (.istore_n 1) (15) := ri_of (by decide +kernel) rfl
theorem wi_262_141 : ri (rt_P sc fm) 262 141 (.invokevirtual 114) (144) := ri_of (by decide +kernel) rfl
theorem wi_262_144 : ri (rt_P sc fm) 262 144 (.aload 4) (146) := ri_of (by decide +kernel) rfl
theorem wi_262_146 : ri (rt_P sc fm) 262 146 (.invokevirtual 156) (149) := ri_of (by decide +kernel) rfl
theorem wi_262_149 : ri (rt_P sc fm) 262 149 (.ifCond .ne 9) (152) := ri_of (by decide +kernel) rfl
theorem wi_262_15 : ri (rt_P sc fm) 262 15 (.aload_n 0) (16) := ri_of (by decide +kernel) rfl
theorem wi_262_152 : ri (rt_P sc fm) 262 152 (.aload_n 0) (153) := ri_of (by decide +kernel) rfl
theorem wi_262_153 : ri (rt_P sc fm) 262 153 (.iconst 4) (154) := ri_of (by decide +kernel) rfl
theorem wi_262_154 : ri (rt_P sc fm) 262 154 (.iload_n 1) (155) := ri_of (by decide +kernel) rfl
theorem wi_262_155 : ri (rt_P sc fm) 262 155 (.invokevirtual 61) (158) := ri_of (by decide +kernel) rfl
theorem wi_262_158 : ri (rt_P sc fm) 262 158 (.aload_n 0) (159) := ri_of (by decide +kernel) rfl
theorem wi_262_159 : ri (rt_P sc fm) 262 159 (.getfield 15) (162) := ri_of (by decide +kernel) rfl
theorem wi_262_16 : ri (rt_P sc fm) 262 16 (.aload_n 0) (17) := ri_of (by decide +kernel) rfl
theorem wi_262_162 : ri (rt_P sc fm) 262 162 (.dup) (163) := ri_of (by decide +kernel) rfl
theorem wi_262_163 : ri (rt_P sc fm) 262 163 (.getfield 129) (166) := ri_of (by decide +kernel) rfl
theorem wi_262_166 : ri (rt_P sc fm) 262 166 (.iconst 1) (167) := ri_of (by decide +kernel) rfl
theorem wi_262_167 : ri (rt_P sc fm) 262 167 (.iadd) (168) := ri_of (by decide +kernel) rfl
theorem wi_262_168 : ri (rt_P sc fm) 262 168 (.putfield 129) (171) := ri_of (by decide +kernel) rfl
theorem wi_262_17 : ri (rt_P sc fm) 262 17 (.invokevirtual 125) (20) := ri_of (by decide +kernel) rfl
theorem wi_262_171 : ri (rt_P sc fm) 262 171 (.return_) (172) := ri_of (by decide +kernel) rfl
theorem wi_262_2 : ri (rt_P sc fm) 262 2 (.getfield 49) (5) := ri_of (by decide +kernel) rfl
theorem wi_262_20 : ri (rt_P sc fm) 262 20 (.aload_n 0) (21) := ri_of (by decide +kernel) rfl
theorem wi_262_21 : ri (rt_P sc fm) 262 21 (.getfield 15) (24) := ri_of (by decide +kernel) rfl
theorem wi_262_24 : ri (rt_P sc fm) 262 24 (.getfield 129) (27) := ri_of (by decide +kernel) rfl
theorem wi_262_27 : ri (rt_P sc fm) 262 27 (.iconst 4) (28) := ri_of (by decide +kernel) rfl
theorem wi_262_28 : ri (rt_P sc fm) 262 28 (.if_icmp .lt 7) (31) := ri_of (by decide +kernel) rfl
theorem wi_262_31 : ri (rt_P sc fm) 262 31 (.iconst 1) (32) := ri_of (by decide +kernel) rfl
theorem wi_262_32 : ri (rt_P sc fm) 262 32 (.goto 4) (35) := ri_of (by decide +kernel) rfl
theorem wi_262_35 : ri (rt_P sc fm) 262 35 (.iconst 0) (36) := ri_of (by decide +kernel) rfl
theorem wi_262_36 : ri (rt_P sc fm) 262 36 (.invokevirtual 132) (39) := ri_of (by decide +kernel) rfl
theorem wi_262_39 : ri (rt_P sc fm) 262 39 (.lstore_n 2) (40) := ri_of (by decide +kernel) rfl
theorem wi_262_40 : ri (rt_P sc fm) 262 40 (.aload_n 0) (41) := ri_of (by decide +kernel) rfl
theorem wi_262_41 : ri (rt_P sc fm) 262 41 (.getfield 15) (44) := ri_of (by decide +kernel) rfl
theorem wi_262_44 : ri (rt_P sc fm) 262 44 (.getfield 136) (47) := ri_of (by decide +kernel) rfl
theorem wi_262_47 : ri (rt_P sc fm) 262 47 (.aload_n 0) (48) := ri_of (by decide +kernel) rfl
theorem wi_262_48 : ri (rt_P sc fm) 262 48 (.getfield 15) (51) := ri_of (by decide +kernel) rfl
theorem wi_262_5 : ri (rt_P sc fm) 262 5 (.iconst 1) (6) := ri_of (by decide +kernel) rfl
theorem wi_262_51 : ri (rt_P sc fm) 262 51 (.getfield 129) (54) := ri_of (by decide +kernel) rfl
theorem wi_262_54 : ri (rt_P sc fm) 262 54 (.aaload) (55) := ri_of (by decide +kernel) rfl
theorem wi_262_55 : ri (rt_P sc fm) 262 55 (.astore 4) (57) := ri_of (by decide +kernel) rfl
theorem wi_262_57 : ri (rt_P sc fm) 262 57 (.aload 4) (59) := ri_of (by decide +kernel) rfl
theorem wi_262_59 : ri (rt_P sc fm) 262 59 (.lload_n 2) (60) := ri_of (by decide +kernel) rfl
theorem wi_262_6 : ri (rt_P sc fm) 262 6 (.iadd) (7) := ri_of (by decide +kernel) rfl
theorem wi_262_60 : ri (rt_P sc fm) 262 60 (.invokevirtual 140) (63) := ri_of (by decide +kernel) rfl
theorem wi_262_63 : ri (rt_P sc fm) 262 63 (.aload_n 0) (64) := ri_of (by decide +kernel) rfl
theorem wi_262_64 : ri (rt_P sc fm) 262 64 (.bipush 58) (66) := ri_of (by decide +kernel) rfl
theorem wi_262_66 : ri (rt_P sc fm) 262 66 (.invokevirtual 114) (69) := ri_of (by decide +kernel) rfl
theorem wi_262_69 : ri (rt_P sc fm) 262 69 (.iconst 1) (70) := ri_of (by decide +kernel) rfl
theorem wi_262_7 : ri (rt_P sc fm) 262 7 (.putfield 49) (10) := ri_of (by decide +kernel) rfl
theorem wi_262_70 : ri (rt_P sc fm) 262 70 (.istore 5) (72) := ri_of (by decide +kernel) rfl
theorem wi_262_72 : ri (rt_P sc fm) 262 72 (.iconst 0) (73) := ri_of (by decide +kernel) rfl
theorem wi_262_73 : ri (rt_P sc fm) 262 73 (.istore 6) (75) := ri_of (by decide +kernel) rfl
theorem wi_262_75 : ri (rt_P sc fm) 262 75 (.iload 6) (77) := ri_of (by decide +kernel) rfl
theorem wi_262_77 : ri (rt_P sc fm) 262 77 (.sipush 4000) (80) := ri_of (by decide +kernel) rfl
theorem wi_262_80 : ri (rt_P sc fm) 262 80 (.if_icmp .ge 58) (83) := ri_of (by decide +kernel) rfl
theorem wi_262_83 : ri (rt_P sc fm) 262 83 (.iload 5) (85) := ri_of (by decide +kernel) rfl
theorem wi_262_85 : ri (rt_P sc fm) 262 85 (.ifCond .eq 53) (88) := ri_of (by decide +kernel) rfl
theorem wi_262_88 : ri (rt_P sc fm) 262 88 (.aload_n 0) (89) := ri_of (by decide +kernel) rfl
theorem wi_262_89 : ri (rt_P sc fm) 262 89 (.aload 4) (91) := ri_of (by decide +kernel) rfl
theorem wi_262_91 : ri (rt_P sc fm) 262 91 (.invokevirtual 145) (94) := ri_of (by decide +kernel) rfl
theorem wi_262_94 : ri (rt_P sc fm) 262 94 (.istore 7) (96) := ri_of (by decide +kernel) rfl
theorem wi_262_96 : ri (rt_P sc fm) 262 96 (.aload_n 0) (97) := ri_of (by decide +kernel) rfl
theorem wi_262_97 : ri (rt_P sc fm) 262 97 (.bipush 60) (99) := ri_of (by decide +kernel) rfl
theorem wi_262_99 : ri (rt_P sc fm) 262 99 (.invokevirtual 149) (102) := ri_of (by decide +kernel) rfl
theorem wm_234 : rx_ml (rt_P sc fm) 234 = 3 := (by decide +kernel : rt_ml 234 = 3)
theorem wm_241 : rx_ml (rt_P sc fm) 241 = 5 := (by decide +kernel : rt_ml 241 = 5)
theorem wm_257 : rx_ml (rt_P sc fm) 257 = 2 := (by decide +kernel : rt_ml 257 = 2)
theorem wm_258 : rx_ml (rt_P sc fm) 258 = 3 := (by decide +kernel : rt_ml 258 = 3)
theorem wm_260 : rx_ml (rt_P sc fm) 260 = 5 := (by decide +kernel : rt_ml 260 = 5)
theorem wm_261 : rx_ml (rt_P sc fm) 261 = 1 := (by decide +kernel : rt_ml 261 = 1)
theorem wm_263 : rx_ml (rt_P sc fm) 263 = 3 := (by decide +kernel : rt_ml 263 = 3)
theorem wp_262_129 : rx_pt (rt_P sc fm) 262 129 = some (9, 2, .int) := (by decide +kernel : rt_pt 262 129 = some (9, 2, .int))
theorem wp_262_49 : rx_pt (rt_P sc fm) 262 49 = some (10, 7, .int) := (by decide +kernel : rt_pt 262 49 = some (10, 7, .int))
theorem wr_262 : rx_rt (rt_P sc fm) 262 = none := (by decide +kernel : rt_rt 262 = none)
/-- MarkHouse$Reader.readOrder()V -/
def d_262 (n : Nat)  (c : cS) : Option ((cS) ⊕ cS) :=
  lt (pI c 145 7 ((c.1 145 7) + 1)) (fun c1 =>
  Option.bind (d_42 n c1) (fun v3 =>
  Option.bind (d_261 n c1) (fun v5 =>
  jn (fun p6 : Int32 =>
    Option.bind (d_260 n v5 p6 c1) (Sum.elim (fun r7 =>
    if ib (r7.2.1 7 2) 4 then
    Option.bind (d_234 n (ix (r7.2.1 7 2)) r7.1 r7.2) (fun r12 =>
    Option.bind (d_257 n 58 r12) (Sum.elim (fun r13 =>
    Option.bind (whl (R := (cS) ⊕ ((cS) ⊕ cS)) (fun s17 : Int32 × Int32 × cS =>
      if 4000 ≤ s17.2.1 then
        some (.inr (.inl s17.2.2))
      else
        if s17.1 = 0 then
          some (.inr (.inl s17.2.2))
        else
          Option.bind (d_263 n (ix (r7.2.1 7 2)) s17.2.2) (Sum.elim (fun r18 =>
          Option.bind (d_258 n 60 r18.2) (fun r21 =>
          jn (fun p22 : cS =>
            Option.bind (d_258 n 44 p22) (fun r23 =>
            lt (s17.2.1 + 1 : Int32) (fun v26 =>
            some (.inl (r23.1, v26, r23.2)))))
          (fun j124 =>
          if r21.1 = 0 then
            j124 r21.2
          else
            if ib r18.1 12 then
            Option.bind (d_263 n (ix (r7.2.1 7 2)) r21.2) (Sum.elim (fun r29 =>
            if ib r18.1 12 then
            lt (pI r29.2 (oA (ix (r7.2.1 7 2)) + 2) (ix r18.1) ((r21.2.1 (oA (ix (r7.2.1 7 2)) + 2) (ix r18.1)) ||| (1 <<< (r29.1 &&& 31)))) (fun c32 =>
            j124 c32)
            else none)
            (fun z30 => some (.inr (.inr (.inr z30)))))
            else none)))
          (fun z19 => some (.inr (.inr (.inr z19)))))) n (1, 0, r13))
    (Sum.elim (fun x34 : cS =>
      Option.bind (d_257 n 59 x34) (Sum.elim (fun r35 =>
      Option.bind (d_241 n (ix (r7.2.1 7 2)) r35) (fun r37 =>
      jn (fun p38 : cS =>
        lt (pI p38 7 2 ((p38.1 7 2) + 1)) (fun c39 =>
        some (.inl c39)))
      (fun j158 =>
      if r37.1 = 0 then
        Option.bind (d_41 n 4 v3 r37.2) (Sum.elim (fun r41 =>
        j158 r41)
        (fun z42 => some (.inr z42)))
      else
        j158 r37.2)))
      (fun z36 => some (.inr z36))))
    (fun x43 : (cS) ⊕ cS =>
      some x43)))
    (fun z14 => some (.inr z14))))
    else none)
    (fun z8 => some (.inr z8))))
  (fun j36 =>
  if (c1.1 7 2) < 4 then
    j36 0
  else
    j36 1))))
theorem sp_262 {F Lo n : Nat}  {c y : cS} {w : cW} {K : (cS) ⊕ cS → Prop} {Q : ((Option Value) ⊕ String) → List va_E → Prop} (hw : rOK fm w) (hF : 9 ≤ F) (hLo : 148 ≤ Lo)  (h : wp (d_262 n  c) K) (hQ : ∀ r, K (.inl r) → Q (.inl none) (hq true r y w)) (hT : ∀ r, K (.inr r) → Q (.inr "java/lang/IllegalArgumentException") (hq true r y w)) : rs (rt_P sc fm) 262 F Lo 0 [(0, .ref 145)] [] (hq true c y w) Q := by
  unfold d_262 at h
  obtain ⟨lv, elv⟩ : ∃ lv : rx_L, lv = [(0, .ref 145)] := ⟨_, rfl⟩
  rw [← elv]
  have l0 : rx_ld lv 0 = some (.ref 145) := by rw [elv]; rfl
  refine rs_aldn wi_262_0 l0 ?_
  refine rs_pure wi_262_1 rfl ?_
  refine dq_gi wi_262_2 wf_262_49 tf_145_7 ?_
  refine rs_pure wi_262_5 rfl ?_
  refine rs_topi (v := 1) (by decide) ?_
  refine rs_pure wi_262_6 rfl ?_
  obtain ⟨c1, e2, h⟩ := wp_lt h
  refine dq_pi wi_262_7 wp_262_49 tf_145_7 rfl rfl e2 ?_
  refine rs_aldn wi_262_10 l0 ?_
  refine rs_V wi_262_11 wc_262_79 rfl (dq_isa tf_145_0 wa_10_42) (Nat.le_trans (by decide) hF) (ml_le wm_42 (Nat.le_trans (by decide) hLo)) rfl (sp_42 hw (Nat.le_trans (by decide : 0 ≤ 9 - 1) (Nat.sub_le_sub_right hF 1)) (ml_sub wm_42 (Nat.le_trans (by decide : 0 ≤ 148 - 20) (Nat.sub_le_sub_right hLo 20))) (wp_bind h) (fun v3 h => rs_back1 ?_))
  refine dl_istn wi_262_14 rfl (fun lv l1 t4 => ?_)
  have l0 := t4 _ _ (by decide) (Or.inl rfl) l0
  refine rs_aldn wi_262_15 l0 ?_
  refine rs_aldn wi_262_16 l0 ?_
  refine rs_V wi_262_17 wc_262_125 rfl (dq_isa tf_145_0 wa_10_261) (Nat.le_trans (by decide) hF) (ml_le wm_261 (Nat.le_trans (by decide) hLo)) rfl (sp_261 hw (Nat.le_trans (by decide : 3 ≤ 9 - 1) (Nat.sub_le_sub_right hF 1)) (ml_sub wm_261 (Nat.le_trans (by decide : 68 ≤ 148 - 20) (Nat.sub_le_sub_right hLo 20))) (wp_bind h) (fun v5 h => rs_back1 ?_))
  refine rs_aldn wi_262_20 l0 ?_
  refine dq_gr wi_262_21 wf_262_15 tf_145_1 ?_
  refine dq_gi wi_262_24 wf_262_129 tf_7_2 ?_
  refine rs_pure wi_262_27 rfl ?_
  refine rs_topi (v := 4) (by decide) ?_
  refine wp_jn (B := fun p6 : Int32 => ∀ lv, rx_ld lv 0 = some (.ref 145) → rx_ld lv 1 = some (.int v3) → rs (rt_P sc fm) 262 F Lo 36 lv [.int p6, .int v5, .ref 145] (hq true c1 y w) Q) h (fun p6 h lv l0 l1 => ?_) (fun j36 hj36 h => ?_)
  ·
    refine rs_V wi_262_36 wc_262_132 rfl (dq_isa tf_145_0 wa_10_260) (Nat.le_trans (by decide) hF) (ml_le wm_260 (Nat.le_trans (by decide) hLo)) rfl (sp_260 hw (Nat.le_trans (by decide : 8 ≤ 9 - 1) (Nat.sub_le_sub_right hF 1)) (ml_sub wm_260 (Nat.le_trans (by decide : 124 ≤ 148 - 24) (Nat.sub_le_sub_right hLo 24))) (wp_bind h) (fun r7 h => rs_back1 ?_) (fun z8 h => rs_up wh0_262_36 whh_262 (hT z8 (wp_inr h))))
    have h := wp_inl h
    refine dl_lstn wi_262_39 rfl (fun lv l2 t9 => ?_)
    have l0 := t9 _ _ (by decide) (by decide) (Or.inl rfl) l0
    have l1 := t9 _ _ (by decide) (by decide) (Or.inl rfl) l1
    refine rs_aldn wi_262_40 l0 ?_
    refine dq_gr wi_262_41 wf_262_15 tf_145_1 ?_
    refine dq_gr wi_262_44 wf_262_136 tf_7_1 ?_
    refine rs_aldn wi_262_47 l0 ?_
    refine dq_gr wi_262_48 wf_262_15 tf_145_1 ?_
    refine dq_gi wi_262_51 wf_262_129 tf_7_2 ?_
    obtain ⟨g10, h⟩ := wp_gd h
    refine dq_aald wi_262_54 (by decide) t_8 g10 (hw.1 _ (ib_lt g10)) ?_
    refine dl_ast wi_262_55 rfl (fun lv l4 t11 => ?_)
    have l0 := t11 _ _ (by decide) (Or.inl rfl) l0
    have l1 := t11 _ _ (by decide) (Or.inl rfl) l1
    have l2 := t11 _ _ (by decide) (Or.inr (by decide)) l2
    refine rs_ald wi_262_57 l4 ?_
    refine rs_lldn wi_262_59 l2 ?_
    refine rs_V wi_262_60 wc_262_140 rfl (dq_isa (fO_0 (ib_lt g10)) wa_8_234) (Nat.le_trans (by decide) hF) (ml_le wm_234 (Nat.le_trans (by decide) hLo)) rfl (sp_234 hw (Nat.le_trans (by decide : 0 ≤ 9 - 1) (Nat.sub_le_sub_right hF 1)) (ml_sub wm_234 (Nat.le_trans (by decide : 0 ≤ 148 - 22) (Nat.sub_le_sub_right hLo 22))) (ib_lt g10) (wp_bind h) (fun r12 h => rs_back0 ?_))
    refine rs_aldn wi_262_63 l0 ?_
    refine rs_pure wi_262_64 rfl ?_
    refine rs_topi (v := 58) (by decide) ?_
    refine rs_V wi_262_66 wc_262_114 rfl (dq_isa tf_145_0 wa_10_257) (Nat.le_trans (by decide) hF) (ml_le wm_257 (Nat.le_trans (by decide) hLo)) rfl (sp_257 hw (Nat.le_trans (by decide : 7 ≤ 9 - 1) (Nat.sub_le_sub_right hF 1)) (ml_sub wm_257 (Nat.le_trans (by decide : 104 ≤ 148 - 21) (Nat.sub_le_sub_right hLo 21))) (wp_bind h) (fun r13 h => rs_back0 ?_) (fun z14 h => rs_up wh0_262_66 whh_262 (hT z14 (wp_inr h))))
    have h := wp_inl h
    refine rs_pure wi_262_69 rfl ?_
    refine rs_topi (v := 1) (by decide) ?_
    refine dl_ist wi_262_70 rfl (fun lv l5 t15 => ?_)
    have l0 := t15 _ _ (by decide) (Or.inl rfl) l0
    have l1 := t15 _ _ (by decide) (Or.inl rfl) l1
    have l4 := t15 _ _ (by decide) (Or.inl rfl) l4
    refine rs_pure wi_262_72 rfl ?_
    refine rs_topi (v := 0) (by decide) ?_
    refine dl_ist wi_262_73 rfl (fun lv l6 t16 => ?_)
    have l0 := t16 _ _ (by decide) (Or.inl rfl) l0
    have l1 := t16 _ _ (by decide) (Or.inl rfl) l1
    have l4 := t16 _ _ (by decide) (Or.inl rfl) l4
    have l5 := t16 _ _ (by decide) (Or.inl rfl) l5
    refine whl_ex (A := fun s17 : Int32 × Int32 × cS => ∀ lv, rx_ld lv 0 = some (.ref 145) → rx_ld lv 1 = some (.int v3) → rx_ld lv 4 = some (.ref (oA (ix (r7.2.1 7 2)))) → rx_ld lv 5 = some (.int s17.1) → rx_ld lv 6 = some (.int s17.2.1) → rs (rt_P sc fm) 262 F Lo 75 lv [] (hq true s17.2.2 y w) Q) (B := (Sum.elim (fun x34 : cS => ∀ lv, rx_ld lv 0 = some (.ref 145) → rx_ld lv 1 = some (.int v3) → rx_ld lv 4 = some (.ref (oA (ix (r7.2.1 7 2)))) → rs (rt_P sc fm) 262 F Lo 138 lv [] (hq true x34 y w) Q) K)) ?_ ?_ _ _ (wp_bind h) _ l0 l1 l4 l5 l6
    · intro s17 h lv l0 l1 l4 l5 l6
      refine rs_ild wi_262_75 l6 ?_
      refine rs_pure wi_262_77 rfl ?_
      refine rs_topi (v := 4000) (by decide) ?_
      refine rs_icge (tg := 138) wi_262_80 ⟨by decide, by decide⟩ (fun q => ?_) (fun q => ?_)
      ·
        have h := wp_pos h q
        exact h _ l0 l1 l4
      ·
        have h := wp_neg h q
        refine rs_ild wi_262_83 l5 ?_
        refine rs_ifeq (tg := 138) wi_262_85 ⟨by decide, by decide⟩ (fun q => ?_) (fun q => ?_)
        ·
          have h := wp_pos h q
          exact h _ l0 l1 l4
        ·
          have h := wp_neg h q
          refine rs_aldn wi_262_88 l0 ?_
          refine rs_ald wi_262_89 l4 ?_
          refine rs_V wi_262_91 wc_262_145 rfl (dq_isa tf_145_0 wa_10_263) (Nat.le_trans (by decide) hF) (ml_le wm_263 (Nat.le_trans (by decide) hLo)) rfl (sp_263 hw (Nat.le_trans (by decide : 8 ≤ 9 - 1) (Nat.sub_le_sub_right hF 1)) (ml_sub wm_263 (Nat.le_trans (by decide : 124 ≤ 148 - 22) (Nat.sub_le_sub_right hLo 22))) (ib_lt g10) (wp_bind h) (fun r18 h => rs_back1 ?_) (fun z19 h => rs_up wh0_262_91 whh_262 (hT z19 (wp_inr h))))
          have h := wp_inl h
          refine dl_ist wi_262_94 rfl (fun lv l7 t20 => ?_)
          have l0 := t20 _ _ (by decide) (Or.inl rfl) l0
          have l1 := t20 _ _ (by decide) (Or.inl rfl) l1
          have l4 := t20 _ _ (by decide) (Or.inl rfl) l4
          have l6 := t20 _ _ (by decide) (Or.inl rfl) l6
          refine rs_aldn wi_262_96 l0 ?_
          refine rs_pure wi_262_97 rfl ?_
          refine rs_topi (v := 60) (by decide) ?_
          refine rs_V wi_262_99 wc_262_149 rfl (dq_isa tf_145_0 wa_10_258) (Nat.le_trans (by decide) hF) (ml_le wm_258 (Nat.le_trans (by decide) hLo)) rfl (sp_258 hw (Nat.le_trans (by decide : 0 ≤ 9 - 1) (Nat.sub_le_sub_right hF 1)) (ml_sub wm_258 (Nat.le_trans (by decide : 0 ≤ 148 - 22) (Nat.sub_le_sub_right hLo 22))) (wp_bind h) (fun r21 h => rs_back1 ?_))
          refine wp_jn (B := fun p22 : cS => ∀ lv, rx_ld lv 0 = some (.ref 145) → rx_ld lv 1 = some (.int v3) → rx_ld lv 4 = some (.ref (oA (ix (r7.2.1 7 2)))) → rx_ld lv 6 = some (.int s17.2.1) → rs (rt_P sc fm) 262 F Lo 124 lv [] (hq true p22 y w) Q) h (fun p22 h lv l0 l1 l4 l6 => ?_) (fun j124 hj124 h => ?_)
          ·
            refine rs_aldn wi_262_124 l0 ?_
            refine rs_pure wi_262_125 rfl ?_
            refine rs_topi (v := 44) (by decide) ?_
            refine rs_V wi_262_127 wc_262_149 rfl (dq_isa tf_145_0 wa_10_258) (Nat.le_trans (by decide) hF) (ml_le wm_258 (Nat.le_trans (by decide) hLo)) rfl (sp_258 hw (Nat.le_trans (by decide : 0 ≤ 9 - 1) (Nat.sub_le_sub_right hF 1)) (ml_sub wm_258 (Nat.le_trans (by decide : 0 ≤ 148 - 22) (Nat.sub_le_sub_right hLo 22))) (wp_bind h) (fun r23 h => rs_back1 ?_))
            refine dl_ist wi_262_130 rfl (fun lv l5 t24 => ?_)
            have l0 := t24 _ _ (by decide) (Or.inl rfl) l0
            have l1 := t24 _ _ (by decide) (Or.inl rfl) l1
            have l4 := t24 _ _ (by decide) (Or.inl rfl) l4
            have l6 := t24 _ _ (by decide) (Or.inl rfl) l6
            obtain ⟨v26, e27, h⟩ := wp_lt h
            refine dl_inc wi_262_132 l6 rfl e27 (fun lv l6 t25 => ?_)
            have l0 := t25 _ _ (by decide) (Or.inl rfl) l0
            have l1 := t25 _ _ (by decide) (Or.inl rfl) l1
            have l4 := t25 _ _ (by decide) (Or.inl rfl) l4
            have l5 := t25 _ _ (by decide) (Or.inl rfl) l5
            refine rs_goto (tg := 75) wi_262_135 ⟨by decide, by decide⟩ ?_
            exact h _ l0 l1 l4 l5 l6
          refine rs_ifeq (tg := 124) wi_262_102 ⟨by decide, by decide⟩ (fun q => ?_) (fun q => ?_)
          ·
            have h := wp_pos h q
            exact hj124 _ h _ l0 l1 l4 l6
          ·
            have h := wp_neg h q
            refine rs_ald wi_262_105 l4 ?_
            refine dq_gr wi_262_107 wf_262_153 (fO_5 (ib_lt g10)) ?_
            refine rs_ild wi_262_110 l7 ?_
            refine rs_pure wi_262_112 rfl ?_
            obtain ⟨g28, h⟩ := wp_gd h
            refine dq_iald wi_262_113 (tO_2 (ib_lt g10)) g28 ?_
            refine rs_pure wi_262_114 rfl ?_
            refine rs_topi (v := 1) (by decide) ?_
            refine rs_aldn wi_262_115 l0 ?_
            refine rs_ald wi_262_116 l4 ?_
            refine rs_V wi_262_118 wc_262_145 rfl (dq_isa tf_145_0 wa_10_263) (Nat.le_trans (by decide) hF) (ml_le wm_263 (Nat.le_trans (by decide) hLo)) rfl (sp_263 hw (Nat.le_trans (by decide : 8 ≤ 9 - 1) (Nat.sub_le_sub_right hF 1)) (ml_sub wm_263 (Nat.le_trans (by decide : 124 ≤ 148 - 22) (Nat.sub_le_sub_right hLo 22))) (ib_lt g10) (wp_bind h) (fun r29 h => rs_back1 ?_) (fun z30 h => rs_up wh0_262_118 whh_262 (hT z30 (wp_inr h))))
            have h := wp_inl h
            refine rs_pure wi_262_121 rfl ?_
            refine rs_pure wi_262_122 rfl ?_
            obtain ⟨g31, h⟩ := wp_gd h
            obtain ⟨c32, e33, h⟩ := wp_lt h
            refine dq_iast wi_262_123 (tO_2 (ib_lt g10)) g31 e33 ?_
            exact hj124 _ h _ l0 l1 l4 l6
    ·
      refine sum_all ?_ ?_
      ·
        intro x34 h lv l0 l1 l4
        have h := wp_inl h
        refine rs_aldn wi_262_138 l0 ?_
        refine rs_pure wi_262_139 rfl ?_
        refine rs_topi (v := 59) (by decide) ?_
        refine rs_V wi_262_141 wc_262_114 rfl (dq_isa tf_145_0 wa_10_257) (Nat.le_trans (by decide) hF) (ml_le wm_257 (Nat.le_trans (by decide) hLo)) rfl (sp_257 hw (Nat.le_trans (by decide : 7 ≤ 9 - 1) (Nat.sub_le_sub_right hF 1)) (ml_sub wm_257 (Nat.le_trans (by decide : 104 ≤ 148 - 21) (Nat.sub_le_sub_right hLo 21))) (wp_bind h) (fun r35 h => rs_back0 ?_) (fun z36 h => rs_up wh0_262_141 whh_262 (hT z36 (wp_inr h))))
        have h := wp_inl h
        refine rs_ald wi_262_144 l4 ?_
        refine rs_V wi_262_146 wc_262_156 rfl (dq_isa (fO_0 (ib_lt g10)) wa_8_241) (Nat.le_trans (by decide) hF) (ml_le wm_241 (Nat.le_trans (by decide) hLo)) rfl (sp_241 hw (Nat.le_trans (by decide : 2 ≤ 9 - 1) (Nat.sub_le_sub_right hF 1)) (ml_sub wm_241 (Nat.le_trans (by decide : 44 ≤ 148 - 24) (Nat.sub_le_sub_right hLo 24))) (ib_lt g10) (wp_bind h) (fun r37 h => rs_back1 ?_))
        refine wp_jn (B := fun p38 : cS => ∀ lv, rx_ld lv 0 = some (.ref 145) → rs (rt_P sc fm) 262 F Lo 158 lv [] (hq true p38 y w) Q) h (fun p38 h lv l0 => ?_) (fun j158 hj158 h => ?_)
        ·
          refine rs_aldn wi_262_158 l0 ?_
          refine dq_gr wi_262_159 wf_262_15 tf_145_1 ?_
          refine rs_pure wi_262_162 rfl ?_
          refine dq_gi wi_262_163 wf_262_129 tf_7_2 ?_
          refine rs_pure wi_262_166 rfl ?_
          refine rs_topi (v := 1) (by decide) ?_
          refine rs_pure wi_262_167 rfl ?_
          obtain ⟨c39, e40, h⟩ := wp_lt h
          refine dq_pi wi_262_168 wp_262_129 tf_7_2 rfl rfl e40 ?_
          exact rs_vret wi_262_171 wr_262 (hQ c39 h)
        refine rs_ifne (tg := 158) wi_262_149 ⟨by decide, by decide⟩ (fun q => ?_) (fun q => ?_)
        ·
          have h := wp_neg h q
          exact hj158 _ h _ l0
        ·
          have h := wp_pos h q
          refine rs_aldn wi_262_152 l0 ?_
          refine rs_pure wi_262_153 rfl ?_
          refine rs_topi (v := 4) (by decide) ?_
          refine rs_ildn wi_262_154 l1 ?_
          refine rs_V wi_262_155 wc_262_61 rfl (dq_isa tf_145_0 wa_10_41) (Nat.le_trans (by decide) hF) (ml_le wm_41 (Nat.le_trans (by decide) hLo)) rfl (sp_41 hw (Nat.le_trans (by decide : 6 ≤ 9 - 1) (Nat.sub_le_sub_right hF 1)) (ml_sub wm_41 (Nat.le_trans (by decide : 82 ≤ 148 - 22) (Nat.sub_le_sub_right hLo 22))) (wp_bind h) (fun r41 h => rs_back0 ?_) (fun z42 h => rs_up wh0_262_155 whh_262 (hT z42 (wp_inr h))))
          have h := wp_inl h
          exact hj158 _ h _ l0
      ·
        intro x43 h
        exact h
  refine rs_iclt (tg := 35) wi_262_28 ⟨by decide, by decide⟩ (fun q => ?_) (fun q => ?_)
  ·
    have h := wp_pos h q
    refine rs_pure wi_262_35 rfl ?_
    refine rs_topi (v := 0) (by decide) ?_
    exact hj36 _ h _ l0 l1
  ·
    have h := wp_neg h q
    refine rs_pure wi_262_31 rfl ?_
    refine rs_topi (v := 1) (by decide) ?_
    refine rs_goto (tg := 36) wi_262_32 ⟨by decide, by decide⟩ ?_
    exact hj36 _ h _ l0 l1
theorem fK_1 : ∀ {o : Nat}, o < 12 → fo true (kA o) 6 1 (.int 0)
  | 0, _ => ⟨_, rfl, rfl, by decide, by decide⟩
  | 1, _ => ⟨_, rfl, rfl, by decide, by decide⟩
  | 2, _ => ⟨_, rfl, rfl, by decide, by decide⟩
  | 3, _ => ⟨_, rfl, rfl, by decide, by decide⟩
  | 4, _ => ⟨_, rfl, rfl, by decide, by decide⟩
  | 5, _ => ⟨_, rfl, rfl, by decide, by decide⟩
  | 6, _ => ⟨_, rfl, rfl, by decide, by decide⟩
  | 7, _ => ⟨_, rfl, rfl, by decide, by decide⟩
  | 8, _ => ⟨_, rfl, rfl, by decide, by decide⟩
  | 9, _ => ⟨_, rfl, rfl, by decide, by decide⟩
  | 10, _ => ⟨_, rfl, rfl, by decide, by decide⟩
  | 11, _ => ⟨_, rfl, rfl, by decide, by decide⟩
  | n + 12, h => absurd h (by omega)
theorem fK_6 : ∀ {o : Nat}, o < 12 → fo true (kA o) 6 6 (.int 0)
  | 0, _ => ⟨_, rfl, rfl, by decide, by decide⟩
  | 1, _ => ⟨_, rfl, rfl, by decide, by decide⟩
  | 2, _ => ⟨_, rfl, rfl, by decide, by decide⟩
  | 3, _ => ⟨_, rfl, rfl, by decide, by decide⟩
  | 4, _ => ⟨_, rfl, rfl, by decide, by decide⟩
  | 5, _ => ⟨_, rfl, rfl, by decide, by decide⟩
  | 6, _ => ⟨_, rfl, rfl, by decide, by decide⟩
  | 7, _ => ⟨_, rfl, rfl, by decide, by decide⟩
  | 8, _ => ⟨_, rfl, rfl, by decide, by decide⟩
  | 9, _ => ⟨_, rfl, rfl, by decide, by decide⟩
  | 10, _ => ⟨_, rfl, rfl, by decide, by decide⟩
  | 11, _ => ⟨_, rfl, rfl, by decide, by decide⟩
  | n + 12, h => absurd h (by omega)
theorem fK_7 : ∀ {o : Nat}, o < 12 → fo true (kA o) 6 7 (.int 0)
  | 0, _ => ⟨_, rfl, rfl, by decide, by decide⟩
  | 1, _ => ⟨_, rfl, rfl, by decide, by decide⟩
  | 2, _ => ⟨_, rfl, rfl, by decide, by decide⟩
  | 3, _ => ⟨_, rfl, rfl, by decide, by decide⟩
  | 4, _ => ⟨_, rfl, rfl, by decide, by decide⟩
  | 5, _ => ⟨_, rfl, rfl, by decide, by decide⟩
  | 6, _ => ⟨_, rfl, rfl, by decide, by decide⟩
  | 7, _ => ⟨_, rfl, rfl, by decide, by decide⟩
  | 8, _ => ⟨_, rfl, rfl, by decide, by decide⟩
  | 9, _ => ⟨_, rfl, rfl, by decide, by decide⟩
  | 10, _ => ⟨_, rfl, rfl, by decide, by decide⟩
  | 11, _ => ⟨_, rfl, rfl, by decide, by decide⟩
  | n + 12, h => absurd h (by omega)
theorem fK_8 : ∀ {o : Nat}, o < 12 → fo true (kA o) 6 8 (.int 0)
  | 0, _ => ⟨_, rfl, rfl, by decide, by decide⟩
  | 1, _ => ⟨_, rfl, rfl, by decide, by decide⟩
  | 2, _ => ⟨_, rfl, rfl, by decide, by decide⟩
  | 3, _ => ⟨_, rfl, rfl, by decide, by decide⟩
  | 4, _ => ⟨_, rfl, rfl, by decide, by decide⟩
  | 5, _ => ⟨_, rfl, rfl, by decide, by decide⟩
  | 6, _ => ⟨_, rfl, rfl, by decide, by decide⟩
  | 7, _ => ⟨_, rfl, rfl, by decide, by decide⟩
  | 8, _ => ⟨_, rfl, rfl, by decide, by decide⟩
  | 9, _ => ⟨_, rfl, rfl, by decide, by decide⟩
  | 10, _ => ⟨_, rfl, rfl, by decide, by decide⟩
  | 11, _ => ⟨_, rfl, rfl, by decide, by decide⟩
  | n + 12, h => absurd h (by omega)
theorem fK_9 : ∀ {o : Nat}, o < 12 → fo true (kA o) 6 9 (.ref (kA o + 5))
  | 0, _ => ⟨_, rfl, rfl, by decide, by decide⟩
  | 1, _ => ⟨_, rfl, rfl, by decide, by decide⟩
  | 2, _ => ⟨_, rfl, rfl, by decide, by decide⟩
  | 3, _ => ⟨_, rfl, rfl, by decide, by decide⟩
  | 4, _ => ⟨_, rfl, rfl, by decide, by decide⟩
  | 5, _ => ⟨_, rfl, rfl, by decide, by decide⟩
  | 6, _ => ⟨_, rfl, rfl, by decide, by decide⟩
  | 7, _ => ⟨_, rfl, rfl, by decide, by decide⟩
  | 8, _ => ⟨_, rfl, rfl, by decide, by decide⟩
  | 9, _ => ⟨_, rfl, rfl, by decide, by decide⟩
  | 10, _ => ⟨_, rfl, rfl, by decide, by decide⟩
  | 11, _ => ⟨_, rfl, rfl, by decide, by decide⟩
  | n + 12, h => absurd h (by omega)
theorem tK_5 : ∀ {o : Nat}, o < 12 → ta true (kA o + 5) 0 16
  | 0, _ => ⟨rfl, by decide, by decide⟩
  | 1, _ => ⟨rfl, by decide, by decide⟩
  | 2, _ => ⟨rfl, by decide, by decide⟩
  | 3, _ => ⟨rfl, by decide, by decide⟩
  | 4, _ => ⟨rfl, by decide, by decide⟩
  | 5, _ => ⟨rfl, by decide, by decide⟩
  | 6, _ => ⟨rfl, by decide, by decide⟩
  | 7, _ => ⟨rfl, by decide, by decide⟩
  | 8, _ => ⟨rfl, by decide, by decide⟩
  | 9, _ => ⟨rfl, by decide, by decide⟩
  | 10, _ => ⟨rfl, by decide, by decide⟩
  | 11, _ => ⟨rfl, by decide, by decide⟩
  | n + 12, h => absurd h (by omega)
theorem wc_217_47 : rx_ct (rt_P sc fm) 217 47 = some (1, 153, 2) := (by decide +kernel : rt_ct 217 47 = some (1, 153, 2))
theorem wf_217_26 : rx_ft (rt_P sc fm) 217 26 = some (6, 9) := (by decide +kernel : rt_ft 217 26 = some (6, 9))
theorem wi_217_0 : ri (rt_P sc fm) 217 0 (.aload_n 0) (1) := ri_of (by decide +kernel) rfl
theorem wi_217_1 : ri (rt_P sc fm) 217 1 (.lload_n 1) (2) := ri_of (by decide +kernel) rfl
theorem wi_217_10 : ri (rt_P sc fm) 217 10 (.aload_n 0) (11) := ri_of (by decide +kernel) rfl
theorem wi_217_11 : ri (rt_P sc fm) 217 11 (.bipush 15) (13) := ri_of (by decide +kernel) rfl
theorem wi_217_13 : ri (rt_P sc fm) 217 13 (.putfield 37) (16) := ri_of (by decide +kernel) rfl
theorem wi_217_16 : ri (rt_P sc fm) 217 16 (.aload_n 0) (17) := ri_of (by decide +kernel) rfl
theorem wi_217_17 : ri (rt_P sc fm) 217 17 (.iconst 0) (18) := ri_of (by decide +kernel) rfl
theorem wi_217_18 : ri (rt_P sc fm) 217 18 (.putfield 40) (21) := ri_of (by decide +kernel) rfl
theorem wi_217_2 : ri (rt_P sc fm) 217 2 (.putfield 29) (5) := ri_of (by decide +kernel) rfl
theorem wi_217_21 : ri (rt_P sc fm) 217 21 (.aload_n 0) (22) := ri_of (by decide +kernel) rfl
theorem wi_217_22 : ri (rt_P sc fm) 217 22 (.iconst 0) (23) := ri_of (by decide +kernel) rfl
theorem wi_217_23 : ri (rt_P sc fm) 217 23 (.putfield 44) (26) := ri_of (by decide +kernel) rfl
theorem wi_217_26 : ri (rt_P sc fm) 217 26 (.aload_n 0) (27) := ri_of (by decide +kernel) rfl
theorem wi_217_27 : ri (rt_P sc fm) 217 27 (.getfield 26) (30) := ri_of (by decide +kernel) rfl
theorem wi_217_30 : ri (rt_P sc fm) 217 30 (.iconst (-1)) (31) := ri_of (by decide +kernel) rfl
theorem wi_217_31 : ri (rt_P sc fm) 217 31 (.invokestatic 47) (34) := ri_of (by decide +kernel) rfl
theorem wi_217_34 : ri (rt_P sc fm) 217 34 (.return_) (35) := ri_of (by decide +kernel) rfl
theorem wi_217_5 : ri (rt_P sc fm) 217 5 (.aload_n 0) (6) := ri_of (by decide +kernel) rfl
theorem wi_217_6 : ri (rt_P sc fm) 217 6 (.iconst 0) (7) := ri_of (by decide +kernel) rfl
theorem wi_217_7 : ri (rt_P sc fm) 217 7 (.putfield 33) (10) := ri_of (by decide +kernel) rfl
theorem wp_217_29 : rx_pt (rt_P sc fm) 217 29 = some (6, 0, .long) := (by decide +kernel : rt_pt 217 29 = some (6, 0, .long))
theorem wp_217_33 : rx_pt (rt_P sc fm) 217 33 = some (6, 1, .int) := (by decide +kernel : rt_pt 217 33 = some (6, 1, .int))
theorem wp_217_37 : rx_pt (rt_P sc fm) 217 37 = some (6, 6, .int) := (by decide +kernel : rt_pt 217 37 = some (6, 6, .int))
theorem wp_217_40 : rx_pt (rt_P sc fm) 217 40 = some (6, 7, .boolean) := (by decide +kernel : rt_pt 217 40 = some (6, 7, .boolean))
theorem wp_217_44 : rx_pt (rt_P sc fm) 217 44 = some (6, 8, .boolean) := (by decide +kernel : rt_pt 217 44 = some (6, 8, .boolean))
theorem wr_217 : rx_rt (rt_P sc fm) 217 = none := (by decide +kernel : rt_rt 217 = none)
/-- MarkHouse$Kind.clear(J)V -/
def d_217 (n : Nat) (k0 : Nat) (a1 : Int64) (c : cS) : Option (cS) :=
  lt (pL c (kA k0) 0 a1) (fun c1 =>
  lt (pI c1 (kA k0) 1 0) (fun c3 =>
  lt (pI c3 (kA k0) 6 15) (fun c5 =>
  lt (pI c5 (kA k0) 7 0) (fun c7 =>
  lt (pI c7 (kA k0) 8 0) (fun c9 =>
  Option.bind (d_153 n (kA k0 + 5) 16 (-1) c9) (fun r11 =>
  some r11))))))
theorem sp_217 {F Lo n : Nat} {k0 : Nat} {a1 : Int64} {c y : cS} {w : cW} {K : cS → Prop} {Q : ((Option Value) ⊕ String) → List va_E → Prop} (hw : rOK fm w) (hF : 1 ≤ F) (hLo : 23 ≤ Lo) (hk0 : k0 < 12) (h : wp (d_217 n k0 a1 c) K) (hQ : ∀ r, K r → Q (.inl none) (hq true r y w)) : rs (rt_P sc fm) 217 F Lo 0 [(0, .ref (kA k0)), (1, .long a1)] [] (hq true c y w) Q := by
  unfold d_217 at h
  obtain ⟨lv, elv⟩ : ∃ lv : rx_L, lv = [(0, .ref (kA k0)), (1, .long a1)] := ⟨_, rfl⟩
  rw [← elv]
  have l0 : rx_ld lv 0 = some (.ref (kA k0)) := by rw [elv]; rfl
  have l1 : rx_ld lv 1 = some (.long a1) := by rw [elv]; rfl
  refine rs_aldn wi_217_0 l0 ?_
  refine rs_lldn wi_217_1 l1 ?_
  obtain ⟨c1, e2, h⟩ := wp_lt h
  refine dq_pl wi_217_2 wp_217_29 (fK_0 hk0) rfl rfl e2 ?_
  refine rs_aldn wi_217_5 l0 ?_
  refine rs_pure wi_217_6 rfl ?_
  refine rs_topi (v := 0) (by decide) ?_
  obtain ⟨c3, e4, h⟩ := wp_lt h
  refine dq_pi wi_217_7 wp_217_33 (fK_1 hk0) rfl rfl e4 ?_
  refine rs_aldn wi_217_10 l0 ?_
  refine rs_pure wi_217_11 rfl ?_
  refine rs_topi (v := 15) (by decide) ?_
  obtain ⟨c5, e6, h⟩ := wp_lt h
  refine dq_pi wi_217_13 wp_217_37 (fK_6 hk0) rfl rfl e6 ?_
  refine rs_aldn wi_217_16 l0 ?_
  refine rs_pure wi_217_17 rfl ?_
  refine rs_topi (v := 0) (by decide) ?_
  obtain ⟨c7, e8, h⟩ := wp_lt h
  refine dq_pi wi_217_18 wp_217_40 (fK_7 hk0) (nb_n (by decide)) (nb_f (by decide)) e8 ?_
  refine rs_aldn wi_217_21 l0 ?_
  refine rs_pure wi_217_22 rfl ?_
  refine rs_topi (v := 0) (by decide) ?_
  obtain ⟨c9, e10, h⟩ := wp_lt h
  refine dq_pi wi_217_23 wp_217_44 (fK_8 hk0) (nb_n (by decide)) (nb_f (by decide)) e10 ?_
  refine rs_aldn wi_217_26 l0 ?_
  refine dq_gr wi_217_27 wf_217_26 (fK_9 hk0) ?_
  refine rs_pure wi_217_30 rfl ?_
  refine rs_topi (v := (-1)) (by decide) ?_
  refine rs_S wi_217_31 wc_217_47 (Or.inl rfl) rfl (Nat.le_trans (by decide) hF) (ml_le wm_153 (Nat.le_trans (by decide) hLo)) rfl (sp_153 hw (Nat.le_trans (by decide : 0 ≤ 1 - 1) (Nat.sub_le_sub_right hF 1)) (ml_sub wm_153 (Nat.le_trans (by decide : 0 ≤ 23 - 23) (Nat.sub_le_sub_right hLo 23))) (tK_5 hk0) (wp_bind h) (fun r11 h => rs_back0 ?_))
  exact rs_vret wi_217_34 wr_217 (hQ r11 h)
theorem fK_2 : ∀ {o : Nat}, o < 12 → fo true (kA o) 6 2 (.ref (kA o + 1))
  | 0, _ => ⟨_, rfl, rfl, by decide, by decide⟩
  | 1, _ => ⟨_, rfl, rfl, by decide, by decide⟩
  | 2, _ => ⟨_, rfl, rfl, by decide, by decide⟩
  | 3, _ => ⟨_, rfl, rfl, by decide, by decide⟩
  | 4, _ => ⟨_, rfl, rfl, by decide, by decide⟩
  | 5, _ => ⟨_, rfl, rfl, by decide, by decide⟩
  | 6, _ => ⟨_, rfl, rfl, by decide, by decide⟩
  | 7, _ => ⟨_, rfl, rfl, by decide, by decide⟩
  | 8, _ => ⟨_, rfl, rfl, by decide, by decide⟩
  | 9, _ => ⟨_, rfl, rfl, by decide, by decide⟩
  | 10, _ => ⟨_, rfl, rfl, by decide, by decide⟩
  | 11, _ => ⟨_, rfl, rfl, by decide, by decide⟩
  | n + 12, h => absurd h (by omega)
theorem tK_1 : ∀ {o : Nat}, o < 12 → ta true (kA o + 1) 1 4
  | 0, _ => ⟨rfl, by decide, by decide⟩
  | 1, _ => ⟨rfl, by decide, by decide⟩
  | 2, _ => ⟨rfl, by decide, by decide⟩
  | 3, _ => ⟨rfl, by decide, by decide⟩
  | 4, _ => ⟨rfl, by decide, by decide⟩
  | 5, _ => ⟨rfl, by decide, by decide⟩
  | 6, _ => ⟨rfl, by decide, by decide⟩
  | 7, _ => ⟨rfl, by decide, by decide⟩
  | 8, _ => ⟨rfl, by decide, by decide⟩
  | 9, _ => ⟨rfl, by decide, by decide⟩
  | 10, _ => ⟨rfl, by decide, by decide⟩
  | 11, _ => ⟨rfl, by decide, by decide⟩
  | n + 12, h => absurd h (by omega)
theorem wf_218_33 : rx_ft (rt_P sc fm) 218 33 = some (6, 1) := (by decide +kernel : rt_ft 218 33 = some (6, 1))
theorem wf_218_9 : rx_ft (rt_P sc fm) 218 9 = some (6, 2) := (by decide +kernel : rt_ft 218 9 = some (6, 2))
theorem wi_218_0 : ri (rt_P sc fm) 218 0 (.iconst 0) (1) := ri_of (by decide +kernel) rfl
theorem wi_218_1 : ri (rt_P sc fm) 218 1 (.istore_n 3) (2) := ri_of (by decide +kernel) rfl
theorem wi_218_10 : ri (rt_P sc fm) 218 10 (.aload_n 0) (11) := ri_of (by decide +kernel) rfl
theorem wi_218_11 : ri (rt_P sc fm) 218 11 (.getfield 9) (14) := ri_of (by decide +kernel) rfl
theorem wi_218_14 : ri (rt_P sc fm) 218 14 (.iload_n 3) (15) := ri_of (by decide +kernel) rfl
theorem wi_218_15 : ri (rt_P sc fm) 218 15 (.laload) (16) := ri_of (by decide +kernel) rfl
theorem wi_218_16 : ri (rt_P sc fm) 218 16 (.lload_n 1) (17) := ri_of (by decide +kernel) rfl
theorem wi_218_17 : ri (rt_P sc fm) 218 17 (.lcmp) (18) := ri_of (by decide +kernel) rfl
theorem wi_218_18 : ri (rt_P sc fm) 218 18 (.ifCond .ne 5) (21) := ri_of (by decide +kernel) rfl
theorem wi_218_2 : ri (rt_P sc fm) 218 2 (.iload_n 3) (3) := ri_of (by decide +kernel) rfl
theorem wi_218_21 : ri (rt_P sc fm) 218 21 (.iload_n 3) (22) := ri_of (by decide +kernel) rfl
theorem wi_218_22 : ri (rt_P sc fm) 218 22 (.ireturn) (23) := ri_of (by decide +kernel) rfl
theorem wi_218_23 : ri (rt_P sc fm) 218 23 (.iinc 3 1) (26) := ri_of (by decide +kernel) rfl
theorem wi_218_26 : ri (rt_P sc fm) 218 26 (.goto (-24)) (29) := ri_of (by decide +kernel) rfl
theorem wi_218_29 : ri (rt_P sc fm) 218 29 (.iconst (-1)) (30) := ri_of (by decide +kernel) rfl
theorem wi_218_3 : ri (rt_P sc fm) 218 3 (.aload_n 0) (4) := ri_of (by decide +kernel) rfl
theorem wi_218_30 : ri (rt_P sc fm) 218 30 (.ireturn) (31) := ri_of (by decide +kernel) rfl
theorem wi_218_4 : ri (rt_P sc fm) 218 4 (.getfield 33) (7) := ri_of (by decide +kernel) rfl
theorem wi_218_7 : ri (rt_P sc fm) 218 7 (.if_icmp .ge 22) (10) := ri_of (by decide +kernel) rfl
theorem wr_218 : rx_rt (rt_P sc fm) 218 = (some FieldType.int) := (by decide +kernel : rt_rt 218 = (some FieldType.int))
/-- MarkHouse$Kind.memberOf(J)I -/
def d_218 (n : Nat) (k0 : Nat) (a1 : Int64) (c : cS) : Option (Int32) :=
  Option.bind (whl (R := (Unit) ⊕ (Int32)) (fun s2 : Int32 =>
    if (c.1 (kA k0) 1) ≤ s2 then
      some (.inr (.inl ()))
    else
      if ib s2 4 then
      if (lg_cmp (c.2 (kA k0 + 1) (ix s2)) a1) = 0 then
        some (.inr (.inr s2))
      else
        lt (s2 + 1 : Int32) (fun v5 =>
        some (.inl v5))
      else none) n 0)
  (Sum.elim (fun x7 : Unit =>
    some (-1))
  (fun x8 : Int32 =>
    some x8))
theorem sp_218 {F Lo n : Nat} {k0 : Nat} {a1 : Int64} {c y : cS} {w : cW} {K : Int32 → Prop} {Q : ((Option Value) ⊕ String) → List va_E → Prop} (hw : rOK fm w) (hF : 0 ≤ F) (hLo : 0 ≤ Lo) (hk0 : k0 < 12) (h : wp (d_218 n k0 a1 c) K) (hQ : ∀ r, K r → Q (.inl (some (.int r))) (hq true c y w)) : rs (rt_P sc fm) 218 F Lo 0 [(0, .ref (kA k0)), (1, .long a1)] [] (hq true c y w) Q := by
  unfold d_218 at h
  obtain ⟨lv, elv⟩ : ∃ lv : rx_L, lv = [(0, .ref (kA k0)), (1, .long a1)] := ⟨_, rfl⟩
  rw [← elv]
  have l0 : rx_ld lv 0 = some (.ref (kA k0)) := by rw [elv]; rfl
  have l1 : rx_ld lv 1 = some (.long a1) := by rw [elv]; rfl
  refine rs_pure wi_218_0 rfl ?_
  refine rs_topi (v := 0) (by decide) ?_
  refine dl_istn wi_218_1 rfl (fun lv l3 t1 => ?_)
  have l0 := t1 _ _ (by decide) (Or.inl rfl) l0
  have l1 := t1 _ _ (by decide) (Or.inr (by decide)) l1
  refine whl_ex (A := fun s2 : Int32 => ∀ lv, rx_ld lv 0 = some (.ref (kA k0)) → rx_ld lv 1 = some (.long a1) → rx_ld lv 3 = some (.int s2) → rs (rt_P sc fm) 218 F Lo 2 lv [] (hq true c y w) Q) (B := (Sum.elim (fun x7 : Unit => ∀ lv, rs (rt_P sc fm) 218 F Lo 29 lv [] (hq true c y w) Q) (fun x8 : Int32 => ∀ lv, rx_ld lv 3 = some (.int x8) → rs (rt_P sc fm) 218 F Lo 21 lv [] (hq true c y w) Q))) ?_ ?_ _ _ (wp_bind h) _ l0 l1 l3
  · intro s2 h lv l0 l1 l3
    refine rs_ildn wi_218_2 l3 ?_
    refine rs_aldn wi_218_3 l0 ?_
    refine dq_gi wi_218_4 wf_218_33 (fK_1 hk0) ?_
    refine rs_icge (tg := 29) wi_218_7 ⟨by decide, by decide⟩ (fun q => ?_) (fun q => ?_)
    ·
      have h := wp_pos h q
      exact h _
    ·
      have h := wp_neg h q
      refine rs_aldn wi_218_10 l0 ?_
      refine dq_gr wi_218_11 wf_218_9 (fK_2 hk0) ?_
      refine rs_ildn wi_218_14 l3 ?_
      obtain ⟨g3, h⟩ := wp_gd h
      refine dq_lald wi_218_15 (tK_1 hk0) g3 ?_
      refine rs_lldn wi_218_16 l1 ?_
      refine rs_pure wi_218_17 rfl ?_
      refine rs_ifne (tg := 23) wi_218_18 ⟨by decide, by decide⟩ (fun q => ?_) (fun q => ?_)
      ·
        have h := wp_neg h q
        obtain ⟨v5, e6, h⟩ := wp_lt h
        refine dl_inc wi_218_23 l3 rfl e6 (fun lv l3 t4 => ?_)
        have l0 := t4 _ _ (by decide) (Or.inl rfl) l0
        have l1 := t4 _ _ (by decide) (Or.inr (by decide)) l1
        refine rs_goto (tg := 2) wi_218_26 ⟨by decide, by decide⟩ ?_
        exact h _ l0 l1 l3
      ·
        have h := wp_pos h q
        exact h _ l3
  ·
    refine sum_all ?_ ?_
    ·
      intro x7 h lv
      have h := wp_inl h
      refine rs_pure wi_218_29 rfl ?_
      refine rs_topi (v := (-1)) (by decide) ?_
      exact rs_iret wi_218_30 wr_218 rfl (hQ (-1) h)
    ·
      intro x8 h lv l3
      have h := wp_inr h
      refine rs_ildn wi_218_21 l3 ?_
      exact rs_iret wi_218_22 wr_218 rfl (hQ x8 h)
theorem wc_278_149 : rx_ct (rt_P sc fm) 278 149 = some (0, 258, 1) := (by decide +kernel : rt_ct 278 149 = some (0, 258, 1))
theorem wc_278_61 : rx_ct (rt_P sc fm) 278 61 = some (0, 41, 2) := (by decide +kernel : rt_ct 278 61 = some (0, 41, 2))
theorem wc_278_79 : rx_ct (rt_P sc fm) 278 79 = some (0, 42, 0) := (by decide +kernel : rt_ct 278 79 = some (0, 42, 0))
theorem wc_278_82 : rx_ct (rt_P sc fm) 278 82 = some (0, 43, 0) := (by decide +kernel : rt_ct 278 82 = some (0, 43, 0))
theorem wf_278_49 : rx_ft (rt_P sc fm) 278 49 = some (10, 7) := (by decide +kernel : rt_ft 278 49 = some (10, 7))
theorem wf_278_85 : rx_ft (rt_P sc fm) 278 85 = some (3, 4) := (by decide +kernel : rt_ft 278 85 = some (3, 4))
theorem wf_278_9 : rx_ft (rt_P sc fm) 278 9 = some (10, 0) := (by decide +kernel : rt_ft 278 9 = some (10, 0))
theorem wh0_278_27 : rx_ht (rt_P sc fm) 278 27 "java/lang/IllegalArgumentException" = none := (by decide +kernel : rt_ht 278 27 "java/lang/IllegalArgumentException" = none)
theorem wh0_278_60 : rx_ht (rt_P sc fm) 278 60 "java/lang/IllegalArgumentException" = none := (by decide +kernel : rt_ht 278 60 "java/lang/IllegalArgumentException" = none)
theorem wh0_278_88 : rx_ht (rt_P sc fm) 278 88 "java/lang/IllegalArgumentException" = none := (by decide +kernel : rt_ht 278 88 "java/lang/IllegalArgumentException" = none)
theorem whh_278 : rx_hh (rt_P sc fm) 278 = [] := (by decide +kernel : rt_hh 278 = [])
theorem wi_278_0 : ri (rt_P sc fm) 278 0 (.aload_n 0) (1) := ri_of (by decide +kernel) rfl
theorem wi_278_1 : ri (rt_P sc fm) 278 1 (.invokevirtual 82) (4) := ri_of (by decide +kernel) rfl
theorem wi_278_10 : ri (rt_P sc fm) 278 10 (.iload_n 2) (11) := ri_of (by decide +kernel) rfl
theorem wi_278_102 : ri (rt_P sc fm) 278 102 (.laload) (103) := ri_of (by decide +kernel) rfl
theorem wi_278_103 : ri (rt_P sc fm) 278 103 (.lstore 4) (105) := ri_of (by decide +kernel) rfl
theorem wi_278_105 : ri (rt_P sc fm) 278 105 (.aload_n 0) (106) := ri_of (by decide +kernel) rfl
theorem wi_278_106 : ri (rt_P sc fm) 278 106 (.dup) (107) := ri_of (by decide +kernel) rfl
theorem wi_278_107 : ri (rt_P sc fm) 278 107 (.getfield 49) (110) := ri_of (by decide +kernel) rfl
theorem wi_278_11 : ri (rt_P sc fm) 278 11 (.iconst 2) (12) := ri_of (by decide +kernel) rfl
theorem wi_278_110 : ri (rt_P sc fm) 278 110 (.iconst 1) (111) := ri_of (by decide +kernel) rfl
theorem wi_278_111 : ri (rt_P sc fm) 278 111 (.iadd) (112) := ri_of (by decide +kernel) rfl
theorem wi_278_112 : ri (rt_P sc fm) 278 112 (.putfield 49) (115) := ri_of (by decide +kernel) rfl
theorem wi_278_115 : ri (rt_P sc fm) 278 115 (.iload_n 3) (116) := ri_of (by decide +kernel) rfl
theorem wi_278_116 : ri (rt_P sc fm) 278 116 (.ifCond .eq 9) (119) := ri_of (by decide +kernel) rfl
theorem wi_278_119 : ri (rt_P sc fm) 278 119 (.lload 4) (121) := ri_of (by decide +kernel) rfl
theorem wi_278_12 : ri (rt_P sc fm) 278 12 (.if_icmp .eq 18) (15) := ri_of (by decide +kernel) rfl
theorem wi_278_121 : ri (rt_P sc fm) 278 121 (.lneg) (122) := ri_of (by decide +kernel) rfl
theorem wi_278_122 : ri (rt_P sc fm) 278 122 (.goto 5) (125) := ri_of (by decide +kernel) rfl
theorem wi_278_125 : ri (rt_P sc fm) 278 125 (.lload 4) (127) := ri_of (by decide +kernel) rfl
theorem wi_278_127 : ri (rt_P sc fm) 278 127 (.lreturn) (128) := ri_of (by decide +kernel) rfl
theorem wi_278_15 : ri (rt_P sc fm) 278 15 (.iload_n 2) (16) := ri_of (by decide +kernel) rfl
theorem wi_278_16 : ri (rt_P sc fm) 278 16 (.bipush 45) (18) := ri_of (by decide +kernel) rfl
theorem wi_278_18 : ri (rt_P sc fm) 278 18 (.if_icmp .eq 12) (21) := ri_of (by decide +kernel) rfl
theorem wi_278_21 : ri (rt_P sc fm) 278 21 (.aload_n 0) (22) := ri_of (by decide +kernel) rfl
theorem wi_278_22 : ri (rt_P sc fm) 278 22 (.iconst 2) (23) := ri_of (by decide +kernel) rfl
theorem wi_278_23 : ri (rt_P sc fm) 278 23 (.aload_n 0) (24) := ri_of (by decide +kernel) rfl
theorem wi_278_24 : ri (rt_P sc fm) 278 24 (.invokevirtual 79) (27) := ri_of (by decide +kernel) rfl
theorem wi_278_27 : ri (rt_P sc fm) 278 27 (.invokevirtual 61) (30) := ri_of (by decide +kernel) rfl
theorem wi_278_30 : ri (rt_P sc fm) 278 30 (.iload_n 2) (31) := ri_of (by decide +kernel) rfl
theorem wi_278_31 : ri (rt_P sc fm) 278 31 (.iconst 3) (32) := ri_of (by decide +kernel) rfl
theorem wi_278_32 : ri (rt_P sc fm) 278 32 (.if_icmp .ne 7) (35) := ri_of (by decide +kernel) rfl
theorem wi_278_35 : ri (rt_P sc fm) 278 35 (.iconst 1) (36) := ri_of (by decide +kernel) rfl
theorem wi_278_36 : ri (rt_P sc fm) 278 36 (.goto 4) (39) := ri_of (by decide +kernel) rfl
theorem wi_278_39 : ri (rt_P sc fm) 278 39 (.iconst 0) (40) := ri_of (by decide +kernel) rfl
theorem wi_278_4 : ri (rt_P sc fm) 278 4 (.istore_n 2) (5) := ri_of (by decide +kernel) rfl
theorem wi_278_40 : ri (rt_P sc fm) 278 40 (.iload_n 1) (41) := ri_of (by decide +kernel) rfl
theorem wi_278_41 : ri (rt_P sc fm) 278 41 (.iconst 2) (42) := ri_of (by decide +kernel) rfl
theorem wi_278_42 : ri (rt_P sc fm) 278 42 (.if_icmp .ne 7) (45) := ri_of (by decide +kernel) rfl
theorem wi_278_45 : ri (rt_P sc fm) 278 45 (.iconst 1) (46) := ri_of (by decide +kernel) rfl
theorem wi_278_46 : ri (rt_P sc fm) 278 46 (.goto 4) (49) := ri_of (by decide +kernel) rfl
theorem wi_278_49 : ri (rt_P sc fm) 278 49 (.iconst 0) (50) := ri_of (by decide +kernel) rfl
theorem wi_278_5 : ri (rt_P sc fm) 278 5 (.iload_n 2) (6) := ri_of (by decide +kernel) rfl
theorem wi_278_50 : ri (rt_P sc fm) 278 50 (.if_icmp .eq 13) (53) := ri_of (by decide +kernel) rfl
theorem wi_278_53 : ri (rt_P sc fm) 278 53 (.aload_n 0) (54) := ri_of (by decide +kernel) rfl
theorem wi_278_54 : ri (rt_P sc fm) 278 54 (.bipush 7) (56) := ri_of (by decide +kernel) rfl
theorem wi_278_56 : ri (rt_P sc fm) 278 56 (.aload_n 0) (57) := ri_of (by decide +kernel) rfl
theorem wi_278_57 : ri (rt_P sc fm) 278 57 (.invokevirtual 79) (60) := ri_of (by decide +kernel) rfl
theorem wi_278_6 : ri (rt_P sc fm) 278 6 (.iconst 3) (7) := ri_of (by decide +kernel) rfl
theorem wi_278_60 : ri (rt_P sc fm) 278 60 (.invokevirtual 61) (63) := ri_of (by decide +kernel) rfl
theorem wi_278_63 : ri (rt_P sc fm) 278 63 (.aload_n 0) (64) := ri_of (by decide +kernel) rfl
theorem wi_278_64 : ri (rt_P sc fm) 278 64 (.bipush 45) (66) := ri_of (by decide +kernel) rfl
theorem wi_278_66 : ri (rt_P sc fm) 278 66 (.invokevirtual 149) (69) := ri_of (by decide +kernel) rfl
theorem wi_278_69 : ri (rt_P sc fm) 278 69 (.istore_n 3) (70) := ri_of (by decide +kernel) rfl
theorem wi_278_7 : ri (rt_P sc fm) 278 7 (.if_icmp .eq 23) (10) := ri_of (by decide +kernel) rfl
theorem wi_278_70 : ri (rt_P sc fm) 278 70 (.iload_n 3) (71) := ri_of (by decide +kernel) rfl
theorem wi_278_71 : ri (rt_P sc fm) 278 71 (.ifCond .eq 20) (74) := ri_of (by decide +kernel) rfl
theorem wi_278_74 : ri (rt_P sc fm) 278 74 (.aload_n 0) (75) := ri_of (by decide +kernel) rfl
theorem wi_278_75 : ri (rt_P sc fm) 278 75 (.invokevirtual 82) (78) := ri_of (by decide +kernel) rfl
theorem wi_278_78 : ri (rt_P sc fm) 278 78 (.iconst 2) (79) := ri_of (by decide +kernel) rfl
theorem wi_278_79 : ri (rt_P sc fm) 278 79 (.if_icmp .eq 12) (82) := ri_of (by decide +kernel) rfl
theorem wi_278_82 : ri (rt_P sc fm) 278 82 (.aload_n 0) (83) := ri_of (by decide +kernel) rfl
theorem wi_278_83 : ri (rt_P sc fm) 278 83 (.iconst 2) (84) := ri_of (by decide +kernel) rfl
theorem wi_278_84 : ri (rt_P sc fm) 278 84 (.aload_n 0) (85) := ri_of (by decide +kernel) rfl
theorem wi_278_85 : ri (rt_P sc fm) 278 85 (.invokevirtual 79) (88) := ri_of (by decide +kernel) rfl
theorem wi_278_88 : ri (rt_P sc fm) 278 88 (.invokevirtual 61) (91) := ri_of (by decide +kernel) rfl
theorem wi_278_91 : ri (rt_P sc fm) 278 91 (.aload_n 0) (92) := ri_of (by decide +kernel) rfl
theorem wi_278_92 : ri (rt_P sc fm) 278 92 (.getfield 9) (95) := ri_of (by decide +kernel) rfl
theorem wi_278_95 : ri (rt_P sc fm) 278 95 (.getfield 85) (98) := ri_of (by decide +kernel) rfl
theorem wi_278_98 : ri (rt_P sc fm) 278 98 (.aload_n 0) (99) := ri_of (by decide +kernel) rfl
theorem wi_278_99 : ri (rt_P sc fm) 278 99 (.getfield 49) (102) := ri_of (by decide +kernel) rfl
theorem wp_278_49 : rx_pt (rt_P sc fm) 278 49 = some (10, 7, .int) := (by decide +kernel : rt_pt 278 49 = some (10, 7, .int))
theorem wr_278 : rx_rt (rt_P sc fm) 278 = (some FieldType.long) := (by decide +kernel : rt_rt 278 = (some FieldType.long))
/-- MarkHouse$Reader.readValue(I)J -/
def d_278 (n : Nat) (a1 : Int32) (c : cS) : Option ((Int64 × cS) ⊕ cS) :=
  Option.bind (d_43 n c) (fun v1 =>
  jn (fun p3 : cS =>
    jn (fun p4 : Int32 =>
      jn (fun p5 : Int32 =>
        jn (fun p6 : cS =>
          Option.bind (d_258 n 45 p6) (fun r7 =>
          jn (fun p9 : cS =>
            if ib (p9.1 145 7) 4001 then
            lt ((p9.2 5 (ix (p9.1 145 7))) : Int64) (fun v12 =>
            lt (pI p9 145 7 ((p9.1 145 7) + 1)) (fun c14 =>
            jn (fun p16 : Int64 =>
              some (.inl (p16, c14)))
            (fun j127 =>
            if r7.1 = 0 then
              j127 v12
            else
              j127 (-v12))))
            else none)
          (fun j91 =>
          if r7.1 = 0 then
            j91 r7.2
          else
            Option.bind (d_43 n r7.2) (fun v17 =>
            if v17 = 2 then
              j91 r7.2
            else
              Option.bind (d_42 n r7.2) (fun v18 =>
              Option.bind (d_41 n 2 v18 r7.2) (Sum.elim (fun r19 =>
              j91 r19)
              (fun z20 => some (.inr z20))))))))
        (fun j63 =>
        if p4 = p5 then
          j63 p3
        else
          Option.bind (d_42 n p3) (fun v21 =>
          Option.bind (d_41 n 7 v21 p3) (Sum.elim (fun r22 =>
          j63 r22)
          (fun z23 => some (.inr z23))))))
      (fun j50 =>
      if a1 = 2 then
        j50 1
      else
        j50 0))
    (fun j40 =>
    if v1 = 3 then
      j40 1
    else
      j40 0))
  (fun j30 =>
  if v1 = 3 then
    j30 c
  else
    if v1 = 2 then
      j30 c
    else
      if v1 = 45 then
        j30 c
      else
        Option.bind (d_42 n c) (fun v24 =>
        Option.bind (d_41 n 2 v24 c) (Sum.elim (fun r25 =>
        j30 r25)
        (fun z26 => some (.inr z26))))))
theorem sp_278 {F Lo n : Nat} {a1 : Int32} {c y : cS} {w : cW} {K : (Int64 × cS) ⊕ cS → Prop} {Q : ((Option Value) ⊕ String) → List va_E → Prop} (hw : rOK fm w) (hF : 7 ≤ F) (hLo : 104 ≤ Lo)  (h : wp (d_278 n a1 c) K) (hQ : ∀ r, K (.inl r) → Q (.inl (some (.long r.1))) (hq true r.2 y w)) (hT : ∀ r, K (.inr r) → Q (.inr "java/lang/IllegalArgumentException") (hq true r y w)) : rs (rt_P sc fm) 278 F Lo 0 [(0, .ref 145), (1, .int a1)] [] (hq true c y w) Q := by
  unfold d_278 at h
  obtain ⟨lv, elv⟩ : ∃ lv : rx_L, lv = [(0, .ref 145), (1, .int a1)] := ⟨_, rfl⟩
  rw [← elv]
  have l0 : rx_ld lv 0 = some (.ref 145) := by rw [elv]; rfl
  have l1 : rx_ld lv 1 = some (.int a1) := by rw [elv]; rfl
  refine rs_aldn wi_278_0 l0 ?_
  refine rs_V wi_278_1 wc_278_82 rfl (dq_isa tf_145_0 wa_10_43) (Nat.le_trans (by decide) hF) (ml_le wm_43 (Nat.le_trans (by decide) hLo)) rfl (sp_43 hw (Nat.le_trans (by decide : 0 ≤ 7 - 1) (Nat.sub_le_sub_right hF 1)) (ml_sub wm_43 (Nat.le_trans (by decide : 0 ≤ 104 - 20) (Nat.sub_le_sub_right hLo 20))) (wp_bind h) (fun v1 h => rs_back1 ?_))
  refine dl_istn wi_278_4 rfl (fun lv l2 t2 => ?_)
  have l0 := t2 _ _ (by decide) (Or.inl rfl) l0
  have l1 := t2 _ _ (by decide) (Or.inl rfl) l1
  refine rs_ildn wi_278_5 l2 ?_
  refine rs_pure wi_278_6 rfl ?_
  refine rs_topi (v := 3) (by decide) ?_
  refine wp_jn (B := fun p3 : cS => ∀ lv, rx_ld lv 0 = some (.ref 145) → rx_ld lv 1 = some (.int a1) → rx_ld lv 2 = some (.int v1) → rs (rt_P sc fm) 278 F Lo 30 lv [] (hq true p3 y w) Q) h (fun p3 h lv l0 l1 l2 => ?_) (fun j30 hj30 h => ?_)
  ·
    refine rs_ildn wi_278_30 l2 ?_
    refine rs_pure wi_278_31 rfl ?_
    refine rs_topi (v := 3) (by decide) ?_
    refine wp_jn (B := fun p4 : Int32 => ∀ lv, rx_ld lv 0 = some (.ref 145) → rx_ld lv 1 = some (.int a1) → rs (rt_P sc fm) 278 F Lo 40 lv [.int p4] (hq true p3 y w) Q) h (fun p4 h lv l0 l1 => ?_) (fun j40 hj40 h => ?_)
    ·
      refine rs_ildn wi_278_40 l1 ?_
      refine rs_pure wi_278_41 rfl ?_
      refine rs_topi (v := 2) (by decide) ?_
      refine wp_jn (B := fun p5 : Int32 => ∀ lv, rx_ld lv 0 = some (.ref 145) → rs (rt_P sc fm) 278 F Lo 50 lv [.int p5, .int p4] (hq true p3 y w) Q) h (fun p5 h lv l0 => ?_) (fun j50 hj50 h => ?_)
      ·
        refine wp_jn (B := fun p6 : cS => ∀ lv, rx_ld lv 0 = some (.ref 145) → rs (rt_P sc fm) 278 F Lo 63 lv [] (hq true p6 y w) Q) h (fun p6 h lv l0 => ?_) (fun j63 hj63 h => ?_)
        ·
          refine rs_aldn wi_278_63 l0 ?_
          refine rs_pure wi_278_64 rfl ?_
          refine rs_topi (v := 45) (by decide) ?_
          refine rs_V wi_278_66 wc_278_149 rfl (dq_isa tf_145_0 wa_10_258) (Nat.le_trans (by decide) hF) (ml_le wm_258 (Nat.le_trans (by decide) hLo)) rfl (sp_258 hw (Nat.le_trans (by decide : 0 ≤ 7 - 1) (Nat.sub_le_sub_right hF 1)) (ml_sub wm_258 (Nat.le_trans (by decide : 0 ≤ 104 - 22) (Nat.sub_le_sub_right hLo 22))) (wp_bind h) (fun r7 h => rs_back1 ?_))
          refine dl_istn wi_278_69 rfl (fun lv l3 t8 => ?_)
          have l0 := t8 _ _ (by decide) (Or.inl rfl) l0
          refine rs_ildn wi_278_70 l3 ?_
          refine wp_jn (B := fun p9 : cS => ∀ lv, rx_ld lv 0 = some (.ref 145) → rx_ld lv 3 = some (.int r7.1) → rs (rt_P sc fm) 278 F Lo 91 lv [] (hq true p9 y w) Q) h (fun p9 h lv l0 l3 => ?_) (fun j91 hj91 h => ?_)
          ·
            refine rs_aldn wi_278_91 l0 ?_
            refine dq_gr wi_278_92 wf_278_9 tf_145_0 ?_
            refine dq_gr wi_278_95 wf_278_85 tf_1_4 ?_
            refine rs_aldn wi_278_98 l0 ?_
            refine dq_gi wi_278_99 wf_278_49 tf_145_7 ?_
            obtain ⟨g10, h⟩ := wp_gd h
            refine dq_lald wi_278_102 t_5 g10 ?_
            obtain ⟨v12, e13, h⟩ := wp_lt h
            refine rs_topl e13 ?_
            refine dl_lst wi_278_103 rfl (fun lv l4 t11 => ?_)
            have l0 := t11 _ _ (by decide) (by decide) (Or.inl rfl) l0
            have l3 := t11 _ _ (by decide) (by decide) (Or.inl rfl) l3
            refine rs_aldn wi_278_105 l0 ?_
            refine rs_pure wi_278_106 rfl ?_
            refine dq_gi wi_278_107 wf_278_49 tf_145_7 ?_
            refine rs_pure wi_278_110 rfl ?_
            refine rs_topi (v := 1) (by decide) ?_
            refine rs_pure wi_278_111 rfl ?_
            obtain ⟨c14, e15, h⟩ := wp_lt h
            refine dq_pi wi_278_112 wp_278_49 tf_145_7 rfl rfl e15 ?_
            refine rs_ildn wi_278_115 l3 ?_
            refine wp_jn (B := fun p16 : Int64 => ∀ lv, rs (rt_P sc fm) 278 F Lo 127 lv [.long p16] (hq true c14 y w) Q) h (fun p16 h lv => ?_) (fun j127 hj127 h => ?_)
            ·
              exact rs_lret wi_278_127 wr_278 (hQ (p16, c14) h)
            refine rs_ifeq (tg := 125) wi_278_116 ⟨by decide, by decide⟩ (fun q => ?_) (fun q => ?_)
            ·
              have h := wp_pos h q
              refine rs_lld wi_278_125 l4 ?_
              exact hj127 _ h _
            ·
              have h := wp_neg h q
              refine rs_lld wi_278_119 l4 ?_
              refine rs_pure wi_278_121 rfl ?_
              refine rs_goto (tg := 127) wi_278_122 ⟨by decide, by decide⟩ ?_
              exact hj127 _ h _
          refine rs_ifeq (tg := 91) wi_278_71 ⟨by decide, by decide⟩ (fun q => ?_) (fun q => ?_)
          ·
            have h := wp_pos h q
            exact hj91 _ h _ l0 l3
          ·
            have h := wp_neg h q
            refine rs_aldn wi_278_74 l0 ?_
            refine rs_V wi_278_75 wc_278_82 rfl (dq_isa tf_145_0 wa_10_43) (Nat.le_trans (by decide) hF) (ml_le wm_43 (Nat.le_trans (by decide) hLo)) rfl (sp_43 hw (Nat.le_trans (by decide : 0 ≤ 7 - 1) (Nat.sub_le_sub_right hF 1)) (ml_sub wm_43 (Nat.le_trans (by decide : 0 ≤ 104 - 20) (Nat.sub_le_sub_right hLo 20))) (wp_bind h) (fun v17 h => rs_back1 ?_))
            refine rs_pure wi_278_78 rfl ?_
            refine rs_topi (v := 2) (by decide) ?_
            refine rs_iceq (tg := 91) wi_278_79 ⟨by decide, by decide⟩ (fun q => ?_) (fun q => ?_)
            ·
              have h := wp_pos h q
              exact hj91 _ h _ l0 l3
            ·
              have h := wp_neg h q
              refine rs_aldn wi_278_82 l0 ?_
              refine rs_pure wi_278_83 rfl ?_
              refine rs_topi (v := 2) (by decide) ?_
              refine rs_aldn wi_278_84 l0 ?_
              refine rs_V wi_278_85 wc_278_79 rfl (dq_isa tf_145_0 wa_10_42) (Nat.le_trans (by decide) hF) (ml_le wm_42 (Nat.le_trans (by decide) hLo)) rfl (sp_42 hw (Nat.le_trans (by decide : 0 ≤ 7 - 1) (Nat.sub_le_sub_right hF 1)) (ml_sub wm_42 (Nat.le_trans (by decide : 0 ≤ 104 - 20) (Nat.sub_le_sub_right hLo 20))) (wp_bind h) (fun v18 h => rs_back1 ?_))
              refine rs_V wi_278_88 wc_278_61 rfl (dq_isa tf_145_0 wa_10_41) (Nat.le_trans (by decide) hF) (ml_le wm_41 (Nat.le_trans (by decide) hLo)) rfl (sp_41 hw (Nat.le_trans (by decide : 6 ≤ 7 - 1) (Nat.sub_le_sub_right hF 1)) (ml_sub wm_41 (Nat.le_trans (by decide : 82 ≤ 104 - 22) (Nat.sub_le_sub_right hLo 22))) (wp_bind h) (fun r19 h => rs_back0 ?_) (fun z20 h => rs_up wh0_278_88 whh_278 (hT z20 (wp_inr h))))
              have h := wp_inl h
              exact hj91 _ h _ l0 l3
        refine rs_iceq (tg := 63) wi_278_50 ⟨by decide, by decide⟩ (fun q => ?_) (fun q => ?_)
        ·
          have h := wp_pos h q
          exact hj63 _ h _ l0
        ·
          have h := wp_neg h q
          refine rs_aldn wi_278_53 l0 ?_
          refine rs_pure wi_278_54 rfl ?_
          refine rs_topi (v := 7) (by decide) ?_
          refine rs_aldn wi_278_56 l0 ?_
          refine rs_V wi_278_57 wc_278_79 rfl (dq_isa tf_145_0 wa_10_42) (Nat.le_trans (by decide) hF) (ml_le wm_42 (Nat.le_trans (by decide) hLo)) rfl (sp_42 hw (Nat.le_trans (by decide : 0 ≤ 7 - 1) (Nat.sub_le_sub_right hF 1)) (ml_sub wm_42 (Nat.le_trans (by decide : 0 ≤ 104 - 20) (Nat.sub_le_sub_right hLo 20))) (wp_bind h) (fun v21 h => rs_back1 ?_))
          refine rs_V wi_278_60 wc_278_61 rfl (dq_isa tf_145_0 wa_10_41) (Nat.le_trans (by decide) hF) (ml_le wm_41 (Nat.le_trans (by decide) hLo)) rfl (sp_41 hw (Nat.le_trans (by decide : 6 ≤ 7 - 1) (Nat.sub_le_sub_right hF 1)) (ml_sub wm_41 (Nat.le_trans (by decide : 82 ≤ 104 - 22) (Nat.sub_le_sub_right hLo 22))) (wp_bind h) (fun r22 h => rs_back0 ?_) (fun z23 h => rs_up wh0_278_60 whh_278 (hT z23 (wp_inr h))))
          have h := wp_inl h
          exact hj63 _ h _ l0
      refine rs_icne (tg := 49) wi_278_42 ⟨by decide, by decide⟩ (fun q => ?_) (fun q => ?_)
      ·
        have h := wp_neg h q
        refine rs_pure wi_278_49 rfl ?_
        refine rs_topi (v := 0) (by decide) ?_
        exact hj50 _ h _ l0
      ·
        have h := wp_pos h q
        refine rs_pure wi_278_45 rfl ?_
        refine rs_topi (v := 1) (by decide) ?_
        refine rs_goto (tg := 50) wi_278_46 ⟨by decide, by decide⟩ ?_
        exact hj50 _ h _ l0
    refine rs_icne (tg := 39) wi_278_32 ⟨by decide, by decide⟩ (fun q => ?_) (fun q => ?_)
    ·
      have h := wp_neg h q
      refine rs_pure wi_278_39 rfl ?_
      refine rs_topi (v := 0) (by decide) ?_
      exact hj40 _ h _ l0 l1
    ·
      have h := wp_pos h q
      refine rs_pure wi_278_35 rfl ?_
      refine rs_topi (v := 1) (by decide) ?_
      refine rs_goto (tg := 40) wi_278_36 ⟨by decide, by decide⟩ ?_
      exact hj40 _ h _ l0 l1
  refine rs_iceq (tg := 30) wi_278_7 ⟨by decide, by decide⟩ (fun q => ?_) (fun q => ?_)
  ·
    have h := wp_pos h q
    exact hj30 _ h _ l0 l1 l2
  ·
    have h := wp_neg h q
    refine rs_ildn wi_278_10 l2 ?_
    refine rs_pure wi_278_11 rfl ?_
    refine rs_topi (v := 2) (by decide) ?_
    refine rs_iceq (tg := 30) wi_278_12 ⟨by decide, by decide⟩ (fun q => ?_) (fun q => ?_)
    ·
      have h := wp_pos h q
      exact hj30 _ h _ l0 l1 l2
    ·
      have h := wp_neg h q
      refine rs_ildn wi_278_15 l2 ?_
      refine rs_pure wi_278_16 rfl ?_
      refine rs_topi (v := 45) (by decide) ?_
      refine rs_iceq (tg := 30) wi_278_18 ⟨by decide, by decide⟩ (fun q => ?_) (fun q => ?_)
      ·
        have h := wp_pos h q
        exact hj30 _ h _ l0 l1 l2
      ·
        have h := wp_neg h q
        refine rs_aldn wi_278_21 l0 ?_
        refine rs_pure wi_278_22 rfl ?_
        refine rs_topi (v := 2) (by decide) ?_
        refine rs_aldn wi_278_23 l0 ?_
        refine rs_V wi_278_24 wc_278_79 rfl (dq_isa tf_145_0 wa_10_42) (Nat.le_trans (by decide) hF) (ml_le wm_42 (Nat.le_trans (by decide) hLo)) rfl (sp_42 hw (Nat.le_trans (by decide : 0 ≤ 7 - 1) (Nat.sub_le_sub_right hF 1)) (ml_sub wm_42 (Nat.le_trans (by decide : 0 ≤ 104 - 20) (Nat.sub_le_sub_right hLo 20))) (wp_bind h) (fun v24 h => rs_back1 ?_))
        refine rs_V wi_278_27 wc_278_61 rfl (dq_isa tf_145_0 wa_10_41) (Nat.le_trans (by decide) hF) (ml_le wm_41 (Nat.le_trans (by decide) hLo)) rfl (sp_41 hw (Nat.le_trans (by decide : 6 ≤ 7 - 1) (Nat.sub_le_sub_right hF 1)) (ml_sub wm_41 (Nat.le_trans (by decide : 82 ≤ 104 - 22) (Nat.sub_le_sub_right hLo 22))) (wp_bind h) (fun r25 h => rs_back0 ?_) (fun z26 h => rs_up wh0_278_27 whh_278 (hT z26 (wp_inr h))))
        have h := wp_inl h
        exact hj30 _ h _ l0 l1 l2
theorem fK_3 : ∀ {o : Nat}, o < 12 → fo true (kA o) 6 3 (.ref (kA o + 2))
  | 0, _ => ⟨_, rfl, rfl, by decide, by decide⟩
  | 1, _ => ⟨_, rfl, rfl, by decide, by decide⟩
  | 2, _ => ⟨_, rfl, rfl, by decide, by decide⟩
  | 3, _ => ⟨_, rfl, rfl, by decide, by decide⟩
  | 4, _ => ⟨_, rfl, rfl, by decide, by decide⟩
  | 5, _ => ⟨_, rfl, rfl, by decide, by decide⟩
  | 6, _ => ⟨_, rfl, rfl, by decide, by decide⟩
  | 7, _ => ⟨_, rfl, rfl, by decide, by decide⟩
  | 8, _ => ⟨_, rfl, rfl, by decide, by decide⟩
  | 9, _ => ⟨_, rfl, rfl, by decide, by decide⟩
  | 10, _ => ⟨_, rfl, rfl, by decide, by decide⟩
  | 11, _ => ⟨_, rfl, rfl, by decide, by decide⟩
  | n + 12, h => absurd h (by omega)
theorem fK_4 : ∀ {o : Nat}, o < 12 → fo true (kA o) 6 4 (.ref (kA o + 3))
  | 0, _ => ⟨_, rfl, rfl, by decide, by decide⟩
  | 1, _ => ⟨_, rfl, rfl, by decide, by decide⟩
  | 2, _ => ⟨_, rfl, rfl, by decide, by decide⟩
  | 3, _ => ⟨_, rfl, rfl, by decide, by decide⟩
  | 4, _ => ⟨_, rfl, rfl, by decide, by decide⟩
  | 5, _ => ⟨_, rfl, rfl, by decide, by decide⟩
  | 6, _ => ⟨_, rfl, rfl, by decide, by decide⟩
  | 7, _ => ⟨_, rfl, rfl, by decide, by decide⟩
  | 8, _ => ⟨_, rfl, rfl, by decide, by decide⟩
  | 9, _ => ⟨_, rfl, rfl, by decide, by decide⟩
  | 10, _ => ⟨_, rfl, rfl, by decide, by decide⟩
  | 11, _ => ⟨_, rfl, rfl, by decide, by decide⟩
  | n + 12, h => absurd h (by omega)
theorem fK_5 : ∀ {o : Nat}, o < 12 → fo true (kA o) 6 5 (.ref (kA o + 4))
  | 0, _ => ⟨_, rfl, rfl, by decide, by decide⟩
  | 1, _ => ⟨_, rfl, rfl, by decide, by decide⟩
  | 2, _ => ⟨_, rfl, rfl, by decide, by decide⟩
  | 3, _ => ⟨_, rfl, rfl, by decide, by decide⟩
  | 4, _ => ⟨_, rfl, rfl, by decide, by decide⟩
  | 5, _ => ⟨_, rfl, rfl, by decide, by decide⟩
  | 6, _ => ⟨_, rfl, rfl, by decide, by decide⟩
  | 7, _ => ⟨_, rfl, rfl, by decide, by decide⟩
  | 8, _ => ⟨_, rfl, rfl, by decide, by decide⟩
  | 9, _ => ⟨_, rfl, rfl, by decide, by decide⟩
  | 10, _ => ⟨_, rfl, rfl, by decide, by decide⟩
  | 11, _ => ⟨_, rfl, rfl, by decide, by decide⟩
  | n + 12, h => absurd h (by omega)
theorem tK_2 : ∀ {o : Nat}, o < 12 → ta true (kA o + 2) 0 4
  | 0, _ => ⟨rfl, by decide, by decide⟩
  | 1, _ => ⟨rfl, by decide, by decide⟩
  | 2, _ => ⟨rfl, by decide, by decide⟩
  | 3, _ => ⟨rfl, by decide, by decide⟩
  | 4, _ => ⟨rfl, by decide, by decide⟩
  | 5, _ => ⟨rfl, by decide, by decide⟩
  | 6, _ => ⟨rfl, by decide, by decide⟩
  | 7, _ => ⟨rfl, by decide, by decide⟩
  | 8, _ => ⟨rfl, by decide, by decide⟩
  | 9, _ => ⟨rfl, by decide, by decide⟩
  | 10, _ => ⟨rfl, by decide, by decide⟩
  | 11, _ => ⟨rfl, by decide, by decide⟩
  | n + 12, h => absurd h (by omega)
theorem tK_3 : ∀ {o : Nat}, o < 12 → ta true (kA o + 3) 3 4
  | 0, _ => ⟨rfl, by decide, by decide⟩
  | 1, _ => ⟨rfl, by decide, by decide⟩
  | 2, _ => ⟨rfl, by decide, by decide⟩
  | 3, _ => ⟨rfl, by decide, by decide⟩
  | 4, _ => ⟨rfl, by decide, by decide⟩
  | 5, _ => ⟨rfl, by decide, by decide⟩
  | 6, _ => ⟨rfl, by decide, by decide⟩
  | 7, _ => ⟨rfl, by decide, by decide⟩
  | 8, _ => ⟨rfl, by decide, by decide⟩
  | 9, _ => ⟨rfl, by decide, by decide⟩
  | 10, _ => ⟨rfl, by decide, by decide⟩
  | 11, _ => ⟨rfl, by decide, by decide⟩
  | n + 12, h => absurd h (by omega)
theorem tK_4 : ∀ {o : Nat}, o < 12 → ta true (kA o + 4) 1 4
  | 0, _ => ⟨rfl, by decide, by decide⟩
  | 1, _ => ⟨rfl, by decide, by decide⟩
  | 2, _ => ⟨rfl, by decide, by decide⟩
  | 3, _ => ⟨rfl, by decide, by decide⟩
  | 4, _ => ⟨rfl, by decide, by decide⟩
  | 5, _ => ⟨rfl, by decide, by decide⟩
  | 6, _ => ⟨rfl, by decide, by decide⟩
  | 7, _ => ⟨rfl, by decide, by decide⟩
  | 8, _ => ⟨rfl, by decide, by decide⟩
  | 9, _ => ⟨rfl, by decide, by decide⟩
  | 10, _ => ⟨rfl, by decide, by decide⟩
  | 11, _ => ⟨rfl, by decide, by decide⟩
  | n + 12, h => absurd h (by omega)
theorem wa_10_278 : rz_cn 10 (rx_yn (rt_P sc fm) 278).cls = true := (by decide +kernel : rz_cn 10 (rt_yn 278).cls = true)
theorem wa_6_218 : rz_cn 6 (rx_yn (rt_P sc fm) 218).cls = true := (by decide +kernel : rz_cn 6 (rt_yn 218).cls = true)
theorem wc_265_114 : rx_ct (rt_P sc fm) 265 114 = some (0, 257, 1) := (by decide +kernel : rt_ct 265 114 = some (0, 257, 1))
theorem wc_265_132 : rx_ct (rt_P sc fm) 265 132 = some (0, 260, 2) := (by decide +kernel : rt_ct 265 132 = some (0, 260, 2))
theorem wc_265_149 : rx_ct (rt_P sc fm) 265 149 = some (0, 258, 1) := (by decide +kernel : rt_ct 265 149 = some (0, 258, 1))
theorem wc_265_200 : rx_ct (rt_P sc fm) 265 200 = some (0, 218, 1) := (by decide +kernel : rt_ct 265 200 = some (0, 218, 1))
theorem wc_265_207 : rx_ct (rt_P sc fm) 265 207 = some (0, 278, 1) := (by decide +kernel : rt_ct 265 207 = some (0, 278, 1))
theorem wc_265_61 : rx_ct (rt_P sc fm) 265 61 = some (0, 41, 2) := (by decide +kernel : rt_ct 265 61 = some (0, 41, 2))
theorem wc_265_79 : rx_ct (rt_P sc fm) 265 79 = some (0, 42, 0) := (by decide +kernel : rt_ct 265 79 = some (0, 42, 0))
theorem wc_265_82 : rx_ct (rt_P sc fm) 265 82 = some (0, 43, 0) := (by decide +kernel : rt_ct 265 82 = some (0, 43, 0))
theorem wf_265_203 : rx_ft (rt_P sc fm) 265 203 = some (6, 1) := (by decide +kernel : rt_ft 265 203 = some (6, 1))
theorem wf_265_204 : rx_ft (rt_P sc fm) 265 204 = some (6, 5) := (by decide +kernel : rt_ft 265 204 = some (6, 5))
theorem wf_265_211 : rx_ft (rt_P sc fm) 265 211 = some (6, 4) := (by decide +kernel : rt_ft 265 211 = some (6, 4))
theorem wf_265_215 : rx_ft (rt_P sc fm) 265 215 = some (6, 3) := (by decide +kernel : rt_ft 265 215 = some (6, 3))
theorem wf_265_216 : rx_ft (rt_P sc fm) 265 216 = some (6, 2) := (by decide +kernel : rt_ft 265 216 = some (6, 2))
theorem wf_265_49 : rx_ft (rt_P sc fm) 265 49 = some (10, 7) := (by decide +kernel : rt_ft 265 49 = some (10, 7))
theorem wf_265_85 : rx_ft (rt_P sc fm) 265 85 = some (3, 4) := (by decide +kernel : rt_ft 265 85 = some (3, 4))
theorem wf_265_9 : rx_ft (rt_P sc fm) 265 9 = some (10, 0) := (by decide +kernel : rt_ft 265 9 = some (10, 0))
theorem wh0_265_142 : rx_ht (rt_P sc fm) 265 142 "java/lang/IllegalArgumentException" = none := (by decide +kernel : rt_ht 265 142 "java/lang/IllegalArgumentException" = none)
theorem wh0_265_209 : rx_ht (rt_P sc fm) 265 209 "java/lang/IllegalArgumentException" = none := (by decide +kernel : rt_ht 265 209 "java/lang/IllegalArgumentException" = none)
theorem wh0_265_51 : rx_ht (rt_P sc fm) 265 51 "java/lang/IllegalArgumentException" = none := (by decide +kernel : rt_ht 265 51 "java/lang/IllegalArgumentException" = none)
theorem wh0_265_59 : rx_ht (rt_P sc fm) 265 59 "java/lang/IllegalArgumentException" = none := (by decide +kernel : rt_ht 265 59 "java/lang/IllegalArgumentException" = none)
theorem wh0_265_88 : rx_ht (rt_P sc fm) 265 88 "java/lang/IllegalArgumentException" = none := (by decide +kernel : rt_ht 265 88 "java/lang/IllegalArgumentException" = none)
theorem whh_265 : rx_hh (rt_P sc fm) 265 = [] := (by decide +kernel : rt_hh 265 = [])
theorem wi_265_0 : ri (rt_P sc fm) 265 0 (.iconst 1) (1) := ri_of (by decide +kernel) rfl
theorem wi_265_1 : ri (rt_P sc fm) 265 1 (.istore_n 2) (2) := ri_of (by decide +kernel) rfl
theorem wi_265_10 : ri (rt_P sc fm) 265 10 (.ifCond .eq 196) (13) := ri_of (by decide +kernel) rfl
theorem wi_265_101 : ri (rt_P sc fm) 265 101 (.iconst 1) (102) := ri_of (by decide +kernel) rfl
theorem wi_265_102 : ri (rt_P sc fm) 265 102 (.goto 4) (105) := ri_of (by decide +kernel) rfl
theorem wi_265_105 : ri (rt_P sc fm) 265 105 (.iconst 2) (106) := ri_of (by decide +kernel) rfl
theorem wi_265_106 : ri (rt_P sc fm) 265 106 (.istore 6) (108) := ri_of (by decide +kernel) rfl
theorem wi_265_108 : ri (rt_P sc fm) 265 108 (.aload_n 0) (109) := ri_of (by decide +kernel) rfl
theorem wi_265_109 : ri (rt_P sc fm) 265 109 (.dup) (110) := ri_of (by decide +kernel) rfl
theorem wi_265_110 : ri (rt_P sc fm) 265 110 (.getfield 49) (113) := ri_of (by decide +kernel) rfl
theorem wi_265_113 : ri (rt_P sc fm) 265 113 (.iconst 1) (114) := ri_of (by decide +kernel) rfl
theorem wi_265_114 : ri (rt_P sc fm) 265 114 (.iadd) (115) := ri_of (by decide +kernel) rfl
theorem wi_265_115 : ri (rt_P sc fm) 265 115 (.putfield 49) (118) := ri_of (by decide +kernel) rfl
theorem wi_265_118 : ri (rt_P sc fm) 265 118 (.aload_n 0) (119) := ri_of (by decide +kernel) rfl
theorem wi_265_119 : ri (rt_P sc fm) 265 119 (.bipush 61) (121) := ri_of (by decide +kernel) rfl
theorem wi_265_121 : ri (rt_P sc fm) 265 121 (.invokevirtual 149) (124) := ri_of (by decide +kernel) rfl
theorem wi_265_124 : ri (rt_P sc fm) 265 124 (.istore 7) (126) := ri_of (by decide +kernel) rfl
theorem wi_265_126 : ri (rt_P sc fm) 265 126 (.aload_n 1) (127) := ri_of (by decide +kernel) rfl
theorem wi_265_127 : ri (rt_P sc fm) 265 127 (.getfield 204) (130) := ri_of (by decide +kernel) rfl
theorem wi_265_13 : ri (rt_P sc fm) 265 13 (.aload_n 0) (14) := ri_of (by decide +kernel) rfl
theorem wi_265_130 : ri (rt_P sc fm) 265 130 (.aload_n 1) (131) := ri_of (by decide +kernel) rfl
theorem wi_265_131 : ri (rt_P sc fm) 265 131 (.getfield 203) (134) := ri_of (by decide +kernel) rfl
theorem wi_265_134 : ri (rt_P sc fm) 265 134 (.iload 7) (136) := ri_of (by decide +kernel) rfl
theorem wi_265_136 : ri (rt_P sc fm) 265 136 (.ifCond .eq 12) (139) := ri_of (by decide +kernel) rfl
theorem wi_265_139 : ri (rt_P sc fm) 265 139 (.aload_n 0) (140) := ri_of (by decide +kernel) rfl
theorem wi_265_14 : ri (rt_P sc fm) 265 14 (.aload_n 1) (15) := ri_of (by decide +kernel) rfl
theorem wi_265_140 : ri (rt_P sc fm) 265 140 (.iload 6) (142) := ri_of (by decide +kernel) rfl
theorem wi_265_142 : ri (rt_P sc fm) 265 142 (.invokevirtual 207) (145) := ri_of (by decide +kernel) rfl
theorem wi_265_145 : ri (rt_P sc fm) 265 145 (.goto 4) (148) := ri_of (by decide +kernel) rfl
theorem wi_265_148 : ri (rt_P sc fm) 265 148 (.lconst 0) (149) := ri_of (by decide +kernel) rfl
theorem wi_265_149 : ri (rt_P sc fm) 265 149 (.lastore) (150) := ri_of (by decide +kernel) rfl
theorem wi_265_15 : ri (rt_P sc fm) 265 15 (.aload_n 0) (16) := ri_of (by decide +kernel) rfl
theorem wi_265_150 : ri (rt_P sc fm) 265 150 (.aload_n 1) (151) := ri_of (by decide +kernel) rfl
theorem wi_265_151 : ri (rt_P sc fm) 265 151 (.getfield 211) (154) := ri_of (by decide +kernel) rfl
theorem wi_265_154 : ri (rt_P sc fm) 265 154 (.aload_n 1) (155) := ri_of (by decide +kernel) rfl
theorem wi_265_155 : ri (rt_P sc fm) 265 155 (.getfield 203) (158) := ri_of (by decide +kernel) rfl
theorem wi_265_158 : ri (rt_P sc fm) 265 158 (.iload 7) (160) := ri_of (by decide +kernel) rfl
theorem wi_265_16 : ri (rt_P sc fm) 265 16 (.getfield 9) (19) := ri_of (by decide +kernel) rfl
theorem wi_265_160 : ri (rt_P sc fm) 265 160 (.bastore) (161) := ri_of (by decide +kernel) rfl
theorem wi_265_161 : ri (rt_P sc fm) 265 161 (.aload_n 1) (162) := ri_of (by decide +kernel) rfl
theorem wi_265_162 : ri (rt_P sc fm) 265 162 (.getfield 215) (165) := ri_of (by decide +kernel) rfl
theorem wi_265_165 : ri (rt_P sc fm) 265 165 (.aload_n 1) (166) := ri_of (by decide +kernel) rfl
theorem wi_265_166 : ri (rt_P sc fm) 265 166 (.getfield 203) (169) := ri_of (by decide +kernel) rfl
theorem wi_265_169 : ri (rt_P sc fm) 265 169 (.iload 6) (171) := ri_of (by decide +kernel) rfl
theorem wi_265_171 : ri (rt_P sc fm) 265 171 (.iastore) (172) := ri_of (by decide +kernel) rfl
theorem wi_265_172 : ri (rt_P sc fm) 265 172 (.aload_n 1) (173) := ri_of (by decide +kernel) rfl
theorem wi_265_173 : ri (rt_P sc fm) 265 173 (.getfield 216) (176) := ri_of (by decide +kernel) rfl
theorem wi_265_176 : ri (rt_P sc fm) 265 176 (.aload_n 1) (177) := ri_of (by decide +kernel) rfl
theorem wi_265_177 : ri (rt_P sc fm) 265 177 (.getfield 203) (180) := ri_of (by decide +kernel) rfl
theorem wi_265_180 : ri (rt_P sc fm) 265 180 (.lload 4) (182) := ri_of (by decide +kernel) rfl
theorem wi_265_182 : ri (rt_P sc fm) 265 182 (.lastore) (183) := ri_of (by decide +kernel) rfl
theorem wi_265_183 : ri (rt_P sc fm) 265 183 (.aload_n 1) (184) := ri_of (by decide +kernel) rfl
theorem wi_265_184 : ri (rt_P sc fm) 265 184 (.dup) (185) := ri_of (by decide +kernel) rfl
theorem wi_265_185 : ri (rt_P sc fm) 265 185 (.getfield 203) (188) := ri_of (by decide +kernel) rfl
theorem wi_265_188 : ri (rt_P sc fm) 265 188 (.iconst 1) (189) := ri_of (by decide +kernel) rfl
theorem wi_265_189 : ri (rt_P sc fm) 265 189 (.iadd) (190) := ri_of (by decide +kernel) rfl
theorem wi_265_19 : ri (rt_P sc fm) 265 19 (.getfield 85) (22) := ri_of (by decide +kernel) rfl
theorem wi_265_190 : ri (rt_P sc fm) 265 190 (.putfield 203) (193) := ri_of (by decide +kernel) rfl
theorem wi_265_193 : ri (rt_P sc fm) 265 193 (.aload_n 0) (194) := ri_of (by decide +kernel) rfl
theorem wi_265_194 : ri (rt_P sc fm) 265 194 (.bipush 44) (196) := ri_of (by decide +kernel) rfl
theorem wi_265_196 : ri (rt_P sc fm) 265 196 (.invokevirtual 149) (199) := ri_of (by decide +kernel) rfl
theorem wi_265_199 : ri (rt_P sc fm) 265 199 (.istore_n 2) (200) := ri_of (by decide +kernel) rfl
theorem wi_265_2 : ri (rt_P sc fm) 265 2 (.iconst 0) (3) := ri_of (by decide +kernel) rfl
theorem wi_265_200 : ri (rt_P sc fm) 265 200 (.iinc 3 1) (203) := ri_of (by decide +kernel) rfl
theorem wi_265_203 : ri (rt_P sc fm) 265 203 (.goto (-199)) (206) := ri_of (by decide +kernel) rfl
theorem wi_265_206 : ri (rt_P sc fm) 265 206 (.aload_n 0) (207) := ri_of (by decide +kernel) rfl
theorem wi_265_207 : ri (rt_P sc fm) 265 207 (.bipush 41) (209) := ri_of (by decide +kernel) rfl
theorem wi_265_209 : ri (rt_P sc fm) 265 209 (.invokevirtual 114) (212) := ri_of (by decide +kernel) rfl
theorem wi_265_212 : ri (rt_P sc fm) 265 212 (.return_) (213) := ri_of (by decide +kernel) rfl
theorem wi_265_22 : ri (rt_P sc fm) 265 22 (.aload_n 0) (23) := ri_of (by decide +kernel) rfl
theorem wi_265_23 : ri (rt_P sc fm) 265 23 (.getfield 49) (26) := ri_of (by decide +kernel) rfl
theorem wi_265_26 : ri (rt_P sc fm) 265 26 (.laload) (27) := ri_of (by decide +kernel) rfl
theorem wi_265_27 : ri (rt_P sc fm) 265 27 (.invokevirtual 200) (30) := ri_of (by decide +kernel) rfl
theorem wi_265_3 : ri (rt_P sc fm) 265 3 (.istore_n 3) (4) := ri_of (by decide +kernel) rfl
theorem wi_265_30 : ri (rt_P sc fm) 265 30 (.ifCond .lt 7) (33) := ri_of (by decide +kernel) rfl
theorem wi_265_33 : ri (rt_P sc fm) 265 33 (.iconst 1) (34) := ri_of (by decide +kernel) rfl
theorem wi_265_34 : ri (rt_P sc fm) 265 34 (.goto 4) (37) := ri_of (by decide +kernel) rfl
theorem wi_265_37 : ri (rt_P sc fm) 265 37 (.iconst 0) (38) := ri_of (by decide +kernel) rfl
theorem wi_265_38 : ri (rt_P sc fm) 265 38 (.aload_n 1) (39) := ri_of (by decide +kernel) rfl
theorem wi_265_39 : ri (rt_P sc fm) 265 39 (.getfield 203) (42) := ri_of (by decide +kernel) rfl
theorem wi_265_4 : ri (rt_P sc fm) 265 4 (.iload_n 3) (5) := ri_of (by decide +kernel) rfl
theorem wi_265_42 : ri (rt_P sc fm) 265 42 (.iconst 4) (43) := ri_of (by decide +kernel) rfl
theorem wi_265_43 : ri (rt_P sc fm) 265 43 (.if_icmp .lt 7) (46) := ri_of (by decide +kernel) rfl
theorem wi_265_46 : ri (rt_P sc fm) 265 46 (.iconst 1) (47) := ri_of (by decide +kernel) rfl
theorem wi_265_47 : ri (rt_P sc fm) 265 47 (.goto 4) (50) := ri_of (by decide +kernel) rfl
theorem wi_265_5 : ri (rt_P sc fm) 265 5 (.iconst 4) (6) := ri_of (by decide +kernel) rfl
theorem wi_265_50 : ri (rt_P sc fm) 265 50 (.iconst 0) (51) := ri_of (by decide +kernel) rfl
theorem wi_265_51 : ri (rt_P sc fm) 265 51 (.invokevirtual 132) (54) := ri_of (by decide +kernel) rfl
theorem wi_265_54 : ri (rt_P sc fm) 265 54 (.lstore 4) (56) := ri_of (by decide +kernel) rfl
theorem wi_265_56 : ri (rt_P sc fm) 265 56 (.aload_n 0) (57) := ri_of (by decide +kernel) rfl
theorem wi_265_57 : ri (rt_P sc fm) 265 57 (.bipush 58) (59) := ri_of (by decide +kernel) rfl
theorem wi_265_59 : ri (rt_P sc fm) 265 59 (.invokevirtual 114) (62) := ri_of (by decide +kernel) rfl
theorem wi_265_6 : ri (rt_P sc fm) 265 6 (.if_icmp .gt 200) (9) := ri_of (by decide +kernel) rfl
theorem wi_265_62 : ri (rt_P sc fm) 265 62 (.aload_n 0) (63) := ri_of (by decide +kernel) rfl
theorem wi_265_63 : ri (rt_P sc fm) 265 63 (.invokevirtual 82) (66) := ri_of (by decide +kernel) rfl
theorem wi_265_66 : ri (rt_P sc fm) 265 66 (.sipush 212) (69) := ri_of (by decide +kernel) rfl
theorem wi_265_69 : ri (rt_P sc fm) 265 69 (.if_icmp .eq 22) (72) := ri_of (by decide +kernel) rfl
theorem wi_265_72 : ri (rt_P sc fm) 265 72 (.aload_n 0) (73) := ri_of (by decide +kernel) rfl
theorem wi_265_73 : ri (rt_P sc fm) 265 73 (.invokevirtual 82) (76) := ri_of (by decide +kernel) rfl
theorem wi_265_76 : ri (rt_P sc fm) 265 76 (.sipush 213) (79) := ri_of (by decide +kernel) rfl
theorem wi_265_79 : ri (rt_P sc fm) 265 79 (.if_icmp .eq 12) (82) := ri_of (by decide +kernel) rfl
theorem wi_265_82 : ri (rt_P sc fm) 265 82 (.aload_n 0) (83) := ri_of (by decide +kernel) rfl
theorem wi_265_83 : ri (rt_P sc fm) 265 83 (.iconst 2) (84) := ri_of (by decide +kernel) rfl
theorem wi_265_84 : ri (rt_P sc fm) 265 84 (.aload_n 0) (85) := ri_of (by decide +kernel) rfl
theorem wi_265_85 : ri (rt_P sc fm) 265 85 (.invokevirtual 79) (88) := ri_of (by decide +kernel) rfl
theorem wi_265_88 : ri (rt_P sc fm) 265 88 (.invokevirtual 61) (91) := ri_of (by decide +kernel) rfl
theorem wi_265_9 : ri (rt_P sc fm) 265 9 (.iload_n 2) (10) := ri_of (by decide +kernel) rfl
theorem wi_265_91 : ri (rt_P sc fm) 265 91 (.aload_n 0) (92) := ri_of (by decide +kernel) rfl
theorem wi_265_92 : ri (rt_P sc fm) 265 92 (.invokevirtual 82) (95) := ri_of (by decide +kernel) rfl
theorem wi_265_95 : ri (rt_P sc fm) 265 95 (.sipush 212) (98) := ri_of (by decide +kernel) rfl
theorem wi_265_98 : ri (rt_P sc fm) 265 98 (.if_icmp .ne 7) (101) := ri_of (by decide +kernel) rfl
theorem wm_218 : rx_ml (rt_P sc fm) 218 = 4 := (by decide +kernel : rt_ml 218 = 4)
theorem wm_278 : rx_ml (rt_P sc fm) 278 = 6 := (by decide +kernel : rt_ml 278 = 6)
theorem wp_265_203 : rx_pt (rt_P sc fm) 265 203 = some (6, 1, .int) := (by decide +kernel : rt_pt 265 203 = some (6, 1, .int))
theorem wp_265_49 : rx_pt (rt_P sc fm) 265 49 = some (10, 7, .int) := (by decide +kernel : rt_pt 265 49 = some (10, 7, .int))
theorem wr_265 : rx_rt (rt_P sc fm) 265 = none := (by decide +kernel : rt_rt 265 = none)
/-- MarkHouse$Reader.readMembers(LMarkHouse$Kind;)V -/
def d_265 (n : Nat) (k1 : Nat) (c : cS) : Option ((cS) ⊕ cS) :=
  Option.bind (whl (R := (cS) ⊕ ((cS) ⊕ cS)) (fun s3 : Int32 × Int32 × cS =>
    if 4 < s3.2.1 then
      some (.inr (.inl s3.2.2))
    else
      if s3.1 = 0 then
        some (.inr (.inl s3.2.2))
      else
        if ib (s3.2.2.1 145 7) 4001 then
        Option.bind (d_218 n k1 (s3.2.2.2 5 (ix (s3.2.2.1 145 7))) s3.2.2) (fun v5 =>
        jn (fun p6 : Int32 =>
          jn (fun p7 : Int32 =>
            Option.bind (d_260 n p6 p7 s3.2.2) (Sum.elim (fun r8 =>
            Option.bind (d_257 n 58 r8.2) (Sum.elim (fun r11 =>
            Option.bind (d_43 n r11) (fun v13 =>
            jn (fun p14 : cS =>
              Option.bind (d_43 n p14) (fun v15 =>
              jn (fun p16 : Int32 =>
                lt (pI p14 145 7 ((p14.1 145 7) + 1)) (fun c18 =>
                Option.bind (d_258 n 61 c18) (fun r20 =>
                jn (fun p22 : Int64 × cS =>
                  if ib (r20.2.1 (kA k1) 1) 4 then
                  lt (pL p22.2 (kA k1 + 4) (ix (r20.2.1 (kA k1) 1)) p22.1) (fun c24 =>
                  if ib (c24.1 (kA k1) 1) 4 then
                  lt (pI c24 (kA k1 + 3) (ix (c24.1 (kA k1) 1)) (vp_nar .boolean r20.1)) (fun c27 =>
                  if ib (c27.1 (kA k1) 1) 4 then
                  lt (pI c27 (kA k1 + 2) (ix (c27.1 (kA k1) 1)) p16) (fun c30 =>
                  if ib (c30.1 (kA k1) 1) 4 then
                  lt (pL c30 (kA k1 + 1) (ix (c30.1 (kA k1) 1)) r8.1) (fun c33 =>
                  lt (pI c33 (kA k1) 1 ((c33.1 (kA k1) 1) + 1)) (fun c35 =>
                  Option.bind (d_258 n 44 c35) (fun r37 =>
                  lt (s3.2.1 + 1 : Int32) (fun v40 =>
                  some (.inl (r37.1, v40, r37.2))))))
                  else none)
                  else none)
                  else none)
                  else none)
                (fun j149 =>
                if r20.1 = 0 then
                  j149 (0, r20.2)
                else
                  Option.bind (d_278 n p16 r20.2) (Sum.elim (fun r42 =>
                  j149 (r42.1, r42.2))
                  (fun z43 => some (.inr (.inr (.inr z43)))))))))
              (fun j106 =>
              if v15 = 212 then
                j106 1
              else
                j106 2)))
            (fun j91 =>
            if v13 = 212 then
              j91 r11
            else
              Option.bind (d_43 n r11) (fun v44 =>
              if v44 = 213 then
                j91 r11
              else
                Option.bind (d_42 n r11) (fun v45 =>
                Option.bind (d_41 n 2 v45 r11) (Sum.elim (fun r46 =>
                j91 r46)
                (fun z47 => some (.inr (.inr (.inr z47))))))))))
            (fun z12 => some (.inr (.inr (.inr z12))))))
            (fun z9 => some (.inr (.inr (.inr z9))))))
          (fun j51 =>
          if (s3.2.2.1 (kA k1) 1) < 4 then
            j51 0
          else
            j51 1))
        (fun j38 =>
        if v5 < 0 then
          j38 0
        else
          j38 1))
        else none) n (1, 0, c))
  (Sum.elim (fun x48 : cS =>
    Option.bind (d_257 n 41 x48) (Sum.elim (fun r49 =>
    some (.inl r49))
    (fun z50 => some (.inr z50))))
  (fun x51 : (cS) ⊕ cS =>
    some x51))
theorem sp_265 {F Lo n : Nat} {k1 : Nat} {c y : cS} {w : cW} {K : (cS) ⊕ cS → Prop} {Q : ((Option Value) ⊕ String) → List va_E → Prop} (hw : rOK fm w) (hF : 9 ≤ F) (hLo : 148 ≤ Lo) (hk1 : k1 < 12) (h : wp (d_265 n k1 c) K) (hQ : ∀ r, K (.inl r) → Q (.inl none) (hq true r y w)) (hT : ∀ r, K (.inr r) → Q (.inr "java/lang/IllegalArgumentException") (hq true r y w)) : rs (rt_P sc fm) 265 F Lo 0 [(0, .ref 145), (1, .ref (kA k1))] [] (hq true c y w) Q := by
  unfold d_265 at h
  obtain ⟨lv, elv⟩ : ∃ lv : rx_L, lv = [(0, .ref 145), (1, .ref (kA k1))] := ⟨_, rfl⟩
  rw [← elv]
  have l0 : rx_ld lv 0 = some (.ref 145) := by rw [elv]; rfl
  have l1 : rx_ld lv 1 = some (.ref (kA k1)) := by rw [elv]; rfl
  refine rs_pure wi_265_0 rfl ?_
  refine rs_topi (v := 1) (by decide) ?_
  refine dl_istn wi_265_1 rfl (fun lv l2 t1 => ?_)
  have l0 := t1 _ _ (by decide) (Or.inl rfl) l0
  have l1 := t1 _ _ (by decide) (Or.inl rfl) l1
  refine rs_pure wi_265_2 rfl ?_
  refine rs_topi (v := 0) (by decide) ?_
  refine dl_istn wi_265_3 rfl (fun lv l3 t2 => ?_)
  have l0 := t2 _ _ (by decide) (Or.inl rfl) l0
  have l1 := t2 _ _ (by decide) (Or.inl rfl) l1
  have l2 := t2 _ _ (by decide) (Or.inl rfl) l2
  refine whl_ex (A := fun s3 : Int32 × Int32 × cS => ∀ lv, rx_ld lv 0 = some (.ref 145) → rx_ld lv 1 = some (.ref (kA k1)) → rx_ld lv 2 = some (.int s3.1) → rx_ld lv 3 = some (.int s3.2.1) → rs (rt_P sc fm) 265 F Lo 4 lv [] (hq true s3.2.2 y w) Q) (B := (Sum.elim (fun x48 : cS => ∀ lv, rx_ld lv 0 = some (.ref 145) → rs (rt_P sc fm) 265 F Lo 206 lv [] (hq true x48 y w) Q) K)) ?_ ?_ _ _ (wp_bind h) _ l0 l1 l2 l3
  · intro s3 h lv l0 l1 l2 l3
    refine rs_ildn wi_265_4 l3 ?_
    refine rs_pure wi_265_5 rfl ?_
    refine rs_topi (v := 4) (by decide) ?_
    refine rs_icgt (tg := 206) wi_265_6 ⟨by decide, by decide⟩ (fun q => ?_) (fun q => ?_)
    ·
      have h := wp_pos h q
      exact h _ l0
    ·
      have h := wp_neg h q
      refine rs_ildn wi_265_9 l2 ?_
      refine rs_ifeq (tg := 206) wi_265_10 ⟨by decide, by decide⟩ (fun q => ?_) (fun q => ?_)
      ·
        have h := wp_pos h q
        exact h _ l0
      ·
        have h := wp_neg h q
        refine rs_aldn wi_265_13 l0 ?_
        refine rs_aldn wi_265_14 l1 ?_
        refine rs_aldn wi_265_15 l0 ?_
        refine dq_gr wi_265_16 wf_265_9 tf_145_0 ?_
        refine dq_gr wi_265_19 wf_265_85 tf_1_4 ?_
        refine rs_aldn wi_265_22 l0 ?_
        refine dq_gi wi_265_23 wf_265_49 tf_145_7 ?_
        obtain ⟨g4, h⟩ := wp_gd h
        refine dq_lald wi_265_26 t_5 g4 ?_
        refine rs_V wi_265_27 wc_265_200 rfl (dq_isa (fK_0 hk1) wa_6_218) (Nat.le_trans (by decide) hF) (ml_le wm_218 (Nat.le_trans (by decide) hLo)) rfl (sp_218 hw (Nat.le_trans (by decide : 0 ≤ 9 - 1) (Nat.sub_le_sub_right hF 1)) (ml_sub wm_218 (Nat.le_trans (by decide : 0 ≤ 148 - 23) (Nat.sub_le_sub_right hLo 23))) hk1 (wp_bind h) (fun v5 h => rs_back1 ?_))
        refine wp_jn (B := fun p6 : Int32 => ∀ lv, rx_ld lv 0 = some (.ref 145) → rx_ld lv 1 = some (.ref (kA k1)) → rx_ld lv 3 = some (.int s3.2.1) → rs (rt_P sc fm) 265 F Lo 38 lv [.int p6, .ref 145] (hq true s3.2.2 y w) Q) h (fun p6 h lv l0 l1 l3 => ?_) (fun j38 hj38 h => ?_)
        ·
          refine rs_aldn wi_265_38 l1 ?_
          refine dq_gi wi_265_39 wf_265_203 (fK_1 hk1) ?_
          refine rs_pure wi_265_42 rfl ?_
          refine rs_topi (v := 4) (by decide) ?_
          refine wp_jn (B := fun p7 : Int32 => ∀ lv, rx_ld lv 0 = some (.ref 145) → rx_ld lv 1 = some (.ref (kA k1)) → rx_ld lv 3 = some (.int s3.2.1) → rs (rt_P sc fm) 265 F Lo 51 lv [.int p7, .int p6, .ref 145] (hq true s3.2.2 y w) Q) h (fun p7 h lv l0 l1 l3 => ?_) (fun j51 hj51 h => ?_)
          ·
            refine rs_V wi_265_51 wc_265_132 rfl (dq_isa tf_145_0 wa_10_260) (Nat.le_trans (by decide) hF) (ml_le wm_260 (Nat.le_trans (by decide) hLo)) rfl (sp_260 hw (Nat.le_trans (by decide : 8 ≤ 9 - 1) (Nat.sub_le_sub_right hF 1)) (ml_sub wm_260 (Nat.le_trans (by decide : 124 ≤ 148 - 24) (Nat.sub_le_sub_right hLo 24))) (wp_bind h) (fun r8 h => rs_back1 ?_) (fun z9 h => rs_up wh0_265_51 whh_265 (hT z9 (wp_inr h))))
            have h := wp_inl h
            refine dl_lst wi_265_54 rfl (fun lv l4 t10 => ?_)
            have l0 := t10 _ _ (by decide) (by decide) (Or.inl rfl) l0
            have l1 := t10 _ _ (by decide) (by decide) (Or.inl rfl) l1
            have l3 := t10 _ _ (by decide) (by decide) (Or.inl rfl) l3
            refine rs_aldn wi_265_56 l0 ?_
            refine rs_pure wi_265_57 rfl ?_
            refine rs_topi (v := 58) (by decide) ?_
            refine rs_V wi_265_59 wc_265_114 rfl (dq_isa tf_145_0 wa_10_257) (Nat.le_trans (by decide) hF) (ml_le wm_257 (Nat.le_trans (by decide) hLo)) rfl (sp_257 hw (Nat.le_trans (by decide : 7 ≤ 9 - 1) (Nat.sub_le_sub_right hF 1)) (ml_sub wm_257 (Nat.le_trans (by decide : 104 ≤ 148 - 21) (Nat.sub_le_sub_right hLo 21))) (wp_bind h) (fun r11 h => rs_back0 ?_) (fun z12 h => rs_up wh0_265_59 whh_265 (hT z12 (wp_inr h))))
            have h := wp_inl h
            refine rs_aldn wi_265_62 l0 ?_
            refine rs_V wi_265_63 wc_265_82 rfl (dq_isa tf_145_0 wa_10_43) (Nat.le_trans (by decide) hF) (ml_le wm_43 (Nat.le_trans (by decide) hLo)) rfl (sp_43 hw (Nat.le_trans (by decide : 0 ≤ 9 - 1) (Nat.sub_le_sub_right hF 1)) (ml_sub wm_43 (Nat.le_trans (by decide : 0 ≤ 148 - 20) (Nat.sub_le_sub_right hLo 20))) (wp_bind h) (fun v13 h => rs_back1 ?_))
            refine rs_pure wi_265_66 rfl ?_
            refine rs_topi (v := 212) (by decide) ?_
            refine wp_jn (B := fun p14 : cS => ∀ lv, rx_ld lv 0 = some (.ref 145) → rx_ld lv 1 = some (.ref (kA k1)) → rx_ld lv 3 = some (.int s3.2.1) → rx_ld lv 4 = some (.long r8.1) → rs (rt_P sc fm) 265 F Lo 91 lv [] (hq true p14 y w) Q) h (fun p14 h lv l0 l1 l3 l4 => ?_) (fun j91 hj91 h => ?_)
            ·
              refine rs_aldn wi_265_91 l0 ?_
              refine rs_V wi_265_92 wc_265_82 rfl (dq_isa tf_145_0 wa_10_43) (Nat.le_trans (by decide) hF) (ml_le wm_43 (Nat.le_trans (by decide) hLo)) rfl (sp_43 hw (Nat.le_trans (by decide : 0 ≤ 9 - 1) (Nat.sub_le_sub_right hF 1)) (ml_sub wm_43 (Nat.le_trans (by decide : 0 ≤ 148 - 20) (Nat.sub_le_sub_right hLo 20))) (wp_bind h) (fun v15 h => rs_back1 ?_))
              refine rs_pure wi_265_95 rfl ?_
              refine rs_topi (v := 212) (by decide) ?_
              refine wp_jn (B := fun p16 : Int32 => ∀ lv, rx_ld lv 0 = some (.ref 145) → rx_ld lv 1 = some (.ref (kA k1)) → rx_ld lv 3 = some (.int s3.2.1) → rx_ld lv 4 = some (.long r8.1) → rs (rt_P sc fm) 265 F Lo 106 lv [.int p16] (hq true p14 y w) Q) h (fun p16 h lv l0 l1 l3 l4 => ?_) (fun j106 hj106 h => ?_)
              ·
                refine dl_ist wi_265_106 rfl (fun lv l6 t17 => ?_)
                have l0 := t17 _ _ (by decide) (Or.inl rfl) l0
                have l1 := t17 _ _ (by decide) (Or.inl rfl) l1
                have l3 := t17 _ _ (by decide) (Or.inl rfl) l3
                have l4 := t17 _ _ (by decide) (Or.inr (by decide)) l4
                refine rs_aldn wi_265_108 l0 ?_
                refine rs_pure wi_265_109 rfl ?_
                refine dq_gi wi_265_110 wf_265_49 tf_145_7 ?_
                refine rs_pure wi_265_113 rfl ?_
                refine rs_topi (v := 1) (by decide) ?_
                refine rs_pure wi_265_114 rfl ?_
                obtain ⟨c18, e19, h⟩ := wp_lt h
                refine dq_pi wi_265_115 wp_265_49 tf_145_7 rfl rfl e19 ?_
                refine rs_aldn wi_265_118 l0 ?_
                refine rs_pure wi_265_119 rfl ?_
                refine rs_topi (v := 61) (by decide) ?_
                refine rs_V wi_265_121 wc_265_149 rfl (dq_isa tf_145_0 wa_10_258) (Nat.le_trans (by decide) hF) (ml_le wm_258 (Nat.le_trans (by decide) hLo)) rfl (sp_258 hw (Nat.le_trans (by decide : 0 ≤ 9 - 1) (Nat.sub_le_sub_right hF 1)) (ml_sub wm_258 (Nat.le_trans (by decide : 0 ≤ 148 - 22) (Nat.sub_le_sub_right hLo 22))) (wp_bind h) (fun r20 h => rs_back1 ?_))
                refine dl_ist wi_265_124 rfl (fun lv l7 t21 => ?_)
                have l0 := t21 _ _ (by decide) (Or.inl rfl) l0
                have l1 := t21 _ _ (by decide) (Or.inl rfl) l1
                have l3 := t21 _ _ (by decide) (Or.inl rfl) l3
                have l4 := t21 _ _ (by decide) (Or.inr (by decide)) l4
                have l6 := t21 _ _ (by decide) (Or.inl rfl) l6
                refine rs_aldn wi_265_126 l1 ?_
                refine dq_gr wi_265_127 wf_265_204 (fK_5 hk1) ?_
                refine rs_aldn wi_265_130 l1 ?_
                refine dq_gi wi_265_131 wf_265_203 (fK_1 hk1) ?_
                refine rs_ild wi_265_134 l7 ?_
                refine wp_jn (B := fun p22 : Int64 × cS => ∀ lv, rx_ld lv 0 = some (.ref 145) → rx_ld lv 1 = some (.ref (kA k1)) → rx_ld lv 3 = some (.int s3.2.1) → rx_ld lv 4 = some (.long r8.1) → rx_ld lv 6 = some (.int p16) → rx_ld lv 7 = some (.int r20.1) → rs (rt_P sc fm) 265 F Lo 149 lv [.long p22.1, .int (r20.2.1 (kA k1) 1), .ref (kA k1 + 4)] (hq true p22.2 y w) Q) h (fun p22 h lv l0 l1 l3 l4 l6 l7 => ?_) (fun j149 hj149 h => ?_)
                ·
                  obtain ⟨g23, h⟩ := wp_gd h
                  obtain ⟨c24, e25, h⟩ := wp_lt h
                  refine dq_last wi_265_149 (tK_4 hk1) g23 e25 ?_
                  refine rs_aldn wi_265_150 l1 ?_
                  refine dq_gr wi_265_151 wf_265_211 (fK_4 hk1) ?_
                  refine rs_aldn wi_265_154 l1 ?_
                  refine dq_gi wi_265_155 wf_265_203 (fK_1 hk1) ?_
                  refine rs_ild wi_265_158 l7 ?_
                  obtain ⟨g26, h⟩ := wp_gd h
                  obtain ⟨c27, e28, h⟩ := wp_lt h
                  refine dq_zast wi_265_160 (tK_3 hk1) g26 e28 ?_
                  refine rs_aldn wi_265_161 l1 ?_
                  refine dq_gr wi_265_162 wf_265_215 (fK_3 hk1) ?_
                  refine rs_aldn wi_265_165 l1 ?_
                  refine dq_gi wi_265_166 wf_265_203 (fK_1 hk1) ?_
                  refine rs_ild wi_265_169 l6 ?_
                  obtain ⟨g29, h⟩ := wp_gd h
                  obtain ⟨c30, e31, h⟩ := wp_lt h
                  refine dq_iast wi_265_171 (tK_2 hk1) g29 e31 ?_
                  refine rs_aldn wi_265_172 l1 ?_
                  refine dq_gr wi_265_173 wf_265_216 (fK_2 hk1) ?_
                  refine rs_aldn wi_265_176 l1 ?_
                  refine dq_gi wi_265_177 wf_265_203 (fK_1 hk1) ?_
                  refine rs_lld wi_265_180 l4 ?_
                  obtain ⟨g32, h⟩ := wp_gd h
                  obtain ⟨c33, e34, h⟩ := wp_lt h
                  refine dq_last wi_265_182 (tK_1 hk1) g32 e34 ?_
                  refine rs_aldn wi_265_183 l1 ?_
                  refine rs_pure wi_265_184 rfl ?_
                  refine dq_gi wi_265_185 wf_265_203 (fK_1 hk1) ?_
                  refine rs_pure wi_265_188 rfl ?_
                  refine rs_topi (v := 1) (by decide) ?_
                  refine rs_pure wi_265_189 rfl ?_
                  obtain ⟨c35, e36, h⟩ := wp_lt h
                  refine dq_pi wi_265_190 wp_265_203 (fK_1 hk1) rfl rfl e36 ?_
                  refine rs_aldn wi_265_193 l0 ?_
                  refine rs_pure wi_265_194 rfl ?_
                  refine rs_topi (v := 44) (by decide) ?_
                  refine rs_V wi_265_196 wc_265_149 rfl (dq_isa tf_145_0 wa_10_258) (Nat.le_trans (by decide) hF) (ml_le wm_258 (Nat.le_trans (by decide) hLo)) rfl (sp_258 hw (Nat.le_trans (by decide : 0 ≤ 9 - 1) (Nat.sub_le_sub_right hF 1)) (ml_sub wm_258 (Nat.le_trans (by decide : 0 ≤ 148 - 22) (Nat.sub_le_sub_right hLo 22))) (wp_bind h) (fun r37 h => rs_back1 ?_))
                  refine dl_istn wi_265_199 rfl (fun lv l2 t38 => ?_)
                  have l0 := t38 _ _ (by decide) (Or.inl rfl) l0
                  have l1 := t38 _ _ (by decide) (Or.inl rfl) l1
                  have l3 := t38 _ _ (by decide) (Or.inl rfl) l3
                  obtain ⟨v40, e41, h⟩ := wp_lt h
                  refine dl_inc wi_265_200 l3 rfl e41 (fun lv l3 t39 => ?_)
                  have l0 := t39 _ _ (by decide) (Or.inl rfl) l0
                  have l1 := t39 _ _ (by decide) (Or.inl rfl) l1
                  have l2 := t39 _ _ (by decide) (Or.inl rfl) l2
                  refine rs_goto (tg := 4) wi_265_203 ⟨by decide, by decide⟩ ?_
                  exact h _ l0 l1 l2 l3
                refine rs_ifeq (tg := 148) wi_265_136 ⟨by decide, by decide⟩ (fun q => ?_) (fun q => ?_)
                ·
                  have h := wp_pos h q
                  refine rs_pure wi_265_148 rfl ?_
                  refine rs_topl (v := 0) (by decide) ?_
                  exact hj149 _ h _ l0 l1 l3 l4 l6 l7
                ·
                  have h := wp_neg h q
                  refine rs_aldn wi_265_139 l0 ?_
                  refine rs_ild wi_265_140 l6 ?_
                  refine rs_V wi_265_142 wc_265_207 rfl (dq_isa tf_145_0 wa_10_278) (Nat.le_trans (by decide) hF) (ml_le wm_278 (Nat.le_trans (by decide) hLo)) rfl (sp_278 hw (Nat.le_trans (by decide : 7 ≤ 9 - 1) (Nat.sub_le_sub_right hF 1)) (ml_sub wm_278 (Nat.le_trans (by decide : 104 ≤ 148 - 25) (Nat.sub_le_sub_right hLo 25))) (wp_bind h) (fun r42 h => rs_back1 ?_) (fun z43 h => rs_up wh0_265_142 whh_265 (hT z43 (wp_inr h))))
                  have h := wp_inl h
                  refine rs_goto (tg := 149) wi_265_145 ⟨by decide, by decide⟩ ?_
                  exact hj149 _ h _ l0 l1 l3 l4 l6 l7
              refine rs_icne (tg := 105) wi_265_98 ⟨by decide, by decide⟩ (fun q => ?_) (fun q => ?_)
              ·
                have h := wp_neg h q
                refine rs_pure wi_265_105 rfl ?_
                refine rs_topi (v := 2) (by decide) ?_
                exact hj106 _ h _ l0 l1 l3 l4
              ·
                have h := wp_pos h q
                refine rs_pure wi_265_101 rfl ?_
                refine rs_topi (v := 1) (by decide) ?_
                refine rs_goto (tg := 106) wi_265_102 ⟨by decide, by decide⟩ ?_
                exact hj106 _ h _ l0 l1 l3 l4
            refine rs_iceq (tg := 91) wi_265_69 ⟨by decide, by decide⟩ (fun q => ?_) (fun q => ?_)
            ·
              have h := wp_pos h q
              exact hj91 _ h _ l0 l1 l3 l4
            ·
              have h := wp_neg h q
              refine rs_aldn wi_265_72 l0 ?_
              refine rs_V wi_265_73 wc_265_82 rfl (dq_isa tf_145_0 wa_10_43) (Nat.le_trans (by decide) hF) (ml_le wm_43 (Nat.le_trans (by decide) hLo)) rfl (sp_43 hw (Nat.le_trans (by decide : 0 ≤ 9 - 1) (Nat.sub_le_sub_right hF 1)) (ml_sub wm_43 (Nat.le_trans (by decide : 0 ≤ 148 - 20) (Nat.sub_le_sub_right hLo 20))) (wp_bind h) (fun v44 h => rs_back1 ?_))
              refine rs_pure wi_265_76 rfl ?_
              refine rs_topi (v := 213) (by decide) ?_
              refine rs_iceq (tg := 91) wi_265_79 ⟨by decide, by decide⟩ (fun q => ?_) (fun q => ?_)
              ·
                have h := wp_pos h q
                exact hj91 _ h _ l0 l1 l3 l4
              ·
                have h := wp_neg h q
                refine rs_aldn wi_265_82 l0 ?_
                refine rs_pure wi_265_83 rfl ?_
                refine rs_topi (v := 2) (by decide) ?_
                refine rs_aldn wi_265_84 l0 ?_
                refine rs_V wi_265_85 wc_265_79 rfl (dq_isa tf_145_0 wa_10_42) (Nat.le_trans (by decide) hF) (ml_le wm_42 (Nat.le_trans (by decide) hLo)) rfl (sp_42 hw (Nat.le_trans (by decide : 0 ≤ 9 - 1) (Nat.sub_le_sub_right hF 1)) (ml_sub wm_42 (Nat.le_trans (by decide : 0 ≤ 148 - 20) (Nat.sub_le_sub_right hLo 20))) (wp_bind h) (fun v45 h => rs_back1 ?_))
                refine rs_V wi_265_88 wc_265_61 rfl (dq_isa tf_145_0 wa_10_41) (Nat.le_trans (by decide) hF) (ml_le wm_41 (Nat.le_trans (by decide) hLo)) rfl (sp_41 hw (Nat.le_trans (by decide : 6 ≤ 9 - 1) (Nat.sub_le_sub_right hF 1)) (ml_sub wm_41 (Nat.le_trans (by decide : 82 ≤ 148 - 22) (Nat.sub_le_sub_right hLo 22))) (wp_bind h) (fun r46 h => rs_back0 ?_) (fun z47 h => rs_up wh0_265_88 whh_265 (hT z47 (wp_inr h))))
                have h := wp_inl h
                exact hj91 _ h _ l0 l1 l3 l4
          refine rs_iclt (tg := 50) wi_265_43 ⟨by decide, by decide⟩ (fun q => ?_) (fun q => ?_)
          ·
            have h := wp_pos h q
            refine rs_pure wi_265_50 rfl ?_
            refine rs_topi (v := 0) (by decide) ?_
            exact hj51 _ h _ l0 l1 l3
          ·
            have h := wp_neg h q
            refine rs_pure wi_265_46 rfl ?_
            refine rs_topi (v := 1) (by decide) ?_
            refine rs_goto (tg := 51) wi_265_47 ⟨by decide, by decide⟩ ?_
            exact hj51 _ h _ l0 l1 l3
        refine rs_iflt (tg := 37) wi_265_30 ⟨by decide, by decide⟩ (fun q => ?_) (fun q => ?_)
        ·
          have h := wp_pos h q
          refine rs_pure wi_265_37 rfl ?_
          refine rs_topi (v := 0) (by decide) ?_
          exact hj38 _ h _ l0 l1 l3
        ·
          have h := wp_neg h q
          refine rs_pure wi_265_33 rfl ?_
          refine rs_topi (v := 1) (by decide) ?_
          refine rs_goto (tg := 38) wi_265_34 ⟨by decide, by decide⟩ ?_
          exact hj38 _ h _ l0 l1 l3
  ·
    refine sum_all ?_ ?_
    ·
      intro x48 h lv l0
      have h := wp_inl h
      refine rs_aldn wi_265_206 l0 ?_
      refine rs_pure wi_265_207 rfl ?_
      refine rs_topi (v := 41) (by decide) ?_
      refine rs_V wi_265_209 wc_265_114 rfl (dq_isa tf_145_0 wa_10_257) (Nat.le_trans (by decide) hF) (ml_le wm_257 (Nat.le_trans (by decide) hLo)) rfl (sp_257 hw (Nat.le_trans (by decide : 7 ≤ 9 - 1) (Nat.sub_le_sub_right hF 1)) (ml_sub wm_257 (Nat.le_trans (by decide : 104 ≤ 148 - 21) (Nat.sub_le_sub_right hLo 21))) (wp_bind h) (fun r49 h => rs_back0 ?_) (fun z50 h => rs_up wh0_265_209 whh_265 (hT z50 (wp_inr h))))
      have h := wp_inl h
      exact rs_vret wi_265_212 wr_265 (hQ r49 h)
    ·
      intro x51 h
      exact h
theorem wc_266_61 : rx_ct (rt_P sc fm) 266 61 = some (0, 41, 2) := (by decide +kernel : rt_ct 266 61 = some (0, 41, 2))
theorem wc_266_79 : rx_ct (rt_P sc fm) 266 79 = some (0, 42, 0) := (by decide +kernel : rt_ct 266 79 = some (0, 42, 0))
theorem wc_266_82 : rx_ct (rt_P sc fm) 266 82 = some (0, 43, 0) := (by decide +kernel : rt_ct 266 82 = some (0, 43, 0))
theorem wf_266_219 : rx_ft (rt_P sc fm) 266 219 = some (6, 6) := (by decide +kernel : rt_ft 266 219 = some (6, 6))
theorem wf_266_49 : rx_ft (rt_P sc fm) 266 49 = some (10, 7) := (by decide +kernel : rt_ft 266 49 = some (10, 7))
theorem wh0_266_82 : rx_ht (rt_P sc fm) 266 82 "java/lang/IllegalArgumentException" = none := (by decide +kernel : rt_ht 266 82 "java/lang/IllegalArgumentException" = none)
theorem whh_266 : rx_hh (rt_P sc fm) 266 = [] := (by decide +kernel : rt_hh 266 = [])
theorem wi_266_0 : ri (rt_P sc fm) 266 0 (.aload_n 1) (1) := ri_of (by decide +kernel) rfl
theorem wi_266_1 : ri (rt_P sc fm) 266 1 (.iconst 0) (2) := ri_of (by decide +kernel) rfl
theorem wi_266_11 : ri (rt_P sc fm) 266 11 (.if_icmp .ge 58) (14) := ri_of (by decide +kernel) rfl
theorem wi_266_14 : ri (rt_P sc fm) 266 14 (.aload_n 0) (15) := ri_of (by decide +kernel) rfl
theorem wi_266_15 : ri (rt_P sc fm) 266 15 (.invokevirtual 82) (18) := ri_of (by decide +kernel) rfl
theorem wi_266_18 : ri (rt_P sc fm) 266 18 (.sipush 202) (21) := ri_of (by decide +kernel) rfl
theorem wi_266_2 : ri (rt_P sc fm) 266 2 (.putfield 219) (5) := ri_of (by decide +kernel) rfl
theorem wi_266_21 : ri (rt_P sc fm) 266 21 (.if_icmp .lt 48) (24) := ri_of (by decide +kernel) rfl
theorem wi_266_24 : ri (rt_P sc fm) 266 24 (.aload_n 0) (25) := ri_of (by decide +kernel) rfl
theorem wi_266_25 : ri (rt_P sc fm) 266 25 (.invokevirtual 82) (28) := ri_of (by decide +kernel) rfl
theorem wi_266_28 : ri (rt_P sc fm) 266 28 (.sipush 205) (31) := ri_of (by decide +kernel) rfl
theorem wi_266_31 : ri (rt_P sc fm) 266 31 (.if_icmp .gt 38) (34) := ri_of (by decide +kernel) rfl
theorem wi_266_34 : ri (rt_P sc fm) 266 34 (.aload_n 1) (35) := ri_of (by decide +kernel) rfl
theorem wi_266_35 : ri (rt_P sc fm) 266 35 (.dup) (36) := ri_of (by decide +kernel) rfl
theorem wi_266_36 : ri (rt_P sc fm) 266 36 (.getfield 219) (39) := ri_of (by decide +kernel) rfl
theorem wi_266_39 : ri (rt_P sc fm) 266 39 (.iconst 1) (40) := ri_of (by decide +kernel) rfl
theorem wi_266_40 : ri (rt_P sc fm) 266 40 (.aload_n 0) (41) := ri_of (by decide +kernel) rfl
theorem wi_266_41 : ri (rt_P sc fm) 266 41 (.invokevirtual 82) (44) := ri_of (by decide +kernel) rfl
theorem wi_266_44 : ri (rt_P sc fm) 266 44 (.sipush 202) (47) := ri_of (by decide +kernel) rfl
theorem wi_266_47 : ri (rt_P sc fm) 266 47 (.isub) (48) := ri_of (by decide +kernel) rfl
theorem wi_266_48 : ri (rt_P sc fm) 266 48 (.ishl) (49) := ri_of (by decide +kernel) rfl
theorem wi_266_49 : ri (rt_P sc fm) 266 49 (.ior) (50) := ri_of (by decide +kernel) rfl
theorem wi_266_5 : ri (rt_P sc fm) 266 5 (.iconst 0) (6) := ri_of (by decide +kernel) rfl
theorem wi_266_50 : ri (rt_P sc fm) 266 50 (.putfield 219) (53) := ri_of (by decide +kernel) rfl
theorem wi_266_53 : ri (rt_P sc fm) 266 53 (.aload_n 0) (54) := ri_of (by decide +kernel) rfl
theorem wi_266_54 : ri (rt_P sc fm) 266 54 (.dup) (55) := ri_of (by decide +kernel) rfl
theorem wi_266_55 : ri (rt_P sc fm) 266 55 (.getfield 49) (58) := ri_of (by decide +kernel) rfl
theorem wi_266_58 : ri (rt_P sc fm) 266 58 (.iconst 1) (59) := ri_of (by decide +kernel) rfl
theorem wi_266_59 : ri (rt_P sc fm) 266 59 (.iadd) (60) := ri_of (by decide +kernel) rfl
theorem wi_266_6 : ri (rt_P sc fm) 266 6 (.istore_n 2) (7) := ri_of (by decide +kernel) rfl
theorem wi_266_60 : ri (rt_P sc fm) 266 60 (.putfield 49) (63) := ri_of (by decide +kernel) rfl
theorem wi_266_63 : ri (rt_P sc fm) 266 63 (.iinc 2 1) (66) := ri_of (by decide +kernel) rfl
theorem wi_266_66 : ri (rt_P sc fm) 266 66 (.goto (-59)) (69) := ri_of (by decide +kernel) rfl
theorem wi_266_69 : ri (rt_P sc fm) 266 69 (.aload_n 1) (70) := ri_of (by decide +kernel) rfl
theorem wi_266_7 : ri (rt_P sc fm) 266 7 (.iload_n 2) (8) := ri_of (by decide +kernel) rfl
theorem wi_266_70 : ri (rt_P sc fm) 266 70 (.getfield 219) (73) := ri_of (by decide +kernel) rfl
theorem wi_266_73 : ri (rt_P sc fm) 266 73 (.ifCond .ne 12) (76) := ri_of (by decide +kernel) rfl
theorem wi_266_76 : ri (rt_P sc fm) 266 76 (.aload_n 0) (77) := ri_of (by decide +kernel) rfl
theorem wi_266_77 : ri (rt_P sc fm) 266 77 (.iconst 2) (78) := ri_of (by decide +kernel) rfl
theorem wi_266_78 : ri (rt_P sc fm) 266 78 (.aload_n 0) (79) := ri_of (by decide +kernel) rfl
theorem wi_266_79 : ri (rt_P sc fm) 266 79 (.invokevirtual 79) (82) := ri_of (by decide +kernel) rfl
theorem wi_266_8 : ri (rt_P sc fm) 266 8 (.sipush 4000) (11) := ri_of (by decide +kernel) rfl
theorem wi_266_82 : ri (rt_P sc fm) 266 82 (.invokevirtual 61) (85) := ri_of (by decide +kernel) rfl
theorem wi_266_85 : ri (rt_P sc fm) 266 85 (.return_) (86) := ri_of (by decide +kernel) rfl
theorem wp_266_219 : rx_pt (rt_P sc fm) 266 219 = some (6, 6, .int) := (by decide +kernel : rt_pt 266 219 = some (6, 6, .int))
theorem wp_266_49 : rx_pt (rt_P sc fm) 266 49 = some (10, 7, .int) := (by decide +kernel : rt_pt 266 49 = some (10, 7, .int))
theorem wr_266 : rx_rt (rt_P sc fm) 266 = none := (by decide +kernel : rt_rt 266 = none)
/-- MarkHouse$Reader.readSorts(LMarkHouse$Kind;)V -/
def d_266 (n : Nat) (k1 : Nat) (c : cS) : Option ((cS) ⊕ cS) :=
  lt (pI c (kA k1) 6 0) (fun c1 =>
  Option.bind (whl (R := (cS)) (fun s4 : Int32 × cS =>
    if 4000 ≤ s4.1 then
      some (.inr s4.2)
    else
      Option.bind (d_43 n s4.2) (fun v5 =>
      if v5 < 202 then
        some (.inr s4.2)
      else
        Option.bind (d_43 n s4.2) (fun v6 =>
        if 205 < v6 then
          some (.inr s4.2)
        else
          Option.bind (d_43 n s4.2) (fun v7 =>
          lt (pI s4.2 (kA k1) 6 ((s4.2.1 (kA k1) 6) ||| (1 <<< ((v7 - 202) &&& 31)))) (fun c8 =>
          lt (pI c8 145 7 ((c8.1 145 7) + 1)) (fun c10 =>
          lt (s4.1 + 1 : Int32) (fun v13 =>
          some (.inl (v13, c10))))))))) n (0, c1))
  (fun x15 : cS =>
    jn (fun p16 : cS =>
      some (.inl p16))
    (fun j85 =>
    if (x15.1 (kA k1) 6) = 0 then
      Option.bind (d_42 n x15) (fun v17 =>
      Option.bind (d_41 n 2 v17 x15) (Sum.elim (fun r18 =>
      j85 r18)
      (fun z19 => some (.inr z19))))
    else
      j85 x15)))
theorem sp_266 {F Lo n : Nat} {k1 : Nat} {c y : cS} {w : cW} {K : (cS) ⊕ cS → Prop} {Q : ((Option Value) ⊕ String) → List va_E → Prop} (hw : rOK fm w) (hF : 7 ≤ F) (hLo : 104 ≤ Lo) (hk1 : k1 < 12) (h : wp (d_266 n k1 c) K) (hQ : ∀ r, K (.inl r) → Q (.inl none) (hq true r y w)) (hT : ∀ r, K (.inr r) → Q (.inr "java/lang/IllegalArgumentException") (hq true r y w)) : rs (rt_P sc fm) 266 F Lo 0 [(0, .ref 145), (1, .ref (kA k1))] [] (hq true c y w) Q := by
  unfold d_266 at h
  obtain ⟨lv, elv⟩ : ∃ lv : rx_L, lv = [(0, .ref 145), (1, .ref (kA k1))] := ⟨_, rfl⟩
  rw [← elv]
  have l0 : rx_ld lv 0 = some (.ref 145) := by rw [elv]; rfl
  have l1 : rx_ld lv 1 = some (.ref (kA k1)) := by rw [elv]; rfl
  refine rs_aldn wi_266_0 l1 ?_
  refine rs_pure wi_266_1 rfl ?_
  refine rs_topi (v := 0) (by decide) ?_
  obtain ⟨c1, e2, h⟩ := wp_lt h
  refine dq_pi wi_266_2 wp_266_219 (fK_6 hk1) rfl rfl e2 ?_
  refine rs_pure wi_266_5 rfl ?_
  refine rs_topi (v := 0) (by decide) ?_
  refine dl_istn wi_266_6 rfl (fun lv l2 t3 => ?_)
  have l0 := t3 _ _ (by decide) (Or.inl rfl) l0
  have l1 := t3 _ _ (by decide) (Or.inl rfl) l1
  refine whl_ex (A := fun s4 : Int32 × cS => ∀ lv, rx_ld lv 0 = some (.ref 145) → rx_ld lv 1 = some (.ref (kA k1)) → rx_ld lv 2 = some (.int s4.1) → rs (rt_P sc fm) 266 F Lo 7 lv [] (hq true s4.2 y w) Q) (B := (fun x15 : cS => ∀ lv, rx_ld lv 0 = some (.ref 145) → rx_ld lv 1 = some (.ref (kA k1)) → rs (rt_P sc fm) 266 F Lo 69 lv [] (hq true x15 y w) Q)) ?_ ?_ _ _ (wp_bind h) _ l0 l1 l2
  · intro s4 h lv l0 l1 l2
    refine rs_ildn wi_266_7 l2 ?_
    refine rs_pure wi_266_8 rfl ?_
    refine rs_topi (v := 4000) (by decide) ?_
    refine rs_icge (tg := 69) wi_266_11 ⟨by decide, by decide⟩ (fun q => ?_) (fun q => ?_)
    ·
      have h := wp_pos h q
      exact h _ l0 l1
    ·
      have h := wp_neg h q
      refine rs_aldn wi_266_14 l0 ?_
      refine rs_V wi_266_15 wc_266_82 rfl (dq_isa tf_145_0 wa_10_43) (Nat.le_trans (by decide) hF) (ml_le wm_43 (Nat.le_trans (by decide) hLo)) rfl (sp_43 hw (Nat.le_trans (by decide : 0 ≤ 7 - 1) (Nat.sub_le_sub_right hF 1)) (ml_sub wm_43 (Nat.le_trans (by decide : 0 ≤ 104 - 20) (Nat.sub_le_sub_right hLo 20))) (wp_bind h) (fun v5 h => rs_back1 ?_))
      refine rs_pure wi_266_18 rfl ?_
      refine rs_topi (v := 202) (by decide) ?_
      refine rs_iclt (tg := 69) wi_266_21 ⟨by decide, by decide⟩ (fun q => ?_) (fun q => ?_)
      ·
        have h := wp_pos h q
        exact h _ l0 l1
      ·
        have h := wp_neg h q
        refine rs_aldn wi_266_24 l0 ?_
        refine rs_V wi_266_25 wc_266_82 rfl (dq_isa tf_145_0 wa_10_43) (Nat.le_trans (by decide) hF) (ml_le wm_43 (Nat.le_trans (by decide) hLo)) rfl (sp_43 hw (Nat.le_trans (by decide : 0 ≤ 7 - 1) (Nat.sub_le_sub_right hF 1)) (ml_sub wm_43 (Nat.le_trans (by decide : 0 ≤ 104 - 20) (Nat.sub_le_sub_right hLo 20))) (wp_bind h) (fun v6 h => rs_back1 ?_))
        refine rs_pure wi_266_28 rfl ?_
        refine rs_topi (v := 205) (by decide) ?_
        refine rs_icgt (tg := 69) wi_266_31 ⟨by decide, by decide⟩ (fun q => ?_) (fun q => ?_)
        ·
          have h := wp_pos h q
          exact h _ l0 l1
        ·
          have h := wp_neg h q
          refine rs_aldn wi_266_34 l1 ?_
          refine rs_pure wi_266_35 rfl ?_
          refine dq_gi wi_266_36 wf_266_219 (fK_6 hk1) ?_
          refine rs_pure wi_266_39 rfl ?_
          refine rs_topi (v := 1) (by decide) ?_
          refine rs_aldn wi_266_40 l0 ?_
          refine rs_V wi_266_41 wc_266_82 rfl (dq_isa tf_145_0 wa_10_43) (Nat.le_trans (by decide) hF) (ml_le wm_43 (Nat.le_trans (by decide) hLo)) rfl (sp_43 hw (Nat.le_trans (by decide : 0 ≤ 7 - 1) (Nat.sub_le_sub_right hF 1)) (ml_sub wm_43 (Nat.le_trans (by decide : 0 ≤ 104 - 20) (Nat.sub_le_sub_right hLo 20))) (wp_bind h) (fun v7 h => rs_back1 ?_))
          refine rs_pure wi_266_44 rfl ?_
          refine rs_topi (v := 202) (by decide) ?_
          refine rs_pure wi_266_47 rfl ?_
          refine rs_pure wi_266_48 rfl ?_
          refine rs_pure wi_266_49 rfl ?_
          obtain ⟨c8, e9, h⟩ := wp_lt h
          refine dq_pi wi_266_50 wp_266_219 (fK_6 hk1) rfl rfl e9 ?_
          refine rs_aldn wi_266_53 l0 ?_
          refine rs_pure wi_266_54 rfl ?_
          refine dq_gi wi_266_55 wf_266_49 tf_145_7 ?_
          refine rs_pure wi_266_58 rfl ?_
          refine rs_topi (v := 1) (by decide) ?_
          refine rs_pure wi_266_59 rfl ?_
          obtain ⟨c10, e11, h⟩ := wp_lt h
          refine dq_pi wi_266_60 wp_266_49 tf_145_7 rfl rfl e11 ?_
          obtain ⟨v13, e14, h⟩ := wp_lt h
          refine dl_inc wi_266_63 l2 rfl e14 (fun lv l2 t12 => ?_)
          have l0 := t12 _ _ (by decide) (Or.inl rfl) l0
          have l1 := t12 _ _ (by decide) (Or.inl rfl) l1
          refine rs_goto (tg := 7) wi_266_66 ⟨by decide, by decide⟩ ?_
          exact h _ l0 l1 l2
  ·
    intro x15 h lv l0 l1
    refine rs_aldn wi_266_69 l1 ?_
    refine dq_gi wi_266_70 wf_266_219 (fK_6 hk1) ?_
    refine wp_jn (B := fun p16 : cS => ∀ lv, rs (rt_P sc fm) 266 F Lo 85 lv [] (hq true p16 y w) Q) h (fun p16 h lv => ?_) (fun j85 hj85 h => ?_)
    ·
      exact rs_vret wi_266_85 wr_266 (hQ p16 h)
    refine rs_ifne (tg := 85) wi_266_73 ⟨by decide, by decide⟩ (fun q => ?_) (fun q => ?_)
    ·
      have h := wp_neg h q
      exact hj85 _ h _
    ·
      have h := wp_pos h q
      refine rs_aldn wi_266_76 l0 ?_
      refine rs_pure wi_266_77 rfl ?_
      refine rs_topi (v := 2) (by decide) ?_
      refine rs_aldn wi_266_78 l0 ?_
      refine rs_V wi_266_79 wc_266_79 rfl (dq_isa tf_145_0 wa_10_42) (Nat.le_trans (by decide) hF) (ml_le wm_42 (Nat.le_trans (by decide) hLo)) rfl (sp_42 hw (Nat.le_trans (by decide : 0 ≤ 7 - 1) (Nat.sub_le_sub_right hF 1)) (ml_sub wm_42 (Nat.le_trans (by decide : 0 ≤ 104 - 20) (Nat.sub_le_sub_right hLo 20))) (wp_bind h) (fun v17 h => rs_back1 ?_))
      refine rs_V wi_266_82 wc_266_61 rfl (dq_isa tf_145_0 wa_10_41) (Nat.le_trans (by decide) hF) (ml_le wm_41 (Nat.le_trans (by decide) hLo)) rfl (sp_41 hw (Nat.le_trans (by decide : 6 ≤ 7 - 1) (Nat.sub_le_sub_right hF 1)) (ml_sub wm_41 (Nat.le_trans (by decide : 82 ≤ 104 - 22) (Nat.sub_le_sub_right hLo 22))) (wp_bind h) (fun r18 h => rs_back0 ?_) (fun z19 h => rs_up wh0_266_82 whh_266 (hT z19 (wp_inr h))))
      have h := wp_inl h
      exact hj85 _ h _
theorem t_134 : ta true 134 1 4096 := ⟨rfl, by decide, by decide⟩
theorem t_138 : ta true 138 0 4096 := ⟨rfl, by decide, by decide⟩
theorem t_142 : ta true 142 0 2242 := ⟨rfl, by decide, by decide⟩
theorem tf_133_4 : fo true 133 7 4 (.ref 138) := ⟨_, rfl, rfl, by decide, by decide⟩
theorem tf_133_8 : fo true 133 7 8 (.ref 142) := ⟨_, rfl, rfl, by decide, by decide⟩
theorem wf_229_26 : rx_ft (rt_P sc fm) 229 26 = some (7, 4) := (by decide +kernel : rt_ft 229 26 = some (7, 4))
theorem wf_229_39 : rx_ft (rt_P sc fm) 229 39 = some (7, 8) := (by decide +kernel : rt_ft 229 39 = some (7, 8))
theorem wf_229_45 : rx_ft (rt_P sc fm) 229 45 = some (7, 10) := (by decide +kernel : rt_ft 229 45 = some (7, 10))
theorem wf_229_9 : rx_ft (rt_P sc fm) 229 9 = some (7, 0) := (by decide +kernel : rt_ft 229 9 = some (7, 0))
theorem wi_229_0 : ri (rt_P sc fm) 229 0 (.aload_n 0) (1) := ri_of (by decide +kernel) rfl
theorem wi_229_1 : ri (rt_P sc fm) 229 1 (.getfield 39) (4) := ri_of (by decide +kernel) rfl
theorem wi_229_11 : ri (rt_P sc fm) 229 11 (.iload 5) (13) := ri_of (by decide +kernel) rfl
theorem wi_229_13 : ri (rt_P sc fm) 229 13 (.aload_n 0) (14) := ri_of (by decide +kernel) rfl
theorem wi_229_14 : ri (rt_P sc fm) 229 14 (.getfield 45) (17) := ri_of (by decide +kernel) rfl
theorem wi_229_17 : ri (rt_P sc fm) 229 17 (.iload_n 1) (18) := ri_of (by decide +kernel) rfl
theorem wi_229_18 : ri (rt_P sc fm) 229 18 (.iaload) (19) := ri_of (by decide +kernel) rfl
theorem wi_229_19 : ri (rt_P sc fm) 229 19 (.if_icmp .ge 32) (22) := ri_of (by decide +kernel) rfl
theorem wi_229_22 : ri (rt_P sc fm) 229 22 (.aload_n 0) (23) := ri_of (by decide +kernel) rfl
theorem wi_229_23 : ri (rt_P sc fm) 229 23 (.getfield 9) (26) := ri_of (by decide +kernel) rfl
theorem wi_229_26 : ri (rt_P sc fm) 229 26 (.iload 4) (28) := ri_of (by decide +kernel) rfl
theorem wi_229_28 : ri (rt_P sc fm) 229 28 (.laload) (29) := ri_of (by decide +kernel) rfl
theorem wi_229_29 : ri (rt_P sc fm) 229 29 (.lload_n 2) (30) := ri_of (by decide +kernel) rfl
theorem wi_229_30 : ri (rt_P sc fm) 229 30 (.lcmp) (31) := ri_of (by decide +kernel) rfl
theorem wi_229_31 : ri (rt_P sc fm) 229 31 (.ifCond .ne 5) (34) := ri_of (by decide +kernel) rfl
theorem wi_229_34 : ri (rt_P sc fm) 229 34 (.iconst 1) (35) := ri_of (by decide +kernel) rfl
theorem wi_229_35 : ri (rt_P sc fm) 229 35 (.ireturn) (36) := ri_of (by decide +kernel) rfl
theorem wi_229_36 : ri (rt_P sc fm) 229 36 (.aload_n 0) (37) := ri_of (by decide +kernel) rfl
theorem wi_229_37 : ri (rt_P sc fm) 229 37 (.getfield 26) (40) := ri_of (by decide +kernel) rfl
theorem wi_229_4 : ri (rt_P sc fm) 229 4 (.iload_n 1) (5) := ri_of (by decide +kernel) rfl
theorem wi_229_40 : ri (rt_P sc fm) 229 40 (.iload 4) (42) := ri_of (by decide +kernel) rfl
theorem wi_229_42 : ri (rt_P sc fm) 229 42 (.iaload) (43) := ri_of (by decide +kernel) rfl
theorem wi_229_43 : ri (rt_P sc fm) 229 43 (.istore 4) (45) := ri_of (by decide +kernel) rfl
theorem wi_229_45 : ri (rt_P sc fm) 229 45 (.iinc 5 1) (48) := ri_of (by decide +kernel) rfl
theorem wi_229_48 : ri (rt_P sc fm) 229 48 (.goto (-37)) (51) := ri_of (by decide +kernel) rfl
theorem wi_229_5 : ri (rt_P sc fm) 229 5 (.iaload) (6) := ri_of (by decide +kernel) rfl
theorem wi_229_51 : ri (rt_P sc fm) 229 51 (.iconst 0) (52) := ri_of (by decide +kernel) rfl
theorem wi_229_52 : ri (rt_P sc fm) 229 52 (.ireturn) (53) := ri_of (by decide +kernel) rfl
theorem wi_229_6 : ri (rt_P sc fm) 229 6 (.istore 4) (8) := ri_of (by decide +kernel) rfl
theorem wi_229_8 : ri (rt_P sc fm) 229 8 (.iconst 0) (9) := ri_of (by decide +kernel) rfl
theorem wi_229_9 : ri (rt_P sc fm) 229 9 (.istore 5) (11) := ri_of (by decide +kernel) rfl
theorem wr_229 : rx_rt (rt_P sc fm) 229 = (some FieldType.boolean) := (by decide +kernel : rt_rt 229 = (some FieldType.boolean))
/-- MarkHouse$Marks.hasName(IJ)Z -/
def d_229 (n : Nat) (a1 : Int32) (a2 : Int64) (c : cS) : Option (Int32) :=
  if ib a1 2242 then
  lt ((c.1 142 (ix a1)) : Int32) (fun v3 =>
  Option.bind (whl (R := (Unit) ⊕ (Unit)) (fun s6 : Int32 × Int32 =>
    if ib a1 2242 then
    if (c.1 144 (ix a1)) ≤ s6.2 then
      some (.inr (.inl ()))
    else
      if ib s6.1 4096 then
      if (lg_cmp (c.2 134 (ix s6.1)) a2) = 0 then
        some (.inr (.inr ()))
      else
        if ib s6.1 4096 then
        lt ((c.1 138 (ix s6.1)) : Int32) (fun v11 =>
        lt (s6.2 + 1 : Int32) (fun v14 =>
        some (.inl (v11, v14))))
        else none
      else none
    else none) n (v3, 0))
  (Sum.elim (fun x16 : Unit =>
    some 0)
  (fun x17 : Unit =>
    some 1)))
  else none
theorem sp_229 {F Lo n : Nat} {a1 : Int32} {a2 : Int64} {c y : cS} {w : cW} {K : Int32 → Prop} {Q : ((Option Value) ⊕ String) → List va_E → Prop} (hw : rOK fm w) (hF : 0 ≤ F) (hLo : 0 ≤ Lo)  (h : wp (d_229 n a1 a2 c) K) (hQ : ∀ r, K r → Q (.inl (some (.int r))) (hq true c y w)) : rs (rt_P sc fm) 229 F Lo 0 [(0, .ref 133), (1, .int a1), (2, .long a2)] [] (hq true c y w) Q := by
  unfold d_229 at h
  obtain ⟨lv, elv⟩ : ∃ lv : rx_L, lv = [(0, .ref 133), (1, .int a1), (2, .long a2)] := ⟨_, rfl⟩
  rw [← elv]
  have l0 : rx_ld lv 0 = some (.ref 133) := by rw [elv]; rfl
  have l1 : rx_ld lv 1 = some (.int a1) := by rw [elv]; rfl
  have l2 : rx_ld lv 2 = some (.long a2) := by rw [elv]; rfl
  refine rs_aldn wi_229_0 l0 ?_
  refine dq_gr wi_229_1 wf_229_39 tf_133_8 ?_
  refine rs_ildn wi_229_4 l1 ?_
  obtain ⟨g1, h⟩ := wp_gd h
  refine dq_iald wi_229_5 t_142 g1 ?_
  obtain ⟨v3, e4, h⟩ := wp_lt h
  refine rs_topi e4 ?_
  refine dl_ist wi_229_6 rfl (fun lv l4 t2 => ?_)
  have l0 := t2 _ _ (by decide) (Or.inl rfl) l0
  have l1 := t2 _ _ (by decide) (Or.inl rfl) l1
  have l2 := t2 _ _ (by decide) (Or.inr (by decide)) l2
  refine rs_pure wi_229_8 rfl ?_
  refine rs_topi (v := 0) (by decide) ?_
  refine dl_ist wi_229_9 rfl (fun lv l5 t5 => ?_)
  have l0 := t5 _ _ (by decide) (Or.inl rfl) l0
  have l1 := t5 _ _ (by decide) (Or.inl rfl) l1
  have l2 := t5 _ _ (by decide) (Or.inr (by decide)) l2
  have l4 := t5 _ _ (by decide) (Or.inl rfl) l4
  refine whl_ex (A := fun s6 : Int32 × Int32 => ∀ lv, rx_ld lv 0 = some (.ref 133) → rx_ld lv 1 = some (.int a1) → rx_ld lv 2 = some (.long a2) → rx_ld lv 4 = some (.int s6.1) → rx_ld lv 5 = some (.int s6.2) → rs (rt_P sc fm) 229 F Lo 11 lv [] (hq true c y w) Q) (B := (Sum.elim (fun x16 : Unit => ∀ lv, rs (rt_P sc fm) 229 F Lo 51 lv [] (hq true c y w) Q) (fun x17 : Unit => ∀ lv, rs (rt_P sc fm) 229 F Lo 34 lv [] (hq true c y w) Q))) ?_ ?_ _ _ (wp_bind h) _ l0 l1 l2 l4 l5
  · intro s6 h lv l0 l1 l2 l4 l5
    refine rs_ild wi_229_11 l5 ?_
    refine rs_aldn wi_229_13 l0 ?_
    refine dq_gr wi_229_14 wf_229_45 tf_133_10 ?_
    refine rs_ildn wi_229_17 l1 ?_
    obtain ⟨g7, h⟩ := wp_gd h
    refine dq_iald wi_229_18 t_144 g7 ?_
    refine rs_icge (tg := 51) wi_229_19 ⟨by decide, by decide⟩ (fun q => ?_) (fun q => ?_)
    ·
      have h := wp_pos h q
      exact h _
    ·
      have h := wp_neg h q
      refine rs_aldn wi_229_22 l0 ?_
      refine dq_gr wi_229_23 wf_229_9 tf_133_0 ?_
      refine rs_ild wi_229_26 l4 ?_
      obtain ⟨g8, h⟩ := wp_gd h
      refine dq_lald wi_229_28 t_134 g8 ?_
      refine rs_lldn wi_229_29 l2 ?_
      refine rs_pure wi_229_30 rfl ?_
      refine rs_ifne (tg := 36) wi_229_31 ⟨by decide, by decide⟩ (fun q => ?_) (fun q => ?_)
      ·
        have h := wp_neg h q
        refine rs_aldn wi_229_36 l0 ?_
        refine dq_gr wi_229_37 wf_229_26 tf_133_4 ?_
        refine rs_ild wi_229_40 l4 ?_
        obtain ⟨g9, h⟩ := wp_gd h
        refine dq_iald wi_229_42 t_138 g9 ?_
        obtain ⟨v11, e12, h⟩ := wp_lt h
        refine rs_topi e12 ?_
        refine dl_ist wi_229_43 rfl (fun lv l4 t10 => ?_)
        have l0 := t10 _ _ (by decide) (Or.inl rfl) l0
        have l1 := t10 _ _ (by decide) (Or.inl rfl) l1
        have l2 := t10 _ _ (by decide) (Or.inr (by decide)) l2
        have l5 := t10 _ _ (by decide) (Or.inl rfl) l5
        obtain ⟨v14, e15, h⟩ := wp_lt h
        refine dl_inc wi_229_45 l5 rfl e15 (fun lv l5 t13 => ?_)
        have l0 := t13 _ _ (by decide) (Or.inl rfl) l0
        have l1 := t13 _ _ (by decide) (Or.inl rfl) l1
        have l2 := t13 _ _ (by decide) (Or.inr (by decide)) l2
        have l4 := t13 _ _ (by decide) (Or.inl rfl) l4
        refine rs_goto (tg := 11) wi_229_48 ⟨by decide, by decide⟩ ?_
        exact h _ l0 l1 l2 l4 l5
      ·
        have h := wp_pos h q
        exact h _
  ·
    refine sum_all ?_ ?_
    ·
      intro x16 h lv
      have h := wp_inl h
      refine rs_pure wi_229_51 rfl ?_
      refine rs_topi (v := 0) (by decide) ?_
      exact rs_iret wi_229_52 wr_229 (nb_n (by decide)) (hQ 0 h)
    ·
      intro x17 h lv
      have h := wp_inr h
      refine rs_pure wi_229_34 rfl ?_
      refine rs_topi (v := 1) (by decide) ?_
      exact rs_iret wi_229_35 wr_229 (nb_n (by decide)) (hQ 1 h)
theorem wf_251_19 : rx_ft (rt_P sc fm) 251 19 = some (9, 3) := (by decide +kernel : rt_ft 251 19 = some (9, 3))
theorem wf_251_97 : rx_ft (rt_P sc fm) 251 97 = some (6, 8) := (by decide +kernel : rt_ft 251 97 = some (6, 8))
theorem wi_251_0 : ri (rt_P sc fm) 251 0 (.iload_n 1) (1) := ri_of (by decide +kernel) rfl
theorem wi_251_1 : ri (rt_P sc fm) 251 1 (.bipush 100) (3) := ri_of (by decide +kernel) rfl
theorem wi_251_10 : ri (rt_P sc fm) 251 10 (.iload_n 1) (11) := ri_of (by decide +kernel) rfl
theorem wi_251_11 : ri (rt_P sc fm) 251 11 (.aaload) (12) := ri_of (by decide +kernel) rfl
theorem wi_251_12 : ri (rt_P sc fm) 251 12 (.getfield 97) (15) := ri_of (by decide +kernel) rfl
theorem wi_251_15 : ri (rt_P sc fm) 251 15 (.ifCond .eq 7) (18) := ri_of (by decide +kernel) rfl
theorem wi_251_18 : ri (rt_P sc fm) 251 18 (.iconst 1) (19) := ri_of (by decide +kernel) rfl
theorem wi_251_19 : ri (rt_P sc fm) 251 19 (.goto 4) (22) := ri_of (by decide +kernel) rfl
theorem wi_251_22 : ri (rt_P sc fm) 251 22 (.iconst 0) (23) := ri_of (by decide +kernel) rfl
theorem wi_251_23 : ri (rt_P sc fm) 251 23 (.ireturn) (24) := ri_of (by decide +kernel) rfl
theorem wi_251_3 : ri (rt_P sc fm) 251 3 (.if_icmp .ge 19) (6) := ri_of (by decide +kernel) rfl
theorem wi_251_6 : ri (rt_P sc fm) 251 6 (.aload_n 0) (7) := ri_of (by decide +kernel) rfl
theorem wi_251_7 : ri (rt_P sc fm) 251 7 (.getfield 19) (10) := ri_of (by decide +kernel) rfl
theorem wr_251 : rx_rt (rt_P sc fm) 251 = (some FieldType.boolean) := (by decide +kernel : rt_rt 251 = (some FieldType.boolean))
/-- MarkHouse$Program.isMany(I)Z -/
def d_251 (n : Nat) (a1 : Int32) (c : cS) : Option (Int32) :=
  jn (fun p1 : Int32 =>
    if nb p1 then
    some p1
    else none)
  (fun j23 =>
  jn (fun p3 : Unit =>
    j23 0)
  (fun j22 =>
  if 100 ≤ a1 then
    j22 ()
  else
    if ib a1 12 then
    if (c.1 (kA (ix a1)) 8) = 0 then
      j22 ()
    else
      j23 1
    else none))
theorem sp_251 {F Lo n : Nat} {a1 : Int32} {c y : cS} {w : cW} {K : Int32 → Prop} {Q : ((Option Value) ⊕ String) → List va_E → Prop} (hw : rOK fm w) (hF : 0 ≤ F) (hLo : 0 ≤ Lo)  (h : wp (d_251 n a1 c) K) (hQ : ∀ r, K r → Q (.inl (some (.int r))) (hq true c y w)) : rs (rt_P sc fm) 251 F Lo 0 [(0, .ref 7), (1, .int a1)] [] (hq true c y w) Q := by
  unfold d_251 at h
  obtain ⟨lv, elv⟩ : ∃ lv : rx_L, lv = [(0, .ref 7), (1, .int a1)] := ⟨_, rfl⟩
  rw [← elv]
  have l0 : rx_ld lv 0 = some (.ref 7) := by rw [elv]; rfl
  have l1 : rx_ld lv 1 = some (.int a1) := by rw [elv]; rfl
  refine rs_ildn wi_251_0 l1 ?_
  refine rs_pure wi_251_1 rfl ?_
  refine rs_topi (v := 100) (by decide) ?_
  refine wp_jn (B := fun p1 : Int32 => ∀ lv, rs (rt_P sc fm) 251 F Lo 23 lv [.int p1] (hq true c y w) Q) h (fun p1 h lv => ?_) (fun j23 hj23 h => ?_)
  ·
    obtain ⟨g2, h⟩ := wp_gd h
    exact rs_iret wi_251_23 wr_251 (nb_n g2) (hQ p1 h)
  refine wp_jn (B := fun p3 : Unit => ∀ lv, rs (rt_P sc fm) 251 F Lo 22 lv [] (hq true c y w) Q) h (fun p3 h lv => ?_) (fun j22 hj22 h => ?_)
  ·
    refine rs_pure wi_251_22 rfl ?_
    refine rs_topi (v := 0) (by decide) ?_
    exact hj23 _ h _
  refine rs_icge (tg := 22) wi_251_3 ⟨by decide, by decide⟩ (fun q => ?_) (fun q => ?_)
  ·
    have h := wp_pos h q
    exact hj22 _ h _
  ·
    have h := wp_neg h q
    refine rs_aldn wi_251_6 l0 ?_
    refine dq_gr wi_251_7 wf_251_19 tf_7_3 ?_
    refine rs_ildn wi_251_10 l1 ?_
    obtain ⟨g4, h⟩ := wp_gd h
    refine dq_aald wi_251_11 (by decide) t_9 g4 (hw.2.1 _ (ib_lt g4)) ?_
    refine dq_gi wi_251_12 wf_251_97 (fK_8 (ib_lt g4)) ?_
    refine rs_ifeq (tg := 22) wi_251_15 ⟨by decide, by decide⟩ (fun q => ?_) (fun q => ?_)
    ·
      have h := wp_pos h q
      exact hj22 _ h _
    ·
      have h := wp_neg h q
      refine rs_pure wi_251_18 rfl ?_
      refine rs_topi (v := 1) (by decide) ?_
      refine rs_goto (tg := 23) wi_251_19 ⟨by decide, by decide⟩ ?_
      exact hj23 _ h _
theorem wf_250_19 : rx_ft (rt_P sc fm) 250 19 = some (9, 3) := (by decide +kernel : rt_ft 250 19 = some (9, 3))
theorem wf_250_94 : rx_ft (rt_P sc fm) 250 94 = some (6, 6) := (by decide +kernel : rt_ft 250 94 = some (6, 6))
theorem wi_250_0 : ri (rt_P sc fm) 250 0 (.iload_n 1) (1) := ri_of (by decide +kernel) rfl
theorem wi_250_1 : ri (rt_P sc fm) 250 1 (.bipush 100) (3) := ri_of (by decide +kernel) rfl
theorem wi_250_10 : ri (rt_P sc fm) 250 10 (.iconst 1) (11) := ri_of (by decide +kernel) rfl
theorem wi_250_11 : ri (rt_P sc fm) 250 11 (.goto 28) (14) := ri_of (by decide +kernel) rfl
theorem wi_250_14 : ri (rt_P sc fm) 250 14 (.iconst 0) (15) := ri_of (by decide +kernel) rfl
theorem wi_250_15 : ri (rt_P sc fm) 250 15 (.goto 24) (18) := ri_of (by decide +kernel) rfl
theorem wi_250_18 : ri (rt_P sc fm) 250 18 (.aload_n 0) (19) := ri_of (by decide +kernel) rfl
theorem wi_250_19 : ri (rt_P sc fm) 250 19 (.getfield 19) (22) := ri_of (by decide +kernel) rfl
theorem wi_250_22 : ri (rt_P sc fm) 250 22 (.iload_n 1) (23) := ri_of (by decide +kernel) rfl
theorem wi_250_23 : ri (rt_P sc fm) 250 23 (.aaload) (24) := ri_of (by decide +kernel) rfl
theorem wi_250_24 : ri (rt_P sc fm) 250 24 (.getfield 94) (27) := ri_of (by decide +kernel) rfl
theorem wi_250_27 : ri (rt_P sc fm) 250 27 (.iload_n 2) (28) := ri_of (by decide +kernel) rfl
theorem wi_250_28 : ri (rt_P sc fm) 250 28 (.ishr) (29) := ri_of (by decide +kernel) rfl
theorem wi_250_29 : ri (rt_P sc fm) 250 29 (.iconst 1) (30) := ri_of (by decide +kernel) rfl
theorem wi_250_3 : ri (rt_P sc fm) 250 3 (.if_icmp .lt 15) (6) := ri_of (by decide +kernel) rfl
theorem wi_250_30 : ri (rt_P sc fm) 250 30 (.iand) (31) := ri_of (by decide +kernel) rfl
theorem wi_250_31 : ri (rt_P sc fm) 250 31 (.ifCond .eq 7) (34) := ri_of (by decide +kernel) rfl
theorem wi_250_34 : ri (rt_P sc fm) 250 34 (.iconst 1) (35) := ri_of (by decide +kernel) rfl
theorem wi_250_35 : ri (rt_P sc fm) 250 35 (.goto 4) (38) := ri_of (by decide +kernel) rfl
theorem wi_250_38 : ri (rt_P sc fm) 250 38 (.iconst 0) (39) := ri_of (by decide +kernel) rfl
theorem wi_250_39 : ri (rt_P sc fm) 250 39 (.ireturn) (40) := ri_of (by decide +kernel) rfl
theorem wi_250_6 : ri (rt_P sc fm) 250 6 (.iload_n 2) (7) := ri_of (by decide +kernel) rfl
theorem wi_250_7 : ri (rt_P sc fm) 250 7 (.ifCond .eq 7) (10) := ri_of (by decide +kernel) rfl
theorem wr_250 : rx_rt (rt_P sc fm) 250 = (some FieldType.boolean) := (by decide +kernel : rt_rt 250 = (some FieldType.boolean))
/-- MarkHouse$Program.canStand(II)Z -/
def d_250 (n : Nat) (a1 : Int32) (a2 : Int32) (c : cS) : Option (Int32) :=
  jn (fun p1 : Int32 =>
    if nb p1 then
    some p1
    else none)
  (fun j39 =>
  if a1 < 100 then
    if ib a1 12 then
    if (((c.1 (kA (ix a1)) 6) >>> (a2 &&& 31)) &&& 1) = 0 then
      j39 0
    else
      j39 1
    else none
  else
    if a2 = 0 then
      j39 0
    else
      j39 1)
theorem sp_250 {F Lo n : Nat} {a1 : Int32} {a2 : Int32} {c y : cS} {w : cW} {K : Int32 → Prop} {Q : ((Option Value) ⊕ String) → List va_E → Prop} (hw : rOK fm w) (hF : 0 ≤ F) (hLo : 0 ≤ Lo)  (h : wp (d_250 n a1 a2 c) K) (hQ : ∀ r, K r → Q (.inl (some (.int r))) (hq true c y w)) : rs (rt_P sc fm) 250 F Lo 0 [(0, .ref 7), (1, .int a1), (2, .int a2)] [] (hq true c y w) Q := by
  unfold d_250 at h
  obtain ⟨lv, elv⟩ : ∃ lv : rx_L, lv = [(0, .ref 7), (1, .int a1), (2, .int a2)] := ⟨_, rfl⟩
  rw [← elv]
  have l0 : rx_ld lv 0 = some (.ref 7) := by rw [elv]; rfl
  have l1 : rx_ld lv 1 = some (.int a1) := by rw [elv]; rfl
  have l2 : rx_ld lv 2 = some (.int a2) := by rw [elv]; rfl
  refine rs_ildn wi_250_0 l1 ?_
  refine rs_pure wi_250_1 rfl ?_
  refine rs_topi (v := 100) (by decide) ?_
  refine wp_jn (B := fun p1 : Int32 => ∀ lv, rs (rt_P sc fm) 250 F Lo 39 lv [.int p1] (hq true c y w) Q) h (fun p1 h lv => ?_) (fun j39 hj39 h => ?_)
  ·
    obtain ⟨g2, h⟩ := wp_gd h
    exact rs_iret wi_250_39 wr_250 (nb_n g2) (hQ p1 h)
  refine rs_iclt (tg := 18) wi_250_3 ⟨by decide, by decide⟩ (fun q => ?_) (fun q => ?_)
  ·
    have h := wp_pos h q
    refine rs_aldn wi_250_18 l0 ?_
    refine dq_gr wi_250_19 wf_250_19 tf_7_3 ?_
    refine rs_ildn wi_250_22 l1 ?_
    obtain ⟨g3, h⟩ := wp_gd h
    refine dq_aald wi_250_23 (by decide) t_9 g3 (hw.2.1 _ (ib_lt g3)) ?_
    refine dq_gi wi_250_24 wf_250_94 (fK_6 (ib_lt g3)) ?_
    refine rs_ildn wi_250_27 l2 ?_
    refine rs_pure wi_250_28 rfl ?_
    refine rs_pure wi_250_29 rfl ?_
    refine rs_topi (v := 1) (by decide) ?_
    refine rs_pure wi_250_30 rfl ?_
    refine rs_ifeq (tg := 38) wi_250_31 ⟨by decide, by decide⟩ (fun q => ?_) (fun q => ?_)
    ·
      have h := wp_pos h q
      refine rs_pure wi_250_38 rfl ?_
      refine rs_topi (v := 0) (by decide) ?_
      exact hj39 _ h _
    ·
      have h := wp_neg h q
      refine rs_pure wi_250_34 rfl ?_
      refine rs_topi (v := 1) (by decide) ?_
      refine rs_goto (tg := 39) wi_250_35 ⟨by decide, by decide⟩ ?_
      exact hj39 _ h _
  ·
    have h := wp_neg h q
    refine rs_ildn wi_250_6 l2 ?_
    refine rs_ifeq (tg := 14) wi_250_7 ⟨by decide, by decide⟩ (fun q => ?_) (fun q => ?_)
    ·
      have h := wp_pos h q
      refine rs_pure wi_250_14 rfl ?_
      refine rs_topi (v := 0) (by decide) ?_
      refine rs_goto (tg := 39) wi_250_15 ⟨by decide, by decide⟩ ?_
      exact hj39 _ h _
    ·
      have h := wp_neg h q
      refine rs_pure wi_250_10 rfl ?_
      refine rs_topi (v := 1) (by decide) ?_
      refine rs_goto (tg := 39) wi_250_11 ⟨by decide, by decide⟩ ?_
      exact hj39 _ h _
theorem wa_9_250 : rz_cn 9 (rx_yn (rt_P sc fm) 250).cls = true := (by decide +kernel : rz_cn 9 (rt_yn 250).cls = true)
theorem wc_275_356 : rx_ct (rt_P sc fm) 275 356 = some (0, 250, 2) := (by decide +kernel : rt_ct 275 356 = some (0, 250, 2))
theorem wf_275_15 : rx_ft (rt_P sc fm) 275 15 = some (10, 1) := (by decide +kernel : rt_ft 275 15 = some (10, 1))
theorem wi_275_0 : ri (rt_P sc fm) 275 0 (.iload_n 2) (1) := ri_of (by decide +kernel) rfl
theorem wi_275_1 : ri (rt_P sc fm) 275 1 (.tableswitch 51 4 6 #[27, 41, 29]) (1 + rx_len (.tableswitch 51 4 6 #[27, 41, 29])) := ri_of (by decide +kernel) rfl
theorem wi_275_28 : ri (rt_P sc fm) 275 28 (.iconst 1) (29) := ri_of (by decide +kernel) rfl
theorem wi_275_29 : ri (rt_P sc fm) 275 29 (.ireturn) (30) := ri_of (by decide +kernel) rfl
theorem wi_275_30 : ri (rt_P sc fm) 275 30 (.iload_n 1) (31) := ri_of (by decide +kernel) rfl
theorem wi_275_31 : ri (rt_P sc fm) 275 31 (.bipush 100) (33) := ri_of (by decide +kernel) rfl
theorem wi_275_33 : ri (rt_P sc fm) 275 33 (.if_icmp .lt 7) (36) := ri_of (by decide +kernel) rfl
theorem wi_275_36 : ri (rt_P sc fm) 275 36 (.iconst 1) (37) := ri_of (by decide +kernel) rfl
theorem wi_275_37 : ri (rt_P sc fm) 275 37 (.goto 4) (40) := ri_of (by decide +kernel) rfl
theorem wi_275_40 : ri (rt_P sc fm) 275 40 (.iconst 0) (41) := ri_of (by decide +kernel) rfl
theorem wi_275_41 : ri (rt_P sc fm) 275 41 (.ireturn) (42) := ri_of (by decide +kernel) rfl
theorem wi_275_42 : ri (rt_P sc fm) 275 42 (.aload_n 0) (43) := ri_of (by decide +kernel) rfl
theorem wi_275_43 : ri (rt_P sc fm) 275 43 (.getfield 15) (46) := ri_of (by decide +kernel) rfl
theorem wi_275_46 : ri (rt_P sc fm) 275 46 (.iload_n 1) (47) := ri_of (by decide +kernel) rfl
theorem wi_275_47 : ri (rt_P sc fm) 275 47 (.iconst 0) (48) := ri_of (by decide +kernel) rfl
theorem wi_275_48 : ri (rt_P sc fm) 275 48 (.invokevirtual 356) (51) := ri_of (by decide +kernel) rfl
theorem wi_275_51 : ri (rt_P sc fm) 275 51 (.ireturn) (52) := ri_of (by decide +kernel) rfl
theorem wi_275_52 : ri (rt_P sc fm) 275 52 (.aload_n 0) (53) := ri_of (by decide +kernel) rfl
theorem wi_275_53 : ri (rt_P sc fm) 275 53 (.getfield 15) (56) := ri_of (by decide +kernel) rfl
theorem wi_275_56 : ri (rt_P sc fm) 275 56 (.iload_n 1) (57) := ri_of (by decide +kernel) rfl
theorem wi_275_57 : ri (rt_P sc fm) 275 57 (.iload_n 2) (58) := ri_of (by decide +kernel) rfl
theorem wi_275_58 : ri (rt_P sc fm) 275 58 (.invokevirtual 356) (61) := ri_of (by decide +kernel) rfl
theorem wi_275_61 : ri (rt_P sc fm) 275 61 (.ireturn) (62) := ri_of (by decide +kernel) rfl
theorem wm_250 : rx_ml (rt_P sc fm) 250 = 3 := (by decide +kernel : rt_ml 250 = 3)
theorem wr_275 : rx_rt (rt_P sc fm) 275 = (some FieldType.boolean) := (by decide +kernel : rt_rt 275 = (some FieldType.boolean))
/-- MarkHouse$Reader.fits(II)Z -/
def d_275 (n : Nat) (a1 : Int32) (a2 : Int32) (c : cS) : Option (Int32) :=
  if a2 = 4 then
    some 1
  else
  if a2 = 5 then
    Option.bind (d_250 n a1 0 c) (fun v3 =>
    if nb v3 then
    some v3
    else none)
  else
  if a2 = 6 then
    jn (fun p6 : Int32 =>
      if nb p6 then
      some p6
      else none)
    (fun j41 =>
    if a1 < 100 then
      j41 0
    else
      j41 1)
  else
  Option.bind (d_250 n a1 a2 c) (fun v8 =>
  if nb v8 then
  some v8
  else none)
theorem sp_275 {F Lo n : Nat} {a1 : Int32} {a2 : Int32} {c y : cS} {w : cW} {K : Int32 → Prop} {Q : ((Option Value) ⊕ String) → List va_E → Prop} (hw : rOK fm w) (hF : 1 ≤ F) (hLo : 22 ≤ Lo)  (h : wp (d_275 n a1 a2 c) K) (hQ : ∀ r, K r → Q (.inl (some (.int r))) (hq true c y w)) : rs (rt_P sc fm) 275 F Lo 0 [(0, .ref 145), (1, .int a1), (2, .int a2)] [] (hq true c y w) Q := by
  unfold d_275 at h
  obtain ⟨lv, elv⟩ : ∃ lv : rx_L, lv = [(0, .ref 145), (1, .int a1), (2, .int a2)] := ⟨_, rfl⟩
  rw [← elv]
  have l0 : rx_ld lv 0 = some (.ref 145) := by rw [elv]; rfl
  have l1 : rx_ld lv 1 = some (.int a1) := by rw [elv]; rfl
  have l2 : rx_ld lv 2 = some (.int a2) := by rw [elv]; rfl
  refine rs_ildn wi_275_0 l2 ?_
  by_cases q1 : a2 = 4
  ·
    have h := wp_pos h q1
    refine rs_tsk (tg := 28) (off := 27) (v := 4) wi_275_1 q1 (by decide) (by decide) ⟨by decide, by decide⟩ ?_
    refine rs_pure wi_275_28 rfl ?_
    refine rs_topi (v := 1) (by decide) ?_
    exact rs_iret wi_275_29 wr_275 (nb_n (by decide)) (hQ 1 h)
  have h := wp_neg h q1
  by_cases q2 : a2 = 5
  ·
    have h := wp_pos h q2
    refine rs_tsk (tg := 42) (off := 41) (v := 5) wi_275_1 q2 (by decide) (by decide) ⟨by decide, by decide⟩ ?_
    refine rs_aldn wi_275_42 l0 ?_
    refine dq_gr wi_275_43 wf_275_15 tf_145_1 ?_
    refine rs_ildn wi_275_46 l1 ?_
    refine rs_pure wi_275_47 rfl ?_
    refine rs_topi (v := 0) (by decide) ?_
    refine rs_V wi_275_48 wc_275_356 rfl (dq_isa tf_7_0 wa_9_250) (Nat.le_trans (by decide) hF) (ml_le wm_250 (Nat.le_trans (by decide) hLo)) rfl (sp_250 hw (Nat.le_trans (by decide : 0 ≤ 1 - 1) (Nat.sub_le_sub_right hF 1)) (ml_sub wm_250 (Nat.le_trans (by decide : 0 ≤ 22 - 22) (Nat.sub_le_sub_right hLo 22))) (wp_bind h) (fun v3 h => rs_back1 ?_))
    obtain ⟨g4, h⟩ := wp_gd h
    exact rs_iret wi_275_51 wr_275 (nb_n g4) (hQ v3 h)
  have h := wp_neg h q2
  by_cases q5 : a2 = 6
  ·
    have h := wp_pos h q5
    refine rs_tsk (tg := 30) (off := 29) (v := 6) wi_275_1 q5 (by decide) (by decide) ⟨by decide, by decide⟩ ?_
    refine rs_ildn wi_275_30 l1 ?_
    refine rs_pure wi_275_31 rfl ?_
    refine rs_topi (v := 100) (by decide) ?_
    refine wp_jn (B := fun p6 : Int32 => ∀ lv, rs (rt_P sc fm) 275 F Lo 41 lv [.int p6] (hq true c y w) Q) h (fun p6 h lv => ?_) (fun j41 hj41 h => ?_)
    ·
      obtain ⟨g7, h⟩ := wp_gd h
      exact rs_iret wi_275_41 wr_275 (nb_n g7) (hQ p6 h)
    refine rs_iclt (tg := 40) wi_275_33 ⟨by decide, by decide⟩ (fun q => ?_) (fun q => ?_)
    ·
      have h := wp_pos h q
      refine rs_pure wi_275_40 rfl ?_
      refine rs_topi (v := 0) (by decide) ?_
      exact hj41 _ h _
    ·
      have h := wp_neg h q
      refine rs_pure wi_275_36 rfl ?_
      refine rs_topi (v := 1) (by decide) ?_
      refine rs_goto (tg := 41) wi_275_37 ⟨by decide, by decide⟩ ?_
      exact hj41 _ h _
  have h := wp_neg h q5
  refine rs_tsd (tg := 52) wi_275_1 (rz_sw fun k k1 k2 => by
    have kk : k = 4 ∨ k = 5 ∨ k = 6 := by omega
    rcases kk with rfl | rfl | rfl
    · exact q1
    · exact q2
    · exact q5
    ) ⟨by decide, by decide⟩ ?_
  refine rs_aldn wi_275_52 l0 ?_
  refine dq_gr wi_275_53 wf_275_15 tf_145_1 ?_
  refine rs_ildn wi_275_56 l1 ?_
  refine rs_ildn wi_275_57 l2 ?_
  refine rs_V wi_275_58 wc_275_356 rfl (dq_isa tf_7_0 wa_9_250) (Nat.le_trans (by decide) hF) (ml_le wm_250 (Nat.le_trans (by decide) hLo)) rfl (sp_250 hw (Nat.le_trans (by decide : 0 ≤ 1 - 1) (Nat.sub_le_sub_right hF 1)) (ml_sub wm_250 (Nat.le_trans (by decide : 0 ≤ 22 - 22) (Nat.sub_le_sub_right hLo 22))) (wp_bind h) (fun v8 h => rs_back1 ?_))
  obtain ⟨g9, h⟩ := wp_gd h
  exact rs_iret wi_275_61 wr_275 (nb_n g9) (hQ v8 h)
theorem t_135 : ta true 135 0 4096 := ⟨rfl, by decide, by decide⟩
theorem t_136 : ta true 136 0 4096 := ⟨rfl, by decide, by decide⟩
theorem t_137 : ta true 137 3 4096 := ⟨rfl, by decide, by decide⟩
theorem t_143 : ta true 143 0 2242 := ⟨rfl, by decide, by decide⟩
theorem tf_133_1 : fo true 133 7 1 (.ref 135) := ⟨_, rfl, rfl, by decide, by decide⟩
theorem tf_133_2 : fo true 133 7 2 (.ref 136) := ⟨_, rfl, rfl, by decide, by decide⟩
theorem tf_133_3 : fo true 133 7 3 (.ref 137) := ⟨_, rfl, rfl, by decide, by decide⟩
theorem tf_133_9 : fo true 133 7 9 (.ref 143) := ⟨_, rfl, rfl, by decide, by decide⟩
theorem wf_224_15 : rx_ft (rt_P sc fm) 224 15 = some (7, 1) := (by decide +kernel : rt_ft 224 15 = some (7, 1))
theorem wf_224_19 : rx_ft (rt_P sc fm) 224 19 = some (7, 2) := (by decide +kernel : rt_ft 224 19 = some (7, 2))
theorem wf_224_22 : rx_ft (rt_P sc fm) 224 22 = some (7, 3) := (by decide +kernel : rt_ft 224 22 = some (7, 3))
theorem wf_224_26 : rx_ft (rt_P sc fm) 224 26 = some (7, 4) := (by decide +kernel : rt_ft 224 26 = some (7, 4))
theorem wf_224_39 : rx_ft (rt_P sc fm) 224 39 = some (7, 8) := (by decide +kernel : rt_ft 224 39 = some (7, 8))
theorem wf_224_42 : rx_ft (rt_P sc fm) 224 42 = some (7, 9) := (by decide +kernel : rt_ft 224 42 = some (7, 9))
theorem wf_224_45 : rx_ft (rt_P sc fm) 224 45 = some (7, 10) := (by decide +kernel : rt_ft 224 45 = some (7, 10))
theorem wf_224_48 : rx_ft (rt_P sc fm) 224 48 = some (7, 12) := (by decide +kernel : rt_ft 224 48 = some (7, 12))
theorem wf_224_52 : rx_ft (rt_P sc fm) 224 52 = some (7, 11) := (by decide +kernel : rt_ft 224 52 = some (7, 11))
theorem wf_224_55 : rx_ft (rt_P sc fm) 224 55 = some (7, 13) := (by decide +kernel : rt_ft 224 55 = some (7, 13))
theorem wf_224_9 : rx_ft (rt_P sc fm) 224 9 = some (7, 0) := (by decide +kernel : rt_ft 224 9 = some (7, 0))
theorem wi_224_0 : ri (rt_P sc fm) 224 0 (.aload_n 0) (1) := ri_of (by decide +kernel) rfl
theorem wi_224_1 : ri (rt_P sc fm) 224 1 (.getfield 48) (4) := ri_of (by decide +kernel) rfl
theorem wi_224_101 : ri (rt_P sc fm) 224 101 (.iastore) (102) := ri_of (by decide +kernel) rfl
theorem wi_224_102 : ri (rt_P sc fm) 224 102 (.aload_n 0) (103) := ri_of (by decide +kernel) rfl
theorem wi_224_103 : ri (rt_P sc fm) 224 103 (.getfield 45) (106) := ri_of (by decide +kernel) rfl
theorem wi_224_106 : ri (rt_P sc fm) 224 106 (.iload_n 1) (107) := ri_of (by decide +kernel) rfl
theorem wi_224_107 : ri (rt_P sc fm) 224 107 (.dup2) (108) := ri_of (by decide +kernel) rfl
theorem wi_224_108 : ri (rt_P sc fm) 224 108 (.iaload) (109) := ri_of (by decide +kernel) rfl
theorem wi_224_109 : ri (rt_P sc fm) 224 109 (.iconst 1) (110) := ri_of (by decide +kernel) rfl
theorem wi_224_11 : ri (rt_P sc fm) 224 11 (.goto 7) (14) := ri_of (by decide +kernel) rfl
theorem wi_224_110 : ri (rt_P sc fm) 224 110 (.iadd) (111) := ri_of (by decide +kernel) rfl
theorem wi_224_111 : ri (rt_P sc fm) 224 111 (.iastore) (112) := ri_of (by decide +kernel) rfl
theorem wi_224_112 : ri (rt_P sc fm) 224 112 (.aload_n 0) (113) := ri_of (by decide +kernel) rfl
theorem wi_224_113 : ri (rt_P sc fm) 224 113 (.dup) (114) := ri_of (by decide +kernel) rfl
theorem wi_224_114 : ri (rt_P sc fm) 224 114 (.getfield 55) (117) := ri_of (by decide +kernel) rfl
theorem wi_224_117 : ri (rt_P sc fm) 224 117 (.iconst 1) (118) := ri_of (by decide +kernel) rfl
theorem wi_224_118 : ri (rt_P sc fm) 224 118 (.iadd) (119) := ri_of (by decide +kernel) rfl
theorem wi_224_119 : ri (rt_P sc fm) 224 119 (.putfield 55) (122) := ri_of (by decide +kernel) rfl
theorem wi_224_122 : ri (rt_P sc fm) 224 122 (.aload_n 0) (123) := ri_of (by decide +kernel) rfl
theorem wi_224_123 : ri (rt_P sc fm) 224 123 (.getfield 26) (126) := ri_of (by decide +kernel) rfl
theorem wi_224_126 : ri (rt_P sc fm) 224 126 (.iload 4) (128) := ri_of (by decide +kernel) rfl
theorem wi_224_128 : ri (rt_P sc fm) 224 128 (.iconst (-1)) (129) := ri_of (by decide +kernel) rfl
theorem wi_224_129 : ri (rt_P sc fm) 224 129 (.iastore) (130) := ri_of (by decide +kernel) rfl
theorem wi_224_130 : ri (rt_P sc fm) 224 130 (.aload_n 0) (131) := ri_of (by decide +kernel) rfl
theorem wi_224_131 : ri (rt_P sc fm) 224 131 (.getfield 9) (134) := ri_of (by decide +kernel) rfl
theorem wi_224_134 : ri (rt_P sc fm) 224 134 (.iload 4) (136) := ri_of (by decide +kernel) rfl
theorem wi_224_136 : ri (rt_P sc fm) 224 136 (.lload_n 2) (137) := ri_of (by decide +kernel) rfl
theorem wi_224_137 : ri (rt_P sc fm) 224 137 (.lastore) (138) := ri_of (by decide +kernel) rfl
theorem wi_224_138 : ri (rt_P sc fm) 224 138 (.aload_n 0) (139) := ri_of (by decide +kernel) rfl
theorem wi_224_139 : ri (rt_P sc fm) 224 139 (.getfield 15) (142) := ri_of (by decide +kernel) rfl
theorem wi_224_14 : ri (rt_P sc fm) 224 14 (.aload_n 0) (15) := ri_of (by decide +kernel) rfl
theorem wi_224_142 : ri (rt_P sc fm) 224 142 (.iload 4) (144) := ri_of (by decide +kernel) rfl
theorem wi_224_144 : ri (rt_P sc fm) 224 144 (.iconst (-1)) (145) := ri_of (by decide +kernel) rfl
theorem wi_224_145 : ri (rt_P sc fm) 224 145 (.iastore) (146) := ri_of (by decide +kernel) rfl
theorem wi_224_146 : ri (rt_P sc fm) 224 146 (.aload_n 0) (147) := ri_of (by decide +kernel) rfl
theorem wi_224_147 : ri (rt_P sc fm) 224 147 (.getfield 19) (150) := ri_of (by decide +kernel) rfl
theorem wi_224_15 : ri (rt_P sc fm) 224 15 (.getfield 52) (18) := ri_of (by decide +kernel) rfl
theorem wi_224_150 : ri (rt_P sc fm) 224 150 (.iload 4) (152) := ri_of (by decide +kernel) rfl
theorem wi_224_152 : ri (rt_P sc fm) 224 152 (.iconst 0) (153) := ri_of (by decide +kernel) rfl
theorem wi_224_153 : ri (rt_P sc fm) 224 153 (.iastore) (154) := ri_of (by decide +kernel) rfl
theorem wi_224_154 : ri (rt_P sc fm) 224 154 (.aload_n 0) (155) := ri_of (by decide +kernel) rfl
theorem wi_224_155 : ri (rt_P sc fm) 224 155 (.getfield 22) (158) := ri_of (by decide +kernel) rfl
theorem wi_224_158 : ri (rt_P sc fm) 224 158 (.iload 4) (160) := ri_of (by decide +kernel) rfl
theorem wi_224_160 : ri (rt_P sc fm) 224 160 (.iconst 1) (161) := ri_of (by decide +kernel) rfl
theorem wi_224_161 : ri (rt_P sc fm) 224 161 (.bastore) (162) := ri_of (by decide +kernel) rfl
theorem wi_224_162 : ri (rt_P sc fm) 224 162 (.iload 4) (164) := ri_of (by decide +kernel) rfl
theorem wi_224_164 : ri (rt_P sc fm) 224 164 (.ireturn) (165) := ri_of (by decide +kernel) rfl
theorem wi_224_18 : ri (rt_P sc fm) 224 18 (.istore 4) (20) := ri_of (by decide +kernel) rfl
theorem wi_224_20 : ri (rt_P sc fm) 224 20 (.iload 4) (22) := ri_of (by decide +kernel) rfl
theorem wi_224_22 : ri (rt_P sc fm) 224 22 (.sipush 4096) (25) := ri_of (by decide +kernel) rfl
theorem wi_224_25 : ri (rt_P sc fm) 224 25 (.if_icmp .lt 5) (28) := ri_of (by decide +kernel) rfl
theorem wi_224_28 : ri (rt_P sc fm) 224 28 (.iconst (-1)) (29) := ri_of (by decide +kernel) rfl
theorem wi_224_29 : ri (rt_P sc fm) 224 29 (.ireturn) (30) := ri_of (by decide +kernel) rfl
theorem wi_224_30 : ri (rt_P sc fm) 224 30 (.aload_n 0) (31) := ri_of (by decide +kernel) rfl
theorem wi_224_31 : ri (rt_P sc fm) 224 31 (.getfield 48) (34) := ri_of (by decide +kernel) rfl
theorem wi_224_34 : ri (rt_P sc fm) 224 34 (.ifCond .lt 17) (37) := ri_of (by decide +kernel) rfl
theorem wi_224_37 : ri (rt_P sc fm) 224 37 (.aload_n 0) (38) := ri_of (by decide +kernel) rfl
theorem wi_224_38 : ri (rt_P sc fm) 224 38 (.aload_n 0) (39) := ri_of (by decide +kernel) rfl
theorem wi_224_39 : ri (rt_P sc fm) 224 39 (.getfield 26) (42) := ri_of (by decide +kernel) rfl
theorem wi_224_4 : ri (rt_P sc fm) 224 4 (.ifCond .lt 10) (7) := ri_of (by decide +kernel) rfl
theorem wi_224_42 : ri (rt_P sc fm) 224 42 (.iload 4) (44) := ri_of (by decide +kernel) rfl
theorem wi_224_44 : ri (rt_P sc fm) 224 44 (.iaload) (45) := ri_of (by decide +kernel) rfl
theorem wi_224_45 : ri (rt_P sc fm) 224 45 (.putfield 48) (48) := ri_of (by decide +kernel) rfl
theorem wi_224_48 : ri (rt_P sc fm) 224 48 (.goto 13) (51) := ri_of (by decide +kernel) rfl
theorem wi_224_51 : ri (rt_P sc fm) 224 51 (.aload_n 0) (52) := ri_of (by decide +kernel) rfl
theorem wi_224_52 : ri (rt_P sc fm) 224 52 (.dup) (53) := ri_of (by decide +kernel) rfl
theorem wi_224_53 : ri (rt_P sc fm) 224 53 (.getfield 52) (56) := ri_of (by decide +kernel) rfl
theorem wi_224_56 : ri (rt_P sc fm) 224 56 (.iconst 1) (57) := ri_of (by decide +kernel) rfl
theorem wi_224_57 : ri (rt_P sc fm) 224 57 (.iadd) (58) := ri_of (by decide +kernel) rfl
theorem wi_224_58 : ri (rt_P sc fm) 224 58 (.putfield 52) (61) := ri_of (by decide +kernel) rfl
theorem wi_224_61 : ri (rt_P sc fm) 224 61 (.aload_n 0) (62) := ri_of (by decide +kernel) rfl
theorem wi_224_62 : ri (rt_P sc fm) 224 62 (.getfield 45) (65) := ri_of (by decide +kernel) rfl
theorem wi_224_65 : ri (rt_P sc fm) 224 65 (.iload_n 1) (66) := ri_of (by decide +kernel) rfl
theorem wi_224_66 : ri (rt_P sc fm) 224 66 (.iaload) (67) := ri_of (by decide +kernel) rfl
theorem wi_224_67 : ri (rt_P sc fm) 224 67 (.ifCond .ne 14) (70) := ri_of (by decide +kernel) rfl
theorem wi_224_7 : ri (rt_P sc fm) 224 7 (.aload_n 0) (8) := ri_of (by decide +kernel) rfl
theorem wi_224_70 : ri (rt_P sc fm) 224 70 (.aload_n 0) (71) := ri_of (by decide +kernel) rfl
theorem wi_224_71 : ri (rt_P sc fm) 224 71 (.getfield 39) (74) := ri_of (by decide +kernel) rfl
theorem wi_224_74 : ri (rt_P sc fm) 224 74 (.iload_n 1) (75) := ri_of (by decide +kernel) rfl
theorem wi_224_75 : ri (rt_P sc fm) 224 75 (.iload 4) (77) := ri_of (by decide +kernel) rfl
theorem wi_224_77 : ri (rt_P sc fm) 224 77 (.iastore) (78) := ri_of (by decide +kernel) rfl
theorem wi_224_78 : ri (rt_P sc fm) 224 78 (.goto 16) (81) := ri_of (by decide +kernel) rfl
theorem wi_224_8 : ri (rt_P sc fm) 224 8 (.getfield 48) (11) := ri_of (by decide +kernel) rfl
theorem wi_224_81 : ri (rt_P sc fm) 224 81 (.aload_n 0) (82) := ri_of (by decide +kernel) rfl
theorem wi_224_82 : ri (rt_P sc fm) 224 82 (.getfield 26) (85) := ri_of (by decide +kernel) rfl
theorem wi_224_85 : ri (rt_P sc fm) 224 85 (.aload_n 0) (86) := ri_of (by decide +kernel) rfl
theorem wi_224_86 : ri (rt_P sc fm) 224 86 (.getfield 42) (89) := ri_of (by decide +kernel) rfl
theorem wi_224_89 : ri (rt_P sc fm) 224 89 (.iload_n 1) (90) := ri_of (by decide +kernel) rfl
theorem wi_224_90 : ri (rt_P sc fm) 224 90 (.iaload) (91) := ri_of (by decide +kernel) rfl
theorem wi_224_91 : ri (rt_P sc fm) 224 91 (.iload 4) (93) := ri_of (by decide +kernel) rfl
theorem wi_224_93 : ri (rt_P sc fm) 224 93 (.iastore) (94) := ri_of (by decide +kernel) rfl
theorem wi_224_94 : ri (rt_P sc fm) 224 94 (.aload_n 0) (95) := ri_of (by decide +kernel) rfl
theorem wi_224_95 : ri (rt_P sc fm) 224 95 (.getfield 42) (98) := ri_of (by decide +kernel) rfl
theorem wi_224_98 : ri (rt_P sc fm) 224 98 (.iload_n 1) (99) := ri_of (by decide +kernel) rfl
theorem wi_224_99 : ri (rt_P sc fm) 224 99 (.iload 4) (101) := ri_of (by decide +kernel) rfl
theorem wp_224_48 : rx_pt (rt_P sc fm) 224 48 = some (7, 12, .int) := (by decide +kernel : rt_pt 224 48 = some (7, 12, .int))
theorem wp_224_52 : rx_pt (rt_P sc fm) 224 52 = some (7, 11, .int) := (by decide +kernel : rt_pt 224 52 = some (7, 11, .int))
theorem wp_224_55 : rx_pt (rt_P sc fm) 224 55 = some (7, 13, .int) := (by decide +kernel : rt_pt 224 55 = some (7, 13, .int))
theorem wr_224 : rx_rt (rt_P sc fm) 224 = (some FieldType.int) := (by decide +kernel : rt_rt 224 = (some FieldType.int))
/-- MarkHouse$Marks.append(IJ)I -/
def d_224 (n : Nat) (a1 : Int32) (a2 : Int64) (c : cS) : Option (Int32 × cS) :=
  jn (fun p1 : Int32 =>
    if p1 < 4096 then
      jn (fun p3 : cS =>
        if ib a1 2242 then
        jn (fun p5 : cS =>
          if ib a1 2242 then
          lt (pI p5 143 (ix a1) p1) (fun c7 =>
          if ib a1 2242 then
          if ib a1 2242 then
          lt (pI c7 144 (ix a1) ((c7.1 144 (ix a1)) + 1)) (fun c11 =>
          lt (pI c11 133 13 ((c11.1 133 13) + 1)) (fun c13 =>
          if ib p1 4096 then
          lt (pI c13 138 (ix p1) (-1)) (fun c16 =>
          if ib p1 4096 then
          lt (pL c16 134 (ix p1) a2) (fun c19 =>
          if ib p1 4096 then
          lt (pI c19 135 (ix p1) (-1)) (fun c22 =>
          if ib p1 4096 then
          lt (pI c22 136 (ix p1) 0) (fun c25 =>
          if ib p1 4096 then
          lt (pI c25 137 (ix p1) (vp_nar .boolean 1)) (fun c28 =>
          some (p1, c28))
          else none)
          else none)
          else none)
          else none)
          else none))
          else none
          else none)
          else none)
        (fun j94 =>
        if (p3.1 144 (ix a1)) = 0 then
          if ib a1 2242 then
          lt (pI p3 142 (ix a1) p1) (fun c35 =>
          j94 c35)
          else none
        else
          if ib a1 2242 then
          if ib (p3.1 143 (ix a1)) 4096 then
          lt (pI p3 138 (ix (p3.1 143 (ix a1))) p1) (fun c32 =>
          j94 c32)
          else none
          else none)
        else none)
      (fun j61 =>
      if (c.1 133 12) < 0 then
        lt (pI c 133 11 ((c.1 133 11) + 1)) (fun c37 =>
        j61 c37)
      else
        if ib p1 4096 then
        lt (pI c 133 12 (c.1 138 (ix p1))) (fun c40 =>
        j61 c40)
        else none)
    else
      some ((-1), c))
  (fun j18 =>
  if (c.1 133 12) < 0 then
    j18 (c.1 133 11)
  else
    j18 (c.1 133 12))
theorem sp_224 {F Lo n : Nat} {a1 : Int32} {a2 : Int64} {c y : cS} {w : cW} {K : Int32 × cS → Prop} {Q : ((Option Value) ⊕ String) → List va_E → Prop} (hw : rOK fm w) (hF : 0 ≤ F) (hLo : 0 ≤ Lo)  (h : wp (d_224 n a1 a2 c) K) (hQ : ∀ r, K r → Q (.inl (some (.int r.1))) (hq true r.2 y w)) : rs (rt_P sc fm) 224 F Lo 0 [(0, .ref 133), (1, .int a1), (2, .long a2)] [] (hq true c y w) Q := by
  unfold d_224 at h
  obtain ⟨lv, elv⟩ : ∃ lv : rx_L, lv = [(0, .ref 133), (1, .int a1), (2, .long a2)] := ⟨_, rfl⟩
  rw [← elv]
  have l0 : rx_ld lv 0 = some (.ref 133) := by rw [elv]; rfl
  have l1 : rx_ld lv 1 = some (.int a1) := by rw [elv]; rfl
  have l2 : rx_ld lv 2 = some (.long a2) := by rw [elv]; rfl
  refine rs_aldn wi_224_0 l0 ?_
  refine dq_gi wi_224_1 wf_224_48 tf_133_12 ?_
  refine wp_jn (B := fun p1 : Int32 => ∀ lv, rx_ld lv 0 = some (.ref 133) → rx_ld lv 1 = some (.int a1) → rx_ld lv 2 = some (.long a2) → rs (rt_P sc fm) 224 F Lo 18 lv [.int p1] (hq true c y w) Q) h (fun p1 h lv l0 l1 l2 => ?_) (fun j18 hj18 h => ?_)
  ·
    refine dl_ist wi_224_18 rfl (fun lv l4 t2 => ?_)
    have l0 := t2 _ _ (by decide) (Or.inl rfl) l0
    have l1 := t2 _ _ (by decide) (Or.inl rfl) l1
    have l2 := t2 _ _ (by decide) (Or.inr (by decide)) l2
    refine rs_ild wi_224_20 l4 ?_
    refine rs_pure wi_224_22 rfl ?_
    refine rs_topi (v := 4096) (by decide) ?_
    refine rs_iclt (tg := 30) wi_224_25 ⟨by decide, by decide⟩ (fun q => ?_) (fun q => ?_)
    ·
      have h := wp_pos h q
      refine rs_aldn wi_224_30 l0 ?_
      refine dq_gi wi_224_31 wf_224_48 tf_133_12 ?_
      refine wp_jn (B := fun p3 : cS => ∀ lv, rx_ld lv 0 = some (.ref 133) → rx_ld lv 1 = some (.int a1) → rx_ld lv 2 = some (.long a2) → rx_ld lv 4 = some (.int p1) → rs (rt_P sc fm) 224 F Lo 61 lv [] (hq true p3 y w) Q) h (fun p3 h lv l0 l1 l2 l4 => ?_) (fun j61 hj61 h => ?_)
      ·
        refine rs_aldn wi_224_61 l0 ?_
        refine dq_gr wi_224_62 wf_224_45 tf_133_10 ?_
        refine rs_ildn wi_224_65 l1 ?_
        obtain ⟨g4, h⟩ := wp_gd h
        refine dq_iald wi_224_66 t_144 g4 ?_
        refine wp_jn (B := fun p5 : cS => ∀ lv, rx_ld lv 0 = some (.ref 133) → rx_ld lv 1 = some (.int a1) → rx_ld lv 2 = some (.long a2) → rx_ld lv 4 = some (.int p1) → rs (rt_P sc fm) 224 F Lo 94 lv [] (hq true p5 y w) Q) h (fun p5 h lv l0 l1 l2 l4 => ?_) (fun j94 hj94 h => ?_)
        ·
          refine rs_aldn wi_224_94 l0 ?_
          refine dq_gr wi_224_95 wf_224_42 tf_133_9 ?_
          refine rs_ildn wi_224_98 l1 ?_
          refine rs_ild wi_224_99 l4 ?_
          obtain ⟨g6, h⟩ := wp_gd h
          obtain ⟨c7, e8, h⟩ := wp_lt h
          refine dq_iast wi_224_101 t_143 g6 e8 ?_
          refine rs_aldn wi_224_102 l0 ?_
          refine dq_gr wi_224_103 wf_224_45 tf_133_10 ?_
          refine rs_ildn wi_224_106 l1 ?_
          refine rs_pure wi_224_107 rfl ?_
          obtain ⟨g9, h⟩ := wp_gd h
          refine dq_iald wi_224_108 t_144 g9 ?_
          refine rs_pure wi_224_109 rfl ?_
          refine rs_topi (v := 1) (by decide) ?_
          refine rs_pure wi_224_110 rfl ?_
          obtain ⟨g10, h⟩ := wp_gd h
          obtain ⟨c11, e12, h⟩ := wp_lt h
          refine dq_iast wi_224_111 t_144 g10 e12 ?_
          refine rs_aldn wi_224_112 l0 ?_
          refine rs_pure wi_224_113 rfl ?_
          refine dq_gi wi_224_114 wf_224_55 tf_133_13 ?_
          refine rs_pure wi_224_117 rfl ?_
          refine rs_topi (v := 1) (by decide) ?_
          refine rs_pure wi_224_118 rfl ?_
          obtain ⟨c13, e14, h⟩ := wp_lt h
          refine dq_pi wi_224_119 wp_224_55 tf_133_13 rfl rfl e14 ?_
          refine rs_aldn wi_224_122 l0 ?_
          refine dq_gr wi_224_123 wf_224_26 tf_133_4 ?_
          refine rs_ild wi_224_126 l4 ?_
          refine rs_pure wi_224_128 rfl ?_
          refine rs_topi (v := (-1)) (by decide) ?_
          obtain ⟨g15, h⟩ := wp_gd h
          obtain ⟨c16, e17, h⟩ := wp_lt h
          refine dq_iast wi_224_129 t_138 g15 e17 ?_
          refine rs_aldn wi_224_130 l0 ?_
          refine dq_gr wi_224_131 wf_224_9 tf_133_0 ?_
          refine rs_ild wi_224_134 l4 ?_
          refine rs_lldn wi_224_136 l2 ?_
          obtain ⟨g18, h⟩ := wp_gd h
          obtain ⟨c19, e20, h⟩ := wp_lt h
          refine dq_last wi_224_137 t_134 g18 e20 ?_
          refine rs_aldn wi_224_138 l0 ?_
          refine dq_gr wi_224_139 wf_224_15 tf_133_1 ?_
          refine rs_ild wi_224_142 l4 ?_
          refine rs_pure wi_224_144 rfl ?_
          refine rs_topi (v := (-1)) (by decide) ?_
          obtain ⟨g21, h⟩ := wp_gd h
          obtain ⟨c22, e23, h⟩ := wp_lt h
          refine dq_iast wi_224_145 t_135 g21 e23 ?_
          refine rs_aldn wi_224_146 l0 ?_
          refine dq_gr wi_224_147 wf_224_19 tf_133_2 ?_
          refine rs_ild wi_224_150 l4 ?_
          refine rs_pure wi_224_152 rfl ?_
          refine rs_topi (v := 0) (by decide) ?_
          obtain ⟨g24, h⟩ := wp_gd h
          obtain ⟨c25, e26, h⟩ := wp_lt h
          refine dq_iast wi_224_153 t_136 g24 e26 ?_
          refine rs_aldn wi_224_154 l0 ?_
          refine dq_gr wi_224_155 wf_224_22 tf_133_3 ?_
          refine rs_ild wi_224_158 l4 ?_
          refine rs_pure wi_224_160 rfl ?_
          refine rs_topi (v := 1) (by decide) ?_
          obtain ⟨g27, h⟩ := wp_gd h
          obtain ⟨c28, e29, h⟩ := wp_lt h
          refine dq_zast wi_224_161 t_137 g27 e29 ?_
          refine rs_ild wi_224_162 l4 ?_
          exact rs_iret wi_224_164 wr_224 rfl (hQ (p1, c28) h)
        refine rs_ifne (tg := 81) wi_224_67 ⟨by decide, by decide⟩ (fun q => ?_) (fun q => ?_)
        ·
          have h := wp_neg h q
          refine rs_aldn wi_224_81 l0 ?_
          refine dq_gr wi_224_82 wf_224_26 tf_133_4 ?_
          refine rs_aldn wi_224_85 l0 ?_
          refine dq_gr wi_224_86 wf_224_42 tf_133_9 ?_
          refine rs_ildn wi_224_89 l1 ?_
          obtain ⟨g30, h⟩ := wp_gd h
          refine dq_iald wi_224_90 t_143 g30 ?_
          refine rs_ild wi_224_91 l4 ?_
          obtain ⟨g31, h⟩ := wp_gd h
          obtain ⟨c32, e33, h⟩ := wp_lt h
          refine dq_iast wi_224_93 t_138 g31 e33 ?_
          exact hj94 _ h _ l0 l1 l2 l4
        ·
          have h := wp_pos h q
          refine rs_aldn wi_224_70 l0 ?_
          refine dq_gr wi_224_71 wf_224_39 tf_133_8 ?_
          refine rs_ildn wi_224_74 l1 ?_
          refine rs_ild wi_224_75 l4 ?_
          obtain ⟨g34, h⟩ := wp_gd h
          obtain ⟨c35, e36, h⟩ := wp_lt h
          refine dq_iast wi_224_77 t_142 g34 e36 ?_
          refine rs_goto (tg := 94) wi_224_78 ⟨by decide, by decide⟩ ?_
          exact hj94 _ h _ l0 l1 l2 l4
      refine rs_iflt (tg := 51) wi_224_34 ⟨by decide, by decide⟩ (fun q => ?_) (fun q => ?_)
      ·
        have h := wp_pos h q
        refine rs_aldn wi_224_51 l0 ?_
        refine rs_pure wi_224_52 rfl ?_
        refine dq_gi wi_224_53 wf_224_52 tf_133_11 ?_
        refine rs_pure wi_224_56 rfl ?_
        refine rs_topi (v := 1) (by decide) ?_
        refine rs_pure wi_224_57 rfl ?_
        obtain ⟨c37, e38, h⟩ := wp_lt h
        refine dq_pi wi_224_58 wp_224_52 tf_133_11 rfl rfl e38 ?_
        exact hj61 _ h _ l0 l1 l2 l4
      ·
        have h := wp_neg h q
        refine rs_aldn wi_224_37 l0 ?_
        refine rs_aldn wi_224_38 l0 ?_
        refine dq_gr wi_224_39 wf_224_26 tf_133_4 ?_
        refine rs_ild wi_224_42 l4 ?_
        obtain ⟨g39, h⟩ := wp_gd h
        refine dq_iald wi_224_44 t_138 g39 ?_
        obtain ⟨c40, e41, h⟩ := wp_lt h
        refine dq_pi wi_224_45 wp_224_48 tf_133_12 rfl rfl e41 ?_
        refine rs_goto (tg := 61) wi_224_48 ⟨by decide, by decide⟩ ?_
        exact hj61 _ h _ l0 l1 l2 l4
    ·
      have h := wp_neg h q
      refine rs_pure wi_224_28 rfl ?_
      refine rs_topi (v := (-1)) (by decide) ?_
      exact rs_iret wi_224_29 wr_224 rfl (hQ ((-1), c) h)
  refine rs_iflt (tg := 14) wi_224_4 ⟨by decide, by decide⟩ (fun q => ?_) (fun q => ?_)
  ·
    have h := wp_pos h q
    refine rs_aldn wi_224_14 l0 ?_
    refine dq_gi wi_224_15 wf_224_52 tf_133_11 ?_
    exact hj18 _ h _ l0 l1 l2
  ·
    have h := wp_neg h q
    refine rs_aldn wi_224_7 l0 ?_
    refine dq_gi wi_224_8 wf_224_48 tf_133_12 ?_
    refine rs_goto (tg := 18) wi_224_11 ⟨by decide, by decide⟩ ?_
    exact hj18 _ h _ l0 l1 l2
theorem wa_10_275 : rz_cn 10 (rx_yn (rt_P sc fm) 275).cls = true := (by decide +kernel : rz_cn 10 (rt_yn 275).cls = true)
theorem wa_7_224 : rz_cn 7 (rx_yn (rt_P sc fm) 224).cls = true := (by decide +kernel : rz_cn 7 (rt_yn 224).cls = true)
theorem wa_7_229 : rz_cn 7 (rx_yn (rt_P sc fm) 229).cls = true := (by decide +kernel : rz_cn 7 (rt_yn 229).cls = true)
theorem wa_9_251 : rz_cn 9 (rx_yn (rt_P sc fm) 251).cls = true := (by decide +kernel : rz_cn 9 (rt_yn 251).cls = true)
theorem wc_274_149 : rx_ct (rt_P sc fm) 274 149 = some (0, 258, 1) := (by decide +kernel : rt_ct 274 149 = some (0, 258, 1))
theorem wc_274_336 : rx_ct (rt_P sc fm) 274 336 = some (0, 246, 1) := (by decide +kernel : rt_ct 274 336 = some (0, 246, 1))
theorem wc_274_339 : rx_ct (rt_P sc fm) 274 339 = some (0, 229, 2) := (by decide +kernel : rt_ct 274 339 = some (0, 229, 2))
theorem wc_274_343 : rx_ct (rt_P sc fm) 274 343 = some (0, 251, 1) := (by decide +kernel : rt_ct 274 343 = some (0, 251, 1))
theorem wc_274_346 : rx_ct (rt_P sc fm) 274 346 = some (0, 275, 2) := (by decide +kernel : rt_ct 274 346 = some (0, 275, 2))
theorem wc_274_350 : rx_ct (rt_P sc fm) 274 350 = some (0, 224, 2) := (by decide +kernel : rt_ct 274 350 = some (0, 224, 2))
theorem wc_274_61 : rx_ct (rt_P sc fm) 274 61 = some (0, 41, 2) := (by decide +kernel : rt_ct 274 61 = some (0, 41, 2))
theorem wc_274_79 : rx_ct (rt_P sc fm) 274 79 = some (0, 42, 0) := (by decide +kernel : rt_ct 274 79 = some (0, 42, 0))
theorem wc_274_89 : rx_ct (rt_P sc fm) 274 89 = some (0, 259, 0) := (by decide +kernel : rt_ct 274 89 = some (0, 259, 0))
theorem wf_274_15 : rx_ft (rt_P sc fm) 274 15 = some (10, 1) := (by decide +kernel : rt_ft 274 15 = some (10, 1))
theorem wf_274_225 : rx_ft (rt_P sc fm) 274 225 = some (7, 10) := (by decide +kernel : rt_ft 274 225 = some (7, 10))
theorem wf_274_228 : rx_ft (rt_P sc fm) 274 228 = some (7, 1) := (by decide +kernel : rt_ft 274 228 = some (7, 1))
theorem wf_274_23 : rx_ft (rt_P sc fm) 274 23 = some (10, 3) := (by decide +kernel : rt_ft 274 23 = some (10, 3))
theorem wf_274_353 : rx_ft (rt_P sc fm) 274 353 = some (7, 2) := (by decide +kernel : rt_ft 274 353 = some (7, 2))
theorem wf_274_49 : rx_ft (rt_P sc fm) 274 49 = some (10, 7) := (by decide +kernel : rt_ft 274 49 = some (10, 7))
theorem wh0_274_117 : rx_ht (rt_P sc fm) 274 117 "java/lang/IllegalArgumentException" = none := (by decide +kernel : rt_ht 274 117 "java/lang/IllegalArgumentException" = none)
theorem wh0_274_137 : rx_ht (rt_P sc fm) 274 137 "java/lang/IllegalArgumentException" = none := (by decide +kernel : rt_ht 274 137 "java/lang/IllegalArgumentException" = none)
theorem wh0_274_164 : rx_ht (rt_P sc fm) 274 164 "java/lang/IllegalArgumentException" = none := (by decide +kernel : rt_ht 274 164 "java/lang/IllegalArgumentException" = none)
theorem wh0_274_21 : rx_ht (rt_P sc fm) 274 21 "java/lang/IllegalArgumentException" = none := (by decide +kernel : rt_ht 274 21 "java/lang/IllegalArgumentException" = none)
theorem wh0_274_56 : rx_ht (rt_P sc fm) 274 56 "java/lang/IllegalArgumentException" = none := (by decide +kernel : rt_ht 274 56 "java/lang/IllegalArgumentException" = none)
theorem wh0_274_83 : rx_ht (rt_P sc fm) 274 83 "java/lang/IllegalArgumentException" = none := (by decide +kernel : rt_ht 274 83 "java/lang/IllegalArgumentException" = none)
theorem whh_274 : rx_hh (rt_P sc fm) 274 = [] := (by decide +kernel : rt_hh 274 = [])
theorem wi_274_0 : ri (rt_P sc fm) 274 0 (.aload_n 0) (1) := ri_of (by decide +kernel) rfl
theorem wi_274_1 : ri (rt_P sc fm) 274 1 (.getfield 23) (4) := ri_of (by decide +kernel) rfl
theorem wi_274_100 : ri (rt_P sc fm) 274 100 (.getfield 15) (103) := ri_of (by decide +kernel) rfl
theorem wi_274_103 : ri (rt_P sc fm) 274 103 (.iload 6) (105) := ri_of (by decide +kernel) rfl
theorem wi_274_105 : ri (rt_P sc fm) 274 105 (.invokevirtual 343) (108) := ri_of (by decide +kernel) rfl
theorem wi_274_108 : ri (rt_P sc fm) 274 108 (.ifCond .ne 12) (111) := ri_of (by decide +kernel) rfl
theorem wi_274_11 : ri (rt_P sc fm) 274 11 (.if_icmp .lt 13) (14) := ri_of (by decide +kernel) rfl
theorem wi_274_111 : ri (rt_P sc fm) 274 111 (.aload_n 0) (112) := ri_of (by decide +kernel) rfl
theorem wi_274_112 : ri (rt_P sc fm) 274 112 (.iconst 3) (113) := ri_of (by decide +kernel) rfl
theorem wi_274_113 : ri (rt_P sc fm) 274 113 (.aload_n 0) (114) := ri_of (by decide +kernel) rfl
theorem wi_274_114 : ri (rt_P sc fm) 274 114 (.invokevirtual 79) (117) := ri_of (by decide +kernel) rfl
theorem wi_274_117 : ri (rt_P sc fm) 274 117 (.invokevirtual 61) (120) := ri_of (by decide +kernel) rfl
theorem wi_274_120 : ri (rt_P sc fm) 274 120 (.aload_n 0) (121) := ri_of (by decide +kernel) rfl
theorem wi_274_121 : ri (rt_P sc fm) 274 121 (.iload 6) (123) := ri_of (by decide +kernel) rfl
theorem wi_274_123 : ri (rt_P sc fm) 274 123 (.iload_n 2) (124) := ri_of (by decide +kernel) rfl
theorem wi_274_124 : ri (rt_P sc fm) 274 124 (.invokevirtual 346) (127) := ri_of (by decide +kernel) rfl
theorem wi_274_127 : ri (rt_P sc fm) 274 127 (.ifCond .ne 13) (130) := ri_of (by decide +kernel) rfl
theorem wi_274_130 : ri (rt_P sc fm) 274 130 (.aload_n 0) (131) := ri_of (by decide +kernel) rfl
theorem wi_274_131 : ri (rt_P sc fm) 274 131 (.bipush 7) (133) := ri_of (by decide +kernel) rfl
theorem wi_274_133 : ri (rt_P sc fm) 274 133 (.aload_n 0) (134) := ri_of (by decide +kernel) rfl
theorem wi_274_134 : ri (rt_P sc fm) 274 134 (.invokevirtual 79) (137) := ri_of (by decide +kernel) rfl
theorem wi_274_137 : ri (rt_P sc fm) 274 137 (.invokevirtual 61) (140) := ri_of (by decide +kernel) rfl
theorem wi_274_14 : ri (rt_P sc fm) 274 14 (.aload_n 0) (15) := ri_of (by decide +kernel) rfl
theorem wi_274_140 : ri (rt_P sc fm) 274 140 (.aload_n 0) (141) := ri_of (by decide +kernel) rfl
theorem wi_274_141 : ri (rt_P sc fm) 274 141 (.getfield 23) (144) := ri_of (by decide +kernel) rfl
theorem wi_274_144 : ri (rt_P sc fm) 274 144 (.iload_n 1) (145) := ri_of (by decide +kernel) rfl
theorem wi_274_145 : ri (rt_P sc fm) 274 145 (.lload 4) (147) := ri_of (by decide +kernel) rfl
theorem wi_274_147 : ri (rt_P sc fm) 274 147 (.invokevirtual 350) (150) := ri_of (by decide +kernel) rfl
theorem wi_274_15 : ri (rt_P sc fm) 274 15 (.bipush 6) (17) := ri_of (by decide +kernel) rfl
theorem wi_274_150 : ri (rt_P sc fm) 274 150 (.istore 7) (152) := ri_of (by decide +kernel) rfl
theorem wi_274_152 : ri (rt_P sc fm) 274 152 (.iload 7) (154) := ri_of (by decide +kernel) rfl
theorem wi_274_154 : ri (rt_P sc fm) 274 154 (.ifCond .ge 13) (157) := ri_of (by decide +kernel) rfl
theorem wi_274_157 : ri (rt_P sc fm) 274 157 (.aload_n 0) (158) := ri_of (by decide +kernel) rfl
theorem wi_274_158 : ri (rt_P sc fm) 274 158 (.bipush 6) (160) := ri_of (by decide +kernel) rfl
theorem wi_274_160 : ri (rt_P sc fm) 274 160 (.aload_n 0) (161) := ri_of (by decide +kernel) rfl
theorem wi_274_161 : ri (rt_P sc fm) 274 161 (.invokevirtual 79) (164) := ri_of (by decide +kernel) rfl
theorem wi_274_164 : ri (rt_P sc fm) 274 164 (.invokevirtual 61) (167) := ri_of (by decide +kernel) rfl
theorem wi_274_167 : ri (rt_P sc fm) 274 167 (.aload_n 0) (168) := ri_of (by decide +kernel) rfl
theorem wi_274_168 : ri (rt_P sc fm) 274 168 (.getfield 23) (171) := ri_of (by decide +kernel) rfl
theorem wi_274_17 : ri (rt_P sc fm) 274 17 (.aload_n 0) (18) := ri_of (by decide +kernel) rfl
theorem wi_274_171 : ri (rt_P sc fm) 274 171 (.getfield 228) (174) := ri_of (by decide +kernel) rfl
theorem wi_274_174 : ri (rt_P sc fm) 274 174 (.iload 7) (176) := ri_of (by decide +kernel) rfl
theorem wi_274_176 : ri (rt_P sc fm) 274 176 (.iload 6) (178) := ri_of (by decide +kernel) rfl
theorem wi_274_178 : ri (rt_P sc fm) 274 178 (.iastore) (179) := ri_of (by decide +kernel) rfl
theorem wi_274_179 : ri (rt_P sc fm) 274 179 (.aload_n 0) (180) := ri_of (by decide +kernel) rfl
theorem wi_274_18 : ri (rt_P sc fm) 274 18 (.invokevirtual 79) (21) := ri_of (by decide +kernel) rfl
theorem wi_274_180 : ri (rt_P sc fm) 274 180 (.getfield 23) (183) := ri_of (by decide +kernel) rfl
theorem wi_274_183 : ri (rt_P sc fm) 274 183 (.getfield 353) (186) := ri_of (by decide +kernel) rfl
theorem wi_274_186 : ri (rt_P sc fm) 274 186 (.iload 7) (188) := ri_of (by decide +kernel) rfl
theorem wi_274_188 : ri (rt_P sc fm) 274 188 (.iload_n 3) (189) := ri_of (by decide +kernel) rfl
theorem wi_274_189 : ri (rt_P sc fm) 274 189 (.ifCond .eq 7) (192) := ri_of (by decide +kernel) rfl
theorem wi_274_192 : ri (rt_P sc fm) 274 192 (.iconst (-1)) (193) := ri_of (by decide +kernel) rfl
theorem wi_274_193 : ri (rt_P sc fm) 274 193 (.goto 4) (196) := ri_of (by decide +kernel) rfl
theorem wi_274_196 : ri (rt_P sc fm) 274 196 (.iconst 0) (197) := ri_of (by decide +kernel) rfl
theorem wi_274_197 : ri (rt_P sc fm) 274 197 (.iastore) (198) := ri_of (by decide +kernel) rfl
theorem wi_274_198 : ri (rt_P sc fm) 274 198 (.aload_n 0) (199) := ri_of (by decide +kernel) rfl
theorem wi_274_199 : ri (rt_P sc fm) 274 199 (.dup) (200) := ri_of (by decide +kernel) rfl
theorem wi_274_200 : ri (rt_P sc fm) 274 200 (.getfield 49) (203) := ri_of (by decide +kernel) rfl
theorem wi_274_203 : ri (rt_P sc fm) 274 203 (.iconst 1) (204) := ri_of (by decide +kernel) rfl
theorem wi_274_204 : ri (rt_P sc fm) 274 204 (.iadd) (205) := ri_of (by decide +kernel) rfl
theorem wi_274_205 : ri (rt_P sc fm) 274 205 (.putfield 49) (208) := ri_of (by decide +kernel) rfl
theorem wi_274_208 : ri (rt_P sc fm) 274 208 (.iload 7) (210) := ri_of (by decide +kernel) rfl
theorem wi_274_21 : ri (rt_P sc fm) 274 21 (.invokevirtual 61) (24) := ri_of (by decide +kernel) rfl
theorem wi_274_210 : ri (rt_P sc fm) 274 210 (.ireturn) (211) := ri_of (by decide +kernel) rfl
theorem wi_274_24 : ri (rt_P sc fm) 274 24 (.aload_n 0) (25) := ri_of (by decide +kernel) rfl
theorem wi_274_25 : ri (rt_P sc fm) 274 25 (.dup) (26) := ri_of (by decide +kernel) rfl
theorem wi_274_26 : ri (rt_P sc fm) 274 26 (.getfield 49) (29) := ri_of (by decide +kernel) rfl
theorem wi_274_29 : ri (rt_P sc fm) 274 29 (.iconst 1) (30) := ri_of (by decide +kernel) rfl
theorem wi_274_30 : ri (rt_P sc fm) 274 30 (.iadd) (31) := ri_of (by decide +kernel) rfl
theorem wi_274_31 : ri (rt_P sc fm) 274 31 (.putfield 49) (34) := ri_of (by decide +kernel) rfl
theorem wi_274_34 : ri (rt_P sc fm) 274 34 (.iload_n 2) (35) := ri_of (by decide +kernel) rfl
theorem wi_274_35 : ri (rt_P sc fm) 274 35 (.iconst 4) (36) := ri_of (by decide +kernel) rfl
theorem wi_274_36 : ri (rt_P sc fm) 274 36 (.if_icmp .ge 17) (39) := ri_of (by decide +kernel) rfl
theorem wi_274_39 : ri (rt_P sc fm) 274 39 (.aload_n 0) (40) := ri_of (by decide +kernel) rfl
theorem wi_274_4 : ri (rt_P sc fm) 274 4 (.getfield 225) (7) := ri_of (by decide +kernel) rfl
theorem wi_274_40 : ri (rt_P sc fm) 274 40 (.sipush 211) (43) := ri_of (by decide +kernel) rfl
theorem wi_274_43 : ri (rt_P sc fm) 274 43 (.invokevirtual 149) (46) := ri_of (by decide +kernel) rfl
theorem wi_274_46 : ri (rt_P sc fm) 274 46 (.ifCond .eq 7) (49) := ri_of (by decide +kernel) rfl
theorem wi_274_49 : ri (rt_P sc fm) 274 49 (.iconst 1) (50) := ri_of (by decide +kernel) rfl
theorem wi_274_50 : ri (rt_P sc fm) 274 50 (.goto 4) (53) := ri_of (by decide +kernel) rfl
theorem wi_274_53 : ri (rt_P sc fm) 274 53 (.iconst 0) (54) := ri_of (by decide +kernel) rfl
theorem wi_274_54 : ri (rt_P sc fm) 274 54 (.istore_n 3) (55) := ri_of (by decide +kernel) rfl
theorem wi_274_55 : ri (rt_P sc fm) 274 55 (.aload_n 0) (56) := ri_of (by decide +kernel) rfl
theorem wi_274_56 : ri (rt_P sc fm) 274 56 (.invokevirtual 89) (59) := ri_of (by decide +kernel) rfl
theorem wi_274_59 : ri (rt_P sc fm) 274 59 (.lstore 4) (61) := ri_of (by decide +kernel) rfl
theorem wi_274_61 : ri (rt_P sc fm) 274 61 (.aload_n 0) (62) := ri_of (by decide +kernel) rfl
theorem wi_274_62 : ri (rt_P sc fm) 274 62 (.getfield 15) (65) := ri_of (by decide +kernel) rfl
theorem wi_274_65 : ri (rt_P sc fm) 274 65 (.lload 4) (67) := ri_of (by decide +kernel) rfl
theorem wi_274_67 : ri (rt_P sc fm) 274 67 (.invokevirtual 336) (70) := ri_of (by decide +kernel) rfl
theorem wi_274_7 : ri (rt_P sc fm) 274 7 (.iload_n 1) (8) := ri_of (by decide +kernel) rfl
theorem wi_274_70 : ri (rt_P sc fm) 274 70 (.istore 6) (72) := ri_of (by decide +kernel) rfl
theorem wi_274_72 : ri (rt_P sc fm) 274 72 (.iload 6) (74) := ri_of (by decide +kernel) rfl
theorem wi_274_74 : ri (rt_P sc fm) 274 74 (.ifCond .ge 12) (77) := ri_of (by decide +kernel) rfl
theorem wi_274_77 : ri (rt_P sc fm) 274 77 (.aload_n 0) (78) := ri_of (by decide +kernel) rfl
theorem wi_274_78 : ri (rt_P sc fm) 274 78 (.iconst 5) (79) := ri_of (by decide +kernel) rfl
theorem wi_274_79 : ri (rt_P sc fm) 274 79 (.aload_n 0) (80) := ri_of (by decide +kernel) rfl
theorem wi_274_8 : ri (rt_P sc fm) 274 8 (.iaload) (9) := ri_of (by decide +kernel) rfl
theorem wi_274_80 : ri (rt_P sc fm) 274 80 (.invokevirtual 79) (83) := ri_of (by decide +kernel) rfl
theorem wi_274_83 : ri (rt_P sc fm) 274 83 (.invokevirtual 61) (86) := ri_of (by decide +kernel) rfl
theorem wi_274_86 : ri (rt_P sc fm) 274 86 (.aload_n 0) (87) := ri_of (by decide +kernel) rfl
theorem wi_274_87 : ri (rt_P sc fm) 274 87 (.getfield 23) (90) := ri_of (by decide +kernel) rfl
theorem wi_274_9 : ri (rt_P sc fm) 274 9 (.bipush 20) (11) := ri_of (by decide +kernel) rfl
theorem wi_274_90 : ri (rt_P sc fm) 274 90 (.iload_n 1) (91) := ri_of (by decide +kernel) rfl
theorem wi_274_91 : ri (rt_P sc fm) 274 91 (.lload 4) (93) := ri_of (by decide +kernel) rfl
theorem wi_274_93 : ri (rt_P sc fm) 274 93 (.invokevirtual 339) (96) := ri_of (by decide +kernel) rfl
theorem wi_274_96 : ri (rt_P sc fm) 274 96 (.ifCond .eq 24) (99) := ri_of (by decide +kernel) rfl
theorem wi_274_99 : ri (rt_P sc fm) 274 99 (.aload_n 0) (100) := ri_of (by decide +kernel) rfl
theorem wm_224 : rx_ml (rt_P sc fm) 224 = 5 := (by decide +kernel : rt_ml 224 = 5)
theorem wm_229 : rx_ml (rt_P sc fm) 229 = 6 := (by decide +kernel : rt_ml 229 = 6)
theorem wm_251 : rx_ml (rt_P sc fm) 251 = 2 := (by decide +kernel : rt_ml 251 = 2)
theorem wm_275 : rx_ml (rt_P sc fm) 275 = 3 := (by decide +kernel : rt_ml 275 = 3)
theorem wp_274_49 : rx_pt (rt_P sc fm) 274 49 = some (10, 7, .int) := (by decide +kernel : rt_pt 274 49 = some (10, 7, .int))
theorem wr_274 : rx_rt (rt_P sc fm) 274 = (some FieldType.int) := (by decide +kernel : rt_rt 274 = (some FieldType.int))
/-- MarkHouse$Reader.readMarkName(II)I -/
def d_274 (n : Nat) (a1 : Int32) (a2 : Int32) (c : cS) : Option ((Int32 × cS) ⊕ cS) :=
  if ib a1 2242 then
  jn (fun p2 : cS =>
    lt (pI p2 145 7 ((p2.1 145 7) + 1)) (fun c3 =>
    jn (fun p5 : Int32 × cS =>
      Option.bind (d_259 n p5.2) (Sum.elim (fun r7 =>
      Option.bind (d_246 n r7.1 r7.2) (fun v10 =>
      jn (fun p12 : cS =>
        Option.bind (d_229 n a1 r7.1 p12) (fun v13 =>
        jn (fun p14 : cS =>
          Option.bind (d_275 n v10 a2 p14) (fun v15 =>
          jn (fun p16 : cS =>
            Option.bind (d_224 n a1 r7.1 p16) (fun r17 =>
            jn (fun p19 : cS =>
              if ib r17.1 4096 then
              lt (pI p19 135 (ix r17.1) v10) (fun c21 =>
              jn (fun p23 : Int32 =>
                if ib r17.1 4096 then
                lt (pI c21 136 (ix r17.1) p23) (fun c25 =>
                lt (pI c25 145 7 ((c25.1 145 7) + 1)) (fun c27 =>
                some (.inl (r17.1, c27))))
                else none)
              (fun j197 =>
              if p5.1 = 0 then
                j197 0
              else
                j197 (-1)))
              else none)
            (fun j167 =>
            if 0 ≤ r17.1 then
              j167 r17.2
            else
              Option.bind (d_42 n r17.2) (fun v29 =>
              Option.bind (d_41 n 6 v29 r17.2) (Sum.elim (fun r30 =>
              j167 r30)
              (fun z31 => some (.inr z31)))))))
          (fun j140 =>
          if v15 = 0 then
            Option.bind (d_42 n p14) (fun v32 =>
            Option.bind (d_41 n 7 v32 p14) (Sum.elim (fun r33 =>
            j140 r33)
            (fun z34 => some (.inr z34))))
          else
            j140 p14)))
        (fun j120 =>
        if v13 = 0 then
          j120 p12
        else
          Option.bind (d_251 n v10 p12) (fun v35 =>
          if v35 = 0 then
            Option.bind (d_42 n p12) (fun v36 =>
            Option.bind (d_41 n 3 v36 p12) (Sum.elim (fun r37 =>
            j120 r37)
            (fun z38 => some (.inr z38))))
          else
            j120 p12))))
      (fun j86 =>
      if 0 ≤ v10 then
        j86 r7.2
      else
        Option.bind (d_42 n r7.2) (fun v39 =>
        Option.bind (d_41 n 5 v39 r7.2) (Sum.elim (fun r40 =>
        j86 r40)
        (fun z41 => some (.inr z41)))))))
      (fun z8 => some (.inr z8))))
    (fun j54 =>
    jn (fun p42 : cS =>
      j54 (0, p42))
    (fun j53 =>
    if 4 ≤ a2 then
      j53 c3
    else
      Option.bind (d_258 n 211 c3) (fun r43 =>
      if r43.1 = 0 then
        j53 r43.2
      else
        j54 (1, r43.2))))))
  (fun j24 =>
  if (c.1 144 (ix a1)) < 20 then
    j24 c
  else
    Option.bind (d_42 n c) (fun v44 =>
    Option.bind (d_41 n 6 v44 c) (Sum.elim (fun r45 =>
    j24 r45)
    (fun z46 => some (.inr z46)))))
  else none
theorem sp_274 {F Lo n : Nat} {a1 : Int32} {a2 : Int32} {c y : cS} {w : cW} {K : (Int32 × cS) ⊕ cS → Prop} {Q : ((Option Value) ⊕ String) → List va_E → Prop} (hw : rOK fm w) (hF : 8 ≤ F) (hLo : 124 ≤ Lo)  (h : wp (d_274 n a1 a2 c) K) (hQ : ∀ r, K (.inl r) → Q (.inl (some (.int r.1))) (hq true r.2 y w)) (hT : ∀ r, K (.inr r) → Q (.inr "java/lang/IllegalArgumentException") (hq true r y w)) : rs (rt_P sc fm) 274 F Lo 0 [(0, .ref 145), (1, .int a1), (2, .int a2)] [] (hq true c y w) Q := by
  unfold d_274 at h
  obtain ⟨lv, elv⟩ : ∃ lv : rx_L, lv = [(0, .ref 145), (1, .int a1), (2, .int a2)] := ⟨_, rfl⟩
  rw [← elv]
  have l0 : rx_ld lv 0 = some (.ref 145) := by rw [elv]; rfl
  have l1 : rx_ld lv 1 = some (.int a1) := by rw [elv]; rfl
  have l2 : rx_ld lv 2 = some (.int a2) := by rw [elv]; rfl
  refine rs_aldn wi_274_0 l0 ?_
  refine dq_gr wi_274_1 wf_274_23 tf_145_3 ?_
  refine dq_gr wi_274_4 wf_274_225 tf_133_10 ?_
  refine rs_ildn wi_274_7 l1 ?_
  obtain ⟨g1, h⟩ := wp_gd h
  refine dq_iald wi_274_8 t_144 g1 ?_
  refine rs_pure wi_274_9 rfl ?_
  refine rs_topi (v := 20) (by decide) ?_
  refine wp_jn (B := fun p2 : cS => ∀ lv, rx_ld lv 0 = some (.ref 145) → rx_ld lv 1 = some (.int a1) → rx_ld lv 2 = some (.int a2) → rs (rt_P sc fm) 274 F Lo 24 lv [] (hq true p2 y w) Q) h (fun p2 h lv l0 l1 l2 => ?_) (fun j24 hj24 h => ?_)
  ·
    refine rs_aldn wi_274_24 l0 ?_
    refine rs_pure wi_274_25 rfl ?_
    refine dq_gi wi_274_26 wf_274_49 tf_145_7 ?_
    refine rs_pure wi_274_29 rfl ?_
    refine rs_topi (v := 1) (by decide) ?_
    refine rs_pure wi_274_30 rfl ?_
    obtain ⟨c3, e4, h⟩ := wp_lt h
    refine dq_pi wi_274_31 wp_274_49 tf_145_7 rfl rfl e4 ?_
    refine rs_ildn wi_274_34 l2 ?_
    refine rs_pure wi_274_35 rfl ?_
    refine rs_topi (v := 4) (by decide) ?_
    refine wp_jn (B := fun p5 : Int32 × cS => ∀ lv, rx_ld lv 0 = some (.ref 145) → rx_ld lv 1 = some (.int a1) → rx_ld lv 2 = some (.int a2) → rs (rt_P sc fm) 274 F Lo 54 lv [.int p5.1] (hq true p5.2 y w) Q) h (fun p5 h lv l0 l1 l2 => ?_) (fun j54 hj54 h => ?_)
    ·
      refine dl_istn wi_274_54 rfl (fun lv l3 t6 => ?_)
      have l0 := t6 _ _ (by decide) (Or.inl rfl) l0
      have l1 := t6 _ _ (by decide) (Or.inl rfl) l1
      have l2 := t6 _ _ (by decide) (Or.inl rfl) l2
      refine rs_aldn wi_274_55 l0 ?_
      refine rs_V wi_274_56 wc_274_89 rfl (dq_isa tf_145_0 wa_10_259) (Nat.le_trans (by decide) hF) (ml_le wm_259 (Nat.le_trans (by decide) hLo)) rfl (sp_259 hw (Nat.le_trans (by decide : 7 ≤ 8 - 1) (Nat.sub_le_sub_right hF 1)) (ml_sub wm_259 (Nat.le_trans (by decide : 104 ≤ 124 - 20) (Nat.sub_le_sub_right hLo 20))) (wp_bind h) (fun r7 h => rs_back1 ?_) (fun z8 h => rs_up wh0_274_56 whh_274 (hT z8 (wp_inr h))))
      have h := wp_inl h
      refine dl_lst wi_274_59 rfl (fun lv l4 t9 => ?_)
      have l0 := t9 _ _ (by decide) (by decide) (Or.inl rfl) l0
      have l1 := t9 _ _ (by decide) (by decide) (Or.inl rfl) l1
      have l2 := t9 _ _ (by decide) (by decide) (Or.inl rfl) l2
      have l3 := t9 _ _ (by decide) (by decide) (Or.inl rfl) l3
      refine rs_aldn wi_274_61 l0 ?_
      refine dq_gr wi_274_62 wf_274_15 tf_145_1 ?_
      refine rs_lld wi_274_65 l4 ?_
      refine rs_V wi_274_67 wc_274_336 rfl (dq_isa tf_7_0 wa_9_246) (Nat.le_trans (by decide) hF) (ml_le wm_246 (Nat.le_trans (by decide) hLo)) rfl (sp_246 hw (Nat.le_trans (by decide : 1 ≤ 8 - 1) (Nat.sub_le_sub_right hF 1)) (ml_sub wm_246 (Nat.le_trans (by decide : 23 ≤ 124 - 23) (Nat.sub_le_sub_right hLo 23))) (wp_bind h) (fun v10 h => rs_back1 ?_))
      refine dl_ist wi_274_70 rfl (fun lv l6 t11 => ?_)
      have l0 := t11 _ _ (by decide) (Or.inl rfl) l0
      have l1 := t11 _ _ (by decide) (Or.inl rfl) l1
      have l2 := t11 _ _ (by decide) (Or.inl rfl) l2
      have l3 := t11 _ _ (by decide) (Or.inl rfl) l3
      have l4 := t11 _ _ (by decide) (Or.inr (by decide)) l4
      refine rs_ild wi_274_72 l6 ?_
      refine wp_jn (B := fun p12 : cS => ∀ lv, rx_ld lv 0 = some (.ref 145) → rx_ld lv 1 = some (.int a1) → rx_ld lv 2 = some (.int a2) → rx_ld lv 3 = some (.int p5.1) → rx_ld lv 4 = some (.long r7.1) → rx_ld lv 6 = some (.int v10) → rs (rt_P sc fm) 274 F Lo 86 lv [] (hq true p12 y w) Q) h (fun p12 h lv l0 l1 l2 l3 l4 l6 => ?_) (fun j86 hj86 h => ?_)
      ·
        refine rs_aldn wi_274_86 l0 ?_
        refine dq_gr wi_274_87 wf_274_23 tf_145_3 ?_
        refine rs_ildn wi_274_90 l1 ?_
        refine rs_lld wi_274_91 l4 ?_
        refine rs_V wi_274_93 wc_274_339 rfl (dq_isa tf_133_0 wa_7_229) (Nat.le_trans (by decide) hF) (ml_le wm_229 (Nat.le_trans (by decide) hLo)) rfl (sp_229 hw (Nat.le_trans (by decide : 0 ≤ 8 - 1) (Nat.sub_le_sub_right hF 1)) (ml_sub wm_229 (Nat.le_trans (by decide : 0 ≤ 124 - 25) (Nat.sub_le_sub_right hLo 25))) (wp_bind h) (fun v13 h => rs_back1 ?_))
        refine wp_jn (B := fun p14 : cS => ∀ lv, rx_ld lv 0 = some (.ref 145) → rx_ld lv 1 = some (.int a1) → rx_ld lv 2 = some (.int a2) → rx_ld lv 3 = some (.int p5.1) → rx_ld lv 4 = some (.long r7.1) → rx_ld lv 6 = some (.int v10) → rs (rt_P sc fm) 274 F Lo 120 lv [] (hq true p14 y w) Q) h (fun p14 h lv l0 l1 l2 l3 l4 l6 => ?_) (fun j120 hj120 h => ?_)
        ·
          refine rs_aldn wi_274_120 l0 ?_
          refine rs_ild wi_274_121 l6 ?_
          refine rs_ildn wi_274_123 l2 ?_
          refine rs_V wi_274_124 wc_274_346 rfl (dq_isa tf_145_0 wa_10_275) (Nat.le_trans (by decide) hF) (ml_le wm_275 (Nat.le_trans (by decide) hLo)) rfl (sp_275 hw (Nat.le_trans (by decide : 1 ≤ 8 - 1) (Nat.sub_le_sub_right hF 1)) (ml_sub wm_275 (Nat.le_trans (by decide : 22 ≤ 124 - 22) (Nat.sub_le_sub_right hLo 22))) (wp_bind h) (fun v15 h => rs_back1 ?_))
          refine wp_jn (B := fun p16 : cS => ∀ lv, rx_ld lv 0 = some (.ref 145) → rx_ld lv 1 = some (.int a1) → rx_ld lv 3 = some (.int p5.1) → rx_ld lv 4 = some (.long r7.1) → rx_ld lv 6 = some (.int v10) → rs (rt_P sc fm) 274 F Lo 140 lv [] (hq true p16 y w) Q) h (fun p16 h lv l0 l1 l3 l4 l6 => ?_) (fun j140 hj140 h => ?_)
          ·
            refine rs_aldn wi_274_140 l0 ?_
            refine dq_gr wi_274_141 wf_274_23 tf_145_3 ?_
            refine rs_ildn wi_274_144 l1 ?_
            refine rs_lld wi_274_145 l4 ?_
            refine rs_V wi_274_147 wc_274_350 rfl (dq_isa tf_133_0 wa_7_224) (Nat.le_trans (by decide) hF) (ml_le wm_224 (Nat.le_trans (by decide) hLo)) rfl (sp_224 hw (Nat.le_trans (by decide : 0 ≤ 8 - 1) (Nat.sub_le_sub_right hF 1)) (ml_sub wm_224 (Nat.le_trans (by decide : 0 ≤ 124 - 24) (Nat.sub_le_sub_right hLo 24))) (wp_bind h) (fun r17 h => rs_back1 ?_))
            refine dl_ist wi_274_150 rfl (fun lv l7 t18 => ?_)
            have l0 := t18 _ _ (by decide) (Or.inl rfl) l0
            have l3 := t18 _ _ (by decide) (Or.inl rfl) l3
            have l6 := t18 _ _ (by decide) (Or.inl rfl) l6
            refine rs_ild wi_274_152 l7 ?_
            refine wp_jn (B := fun p19 : cS => ∀ lv, rx_ld lv 0 = some (.ref 145) → rx_ld lv 3 = some (.int p5.1) → rx_ld lv 6 = some (.int v10) → rx_ld lv 7 = some (.int r17.1) → rs (rt_P sc fm) 274 F Lo 167 lv [] (hq true p19 y w) Q) h (fun p19 h lv l0 l3 l6 l7 => ?_) (fun j167 hj167 h => ?_)
            ·
              refine rs_aldn wi_274_167 l0 ?_
              refine dq_gr wi_274_168 wf_274_23 tf_145_3 ?_
              refine dq_gr wi_274_171 wf_274_228 tf_133_1 ?_
              refine rs_ild wi_274_174 l7 ?_
              refine rs_ild wi_274_176 l6 ?_
              obtain ⟨g20, h⟩ := wp_gd h
              obtain ⟨c21, e22, h⟩ := wp_lt h
              refine dq_iast wi_274_178 t_135 g20 e22 ?_
              refine rs_aldn wi_274_179 l0 ?_
              refine dq_gr wi_274_180 wf_274_23 tf_145_3 ?_
              refine dq_gr wi_274_183 wf_274_353 tf_133_2 ?_
              refine rs_ild wi_274_186 l7 ?_
              refine rs_ildn wi_274_188 l3 ?_
              refine wp_jn (B := fun p23 : Int32 => ∀ lv, rx_ld lv 0 = some (.ref 145) → rx_ld lv 7 = some (.int r17.1) → rs (rt_P sc fm) 274 F Lo 197 lv [.int p23, .int r17.1, .ref 136] (hq true c21 y w) Q) h (fun p23 h lv l0 l7 => ?_) (fun j197 hj197 h => ?_)
              ·
                obtain ⟨g24, h⟩ := wp_gd h
                obtain ⟨c25, e26, h⟩ := wp_lt h
                refine dq_iast wi_274_197 t_136 g24 e26 ?_
                refine rs_aldn wi_274_198 l0 ?_
                refine rs_pure wi_274_199 rfl ?_
                refine dq_gi wi_274_200 wf_274_49 tf_145_7 ?_
                refine rs_pure wi_274_203 rfl ?_
                refine rs_topi (v := 1) (by decide) ?_
                refine rs_pure wi_274_204 rfl ?_
                obtain ⟨c27, e28, h⟩ := wp_lt h
                refine dq_pi wi_274_205 wp_274_49 tf_145_7 rfl rfl e28 ?_
                refine rs_ild wi_274_208 l7 ?_
                exact rs_iret wi_274_210 wr_274 rfl (hQ (r17.1, c27) h)
              refine rs_ifeq (tg := 196) wi_274_189 ⟨by decide, by decide⟩ (fun q => ?_) (fun q => ?_)
              ·
                have h := wp_pos h q
                refine rs_pure wi_274_196 rfl ?_
                refine rs_topi (v := 0) (by decide) ?_
                exact hj197 _ h _ l0 l7
              ·
                have h := wp_neg h q
                refine rs_pure wi_274_192 rfl ?_
                refine rs_topi (v := (-1)) (by decide) ?_
                refine rs_goto (tg := 197) wi_274_193 ⟨by decide, by decide⟩ ?_
                exact hj197 _ h _ l0 l7
            refine rs_ifge (tg := 167) wi_274_154 ⟨by decide, by decide⟩ (fun q => ?_) (fun q => ?_)
            ·
              have h := wp_pos h q
              exact hj167 _ h _ l0 l3 l6 l7
            ·
              have h := wp_neg h q
              refine rs_aldn wi_274_157 l0 ?_
              refine rs_pure wi_274_158 rfl ?_
              refine rs_topi (v := 6) (by decide) ?_
              refine rs_aldn wi_274_160 l0 ?_
              refine rs_V wi_274_161 wc_274_79 rfl (dq_isa tf_145_0 wa_10_42) (Nat.le_trans (by decide) hF) (ml_le wm_42 (Nat.le_trans (by decide) hLo)) rfl (sp_42 hw (Nat.le_trans (by decide : 0 ≤ 8 - 1) (Nat.sub_le_sub_right hF 1)) (ml_sub wm_42 (Nat.le_trans (by decide : 0 ≤ 124 - 20) (Nat.sub_le_sub_right hLo 20))) (wp_bind h) (fun v29 h => rs_back1 ?_))
              refine rs_V wi_274_164 wc_274_61 rfl (dq_isa tf_145_0 wa_10_41) (Nat.le_trans (by decide) hF) (ml_le wm_41 (Nat.le_trans (by decide) hLo)) rfl (sp_41 hw (Nat.le_trans (by decide : 6 ≤ 8 - 1) (Nat.sub_le_sub_right hF 1)) (ml_sub wm_41 (Nat.le_trans (by decide : 82 ≤ 124 - 22) (Nat.sub_le_sub_right hLo 22))) (wp_bind h) (fun r30 h => rs_back0 ?_) (fun z31 h => rs_up wh0_274_164 whh_274 (hT z31 (wp_inr h))))
              have h := wp_inl h
              exact hj167 _ h _ l0 l3 l6 l7
          refine rs_ifne (tg := 140) wi_274_127 ⟨by decide, by decide⟩ (fun q => ?_) (fun q => ?_)
          ·
            have h := wp_neg h q
            exact hj140 _ h _ l0 l1 l3 l4 l6
          ·
            have h := wp_pos h q
            refine rs_aldn wi_274_130 l0 ?_
            refine rs_pure wi_274_131 rfl ?_
            refine rs_topi (v := 7) (by decide) ?_
            refine rs_aldn wi_274_133 l0 ?_
            refine rs_V wi_274_134 wc_274_79 rfl (dq_isa tf_145_0 wa_10_42) (Nat.le_trans (by decide) hF) (ml_le wm_42 (Nat.le_trans (by decide) hLo)) rfl (sp_42 hw (Nat.le_trans (by decide : 0 ≤ 8 - 1) (Nat.sub_le_sub_right hF 1)) (ml_sub wm_42 (Nat.le_trans (by decide : 0 ≤ 124 - 20) (Nat.sub_le_sub_right hLo 20))) (wp_bind h) (fun v32 h => rs_back1 ?_))
            refine rs_V wi_274_137 wc_274_61 rfl (dq_isa tf_145_0 wa_10_41) (Nat.le_trans (by decide) hF) (ml_le wm_41 (Nat.le_trans (by decide) hLo)) rfl (sp_41 hw (Nat.le_trans (by decide : 6 ≤ 8 - 1) (Nat.sub_le_sub_right hF 1)) (ml_sub wm_41 (Nat.le_trans (by decide : 82 ≤ 124 - 22) (Nat.sub_le_sub_right hLo 22))) (wp_bind h) (fun r33 h => rs_back0 ?_) (fun z34 h => rs_up wh0_274_137 whh_274 (hT z34 (wp_inr h))))
            have h := wp_inl h
            exact hj140 _ h _ l0 l1 l3 l4 l6
        refine rs_ifeq (tg := 120) wi_274_96 ⟨by decide, by decide⟩ (fun q => ?_) (fun q => ?_)
        ·
          have h := wp_pos h q
          exact hj120 _ h _ l0 l1 l2 l3 l4 l6
        ·
          have h := wp_neg h q
          refine rs_aldn wi_274_99 l0 ?_
          refine dq_gr wi_274_100 wf_274_15 tf_145_1 ?_
          refine rs_ild wi_274_103 l6 ?_
          refine rs_V wi_274_105 wc_274_343 rfl (dq_isa tf_7_0 wa_9_251) (Nat.le_trans (by decide) hF) (ml_le wm_251 (Nat.le_trans (by decide) hLo)) rfl (sp_251 hw (Nat.le_trans (by decide : 0 ≤ 8 - 1) (Nat.sub_le_sub_right hF 1)) (ml_sub wm_251 (Nat.le_trans (by decide : 0 ≤ 124 - 21) (Nat.sub_le_sub_right hLo 21))) (wp_bind h) (fun v35 h => rs_back1 ?_))
          refine rs_ifne (tg := 120) wi_274_108 ⟨by decide, by decide⟩ (fun q => ?_) (fun q => ?_)
          ·
            have h := wp_neg h q
            exact hj120 _ h _ l0 l1 l2 l3 l4 l6
          ·
            have h := wp_pos h q
            refine rs_aldn wi_274_111 l0 ?_
            refine rs_pure wi_274_112 rfl ?_
            refine rs_topi (v := 3) (by decide) ?_
            refine rs_aldn wi_274_113 l0 ?_
            refine rs_V wi_274_114 wc_274_79 rfl (dq_isa tf_145_0 wa_10_42) (Nat.le_trans (by decide) hF) (ml_le wm_42 (Nat.le_trans (by decide) hLo)) rfl (sp_42 hw (Nat.le_trans (by decide : 0 ≤ 8 - 1) (Nat.sub_le_sub_right hF 1)) (ml_sub wm_42 (Nat.le_trans (by decide : 0 ≤ 124 - 20) (Nat.sub_le_sub_right hLo 20))) (wp_bind h) (fun v36 h => rs_back1 ?_))
            refine rs_V wi_274_117 wc_274_61 rfl (dq_isa tf_145_0 wa_10_41) (Nat.le_trans (by decide) hF) (ml_le wm_41 (Nat.le_trans (by decide) hLo)) rfl (sp_41 hw (Nat.le_trans (by decide : 6 ≤ 8 - 1) (Nat.sub_le_sub_right hF 1)) (ml_sub wm_41 (Nat.le_trans (by decide : 82 ≤ 124 - 22) (Nat.sub_le_sub_right hLo 22))) (wp_bind h) (fun r37 h => rs_back0 ?_) (fun z38 h => rs_up wh0_274_117 whh_274 (hT z38 (wp_inr h))))
            have h := wp_inl h
            exact hj120 _ h _ l0 l1 l2 l3 l4 l6
      refine rs_ifge (tg := 86) wi_274_74 ⟨by decide, by decide⟩ (fun q => ?_) (fun q => ?_)
      ·
        have h := wp_pos h q
        exact hj86 _ h _ l0 l1 l2 l3 l4 l6
      ·
        have h := wp_neg h q
        refine rs_aldn wi_274_77 l0 ?_
        refine rs_pure wi_274_78 rfl ?_
        refine rs_topi (v := 5) (by decide) ?_
        refine rs_aldn wi_274_79 l0 ?_
        refine rs_V wi_274_80 wc_274_79 rfl (dq_isa tf_145_0 wa_10_42) (Nat.le_trans (by decide) hF) (ml_le wm_42 (Nat.le_trans (by decide) hLo)) rfl (sp_42 hw (Nat.le_trans (by decide : 0 ≤ 8 - 1) (Nat.sub_le_sub_right hF 1)) (ml_sub wm_42 (Nat.le_trans (by decide : 0 ≤ 124 - 20) (Nat.sub_le_sub_right hLo 20))) (wp_bind h) (fun v39 h => rs_back1 ?_))
        refine rs_V wi_274_83 wc_274_61 rfl (dq_isa tf_145_0 wa_10_41) (Nat.le_trans (by decide) hF) (ml_le wm_41 (Nat.le_trans (by decide) hLo)) rfl (sp_41 hw (Nat.le_trans (by decide : 6 ≤ 8 - 1) (Nat.sub_le_sub_right hF 1)) (ml_sub wm_41 (Nat.le_trans (by decide : 82 ≤ 124 - 22) (Nat.sub_le_sub_right hLo 22))) (wp_bind h) (fun r40 h => rs_back0 ?_) (fun z41 h => rs_up wh0_274_83 whh_274 (hT z41 (wp_inr h))))
        have h := wp_inl h
        exact hj86 _ h _ l0 l1 l2 l3 l4 l6
    refine wp_jn (B := fun p42 : cS => ∀ lv, rx_ld lv 0 = some (.ref 145) → rx_ld lv 1 = some (.int a1) → rx_ld lv 2 = some (.int a2) → rs (rt_P sc fm) 274 F Lo 53 lv [] (hq true p42 y w) Q) h (fun p42 h lv l0 l1 l2 => ?_) (fun j53 hj53 h => ?_)
    ·
      refine rs_pure wi_274_53 rfl ?_
      refine rs_topi (v := 0) (by decide) ?_
      exact hj54 _ h _ l0 l1 l2
    refine rs_icge (tg := 53) wi_274_36 ⟨by decide, by decide⟩ (fun q => ?_) (fun q => ?_)
    ·
      have h := wp_pos h q
      exact hj53 _ h _ l0 l1 l2
    ·
      have h := wp_neg h q
      refine rs_aldn wi_274_39 l0 ?_
      refine rs_pure wi_274_40 rfl ?_
      refine rs_topi (v := 211) (by decide) ?_
      refine rs_V wi_274_43 wc_274_149 rfl (dq_isa tf_145_0 wa_10_258) (Nat.le_trans (by decide) hF) (ml_le wm_258 (Nat.le_trans (by decide) hLo)) rfl (sp_258 hw (Nat.le_trans (by decide : 0 ≤ 8 - 1) (Nat.sub_le_sub_right hF 1)) (ml_sub wm_258 (Nat.le_trans (by decide : 0 ≤ 124 - 22) (Nat.sub_le_sub_right hLo 22))) (wp_bind h) (fun r43 h => rs_back1 ?_))
      refine rs_ifeq (tg := 53) wi_274_46 ⟨by decide, by decide⟩ (fun q => ?_) (fun q => ?_)
      ·
        have h := wp_pos h q
        exact hj53 _ h _ l0 l1 l2
      ·
        have h := wp_neg h q
        refine rs_pure wi_274_49 rfl ?_
        refine rs_topi (v := 1) (by decide) ?_
        refine rs_goto (tg := 54) wi_274_50 ⟨by decide, by decide⟩ ?_
        exact hj54 _ h _ l0 l1 l2
  refine rs_iclt (tg := 24) wi_274_11 ⟨by decide, by decide⟩ (fun q => ?_) (fun q => ?_)
  ·
    have h := wp_pos h q
    exact hj24 _ h _ l0 l1 l2
  ·
    have h := wp_neg h q
    refine rs_aldn wi_274_14 l0 ?_
    refine rs_pure wi_274_15 rfl ?_
    refine rs_topi (v := 6) (by decide) ?_
    refine rs_aldn wi_274_17 l0 ?_
    refine rs_V wi_274_18 wc_274_79 rfl (dq_isa tf_145_0 wa_10_42) (Nat.le_trans (by decide) hF) (ml_le wm_42 (Nat.le_trans (by decide) hLo)) rfl (sp_42 hw (Nat.le_trans (by decide : 0 ≤ 8 - 1) (Nat.sub_le_sub_right hF 1)) (ml_sub wm_42 (Nat.le_trans (by decide : 0 ≤ 124 - 20) (Nat.sub_le_sub_right hLo 20))) (wp_bind h) (fun v44 h => rs_back1 ?_))
    refine rs_V wi_274_21 wc_274_61 rfl (dq_isa tf_145_0 wa_10_41) (Nat.le_trans (by decide) hF) (ml_le wm_41 (Nat.le_trans (by decide) hLo)) rfl (sp_41 hw (Nat.le_trans (by decide : 6 ≤ 8 - 1) (Nat.sub_le_sub_right hF 1)) (ml_sub wm_41 (Nat.le_trans (by decide : 82 ≤ 124 - 22) (Nat.sub_le_sub_right hLo 22))) (wp_bind h) (fun r45 h => rs_back0 ?_) (fun z46 h => rs_up wh0_274_21 whh_274 (hT z46 (wp_inr h))))
    have h := wp_inl h
    exact hj24 _ h _ l0 l1 l2
theorem wf_227_19 : rx_ft (rt_P sc fm) 227 19 = some (7, 2) := (by decide +kernel : rt_ft 227 19 = some (7, 2))
theorem wi_227_0 : ri (rt_P sc fm) 227 0 (.aload_n 0) (1) := ri_of (by decide +kernel) rfl
theorem wi_227_1 : ri (rt_P sc fm) 227 1 (.getfield 19) (4) := ri_of (by decide +kernel) rfl
theorem wi_227_10 : ri (rt_P sc fm) 227 10 (.goto 4) (13) := ri_of (by decide +kernel) rfl
theorem wi_227_13 : ri (rt_P sc fm) 227 13 (.iconst 0) (14) := ri_of (by decide +kernel) rfl
theorem wi_227_14 : ri (rt_P sc fm) 227 14 (.ireturn) (15) := ri_of (by decide +kernel) rfl
theorem wi_227_4 : ri (rt_P sc fm) 227 4 (.iload_n 1) (5) := ri_of (by decide +kernel) rfl
theorem wi_227_5 : ri (rt_P sc fm) 227 5 (.iaload) (6) := ri_of (by decide +kernel) rfl
theorem wi_227_6 : ri (rt_P sc fm) 227 6 (.ifCond .ge 7) (9) := ri_of (by decide +kernel) rfl
theorem wi_227_9 : ri (rt_P sc fm) 227 9 (.iconst 1) (10) := ri_of (by decide +kernel) rfl
theorem wr_227 : rx_rt (rt_P sc fm) 227 = (some FieldType.boolean) := (by decide +kernel : rt_rt 227 = (some FieldType.boolean))
/-- MarkHouse$Marks.isNo(I)Z -/
def d_227 (n : Nat) (a1 : Int32) (c : cS) : Option (Int32) :=
  if ib a1 4096 then
  jn (fun p2 : Int32 =>
    if nb p2 then
    some p2
    else none)
  (fun j14 =>
  if 0 ≤ (c.1 136 (ix a1)) then
    j14 0
  else
    j14 1)
  else none
theorem sp_227 {F Lo n : Nat} {a1 : Int32} {c y : cS} {w : cW} {K : Int32 → Prop} {Q : ((Option Value) ⊕ String) → List va_E → Prop} (hw : rOK fm w) (hF : 0 ≤ F) (hLo : 0 ≤ Lo)  (h : wp (d_227 n a1 c) K) (hQ : ∀ r, K r → Q (.inl (some (.int r))) (hq true c y w)) : rs (rt_P sc fm) 227 F Lo 0 [(0, .ref 133), (1, .int a1)] [] (hq true c y w) Q := by
  unfold d_227 at h
  obtain ⟨lv, elv⟩ : ∃ lv : rx_L, lv = [(0, .ref 133), (1, .int a1)] := ⟨_, rfl⟩
  rw [← elv]
  have l0 : rx_ld lv 0 = some (.ref 133) := by rw [elv]; rfl
  have l1 : rx_ld lv 1 = some (.int a1) := by rw [elv]; rfl
  refine rs_aldn wi_227_0 l0 ?_
  refine dq_gr wi_227_1 wf_227_19 tf_133_2 ?_
  refine rs_ildn wi_227_4 l1 ?_
  obtain ⟨g1, h⟩ := wp_gd h
  refine dq_iald wi_227_5 t_136 g1 ?_
  refine wp_jn (B := fun p2 : Int32 => ∀ lv, rs (rt_P sc fm) 227 F Lo 14 lv [.int p2] (hq true c y w) Q) h (fun p2 h lv => ?_) (fun j14 hj14 h => ?_)
  ·
    obtain ⟨g3, h⟩ := wp_gd h
    exact rs_iret wi_227_14 wr_227 (nb_n g3) (hQ p2 h)
  refine rs_ifge (tg := 13) wi_227_6 ⟨by decide, by decide⟩ (fun q => ?_) (fun q => ?_)
  ·
    have h := wp_pos h q
    refine rs_pure wi_227_13 rfl ?_
    refine rs_topi (v := 0) (by decide) ?_
    exact hj14 _ h _
  ·
    have h := wp_neg h q
    refine rs_pure wi_227_9 rfl ?_
    refine rs_topi (v := 1) (by decide) ?_
    refine rs_goto (tg := 14) wi_227_10 ⟨by decide, by decide⟩ ?_
    exact hj14 _ h _
theorem wc_276_159 : rx_ct (rt_P sc fm) 276 159 = some (0, 235, 1) := (by decide +kernel : rt_ct 276 159 = some (0, 235, 1))
theorem wc_276_61 : rx_ct (rt_P sc fm) 276 61 = some (0, 41, 2) := (by decide +kernel : rt_ct 276 61 = some (0, 41, 2))
theorem wc_276_79 : rx_ct (rt_P sc fm) 276 79 = some (0, 42, 0) := (by decide +kernel : rt_ct 276 79 = some (0, 42, 0))
theorem wc_276_89 : rx_ct (rt_P sc fm) 276 89 = some (0, 259, 0) := (by decide +kernel : rt_ct 276 89 = some (0, 259, 0))
theorem wf_276_49 : rx_ft (rt_P sc fm) 276 49 = some (10, 7) := (by decide +kernel : rt_ft 276 49 = some (10, 7))
theorem wh0_276_19 : rx_ht (rt_P sc fm) 276 19 "java/lang/IllegalArgumentException" = none := (by decide +kernel : rt_ht 276 19 "java/lang/IllegalArgumentException" = none)
theorem wh0_276_2 : rx_ht (rt_P sc fm) 276 2 "java/lang/IllegalArgumentException" = none := (by decide +kernel : rt_ht 276 2 "java/lang/IllegalArgumentException" = none)
theorem whh_276 : rx_hh (rt_P sc fm) 276 = [] := (by decide +kernel : rt_hh 276 = [])
theorem wi_276_0 : ri (rt_P sc fm) 276 0 (.aload_n 1) (1) := ri_of (by decide +kernel) rfl
theorem wi_276_1 : ri (rt_P sc fm) 276 1 (.aload_n 0) (2) := ri_of (by decide +kernel) rfl
theorem wi_276_10 : ri (rt_P sc fm) 276 10 (.ifCond .ge 12) (13) := ri_of (by decide +kernel) rfl
theorem wi_276_13 : ri (rt_P sc fm) 276 13 (.aload_n 0) (14) := ri_of (by decide +kernel) rfl
theorem wi_276_14 : ri (rt_P sc fm) 276 14 (.iconst 5) (15) := ri_of (by decide +kernel) rfl
theorem wi_276_15 : ri (rt_P sc fm) 276 15 (.aload_n 0) (16) := ri_of (by decide +kernel) rfl
theorem wi_276_16 : ri (rt_P sc fm) 276 16 (.invokevirtual 79) (19) := ri_of (by decide +kernel) rfl
theorem wi_276_19 : ri (rt_P sc fm) 276 19 (.invokevirtual 61) (22) := ri_of (by decide +kernel) rfl
theorem wi_276_2 : ri (rt_P sc fm) 276 2 (.invokevirtual 89) (5) := ri_of (by decide +kernel) rfl
theorem wi_276_22 : ri (rt_P sc fm) 276 22 (.aload_n 0) (23) := ri_of (by decide +kernel) rfl
theorem wi_276_23 : ri (rt_P sc fm) 276 23 (.dup) (24) := ri_of (by decide +kernel) rfl
theorem wi_276_24 : ri (rt_P sc fm) 276 24 (.getfield 49) (27) := ri_of (by decide +kernel) rfl
theorem wi_276_27 : ri (rt_P sc fm) 276 27 (.iconst 1) (28) := ri_of (by decide +kernel) rfl
theorem wi_276_28 : ri (rt_P sc fm) 276 28 (.iadd) (29) := ri_of (by decide +kernel) rfl
theorem wi_276_29 : ri (rt_P sc fm) 276 29 (.putfield 49) (32) := ri_of (by decide +kernel) rfl
theorem wi_276_32 : ri (rt_P sc fm) 276 32 (.iload_n 2) (33) := ri_of (by decide +kernel) rfl
theorem wi_276_33 : ri (rt_P sc fm) 276 33 (.ireturn) (34) := ri_of (by decide +kernel) rfl
theorem wi_276_5 : ri (rt_P sc fm) 276 5 (.invokevirtual 159) (8) := ri_of (by decide +kernel) rfl
theorem wi_276_8 : ri (rt_P sc fm) 276 8 (.istore_n 2) (9) := ri_of (by decide +kernel) rfl
theorem wi_276_9 : ri (rt_P sc fm) 276 9 (.iload_n 2) (10) := ri_of (by decide +kernel) rfl
theorem wp_276_49 : rx_pt (rt_P sc fm) 276 49 = some (10, 7, .int) := (by decide +kernel : rt_pt 276 49 = some (10, 7, .int))
theorem wr_276 : rx_rt (rt_P sc fm) 276 = (some FieldType.int) := (by decide +kernel : rt_rt 276 = (some FieldType.int))
/-- MarkHouse$Reader.readElement(LMarkHouse$Order;)I -/
def d_276 (n : Nat) (o1 : Nat) (c : cS) : Option ((Int32 × cS) ⊕ cS) :=
  Option.bind (d_259 n c) (Sum.elim (fun r1 =>
  Option.bind (d_235 n o1 r1.1 r1.2) (fun v3 =>
  jn (fun p5 : cS =>
    lt (pI p5 145 7 ((p5.1 145 7) + 1)) (fun c6 =>
    some (.inl (v3, c6))))
  (fun j22 =>
  if 0 ≤ v3 then
    j22 r1.2
  else
    Option.bind (d_42 n r1.2) (fun v8 =>
    Option.bind (d_41 n 5 v8 r1.2) (Sum.elim (fun r9 =>
    j22 r9)
    (fun z10 => some (.inr z10)))))))
  (fun z2 => some (.inr z2)))
theorem sp_276 {F Lo n : Nat} {o1 : Nat} {c y : cS} {w : cW} {K : (Int32 × cS) ⊕ cS → Prop} {Q : ((Option Value) ⊕ String) → List va_E → Prop} (hw : rOK fm w) (hF : 8 ≤ F) (hLo : 124 ≤ Lo) (ho1 : o1 < 4) (h : wp (d_276 n o1 c) K) (hQ : ∀ r, K (.inl r) → Q (.inl (some (.int r.1))) (hq true r.2 y w)) (hT : ∀ r, K (.inr r) → Q (.inr "java/lang/IllegalArgumentException") (hq true r y w)) : rs (rt_P sc fm) 276 F Lo 0 [(0, .ref 145), (1, .ref (oA o1))] [] (hq true c y w) Q := by
  unfold d_276 at h
  obtain ⟨lv, elv⟩ : ∃ lv : rx_L, lv = [(0, .ref 145), (1, .ref (oA o1))] := ⟨_, rfl⟩
  rw [← elv]
  have l0 : rx_ld lv 0 = some (.ref 145) := by rw [elv]; rfl
  have l1 : rx_ld lv 1 = some (.ref (oA o1)) := by rw [elv]; rfl
  refine rs_aldn wi_276_0 l1 ?_
  refine rs_aldn wi_276_1 l0 ?_
  refine rs_V wi_276_2 wc_276_89 rfl (dq_isa tf_145_0 wa_10_259) (Nat.le_trans (by decide) hF) (ml_le wm_259 (Nat.le_trans (by decide) hLo)) rfl (sp_259 hw (Nat.le_trans (by decide : 7 ≤ 8 - 1) (Nat.sub_le_sub_right hF 1)) (ml_sub wm_259 (Nat.le_trans (by decide : 104 ≤ 124 - 20) (Nat.sub_le_sub_right hLo 20))) (wp_bind h) (fun r1 h => rs_back1 ?_) (fun z2 h => rs_up wh0_276_2 whh_276 (hT z2 (wp_inr h))))
  have h := wp_inl h
  refine rs_V wi_276_5 wc_276_159 rfl (dq_isa (fO_0 ho1) wa_8_235) (Nat.le_trans (by decide) hF) (ml_le wm_235 (Nat.le_trans (by decide) hLo)) rfl (sp_235 hw (Nat.le_trans (by decide : 0 ≤ 8 - 1) (Nat.sub_le_sub_right hF 1)) (ml_sub wm_235 (Nat.le_trans (by decide : 0 ≤ 124 - 23) (Nat.sub_le_sub_right hLo 23))) ho1 (wp_bind h) (fun v3 h => rs_back1 ?_))
  refine dl_istn wi_276_8 rfl (fun lv l2 t4 => ?_)
  have l0 := t4 _ _ (by decide) (Or.inl rfl) l0
  refine rs_ildn wi_276_9 l2 ?_
  refine wp_jn (B := fun p5 : cS => ∀ lv, rx_ld lv 0 = some (.ref 145) → rx_ld lv 2 = some (.int v3) → rs (rt_P sc fm) 276 F Lo 22 lv [] (hq true p5 y w) Q) h (fun p5 h lv l0 l2 => ?_) (fun j22 hj22 h => ?_)
  ·
    refine rs_aldn wi_276_22 l0 ?_
    refine rs_pure wi_276_23 rfl ?_
    refine dq_gi wi_276_24 wf_276_49 tf_145_7 ?_
    refine rs_pure wi_276_27 rfl ?_
    refine rs_topi (v := 1) (by decide) ?_
    refine rs_pure wi_276_28 rfl ?_
    obtain ⟨c6, e7, h⟩ := wp_lt h
    refine dq_pi wi_276_29 wp_276_49 tf_145_7 rfl rfl e7 ?_
    refine rs_ildn wi_276_32 l2 ?_
    exact rs_iret wi_276_33 wr_276 rfl (hQ (v3, c6) h)
  refine rs_ifge (tg := 22) wi_276_10 ⟨by decide, by decide⟩ (fun q => ?_) (fun q => ?_)
  ·
    have h := wp_pos h q
    exact hj22 _ h _ l0 l2
  ·
    have h := wp_neg h q
    refine rs_aldn wi_276_13 l0 ?_
    refine rs_pure wi_276_14 rfl ?_
    refine rs_topi (v := 5) (by decide) ?_
    refine rs_aldn wi_276_15 l0 ?_
    refine rs_V wi_276_16 wc_276_79 rfl (dq_isa tf_145_0 wa_10_42) (Nat.le_trans (by decide) hF) (ml_le wm_42 (Nat.le_trans (by decide) hLo)) rfl (sp_42 hw (Nat.le_trans (by decide : 0 ≤ 8 - 1) (Nat.sub_le_sub_right hF 1)) (ml_sub wm_42 (Nat.le_trans (by decide : 0 ≤ 124 - 20) (Nat.sub_le_sub_right hLo 20))) (wp_bind h) (fun v8 h => rs_back1 ?_))
    refine rs_V wi_276_19 wc_276_61 rfl (dq_isa tf_145_0 wa_10_41) (Nat.le_trans (by decide) hF) (ml_le wm_41 (Nat.le_trans (by decide) hLo)) rfl (sp_41 hw (Nat.le_trans (by decide : 6 ≤ 8 - 1) (Nat.sub_le_sub_right hF 1)) (ml_sub wm_41 (Nat.le_trans (by decide : 82 ≤ 124 - 22) (Nat.sub_le_sub_right hLo 22))) (wp_bind h) (fun r9 h => rs_back0 ?_) (fun z10 h => rs_up wh0_276_19 whh_276 (hT z10 (wp_inr h))))
    have h := wp_inl h
    exact hj22 _ h _ l0 l2
theorem wi_155_0 : ri (rt_P sc fm) 155 0 (.iload_n 0) (1) := ri_of (by decide +kernel) rfl
theorem wi_155_1 : ri (rt_P sc fm) 155 1 (.ifCond .lt 8) (4) := ri_of (by decide +kernel) rfl
theorem wi_155_16 : ri (rt_P sc fm) 155 16 (.iload_n 0) (17) := ri_of (by decide +kernel) rfl
theorem wi_155_17 : ri (rt_P sc fm) 155 17 (.ireturn) (18) := ri_of (by decide +kernel) rfl
theorem wi_155_4 : ri (rt_P sc fm) 155 4 (.iload_n 0) (5) := ri_of (by decide +kernel) rfl
theorem wi_155_5 : ri (rt_P sc fm) 155 5 (.iload_n 1) (6) := ri_of (by decide +kernel) rfl
theorem wi_155_6 : ri (rt_P sc fm) 155 6 (.if_icmp .lt 10) (9) := ri_of (by decide +kernel) rfl
theorem wr_155 : rx_rt (rt_P sc fm) 155 = (some FieldType.int) := (by decide +kernel : rt_rt 155 = (some FieldType.int))
/-- jdk/internal/util/Preconditions.checkIndex(IILjava/util/function/BiFunction;)I -/
def d_155 (n : Nat) (a0 : Int32) (a1 : Int32) : Option (Int32) :=
  jn (fun p1 : Unit =>
    none)
  (fun j9 =>
  if a0 < 0 then
    j9 ()
  else
    if a0 < a1 then
      some a0
    else
      j9 ())
theorem sp_155 {F Lo n : Nat} {a0 : Int32} {a1 : Int32} {L : List va_E} {K : Int32 → Prop} {Q : ((Option Value) ⊕ String) → List va_E → Prop} (hL : L.length ≤ rx_B) (hfm : fm = .null ∨ fm = .ref rx_Fm) (hF : 0 ≤ F) (hLo : 0 ≤ Lo)  (h : wp (d_155 n a0 a1) K) (hQ : ∀ r, K r → Q (.inl (some (.int r))) L) : rs (rt_P sc fm) 155 F Lo 0 [(0, .int a0), (1, .int a1), (2, fm)] [] L Q := by
  unfold d_155 at h
  rcases hfm with rfl | rfl
  ·
    obtain ⟨lv, elv⟩ : ∃ lv : rx_L, lv = [(0, .int a0), (1, .int a1), (2, .null)] := ⟨_, rfl⟩
    rw [← elv]
    have l0 : rx_ld lv 0 = some (.int a0) := by rw [elv]; rfl
    have l1 : rx_ld lv 1 = some (.int a1) := by rw [elv]; rfl
    refine rs_ildn wi_155_0 l0 ?_
    refine wp_jn (B := fun p1 : Unit => ∀ lv, rs (rt_P sc (.null)) 155 F Lo 9 lv [] L Q) h (fun p1 h lv => ?_) (fun j9 hj9 h => ?_)
    ·
      exact h.elim
    refine rs_iflt (tg := 9) wi_155_1 ⟨by decide, by decide⟩ (fun q => ?_) (fun q => ?_)
    ·
      have h := wp_pos h q
      exact hj9 _ h _
    ·
      have h := wp_neg h q
      refine rs_ildn wi_155_4 l0 ?_
      refine rs_ildn wi_155_5 l1 ?_
      refine rs_iclt (tg := 16) wi_155_6 ⟨by decide, by decide⟩ (fun q => ?_) (fun q => ?_)
      ·
        have h := wp_pos h q
        refine rs_ildn wi_155_16 l0 ?_
        exact rs_iret wi_155_17 wr_155 rfl (hQ a0 h)
      ·
        have h := wp_neg h q
        exact hj9 _ h _
  ·
    obtain ⟨lv, elv⟩ : ∃ lv : rx_L, lv = [(0, .int a0), (1, .int a1), (2, .ref rx_Fm)] := ⟨_, rfl⟩
    rw [← elv]
    have l0 : rx_ld lv 0 = some (.int a0) := by rw [elv]; rfl
    have l1 : rx_ld lv 1 = some (.int a1) := by rw [elv]; rfl
    refine rs_ildn wi_155_0 l0 ?_
    refine wp_jn (B := fun p1 : Unit => ∀ lv, rs (rt_P sc (.ref rx_Fm)) 155 F Lo 9 lv [] L Q) h (fun p1 h lv => ?_) (fun j9 hj9 h => ?_)
    ·
      exact h.elim
    refine rs_iflt (tg := 9) wi_155_1 ⟨by decide, by decide⟩ (fun q => ?_) (fun q => ?_)
    ·
      have h := wp_pos h q
      exact hj9 _ h _
    ·
      have h := wp_neg h q
      refine rs_ildn wi_155_4 l0 ?_
      refine rs_ildn wi_155_5 l1 ?_
      refine rs_iclt (tg := 16) wi_155_6 ⟨by decide, by decide⟩ (fun q => ?_) (fun q => ?_)
      ·
        have h := wp_pos h q
        refine rs_ildn wi_155_16 l0 ?_
        exact rs_iret wi_155_17 wr_155 rfl (hQ a0 h)
      ·
        have h := wp_neg h q
        exact hj9 _ h _

theorem wc_149_1059 : rx_ct (rt_P sc fm) 149 1059 = some (1, 155, 3) := (by decide +kernel : rt_ct 149 1059 = some (1, 155, 3))
theorem wg_149_1053 : rx_gt (rt_P sc fm) 149 1053 = some (fm) := rfl
theorem wi_149_0 : ri (rt_P sc fm) 149 0 (.iload_n 0) (1) := ri_of (by decide +kernel) rfl
theorem wi_149_1 : ri (rt_P sc fm) 149 1 (.iload_n 1) (2) := ri_of (by decide +kernel) rfl
theorem wi_149_2 : ri (rt_P sc fm) 149 2 (.getstatic 1053) (5) := ri_of (by decide +kernel) rfl
theorem wi_149_5 : ri (rt_P sc fm) 149 5 (.invokestatic 1059) (8) := ri_of (by decide +kernel) rfl
theorem wi_149_8 : ri (rt_P sc fm) 149 8 (.pop) (9) := ri_of (by decide +kernel) rfl
theorem wi_149_9 : ri (rt_P sc fm) 149 9 (.return_) (10) := ri_of (by decide +kernel) rfl
theorem wm_155 : rx_ml (rt_P sc fm) 155 = 3 := (by decide +kernel : rt_ml 155 = 3)
theorem wr_149 : rx_rt (rt_P sc fm) 149 = none := (by decide +kernel : rt_rt 149 = none)
/-- java/lang/String.checkIndex(II)V -/
def d_149 (n : Nat) (a0 : Int32) (a1 : Int32) : Option (Unit) :=
  Option.bind (d_155 n a0 a1) (fun v1 =>
  some ())
theorem sp_149 {F Lo n : Nat} {a0 : Int32} {a1 : Int32} {L : List va_E} {K : Unit → Prop} {Q : ((Option Value) ⊕ String) → List va_E → Prop} (hL : L.length ≤ rx_B) (hfm : fm = .null ∨ fm = .ref rx_Fm) (hF : 1 ≤ F) (hLo : 22 ≤ Lo)  (h : wp (d_149 n a0 a1) K) (hQ : ∀ r, K r → Q (.inl none) L) : rs (rt_P sc fm) 149 F Lo 0 [(0, .int a0), (1, .int a1)] [] L Q := by
  unfold d_149 at h
  rcases hfm with rfl | rfl
  ·
    obtain ⟨lv, elv⟩ : ∃ lv : rx_L, lv = [(0, .int a0), (1, .int a1)] := ⟨_, rfl⟩
    rw [← elv]
    have l0 : rx_ld lv 0 = some (.int a0) := by rw [elv]; rfl
    have l1 : rx_ld lv 1 = some (.int a1) := by rw [elv]; rfl
    refine rs_ildn wi_149_0 l0 ?_
    refine rs_ildn wi_149_1 l1 ?_
    refine dq_gs wi_149_2 wg_149_1053 ?_
    refine rs_S wi_149_5 wc_149_1059 (Or.inl rfl) rfl (Nat.le_trans (by decide) hF) (ml_le wm_155 (Nat.le_trans (by decide) hLo)) rfl (sp_155 hL (Or.inl rfl) (Nat.le_trans (by decide : 0 ≤ 1 - 1) (Nat.sub_le_sub_right hF 1)) (ml_sub wm_155 (Nat.le_trans (by decide : 0 ≤ 22 - 22) (Nat.sub_le_sub_right hLo 22))) (wp_bind h) (fun v1 h => rs_back1 ?_))
    refine rs_pure wi_149_8 rfl ?_
    exact rs_vret wi_149_9 wr_149 (hQ () h)
  ·
    obtain ⟨lv, elv⟩ : ∃ lv : rx_L, lv = [(0, .int a0), (1, .int a1)] := ⟨_, rfl⟩
    rw [← elv]
    have l0 : rx_ld lv 0 = some (.int a0) := by rw [elv]; rfl
    have l1 : rx_ld lv 1 = some (.int a1) := by rw [elv]; rfl
    refine rs_ildn wi_149_0 l0 ?_
    refine rs_ildn wi_149_1 l1 ?_
    refine dq_gs wi_149_2 wg_149_1053 ?_
    refine rs_S wi_149_5 wc_149_1059 (Or.inl rfl) rfl (Nat.le_trans (by decide) hF) (ml_le wm_155 (Nat.le_trans (by decide) hLo)) rfl (sp_155 hL (Or.inr rfl) (Nat.le_trans (by decide : 0 ≤ 1 - 1) (Nat.sub_le_sub_right hF 1)) (ml_sub wm_155 (Nat.le_trans (by decide : 0 ≤ 22 - 22) (Nat.sub_le_sub_right hLo 22))) (wp_bind h) (fun v1 h => rs_back1 ?_))
    refine rs_pure wi_149_8 rfl ?_
    exact rs_vret wi_149_9 wr_149 (hQ () h)

theorem wc_150_9 : rx_ct (rt_P sc fm) 150 9 = some (1, 149, 2) := (by decide +kernel : rt_ct 150 9 = some (1, 149, 2))
theorem wi_150_0 : ri (rt_P sc fm) 150 0 (.iload_n 1) (1) := ri_of (by decide +kernel) rfl
theorem wi_150_1 : ri (rt_P sc fm) 150 1 (.aload_n 0) (2) := ri_of (by decide +kernel) rfl
theorem wi_150_12 : ri (rt_P sc fm) 150 12 (.iand) (13) := ri_of (by decide +kernel) rfl
theorem wi_150_13 : ri (rt_P sc fm) 150 13 (.i2c) (14) := ri_of (by decide +kernel) rfl
theorem wi_150_14 : ri (rt_P sc fm) 150 14 (.ireturn) (15) := ri_of (by decide +kernel) rfl
theorem wi_150_2 : ri (rt_P sc fm) 150 2 (.arraylength) (3) := ri_of (by decide +kernel) rfl
theorem wi_150_3 : ri (rt_P sc fm) 150 3 (.invokestatic 9) (6) := ri_of (by decide +kernel) rfl
theorem wi_150_6 : ri (rt_P sc fm) 150 6 (.aload_n 0) (7) := ri_of (by decide +kernel) rfl
theorem wi_150_7 : ri (rt_P sc fm) 150 7 (.iload_n 1) (8) := ri_of (by decide +kernel) rfl
theorem wi_150_8 : ri (rt_P sc fm) 150 8 (.baload) (9) := ri_of (by decide +kernel) rfl
theorem wi_150_9 : ri (rt_P sc fm) 150 9 (.sipush 255) (12) := ri_of (by decide +kernel) rfl
theorem wm_149 : rx_ml (rt_P sc fm) 149 = 2 := (by decide +kernel : rt_ml 149 = 2)
theorem wr_150 : rx_rt (rt_P sc fm) 150 = (some FieldType.char) := (by decide +kernel : rt_rt 150 = (some FieldType.char))
/-- java/lang/StringLatin1.charAt([BI)C -/
def d_150 (n : Nat) (j0 : Nat) (a1 : Int32) : Option (Int32) :=
  Option.bind (d_149 n a1 (Int32.ofNat (sB j0).length)) (fun v1 =>
  if ib a1 (sB j0).length then
  if nc ((((((sB j0).getD (ix a1) 0) &&& 255) : Int32).toUInt32 % 65536).toInt32) then
  some ((((((sB j0).getD (ix a1) 0) &&& 255) : Int32).toUInt32 % 65536).toInt32)
  else none
  else none)
theorem sp_150 {F Lo n : Nat} {j0 : Nat} {a1 : Int32} {L : List va_E} {K : Int32 → Prop} {Q : ((Option Value) ⊕ String) → List va_E → Prop} (hL : L.length ≤ rx_B) (hfm : fm = .null ∨ fm = .ref rx_Fm) (hF : 2 ≤ F) (hLo : 43 ≤ Lo) (hj0 : (rt_sb j0).isSome = true) (h : wp (d_150 n j0 a1) K) (hQ : ∀ r, K r → Q (.inl (some (.int r))) L) : rs (rt_P sc fm) 150 F Lo 0 [(0, .ref (rx_V j0)), (1, .int a1)] [] L Q := by
  unfold d_150 at h
  obtain ⟨lv, elv⟩ : ∃ lv : rx_L, lv = [(0, .ref (rx_V j0)), (1, .int a1)] := ⟨_, rfl⟩
  rw [← elv]
  have l0 : rx_ld lv 0 = some (.ref (rx_V j0)) := by rw [elv]; rfl
  have l1 : rx_ld lv 1 = some (.int a1) := by rw [elv]; rfl
  refine rs_ildn wi_150_0 l1 ?_
  refine rs_aldn wi_150_1 l0 ?_
  refine dq_svl wi_150_2 hL hj0 ?_
  refine rs_S wi_150_3 wc_150_9 (Or.inl rfl) rfl (Nat.le_trans (by decide) hF) (ml_le wm_149 (Nat.le_trans (by decide) hLo)) rfl (sp_149 hL hfm (Nat.le_trans (by decide : 1 ≤ 2 - 1) (Nat.sub_le_sub_right hF 1)) (ml_sub wm_149 (Nat.le_trans (by decide : 22 ≤ 43 - 21) (Nat.sub_le_sub_right hLo 21))) (wp_bind h) (fun v1 h => rs_back0 ?_))
  refine rs_aldn wi_150_6 l0 ?_
  refine rs_ildn wi_150_7 l1 ?_
  obtain ⟨g2, h⟩ := wp_gd h
  refine dq_svb wi_150_8 hL hj0 g2 ?_
  refine rs_pure wi_150_9 rfl ?_
  refine rs_topi (v := 255) (by decide) ?_
  refine rs_pure wi_150_12 rfl ?_
  refine rs_pure wi_150_13 rfl ?_
  obtain ⟨g3, h⟩ := wp_gd h
  exact rs_iret wi_150_14 wr_150 (nc_n g3) (hQ ((((((sB j0).getD (ix a1) 0) &&& 255) : Int32).toUInt32 % 65536).toInt32) h)
theorem wc_146_492 : rx_ct (rt_P sc fm) 146 492 = some (0, 148, 0) := (by decide +kernel : rt_ct 146 492 = some (0, 148, 0))
theorem wc_146_495 : rx_ct (rt_P sc fm) 146 495 = some (1, 150, 2) := (by decide +kernel : rt_ct 146 495 = some (1, 150, 2))
theorem wf_146_9 : rx_ft (rt_P sc fm) 146 9 = some (0, 0) := (by decide +kernel : rt_ft 146 9 = some (0, 0))
theorem wi_146_0 : ri (rt_P sc fm) 146 0 (.aload_n 0) (1) := ri_of (by decide +kernel) rfl
theorem wi_146_1 : ri (rt_P sc fm) 146 1 (.invokevirtual 492) (4) := ri_of (by decide +kernel) rfl
theorem wi_146_11 : ri (rt_P sc fm) 146 11 (.iload_n 1) (12) := ri_of (by decide +kernel) rfl
theorem wi_146_12 : ri (rt_P sc fm) 146 12 (.invokestatic 495) (15) := ri_of (by decide +kernel) rfl
theorem wi_146_15 : ri (rt_P sc fm) 146 15 (.ireturn) (16) := ri_of (by decide +kernel) rfl
theorem wi_146_4 : ri (rt_P sc fm) 146 4 (.ifCond .eq 12) (7) := ri_of (by decide +kernel) rfl
theorem wi_146_7 : ri (rt_P sc fm) 146 7 (.aload_n 0) (8) := ri_of (by decide +kernel) rfl
theorem wi_146_8 : ri (rt_P sc fm) 146 8 (.getfield 9) (11) := ri_of (by decide +kernel) rfl
theorem wm_150 : rx_ml (rt_P sc fm) 150 = 2 := (by decide +kernel : rt_ml 150 = 2)
theorem wr_146 : rx_rt (rt_P sc fm) 146 = (some FieldType.char) := (by decide +kernel : rt_rt 146 = (some FieldType.char))
/-- java/lang/String.charAt(I)C -/
def d_146 (n : Nat) (j0 : Nat) (a1 : Int32) : Option (Int32) :=
  Option.bind (d_148 n j0) (fun v1 =>
  if v1 = 0 then
    none
  else
    Option.bind (d_150 n j0 a1) (fun v2 =>
    if nc v2 then
    some v2
    else none))
theorem sp_146 {F Lo n : Nat} {j0 : Nat} {a1 : Int32} {L : List va_E} {K : Int32 → Prop} {Q : ((Option Value) ⊕ String) → List va_E → Prop} (hL : L.length ≤ rx_B) (hfm : fm = .null ∨ fm = .ref rx_Fm) (hF : 3 ≤ F) (hLo : 64 ≤ Lo) (hj0 : (rt_sb j0).isSome = true) (h : wp (d_146 n j0 a1) K) (hQ : ∀ r, K r → Q (.inl (some (.int r))) L) : rs (rt_P sc fm) 146 F Lo 0 [(0, .ref (rx_K j0)), (1, .int a1)] [] L Q := by
  unfold d_146 at h
  obtain ⟨lv, elv⟩ : ∃ lv : rx_L, lv = [(0, .ref (rx_K j0)), (1, .int a1)] := ⟨_, rfl⟩
  rw [← elv]
  have l0 : rx_ld lv 0 = some (.ref (rx_K j0)) := by rw [elv]; rfl
  have l1 : rx_ld lv 1 = some (.int a1) := by rw [elv]; rfl
  refine rs_aldn wi_146_0 l0 ?_
  refine rs_V wi_146_1 wc_146_492 rfl (dq_isaS hL hj0 was_148) (Nat.le_trans (by decide) hF) (ml_le wm_148 (Nat.le_trans (by decide) hLo)) rfl (sp_148 hL hfm (Nat.le_trans (by decide : 0 ≤ 3 - 1) (Nat.sub_le_sub_right hF 1)) (ml_sub wm_148 (Nat.le_trans (by decide : 0 ≤ 64 - 20) (Nat.sub_le_sub_right hLo 20))) hj0 (wp_bind h) (fun v1 h => rs_back1 ?_))
  refine rs_ifeq (tg := 16) wi_146_4 ⟨by decide, by decide⟩ (fun q => ?_) (fun q => ?_)
  ·
    have h := wp_pos h q
    exact h.elim
  ·
    have h := wp_neg h q
    refine rs_aldn wi_146_7 l0 ?_
    refine dq_sv wi_146_8 wf_146_9 hL hj0 ?_
    refine rs_ildn wi_146_11 l1 ?_
    refine rs_S wi_146_12 wc_146_495 (Or.inl rfl) rfl (Nat.le_trans (by decide) hF) (ml_le wm_150 (Nat.le_trans (by decide) hLo)) rfl (sp_150 hL hfm (Nat.le_trans (by decide : 2 ≤ 3 - 1) (Nat.sub_le_sub_right hF 1)) (ml_sub wm_150 (Nat.le_trans (by decide : 43 ≤ 64 - 21) (Nat.sub_le_sub_right hLo 21))) hj0 (wp_bind h) (fun v2 h => rs_back1 ?_))
    obtain ⟨g3, h⟩ := wp_gd h
    exact rs_iret wi_146_15 wr_146 (nc_n g3) (hQ v2 h)
theorem was_146 : (rx_yn (rt_P sc fm) 146).cls = "java/lang/String" := (by decide +kernel : (rt_yn 146).cls = "java/lang/String")
theorem wc_351_384 : rx_ct (rt_P sc fm) 351 384 = some (0, 145, 0) := (by decide +kernel : rt_ct 351 384 = some (0, 145, 0))
theorem wc_351_388 : rx_ct (rt_P sc fm) 351 388 = some (0, 146, 1) := (by decide +kernel : rt_ct 351 388 = some (0, 146, 1))
theorem wi_351_0 : ri (rt_P sc fm) 351 0 (.lconst 0) (1) := ri_of (by decide +kernel) rfl
theorem wi_351_1 : ri (rt_P sc fm) 351 1 (.lstore_n 1) (2) := ri_of (by decide +kernel) rfl
theorem wi_351_12 : ri (rt_P sc fm) 351 12 (.lload_n 1) (13) := ri_of (by decide +kernel) rfl
theorem wi_351_13 : ri (rt_P sc fm) 351 13 (.bipush 8) (15) := ri_of (by decide +kernel) rfl
theorem wi_351_15 : ri (rt_P sc fm) 351 15 (.lshl) (16) := ri_of (by decide +kernel) rfl
theorem wi_351_16 : ri (rt_P sc fm) 351 16 (.aload_n 0) (17) := ri_of (by decide +kernel) rfl
theorem wi_351_17 : ri (rt_P sc fm) 351 17 (.iload_n 3) (18) := ri_of (by decide +kernel) rfl
theorem wi_351_18 : ri (rt_P sc fm) 351 18 (.invokevirtual 388) (21) := ri_of (by decide +kernel) rfl
theorem wi_351_2 : ri (rt_P sc fm) 351 2 (.iconst 0) (3) := ri_of (by decide +kernel) rfl
theorem wi_351_21 : ri (rt_P sc fm) 351 21 (.i2l) (22) := ri_of (by decide +kernel) rfl
theorem wi_351_22 : ri (rt_P sc fm) 351 22 (.lor) (23) := ri_of (by decide +kernel) rfl
theorem wi_351_23 : ri (rt_P sc fm) 351 23 (.lstore_n 1) (24) := ri_of (by decide +kernel) rfl
theorem wi_351_24 : ri (rt_P sc fm) 351 24 (.iinc 3 1) (27) := ri_of (by decide +kernel) rfl
theorem wi_351_27 : ri (rt_P sc fm) 351 27 (.goto (-23)) (30) := ri_of (by decide +kernel) rfl
theorem wi_351_3 : ri (rt_P sc fm) 351 3 (.istore_n 3) (4) := ri_of (by decide +kernel) rfl
theorem wi_351_30 : ri (rt_P sc fm) 351 30 (.lload_n 1) (31) := ri_of (by decide +kernel) rfl
theorem wi_351_31 : ri (rt_P sc fm) 351 31 (.lreturn) (32) := ri_of (by decide +kernel) rfl
theorem wi_351_4 : ri (rt_P sc fm) 351 4 (.iload_n 3) (5) := ri_of (by decide +kernel) rfl
theorem wi_351_5 : ri (rt_P sc fm) 351 5 (.aload_n 0) (6) := ri_of (by decide +kernel) rfl
theorem wi_351_6 : ri (rt_P sc fm) 351 6 (.invokevirtual 384) (9) := ri_of (by decide +kernel) rfl
theorem wi_351_9 : ri (rt_P sc fm) 351 9 (.if_icmp .ge 21) (12) := ri_of (by decide +kernel) rfl
theorem wm_146 : rx_ml (rt_P sc fm) 146 = 2 := (by decide +kernel : rt_ml 146 = 2)
theorem wr_351 : rx_rt (rt_P sc fm) 351 = (some FieldType.long) := (by decide +kernel : rt_rt 351 = (some FieldType.long))
/-- MarkHouse.pack(Ljava/lang/String;)J -/
def d_351 (n : Nat) (j0 : Nat) : Option (Int64) :=
  Option.bind (whl (R := (Int64)) (fun s3 : Int64 × Int32 =>
    Option.bind (d_145 n j0) (fun v4 =>
    if v4 ≤ s3.2 then
      some (.inr s3.1)
    else
      Option.bind (d_146 n j0 s3.2) (fun v5 =>
      lt (((s3.1 <<< ((8 : Int32).toInt64 &&& 63)) ||| (v5 : Int32).toInt64) : Int64) (fun v7 =>
      lt (s3.2 + 1 : Int32) (fun v10 =>
      some (.inl (v7, v10))))))) n (0, 0))
  (fun x12 : Int64 =>
    some x12)
theorem sp_351 {F Lo n : Nat} {j0 : Nat} {L : List va_E} {K : Int64 → Prop} {Q : ((Option Value) ⊕ String) → List va_E → Prop} (hL : L.length ≤ rx_B) (hfm : fm = .null ∨ fm = .ref rx_Fm) (hF : 4 ≤ F) (hLo : 85 ≤ Lo) (hj0 : (rt_sb j0).isSome = true) (h : wp (d_351 n j0) K) (hQ : ∀ r, K r → Q (.inl (some (.long r))) L) : rs (rt_P sc fm) 351 F Lo 0 [(0, .ref (rx_K j0))] [] L Q := by
  unfold d_351 at h
  obtain ⟨lv, elv⟩ : ∃ lv : rx_L, lv = [(0, .ref (rx_K j0))] := ⟨_, rfl⟩
  rw [← elv]
  have l0 : rx_ld lv 0 = some (.ref (rx_K j0)) := by rw [elv]; rfl
  refine rs_pure wi_351_0 rfl ?_
  refine rs_topl (v := 0) (by decide) ?_
  refine dl_lstn wi_351_1 rfl (fun lv l1 t1 => ?_)
  have l0 := t1 _ _ (by decide) (by decide) (Or.inl rfl) l0
  refine rs_pure wi_351_2 rfl ?_
  refine rs_topi (v := 0) (by decide) ?_
  refine dl_istn wi_351_3 rfl (fun lv l3 t2 => ?_)
  have l0 := t2 _ _ (by decide) (Or.inl rfl) l0
  have l1 := t2 _ _ (by decide) (Or.inr (by decide)) l1
  refine whl_ex (A := fun s3 : Int64 × Int32 => ∀ lv, rx_ld lv 0 = some (.ref (rx_K j0)) → rx_ld lv 1 = some (.long s3.1) → rx_ld lv 3 = some (.int s3.2) → rs (rt_P sc fm) 351 F Lo 4 lv [] L Q) (B := (fun x12 : Int64 => ∀ lv, rx_ld lv 1 = some (.long x12) → rs (rt_P sc fm) 351 F Lo 30 lv [] L Q)) ?_ ?_ _ _ (wp_bind h) _ l0 l1 l3
  · intro s3 h lv l0 l1 l3
    refine rs_ildn wi_351_4 l3 ?_
    refine rs_aldn wi_351_5 l0 ?_
    refine rs_V wi_351_6 wc_351_384 rfl (dq_isaS hL hj0 was_145) (Nat.le_trans (by decide) hF) (ml_le wm_145 (Nat.le_trans (by decide) hLo)) rfl (sp_145 hL hfm (Nat.le_trans (by decide : 1 ≤ 4 - 1) (Nat.sub_le_sub_right hF 1)) (ml_sub wm_145 (Nat.le_trans (by decide : 20 ≤ 85 - 20) (Nat.sub_le_sub_right hLo 20))) hj0 (wp_bind h) (fun v4 h => rs_back1 ?_))
    refine rs_icge (tg := 30) wi_351_9 ⟨by decide, by decide⟩ (fun q => ?_) (fun q => ?_)
    ·
      have h := wp_pos h q
      exact h _ l1
    ·
      have h := wp_neg h q
      refine rs_lldn wi_351_12 l1 ?_
      refine rs_pure wi_351_13 rfl ?_
      refine rs_topi (v := 8) (by decide) ?_
      refine rs_pure wi_351_15 rfl ?_
      refine rs_aldn wi_351_16 l0 ?_
      refine rs_ildn wi_351_17 l3 ?_
      refine rs_V wi_351_18 wc_351_388 rfl (dq_isaS hL hj0 was_146) (Nat.le_trans (by decide) hF) (ml_le wm_146 (Nat.le_trans (by decide) hLo)) rfl (sp_146 hL hfm (Nat.le_trans (by decide : 3 ≤ 4 - 1) (Nat.sub_le_sub_right hF 1)) (ml_sub wm_146 (Nat.le_trans (by decide : 64 ≤ 85 - 21) (Nat.sub_le_sub_right hLo 21))) hj0 (wp_bind h) (fun v5 h => rs_back1 ?_))
      refine rs_pure wi_351_21 rfl ?_
      refine rs_pure wi_351_22 rfl ?_
      obtain ⟨v7, e8, h⟩ := wp_lt h
      refine rs_topl e8 ?_
      refine dl_lstn wi_351_23 rfl (fun lv l1 t6 => ?_)
      have l0 := t6 _ _ (by decide) (by decide) (Or.inl rfl) l0
      have l3 := t6 _ _ (by decide) (by decide) (Or.inl rfl) l3
      obtain ⟨v10, e11, h⟩ := wp_lt h
      refine dl_inc wi_351_24 l3 rfl e11 (fun lv l3 t9 => ?_)
      have l0 := t9 _ _ (by decide) (Or.inl rfl) l0
      have l1 := t9 _ _ (by decide) (Or.inr (by decide)) l1
      refine rs_goto (tg := 4) wi_351_27 ⟨by decide, by decide⟩ ?_
      exact h _ l0 l1 l3
  ·
    intro x12 h lv l1
    refine rs_lldn wi_351_30 l1 ?_
    exact rs_lret wi_351_31 wr_351 (hQ x12 h)
theorem t_139 : ta true 139 1 16384 := ⟨rfl, by decide, by decide⟩
theorem t_140 : ta true 140 2 16384 := ⟨rfl, by decide, by decide⟩
theorem t_141 : ta true 141 1 16384 := ⟨rfl, by decide, by decide⟩
theorem tf_133_5 : fo true 133 7 5 (.ref 139) := ⟨_, rfl, rfl, by decide, by decide⟩
theorem tf_133_6 : fo true 133 7 6 (.ref 140) := ⟨_, rfl, rfl, by decide, by decide⟩
theorem tf_133_7 : fo true 133 7 7 (.ref 141) := ⟨_, rfl, rfl, by decide, by decide⟩
theorem wf_225_19 : rx_ft (rt_P sc fm) 225 19 = some (7, 2) := (by decide +kernel : rt_ft 225 19 = some (7, 2))
theorem wf_225_29 : rx_ft (rt_P sc fm) 225 29 = some (7, 5) := (by decide +kernel : rt_ft 225 29 = some (7, 5))
theorem wf_225_32 : rx_ft (rt_P sc fm) 225 32 = some (7, 6) := (by decide +kernel : rt_ft 225 32 = some (7, 6))
theorem wf_225_36 : rx_ft (rt_P sc fm) 225 36 = some (7, 7) := (by decide +kernel : rt_ft 225 36 = some (7, 7))
theorem wi_225_0 : ri (rt_P sc fm) 225 0 (.aload_n 0) (1) := ri_of (by decide +kernel) rfl
theorem wi_225_1 : ri (rt_P sc fm) 225 1 (.getfield 19) (4) := ri_of (by decide +kernel) rfl
theorem wi_225_10 : ri (rt_P sc fm) 225 10 (.getfield 19) (13) := ri_of (by decide +kernel) rfl
theorem wi_225_13 : ri (rt_P sc fm) 225 13 (.iload_n 1) (14) := ri_of (by decide +kernel) rfl
theorem wi_225_14 : ri (rt_P sc fm) 225 14 (.iaload) (15) := ri_of (by decide +kernel) rfl
theorem wi_225_15 : ri (rt_P sc fm) 225 15 (.iconst 4) (16) := ri_of (by decide +kernel) rfl
theorem wi_225_16 : ri (rt_P sc fm) 225 16 (.if_icmp .ge 52) (19) := ri_of (by decide +kernel) rfl
theorem wi_225_19 : ri (rt_P sc fm) 225 19 (.iload_n 1) (20) := ri_of (by decide +kernel) rfl
theorem wi_225_20 : ri (rt_P sc fm) 225 20 (.iconst 4) (21) := ri_of (by decide +kernel) rfl
theorem wi_225_21 : ri (rt_P sc fm) 225 21 (.imul) (22) := ri_of (by decide +kernel) rfl
theorem wi_225_22 : ri (rt_P sc fm) 225 22 (.aload_n 0) (23) := ri_of (by decide +kernel) rfl
theorem wi_225_23 : ri (rt_P sc fm) 225 23 (.getfield 19) (26) := ri_of (by decide +kernel) rfl
theorem wi_225_26 : ri (rt_P sc fm) 225 26 (.iload_n 1) (27) := ri_of (by decide +kernel) rfl
theorem wi_225_27 : ri (rt_P sc fm) 225 27 (.iaload) (28) := ri_of (by decide +kernel) rfl
theorem wi_225_28 : ri (rt_P sc fm) 225 28 (.iadd) (29) := ri_of (by decide +kernel) rfl
theorem wi_225_29 : ri (rt_P sc fm) 225 29 (.istore 7) (31) := ri_of (by decide +kernel) rfl
theorem wi_225_31 : ri (rt_P sc fm) 225 31 (.aload_n 0) (32) := ri_of (by decide +kernel) rfl
theorem wi_225_32 : ri (rt_P sc fm) 225 32 (.getfield 29) (35) := ri_of (by decide +kernel) rfl
theorem wi_225_35 : ri (rt_P sc fm) 225 35 (.iload 7) (37) := ri_of (by decide +kernel) rfl
theorem wi_225_37 : ri (rt_P sc fm) 225 37 (.lload_n 2) (38) := ri_of (by decide +kernel) rfl
theorem wi_225_38 : ri (rt_P sc fm) 225 38 (.lastore) (39) := ri_of (by decide +kernel) rfl
theorem wi_225_39 : ri (rt_P sc fm) 225 39 (.aload_n 0) (40) := ri_of (by decide +kernel) rfl
theorem wi_225_4 : ri (rt_P sc fm) 225 4 (.iload_n 1) (5) := ri_of (by decide +kernel) rfl
theorem wi_225_40 : ri (rt_P sc fm) 225 40 (.getfield 32) (43) := ri_of (by decide +kernel) rfl
theorem wi_225_43 : ri (rt_P sc fm) 225 43 (.iload 7) (45) := ri_of (by decide +kernel) rfl
theorem wi_225_45 : ri (rt_P sc fm) 225 45 (.iload 4) (47) := ri_of (by decide +kernel) rfl
theorem wi_225_47 : ri (rt_P sc fm) 225 47 (.i2b) (48) := ri_of (by decide +kernel) rfl
theorem wi_225_48 : ri (rt_P sc fm) 225 48 (.bastore) (49) := ri_of (by decide +kernel) rfl
theorem wi_225_49 : ri (rt_P sc fm) 225 49 (.aload_n 0) (50) := ri_of (by decide +kernel) rfl
theorem wi_225_5 : ri (rt_P sc fm) 225 5 (.iaload) (6) := ri_of (by decide +kernel) rfl
theorem wi_225_50 : ri (rt_P sc fm) 225 50 (.getfield 36) (53) := ri_of (by decide +kernel) rfl
theorem wi_225_53 : ri (rt_P sc fm) 225 53 (.iload 7) (55) := ri_of (by decide +kernel) rfl
theorem wi_225_55 : ri (rt_P sc fm) 225 55 (.lload 5) (57) := ri_of (by decide +kernel) rfl
theorem wi_225_57 : ri (rt_P sc fm) 225 57 (.lastore) (58) := ri_of (by decide +kernel) rfl
theorem wi_225_58 : ri (rt_P sc fm) 225 58 (.aload_n 0) (59) := ri_of (by decide +kernel) rfl
theorem wi_225_59 : ri (rt_P sc fm) 225 59 (.getfield 19) (62) := ri_of (by decide +kernel) rfl
theorem wi_225_6 : ri (rt_P sc fm) 225 6 (.ifCond .lt 62) (9) := ri_of (by decide +kernel) rfl
theorem wi_225_62 : ri (rt_P sc fm) 225 62 (.iload_n 1) (63) := ri_of (by decide +kernel) rfl
theorem wi_225_63 : ri (rt_P sc fm) 225 63 (.dup2) (64) := ri_of (by decide +kernel) rfl
theorem wi_225_64 : ri (rt_P sc fm) 225 64 (.iaload) (65) := ri_of (by decide +kernel) rfl
theorem wi_225_65 : ri (rt_P sc fm) 225 65 (.iconst 1) (66) := ri_of (by decide +kernel) rfl
theorem wi_225_66 : ri (rt_P sc fm) 225 66 (.iadd) (67) := ri_of (by decide +kernel) rfl
theorem wi_225_67 : ri (rt_P sc fm) 225 67 (.iastore) (68) := ri_of (by decide +kernel) rfl
theorem wi_225_68 : ri (rt_P sc fm) 225 68 (.return_) (69) := ri_of (by decide +kernel) rfl
theorem wi_225_9 : ri (rt_P sc fm) 225 9 (.aload_n 0) (10) := ri_of (by decide +kernel) rfl
theorem wr_225 : rx_rt (rt_P sc fm) 225 = none := (by decide +kernel : rt_rt 225 = none)
/-- MarkHouse$Marks.addPair(IJIJ)V -/
def d_225 (n : Nat) (a1 : Int32) (a2 : Int64) (a4 : Int32) (a5 : Int64) (c : cS) : Option (cS) :=
  if ib a1 4096 then
  jn (fun p2 : cS =>
    some p2)
  (fun j68 =>
  if (c.1 136 (ix a1)) < 0 then
    j68 c
  else
    if ib a1 4096 then
    if 4 ≤ (c.1 136 (ix a1)) then
      j68 c
    else
      if ib a1 4096 then
      lt (((a1 * 4) + (c.1 136 (ix a1))) : Int32) (fun v6 =>
      if ib v6 16384 then
      lt (pL c 139 (ix v6) a2) (fun c9 =>
      if ib v6 16384 then
      lt (pI c9 140 (ix v6) (vp_nar .byte ((a4 : Int32).toInt8.toInt32))) (fun c12 =>
      if ib v6 16384 then
      lt (pL c12 141 (ix v6) a5) (fun c15 =>
      if ib a1 4096 then
      if ib a1 4096 then
      lt (pI c15 136 (ix a1) ((c15.1 136 (ix a1)) + 1)) (fun c19 =>
      j68 c19)
      else none
      else none)
      else none)
      else none)
      else none)
      else none
    else none)
  else none
theorem sp_225 {F Lo n : Nat} {a1 : Int32} {a2 : Int64} {a4 : Int32} {a5 : Int64} {c y : cS} {w : cW} {K : cS → Prop} {Q : ((Option Value) ⊕ String) → List va_E → Prop} (hw : rOK fm w) (hF : 0 ≤ F) (hLo : 0 ≤ Lo)  (h : wp (d_225 n a1 a2 a4 a5 c) K) (hQ : ∀ r, K r → Q (.inl none) (hq true r y w)) : rs (rt_P sc fm) 225 F Lo 0 [(0, .ref 133), (1, .int a1), (2, .long a2), (4, .int a4), (5, .long a5)] [] (hq true c y w) Q := by
  unfold d_225 at h
  obtain ⟨lv, elv⟩ : ∃ lv : rx_L, lv = [(0, .ref 133), (1, .int a1), (2, .long a2), (4, .int a4), (5, .long a5)] := ⟨_, rfl⟩
  rw [← elv]
  have l0 : rx_ld lv 0 = some (.ref 133) := by rw [elv]; rfl
  have l1 : rx_ld lv 1 = some (.int a1) := by rw [elv]; rfl
  have l2 : rx_ld lv 2 = some (.long a2) := by rw [elv]; rfl
  have l4 : rx_ld lv 4 = some (.int a4) := by rw [elv]; rfl
  have l5 : rx_ld lv 5 = some (.long a5) := by rw [elv]; rfl
  refine rs_aldn wi_225_0 l0 ?_
  refine dq_gr wi_225_1 wf_225_19 tf_133_2 ?_
  refine rs_ildn wi_225_4 l1 ?_
  obtain ⟨g1, h⟩ := wp_gd h
  refine dq_iald wi_225_5 t_136 g1 ?_
  refine wp_jn (B := fun p2 : cS => ∀ lv, rs (rt_P sc fm) 225 F Lo 68 lv [] (hq true p2 y w) Q) h (fun p2 h lv => ?_) (fun j68 hj68 h => ?_)
  ·
    exact rs_vret wi_225_68 wr_225 (hQ p2 h)
  refine rs_iflt (tg := 68) wi_225_6 ⟨by decide, by decide⟩ (fun q => ?_) (fun q => ?_)
  ·
    have h := wp_pos h q
    exact hj68 _ h _
  ·
    have h := wp_neg h q
    refine rs_aldn wi_225_9 l0 ?_
    refine dq_gr wi_225_10 wf_225_19 tf_133_2 ?_
    refine rs_ildn wi_225_13 l1 ?_
    obtain ⟨g3, h⟩ := wp_gd h
    refine dq_iald wi_225_14 t_136 g3 ?_
    refine rs_pure wi_225_15 rfl ?_
    refine rs_topi (v := 4) (by decide) ?_
    refine rs_icge (tg := 68) wi_225_16 ⟨by decide, by decide⟩ (fun q => ?_) (fun q => ?_)
    ·
      have h := wp_pos h q
      exact hj68 _ h _
    ·
      have h := wp_neg h q
      refine rs_ildn wi_225_19 l1 ?_
      refine rs_pure wi_225_20 rfl ?_
      refine rs_topi (v := 4) (by decide) ?_
      refine rs_pure wi_225_21 rfl ?_
      refine rs_aldn wi_225_22 l0 ?_
      refine dq_gr wi_225_23 wf_225_19 tf_133_2 ?_
      refine rs_ildn wi_225_26 l1 ?_
      obtain ⟨g4, h⟩ := wp_gd h
      refine dq_iald wi_225_27 t_136 g4 ?_
      refine rs_pure wi_225_28 rfl ?_
      obtain ⟨v6, e7, h⟩ := wp_lt h
      refine rs_topi e7 ?_
      refine dl_ist wi_225_29 rfl (fun lv l7 t5 => ?_)
      have l0 := t5 _ _ (by decide) (Or.inl rfl) l0
      have l1 := t5 _ _ (by decide) (Or.inl rfl) l1
      have l2 := t5 _ _ (by decide) (Or.inr (by decide)) l2
      have l4 := t5 _ _ (by decide) (Or.inl rfl) l4
      have l5 := t5 _ _ (by decide) (Or.inr (by decide)) l5
      refine rs_aldn wi_225_31 l0 ?_
      refine dq_gr wi_225_32 wf_225_29 tf_133_5 ?_
      refine rs_ild wi_225_35 l7 ?_
      refine rs_lldn wi_225_37 l2 ?_
      obtain ⟨g8, h⟩ := wp_gd h
      obtain ⟨c9, e10, h⟩ := wp_lt h
      refine dq_last wi_225_38 t_139 g8 e10 ?_
      refine rs_aldn wi_225_39 l0 ?_
      refine dq_gr wi_225_40 wf_225_32 tf_133_6 ?_
      refine rs_ild wi_225_43 l7 ?_
      refine rs_ild wi_225_45 l4 ?_
      refine rs_pure wi_225_47 rfl ?_
      obtain ⟨g11, h⟩ := wp_gd h
      obtain ⟨c12, e13, h⟩ := wp_lt h
      refine dq_bast wi_225_48 t_140 g11 e13 ?_
      refine rs_aldn wi_225_49 l0 ?_
      refine dq_gr wi_225_50 wf_225_36 tf_133_7 ?_
      refine rs_ild wi_225_53 l7 ?_
      refine rs_lld wi_225_55 l5 ?_
      obtain ⟨g14, h⟩ := wp_gd h
      obtain ⟨c15, e16, h⟩ := wp_lt h
      refine dq_last wi_225_57 t_141 g14 e16 ?_
      refine rs_aldn wi_225_58 l0 ?_
      refine dq_gr wi_225_59 wf_225_19 tf_133_2 ?_
      refine rs_ildn wi_225_62 l1 ?_
      refine rs_pure wi_225_63 rfl ?_
      obtain ⟨g17, h⟩ := wp_gd h
      refine dq_iald wi_225_64 t_136 g17 ?_
      refine rs_pure wi_225_65 rfl ?_
      refine rs_topi (v := 1) (by decide) ?_
      refine rs_pure wi_225_66 rfl ?_
      obtain ⟨g18, h⟩ := wp_gd h
      obtain ⟨c19, e20, h⟩ := wp_lt h
      refine dq_iast wi_225_67 t_136 g18 e20 ?_
      exact hj68 _ h _
end D43
