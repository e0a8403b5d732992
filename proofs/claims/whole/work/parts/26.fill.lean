/-! Arrays.fill -/
theorem i_153_0 {sc : Nat × (Nat → Int32)} {fm : Value} : ri (rt_P sc fm) 153 0 (.iconst 0) (1) := ⟨(by decide +kernel : rt_xt 153 0 = none), (by decide +kernel : rt_cd 153 0 = some (.iconst 0)), rfl⟩
theorem i_153_1 {sc : Nat × (Nat → Int32)} {fm : Value} : ri (rt_P sc fm) 153 1 (.istore_n 2) (2) := ⟨(by decide +kernel : rt_xt 153 1 = none), (by decide +kernel : rt_cd 153 1 = some (.istore_n 2)), rfl⟩
theorem i_153_2 {sc : Nat × (Nat → Int32)} {fm : Value} : ri (rt_P sc fm) 153 2 (.aload_n 0) (3) := ⟨(by decide +kernel : rt_xt 153 2 = none), (by decide +kernel : rt_cd 153 2 = some (.aload_n 0)), rfl⟩
theorem i_153_3 {sc : Nat × (Nat → Int32)} {fm : Value} : ri (rt_P sc fm) 153 3 (.arraylength) (4) := ⟨(by decide +kernel : rt_xt 153 3 = none), (by decide +kernel : rt_cd 153 3 = some (.arraylength)), rfl⟩
theorem i_153_4 {sc : Nat × (Nat → Int32)} {fm : Value} : ri (rt_P sc fm) 153 4 (.istore_n 3) (5) := ⟨(by decide +kernel : rt_xt 153 4 = none), (by decide +kernel : rt_cd 153 4 = some (.istore_n 3)), rfl⟩
theorem i_153_5 {sc : Nat × (Nat → Int32)} {fm : Value} : ri (rt_P sc fm) 153 5 (.iload_n 2) (6) := ⟨(by decide +kernel : rt_xt 153 5 = none), (by decide +kernel : rt_cd 153 5 = some (.iload_n 2)), rfl⟩
theorem i_153_6 {sc : Nat × (Nat → Int32)} {fm : Value} : ri (rt_P sc fm) 153 6 (.iload_n 3) (7) := ⟨(by decide +kernel : rt_xt 153 6 = none), (by decide +kernel : rt_cd 153 6 = some (.iload_n 3)), rfl⟩
theorem i_153_7 {sc : Nat × (Nat → Int32)} {fm : Value} : ri (rt_P sc fm) 153 7 (.if_icmp .ge 13) (10) := ⟨(by decide +kernel : rt_xt 153 7 = none), (by decide +kernel : rt_cd 153 7 = some (.if_icmp .ge 13)), rfl⟩
theorem i_153_10 {sc : Nat × (Nat → Int32)} {fm : Value} : ri (rt_P sc fm) 153 10 (.aload_n 0) (11) := ⟨(by decide +kernel : rt_xt 153 10 = none), (by decide +kernel : rt_cd 153 10 = some (.aload_n 0)), rfl⟩
theorem i_153_11 {sc : Nat × (Nat → Int32)} {fm : Value} : ri (rt_P sc fm) 153 11 (.iload_n 2) (12) := ⟨(by decide +kernel : rt_xt 153 11 = none), (by decide +kernel : rt_cd 153 11 = some (.iload_n 2)), rfl⟩
theorem i_153_12 {sc : Nat × (Nat → Int32)} {fm : Value} : ri (rt_P sc fm) 153 12 (.iload_n 1) (13) := ⟨(by decide +kernel : rt_xt 153 12 = none), (by decide +kernel : rt_cd 153 12 = some (.iload_n 1)), rfl⟩
theorem i_153_13 {sc : Nat × (Nat → Int32)} {fm : Value} : ri (rt_P sc fm) 153 13 (.iastore) (14) := ⟨(by decide +kernel : rt_xt 153 13 = none), (by decide +kernel : rt_cd 153 13 = some (.iastore)), rfl⟩
theorem i_153_14 {sc : Nat × (Nat → Int32)} {fm : Value} : ri (rt_P sc fm) 153 14 (.iinc 2 1) (17) := ⟨(by decide +kernel : rt_xt 153 14 = none), (by decide +kernel : rt_cd 153 14 = some (.iinc 2 1)), rfl⟩
theorem i_153_17 {sc : Nat × (Nat → Int32)} {fm : Value} : ri (rt_P sc fm) 153 17 (.goto (-12)) (20) := ⟨(by decide +kernel : rt_xt 153 17 = none), (by decide +kernel : rt_cd 153 17 = some (.goto (-12))), rfl⟩
theorem i_153_20 {sc : Nat × (Nat → Int32)} {fm : Value} : ri (rt_P sc fm) 153 20 (.return_) (21) := ⟨(by decide +kernel : rt_xt 153 20 = none), (by decide +kernel : rt_cd 153 20 = some (.return_)), rfl⟩
theorem r_153 {sc : Nat × (Nat → Int32)} {fm : Value} : rx_rt (rt_P sc fm) 153 = none := (by decide +kernel : rt_rt 153 = none)
theorem fill_loop {sc : Nat × (Nat → Int32)} {fm : Value} {F Lo cb sb a n : Nat} {v : Int32} {Q : ((Option Value) ⊕ String) → List va_E → Prop} (hn : n < 2 ^ 31) : ∀ (k i : Nat) (f : Nat → Int32) (L : List va_E) (lv : rx_L), i + k = n → L[a]? = some (.inl (0, n, .inl f)) → rx_ld lv 0 = some (.ref a) → rx_ld lv 1 = some (.int v) → rx_ld lv 2 = some (.int (nI i)) → rx_ld lv 3 = some (.int (nI n)) →
    (∀ L1, rz_upd L a (.inl (0, n, .inl (rz_fi f v i n))) L1 → Q (.inl none) L1) → rq (rt_P sc fm) 153 F Lo cb sb 5 lv [] L Q
  | 0, i, f, L, lv, hik, hL, h0, h1, h2, h3, hQ => by
    refine rq_ildn i_153_5 h2 ?_
    refine rq_ildn i_153_6 h3 ?_
    refine rq_icge (tg := 20) i_153_7 ⟨by decide, by decide⟩ (fun _ => ?_) (fun q => absurd (nI_le (by omega) (by omega)) q)
    refine rq_vret i_153_20 r_153 ?_
    refine hQ L ⟨?_, fun _ _ => rfl⟩
    rw [rz_fi_none (by omega)]
    exact hL
  | k + 1, i, f, L, lv, hik, hL, h0, h1, h2, h3, hQ => by
    have hi : i < n := by omega
    refine rq_ildn i_153_5 h2 ?_
    refine rq_ildn i_153_6 h3 ?_
    refine rq_icge (tg := 20) i_153_7 ⟨by decide, by decide⟩ (fun q => absurd q (nI_ge hi hn)) (fun _ => ?_)
    refine rq_aldn i_153_10 h0 ?_
    refine rq_ildn i_153_11 h2 ?_
    refine rq_ildn i_153_12 h1 ?_
    refine rq_iast1 i_153_13 hL (nI_in hi hn) (fun L1 u1 => ?_)
    rw [nI_clamp (by omega)] at u1
    refine rq_inc i_153_14 h2 (by rfl) (nI_one i) ?_
    refine rq_goto (tg := 5) i_153_17 ⟨by decide, by decide⟩ ?_
    refine fill_loop hn k (i + 1) (upd f i v) L1 _ (by omega) u1.1 (rx_ld_ne h0 (by decide) (Or.inl rfl)) (rx_ld_ne h1 (by decide) (Or.inl rfl)) rx_ld_self (rx_ld_ne h3 (by decide) (Or.inl rfl)) (fun L2 u2 => ?_)
    exact hQ L2 (u1.trans u2 (by rw [rz_fi_step hi]))
/-- Arrays.fill(int[], int) -/
theorem fill_spec {sc : Nat × (Nat → Int32)} {fm : Value} {F Lo cb sb a n : Nat} {v : Int32} {f : Nat → Int32} {L : List va_E} {Q : ((Option Value) ⊕ String) → List va_E → Prop} (hn : n < 2 ^ 31) (hL : L[a]? = some (.inl (0, n, .inl f))) (hQ : ∀ L1, rz_upd L a (.inl (0, n, .inl (rz_fi f v 0 n))) L1 → Q (.inl none) L1) : rq (rt_P sc fm) 153 F Lo cb sb 0 [(0, .ref a), (1, .int v)] [] L Q := by
  refine rq_pure i_153_0 rfl ?_
  refine rq_topi (v := 0) (by decide) ?_
  refine rq_loc i_153_1 rfl rfl ?_
  refine rq_loc i_153_2 rfl rfl ?_
  refine rq_alen i_153_3 hL (by decide) ?_
  refine rq_loc i_153_4 rfl rfl ?_
  exact fill_loop hn n 0 f L _ (by omega) hL rfl rfl rfl rfl hQ
