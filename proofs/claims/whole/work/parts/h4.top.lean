/-! THE START, THE WHOLE RUN, THE CLAIM: by wip/whole/mkstart.py -/
theorem js_0 {sc : Nat × (Nat → Int32)} {fm : Value} : ri (rt_P sc fm) 0 0 (.new 8) (3) := ⟨(by decide +kernel : rt_xt 0 0 = none), (by decide +kernel : rt_cd 0 0 = some (.new 8)), rfl⟩
theorem js_3 {sc : Nat × (Nat → Int32)} {fm : Value} : ri (rt_P sc fm) 0 3 (.dup) (4) := ⟨(by decide +kernel : rt_xt 0 3 = none), (by decide +kernel : rt_cd 0 3 = some (.dup)), rfl⟩
theorem js_4 {sc : Nat × (Nat → Int32)} {fm : Value} : ri (rt_P sc fm) 0 4 (.invokespecial 27) (7) := ⟨(by decide +kernel : rt_xt 0 4 = none), (by decide +kernel : rt_cd 0 4 = some (.invokespecial 27)), rfl⟩
theorem js_7 {sc : Nat × (Nat → Int32)} {fm : Value} : ri (rt_P sc fm) 0 7 (.astore_n 1) (8) := ⟨(by decide +kernel : rt_xt 0 7 = none), (by decide +kernel : rt_cd 0 7 = some (.astore_n 1)), rfl⟩
theorem js_8 {sc : Nat × (Nat → Int32)} {fm : Value} : ri (rt_P sc fm) 0 8 (.new 28) (11) := ⟨(by decide +kernel : rt_xt 0 8 = none), (by decide +kernel : rt_cd 0 8 = some (.new 28)), rfl⟩
theorem js_11 {sc : Nat × (Nat → Int32)} {fm : Value} : ri (rt_P sc fm) 0 11 (.dup) (12) := ⟨(by decide +kernel : rt_xt 0 11 = none), (by decide +kernel : rt_cd 0 11 = some (.dup)), rfl⟩
theorem js_12 {sc : Nat × (Nat → Int32)} {fm : Value} : ri (rt_P sc fm) 0 12 (.invokespecial 30) (15) := ⟨(by decide +kernel : rt_xt 0 12 = none), (by decide +kernel : rt_cd 0 12 = some (.invokespecial 30)), rfl⟩
theorem js_15 {sc : Nat × (Nat → Int32)} {fm : Value} : ri (rt_P sc fm) 0 15 (.astore_n 2) (16) := ⟨(by decide +kernel : rt_xt 0 15 = none), (by decide +kernel : rt_cd 0 15 = some (.astore_n 2)), rfl⟩
theorem js_16 {sc : Nat × (Nat → Int32)} {fm : Value} : ri (rt_P sc fm) 0 16 (.iconst 1) (17) := ⟨(by decide +kernel : rt_xt 0 16 = none), (by decide +kernel : rt_cd 0 16 = some (.iconst 1)), rfl⟩
theorem js_17 {sc : Nat × (Nat → Int32)} {fm : Value} : ri (rt_P sc fm) 0 17 (.newarray .long) (19) := ⟨(by decide +kernel : rt_xt 0 17 = none), (by decide +kernel : rt_cd 0 17 = some (.newarray .long)), rfl⟩
theorem js_19 {sc : Nat × (Nat → Int32)} {fm : Value} : ri (rt_P sc fm) 0 19 (.astore_n 3) (20) := ⟨(by decide +kernel : rt_xt 0 19 = none), (by decide +kernel : rt_cd 0 19 = some (.astore_n 3)), rfl⟩
theorem js_20 {sc : Nat × (Nat → Int32)} {fm : Value} : ri (rt_P sc fm) 0 20 (.iconst 0) (21) := ⟨(by decide +kernel : rt_xt 0 20 = none), (by decide +kernel : rt_cd 0 20 = some (.iconst 0)), rfl⟩
theorem js_21 {sc : Nat × (Nat → Int32)} {fm : Value} : ri (rt_P sc fm) 0 21 (.istore 4) (23) := ⟨(by decide +kernel : rt_xt 0 21 = none), (by decide +kernel : rt_cd 0 21 = some (.istore 4)), rfl⟩
theorem ks_27 {sc : Nat × (Nat → Int32)} {fm : Value} : rx_ct (rt_P sc fm) 0 27 = some (2, 55, 0) := (by decide +kernel : rt_ct 0 27 = some (2, 55, 0))
theorem ks_30 {sc : Nat × (Nat → Int32)} {fm : Value} : rx_ct (rt_P sc fm) 0 30 = some (2, 91, 0) := (by decide +kernel : rt_ct 0 30 = some (2, 91, 0))
theorem ns_8 {sc : Nat × (Nat → Int32)} {fm : Value} : rx_nt (rt_P sc fm) 0 8 = some (14, 10, [.null, .null, .null, .null, .null, .null, .null, .null, .null, .null]) := (by decide +kernel : rt_nt 0 8 = some (14, 10, [.null, .null, .null, .null, .null, .null, .null, .null, .null, .null]))
theorem ns_28 {sc : Nat × (Nat → Int32)} {fm : Value} : rx_nt (rt_P sc fm) 0 28 = some (15, 140, [.int 0, .null, .int 0, .null, .int 0, .int 0, .null, .int 0, .null, .null, .null, .int 0, .int 0, .int 0, .int 0, .int 0, .null, .null, .null, .null, .null, .null, .null, .null, .int 0, .null, .null, .null, .null, .null, .null, .null, .null, .null, .int 0, .null, .null, .int 0, .null, .null, .null, .null, .null, .null, .null, .null, .null, .null, .null, .null, .null, .null, .null, .null, .null, .null, .null, .null, .null, .null, .null, .null, .null, .null, .null, .null, .null, .int 0, .long 0, .null, .null, .null, .null, .long 0, .int 0, .null, .int 0, .int 0, .int 0, .long 0, .int 0, .int 0, .int 0, .null, .null, .null, .null, .null, .null, .null, .int 0, .int 0, .null, .null, .null, .null, .null, .int 0, .null, .null, .null, .int 0, .int 0, .null, .int 0, .int 0, .int 0, .null, .null, .null, .int 0, .int 0, .int 0, .int 0, .null, .null, .null, .null, .null, .null, .null, .int 0, .null, .int 0, .int 0, .int 0, .int 0, .int 0, .int 0, .int 0, .int 0, .int 0, .int 0, .int 0, .int 0, .null, .null, .null, .null, .null]) := (by decide +kernel : rt_nt 0 28 = some (15, 140, [.int 0, .null, .int 0, .null, .int 0, .int 0, .null, .int 0, .null, .null, .null, .int 0, .int 0, .int 0, .int 0, .int 0, .null, .null, .null, .null, .null, .null, .null, .null, .int 0, .null, .null, .null, .null, .null, .null, .null, .null, .null, .int 0, .null, .null, .int 0, .null, .null, .null, .null, .null, .null, .null, .null, .null, .null, .null, .null, .null, .null, .null, .null, .null, .null, .null, .null, .null, .null, .null, .null, .null, .null, .null, .null, .null, .int 0, .long 0, .null, .null, .null, .null, .long 0, .int 0, .null, .int 0, .int 0, .int 0, .long 0, .int 0, .int 0, .int 0, .null, .null, .null, .null, .null, .null, .null, .int 0, .int 0, .null, .null, .null, .null, .null, .int 0, .null, .null, .null, .int 0, .int 0, .null, .int 0, .int 0, .int 0, .null, .null, .null, .int 0, .int 0, .int 0, .int 0, .null, .null, .null, .null, .null, .null, .null, .int 0, .null, .int 0, .int 0, .int 0, .int 0, .int 0, .int 0, .int 0, .int 0, .int 0, .int 0, .int 0, .int 0, .null, .null, .null, .null, .null]))
section TOPS
variable {L : List va_E} {a k n : Nat} {fm : Value}
theorem zkI_ok {g : Nat → Int32} (h : zkI L a n g = true) : ∀ j, j < n → exI L a j = g j := fun j hj => of_decide_eq_true ((List.all_eq_true.mp h) j (List.mem_range.mpr hj))
theorem zkL_ok {g : Nat → Int64} (h : zkL L a n g = true) : ∀ j, j < n → exL L a j = g j := fun j hj => of_decide_eq_true ((List.all_eq_true.mp h) j (List.mem_range.mpr hj))
theorem zkR_ok {g : Nat → Option Nat} (h : zkR L a n g = true) : ∀ j, j < n → exR L a j = g j := fun j hj => of_decide_eq_true ((List.all_eq_true.mp h) j (List.mem_range.mpr hj))
def stS (L : List va_E) : cS := (exI L, exL L)
def stW (L : List va_E) : cW := (stS L, exR L)
/-- a field of an object, by the shape -/
def fdT (a k : Nat) : Option Int32 := match rz_T0[a]? with
  | some (.inl (_, fs)) => (match fs[k]? with
    | some (.int v) => some v
    | _ => none)
  | _ => none
theorem fdT_ok {v : Int32} (hL : rz_heap L rz_T0 = true) (h : fdT a k = some v) : (stS L).1 a k = v := by
  unfold fdT at h
  cases e : rz_T0[a]? with
  | none =>
    rw [e] at h
    cases h
  | some x =>
    rw [e] at h
    rcases x with ⟨ci, fs⟩ | ⟨t, m⟩
    · have hc := rz_obj hL e
      dsimp only at h
      show exI L a k = v
      unfold exI
      rw [hc]
      dsimp only
      cases e2 : fs[k]? with
      | none =>
        rw [e2] at h
        cases h
      | some y =>
        rw [e2] at h
        cases y with
        | int z =>
          cases h
          rfl
        | _ => cases h
    · cases h
theorem cfs_id : ∀ (fs gs : List Value) (j : Nat), (∀ k v, fs[k]? = some (.int v) → exI L a (j + k) = v) → (∀ k v, fs[k]? = some (.long v) → exL L a (j + k) = v) → cfs (exI L a) (exL L a) j fs = fs
  | [], _, _, _, _ => rfl
  | x :: r, gs, j, h1, h2 => by
    have e1 : cfl (exI L a) (exL L a) j x = x := by
      cases x with
      | int v =>
        show Value.int (exI L a j) = Value.int v
        exact congrArg Value.int (h1 0 v rfl)
      | long v =>
        show Value.long (exL L a j) = Value.long v
        exact congrArg Value.long (h2 0 v rfl)
      | _ => rfl
    show cfl (exI L a) (exL L a) j x :: cfs (exI L a) (exL L a) (j + 1) r = x :: r
    rw [e1, cfs_id r gs (j + 1) (fun k v hk => by
      have := h1 (k + 1) v hk
      rw [show j + 1 + k = j + (k + 1) by omega]
      exact this) (fun k v hk => by
      have := h2 (k + 1) v hk
      rw [show j + 1 + k = j + (k + 1) by omega]
      exact this)]
/-- the heap behind the constructors is one of the states -/
theorem hq_of (hL : rz_heap L rz_T0 = true) : L = hq true (stS L) (stS L) (stW L) := by
  apply List.ext_getElem?
  intro b
  unfold hq
  rw [hqs_at, Nat.zero_add]
  have hpk : pk true (stS L) (stS L) (stW L) b = stS L := by
    unfold pk
    by_cases h1 : b < 266
    · rw [if_pos h1]
      split <;> rfl
    · rw [if_neg h1]
      rfl
  rw [hpk]
  cases e : rz_T0[b]? with
  | none =>
    have hl := List.getElem?_eq_none_iff.mp e
    rw [← rz_heap_len hL] at hl
    rw [List.getElem?_eq_none hl]
    rfl
  | some x =>
    show L[b]? = some (cel (exI L b) (exL L b) (exR L b) x)
    rcases x with ⟨ci, fs⟩ | ⟨t, m⟩
    · have hc := rz_obj hL e
      rw [hc]
      show some (Sum.inr (ci, fs)) = some (Sum.inr (ci, cfs (exI L b) (exL L b) 0 fs))
      rw [cfs_id fs [] 0 (fun k v hk => by
        rw [Nat.zero_add]
        unfold exI
        rw [hc]
        dsimp only
        rw [hk]) (fun k v hk => by
        rw [Nat.zero_add]
        unfold exL
        rw [hc]
        dsimp only
        rw [hk])]
    · obtain ⟨y, h1, h2⟩ := rz_heap_at hL e
      have eI : ∀ {p q : Nat} {f : Nat → Int32}, L[b]? = some (.inl (p, q, .inl f)) → exI L b = f := fun {p q f} z => by
        funext k
        unfold exI
        rw [z]
      have eL : ∀ {p q : Nat} {f : Nat → Int64}, L[b]? = some (.inl (p, q, .inr (.inl f))) → exL L b = f := fun {p q f} z => by
        funext k
        unfold exL
        rw [z]
      have eR : ∀ {p q : Nat} {f : Nat → Option Nat}, L[b]? = some (.inl (p, q, .inr (.inr (.inr (.inr f))))) → exR L b = f := fun {p q f} z => by
        funext k
        unfold exR
        rw [z]
      rcases y with ⟨t', n', f | f | f | f | f⟩ | ⟨cj, gs⟩
      · simp only [rz_cell, Bool.and_eq_true, Bool.or_eq_true] at h2
        have e1 := Nat.eq_of_beq_eq_true h2.1
        have e2 := Nat.eq_of_beq_eq_true h2.2.1
        subst e1 e2
        rw [h1, eI h1]
        rcases h2.2.2 with q | q | q
        · rw [Nat.eq_of_beq_eq_true q]
          rfl
        · rw [Nat.eq_of_beq_eq_true q]
          rfl
        · rw [Nat.eq_of_beq_eq_true q]
          rfl
      · simp only [rz_cell, Bool.and_eq_true] at h2
        have e1 := Nat.eq_of_beq_eq_true h2.1
        have e2 := Nat.eq_of_beq_eq_true h2.2.1
        subst e1 e2
        rw [h1, eL h1, Nat.eq_of_beq_eq_true h2.2.2]
        rfl
      · cases h2
      · cases h2
      · simp only [rz_cell, Bool.and_eq_true] at h2
        have e1 := Nat.eq_of_beq_eq_true h2.1
        have e2 := Nat.eq_of_beq_eq_true h2.2.1
        have e3 := Nat.le_of_ble_eq_true h2.2.2.1
        have e4 := Nat.le_of_ble_eq_true (show Nat.ble (t + 1) 7 = true from h2.2.2.2)
        subst e1 e2
        rw [h1, eR h1]
        have : t = 4 ∨ t = 5 ∨ t = 6 := by omega
        rcases this with rfl | rfl | rfl
        · rfl
        · rfl
        · rfl
      · cases h2
theorem wt_all : ∀ w : Fin 31, sg (pkN (2 + w.1) (sB (2 + w.1)).length) = wb (2 + w.1) := by decide +kernel
/-- the first state -/
theorem INV_st (hL : rz_heap L rz_T0 = true) (hZ : zkA L = true) (hfm : fm = .null ∨ fm = .ref rx_Fm) : INV 0 (stS L) (stS L) ∧ rOK fm (stW L) := by
  unfold zkA at hZ
  simp only [Bool.and_eq_true] at hZ
  obtain ⟨z1, z2, z3, z4, z5, z6, z7⟩ := hZ
  have f : ∀ {a k : Nat} {v : Int32}, fdT a k = some v → (stS L).1 a k = v := fun {a k v} h => fdT_ok hL h
  have hWV : WV (stS L) := fun w hw => zkL_ok z4 w hw
  have h162 : ∀ j, j < 12 → (stS L).1 162 j = if 7 ≤ j ∧ j < 10 then nM else nI 0 := fun j hj => zkI_ok z1 j hj
  have t11 : (stS L).1 1 1 = nI 0 := f (by decide +kernel)
  have t14 : (stS L).1 174 14 = nI 0 := f (by decide +kernel)
  refine ⟨⟨by omega, ⟨⟨0, by omega, t11, f (by decide +kernel), fun i hi => absurd hi (Nat.not_lt_zero _)⟩, ⟨0, by omega, f (by decide +kernel), f (by decide +kernel), fun i hi => absurd hi (Nat.not_lt_zero _)⟩, ⟨(f (v := nI 0) (by decide +kernel)).trans (f (v := nI 0) (by decide +kernel)).symm, (f (v := nI 0) (by decide +kernel)).trans (f (v := nI 0) (by decide +kernel)).symm⟩, ⟨fun i hi => (zkI_ok z2 i hi).trans (zkI_ok z3 i hi).symm, 0, by omega, f (by decide +kernel), f (by decide +kernel), fun i hi => absurd hi (Nat.not_lt_zero _)⟩, fun i hi => ?_, hWV, ⟨0, by omega, f (by decide +kernel)⟩, Or.inl ⟨f (by decide +kernel), f (by decide +kernel), f (by decide +kernel), Or.inl t14⟩, ?_⟩, Or.inl ⟨f (by decide +kernel), t14, f (by decide +kernel), f (by decide +kernel), f (by decide +kernel), ⟨?_, f (by decide +kernel), fun j g1 g2 => h162 j g2⟩⟩⟩, fun i hi => zkR_ok z5 i hi, fun i hi => zkR_ok z6 i hi, fun i hi => zkR_ok z7 i hi, hfm⟩
  · rw [hWV i hi]
    exact wt_all ⟨i, hi⟩
  · rw [t11, ix_n (by omega)]
    omega
  · rw [h162 0 (by omega), if_neg (by omega)]
end TOPS
set_option maxRecDepth 8000 in
theorem wh_first {fm : Value} (hall : rz_all fm = true) (hfm : fm = .null ∨ fm = .ref rx_Fm) {n : Nat} (hn : n ≤ 3072) (xs : Nat → Int32) : rq (rt_P (n, xs) fm) 0 2048 84000 601024 7293034 0 [(0, .ref rx_S)] [] [] lpQ := by
  unfold rz_all at hall
  obtain ⟨L1, c1, n1, r1, hall⟩ := rz_void_ok hall
  simp only [Bool.and_eq_true] at hall
  obtain ⟨b1, l1, hall⟩ := hall
  obtain ⟨L2, c2, n2, r2, hall⟩ := rz_void_ok hall
  simp only [Bool.and_eq_true] at hall
  obtain ⟨b2, l2, hL, hZ⟩ := hall
  have l1 := Nat.eq_of_beq_eq_true l1
  have l2 := Nat.eq_of_beq_eq_true l2
  obtain ⟨hI, hw⟩ := INV_st hL hZ hfm
  refine rq_mono (cb := 1 + (200 + (1 + (100 + (1 + 3000))))) (sb := 10 + (140000 + (140 + (700000 + (1 + 20000))))) ?_ (by decide) (by decide) (fun _ _ q => q)
  refine rq_new (a := 0) js_0 ns_8 rfl (by decide) ?_
  refine rq_pure js_3 rfl ?_
  refine rq_I1 (c1 := 200) (s1 := 140000) (F' := 2047) (Lo' := 83980) js_4 ks_27 rfl rfl rfl rfl ?_
  refine rq_of_run (rn_run rt_Pn_le _ _ _ _ _ _ _ _ _ r1) (rz_bound_ok b1) ?_
  refine rq_back0 ?_
  refine rq_loc js_7 rfl rfl ?_
  refine rq_new (a := 174) js_8 ns_28 l1 (by decide) ?_
  refine rq_pure js_11 rfl ?_
  refine rq_I1 (c1 := 100) (s1 := 700000) (F' := 2047) (Lo' := 83980) js_12 ks_30 rfl rfl rfl rfl ?_
  refine rq_of_run (rn_run rt_Pn_le _ _ _ _ _ _ _ _ _ r2) (rz_bound_ok b2) ?_
  refine rq_back0 ?_
  refine rq_loc js_15 rfl rfl ?_
  refine rq_pure js_16 rfl ?_
  refine rq_topi (v := 1) (by decide) ?_
  refine rq_newl (a := 266) (k := 1) js_17 (by decide) (by decide) (by decide) l2 (by decide) ?_
  refine rq_loc js_19 rfl rfl ?_
  refine rq_pure js_20 rfl ?_
  refine rq_topi (v := 0) (by decide) ?_
  refine rq_loc (lv' := [(4, .int 0), (3, .ref 266), (2, .ref 174), (1, .ref 0), (0, .ref rx_S)]) js_21 rfl rfl ?_
  have eL : L2 ++ [rz_o0] = hq true (stS (L2 ++ [rz_o0])) (stS (L2 ++ [rz_o0])) (stW (L2 ++ [rz_o0])) := hq_of hL
  have h23 := lp_go (xs := xs) hn 512 0 3000 20000 (stS (L2 ++ [rz_o0])) (stS (L2 ++ [rz_o0])) (stW (L2 ++ [rz_o0])) [(4, .int 0), (3, .ref 266), (2, .ref 174), (1, .ref 0), (0, .ref rx_S)] (by omega) (by decide) (by decide) hI hw ⟨rfl, rfl, rfl, rfl, rfl⟩
  rw [← eL] at h23
  exact h23
theorem wh_runs : rz_Runs := by
  intro fm L xs hfm hL
  have hall : rz_all fm = true := by
    rcases hfm with rfl | rfl
    · exact rz_allN
    · exact rz_allF
  obtain ⟨o, L2, c, n, ⟨f, hf⟩, h2, h3, rfl⟩ := wh_first hall hfm hL xs
  exact ⟨f, L2, c, n, hf, h2, h3⟩
theorem i_vc : Claimed_1_1 ∧ Claimed_1_2 := rz_claim wh_runs
