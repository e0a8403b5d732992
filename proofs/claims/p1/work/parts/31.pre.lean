/-! THE FIRST CALLS: by wip/whole/sx.py -/
def rz_T0 : List (Sum (Nat × List Value) (Nat × Nat)) := [.inl (14, [.ref 1, .ref 7, .ref 114, .ref 133, .ref 145, .ref 146, .ref 150, .ref 159, .ref 167, .ref 172]), .inl (3, [.ref 2, .int 0, .ref 3, .ref 4, .ref 5, .ref 6, .int 0, .int 0]), .inr (2, 4000), .inr (0, 4001), .inr (0, 4001), .inr (1, 4001), .inr (1, 31), .inl (9, [.int 0, .ref 8, .int 0, .ref 9, .int 0, .ref 10, .ref 11, .int 0, .ref 12, .ref 13, .int 0, .ref 14, .ref 15, .ref 16, .ref 17]), .inr (4, 4), .inr (5, 12), .inr (1, 6), .inr (0, 6), .inr (1, 12), .inr (0, 12), .inr (0, 12), .inr (1, 96), .inr (0, 96), .inr (0, 12), .inl (8, [.long 0, .int 0, .int 0, .int 0, .ref 19, .ref 20, .ref 21, .ref 22, .ref 23]), .inr (1, 12), .inr (0, 12), .inr (0, 12), .inr (0, 144), .inr (0, 144), .inl (8, [.long 0, .int 0, .int 0, .int 0, .ref 25, .ref 26, .ref 27, .ref 28, .ref 29]), .inr (1, 12), .inr (0, 12), .inr (0, 12), .inr (0, 144), .inr (0, 144), .inl (8, [.long 0, .int 0, .int 0, .int 0, .ref 31, .ref 32, .ref 33, .ref 34, .ref 35]), .inr (1, 12), .inr (0, 12), .inr (0, 12), .inr (0, 144), .inr (0, 144), .inl (8, [.long 0, .int 0, .int 0, .int 0, .ref 37, .ref 38, .ref 39, .ref 40, .ref 41]), .inr (1, 12), .inr (0, 12), .inr (0, 12), .inr (0, 144), .inr (0, 144), .inl (6, [.long 0, .int 0, .ref 43, .ref 44, .ref 45, .ref 46, .int 0, .int 0, .int 0, .ref 47]), .inr (1, 4), .inr (0, 4), .inr (3, 4), .inr (1, 4), .inr (0, 16), .inl (6, [.long 0, .int 0, .ref 49, .ref 50, .ref 51, .ref 52, .int 0, .int 0, .int 0, .ref 53]), .inr (1, 4), .inr (0, 4), .inr (3, 4), .inr (1, 4), .inr (0, 16), .inl (6, [.long 0, .int 0, .ref 55, .ref 56, .ref 57, .ref 58, .int 0, .int 0, .int 0, .ref 59]), .inr (1, 4), .inr (0, 4), .inr (3, 4), .inr (1, 4), .inr (0, 16), .inl (6, [.long 0, .int 0, .ref 61, .ref 62, .ref 63, .ref 64, .int 0, .int 0, .int 0, .ref 65]), .inr (1, 4), .inr (0, 4), .inr (3, 4), .inr (1, 4), .inr (0, 16), .inl (6, [.long 0, .int 0, .ref 67, .ref 68, .ref 69, .ref 70, .int 0, .int 0, .int 0, .ref 71]), .inr (1, 4), .inr (0, 4), .inr (3, 4), .inr (1, 4), .inr (0, 16), .inl (6, [.long 0, .int 0, .ref 73, .ref 74, .ref 75, .ref 76, .int 0, .int 0, .int 0, .ref 77]), .inr (1, 4), .inr (0, 4), .inr (3, 4), .inr (1, 4), .inr (0, 16), .inl (6, [.long 0, .int 0, .ref 79, .ref 80, .ref 81, .ref 82, .int 0, .int 0, .int 0, .ref 83]), .inr (1, 4), .inr (0, 4), .inr (3, 4), .inr (1, 4), .inr (0, 16), .inl (6, [.long 0, .int 0, .ref 85, .ref 86, .ref 87, .ref 88, .int 0, .int 0, .int 0, .ref 89]), .inr (1, 4), .inr (0, 4), .inr (3, 4), .inr (1, 4), .inr (0, 16), .inl (6, [.long 0, .int 0, .ref 91, .ref 92, .ref 93, .ref 94, .int 0, .int 0, .int 0, .ref 95]), .inr (1, 4), .inr (0, 4), .inr (3, 4), .inr (1, 4), .inr (0, 16), .inl (6, [.long 0, .int 0, .ref 97, .ref 98, .ref 99, .ref 100, .int 0, .int 0, .int 0, .ref 101]), .inr (1, 4), .inr (0, 4), .inr (3, 4), .inr (1, 4), .inr (0, 16), .inl (6, [.long 0, .int 0, .ref 103, .ref 104, .ref 105, .ref 106, .int 0, .int 0, .int 0, .ref 107]), .inr (1, 4), .inr (0, 4), .inr (3, 4), .inr (1, 4), .inr (0, 16), .inl (6, [.long 0, .int 0, .ref 109, .ref 110, .ref 111, .ref 112, .int 0, .int 0, .int 0, .ref 113]), .inr (1, 4), .inr (0, 4), .inr (3, 4), .inr (1, 4), .inr (0, 16), .inl (2, [.ref 7, .ref 115, .ref 116, .ref 117, .ref 118, .ref 119, .ref 120, .int 0, .ref 121, .ref 122, .ref 123, .ref 124, .ref 125, .ref 126, .ref 127, .ref 128, .ref 129, .ref 130, .ref 131, .ref 132]), .inr (1, 96), .inr (0, 96), .inr (0, 96), .inr (1, 768), .inr (0, 96), .inr (0, 96), .inr (0, 1024), .inr (0, 1024), .inr (0, 1024), .inr (0, 1024), .inr (0, 1024), .inr (0, 1024), .inr (1, 1024), .inr (1, 1024), .inr (1, 1024), .inr (0, 1024), .inr (0, 1024), .inr (0, 1024), .inl (7, [.ref 134, .ref 135, .ref 136, .ref 137, .ref 138, .ref 139, .ref 140, .ref 141, .ref 142, .ref 143, .ref 144, .int 0, .int (-1), .int 0]), .inr (1, 4096), .inr (0, 4096), .inr (0, 4096), .inr (3, 4096), .inr (0, 4096), .inr (1, 16384), .inr (2, 16384), .inr (1, 16384), .inr (0, 2242), .inr (0, 2242), .inr (0, 2242), .inl (10, [.ref 1, .ref 7, .ref 114, .ref 133, .int 0, .int 0, .int 0, .int 0, .int 0, .int 0, .int 0, .int 0]), .inl (4, [.ref 7, .ref 114, .ref 133, .int 0, .int 0, .int 0, .ref 147, .ref 148, .int 0, .ref 149]), .inr (0, 4800), .inr (0, 4800), .inr (0, 6), .inl (5, [.ref 7, .ref 114, .ref 146, .int (-1), .ref 151, .ref 152, .int 0, .ref 153, .ref 154, .ref 155, .ref 156, .ref 157, .int 0, .int 0, .int 0, .ref 158, .int 0]), .inr (1, 1024), .inr (0, 2048), .inr (0, 400), .inr (1, 400), .inr (0, 400), .inr (0, 400), .inr (0, 40), .inr (0, 400), .inl (11, [.ref 7, .ref 114, .ref 146, .ref 160, .ref 161, .int 0, .ref 162, .ref 163, .ref 164, .ref 165, .int 0, .ref 166, .int 0, .long 0, .long 0]), .inr (0, 4), .inr (0, 64), .inr (0, 12), .inr (0, 12), .inr (0, 12), .inr (1, 192), .inr (1, 96), .inl (13, [.ref 7, .ref 133, .ref 146, .ref 168, .ref 169, .ref 170, .ref 171, .int 0, .int (-1), .int (-1)]), .inr (3, 12), .inr (1, 12), .inr (0, 12), .inr (0, 12), .inl (12, [.ref 173, .int 0, .ref 6, .ref 7, .ref 114, .ref 133, .ref 146]), .inr (2, 8000), .inl (15, [.int 0, .ref 175, .int 0, .ref 176, .int 0, .int 0, .ref 177, .int 0, .ref 178, .ref 179, .ref 180, .int 0, .int 0, .int 0, .int 0, .int 0, .ref 181, .ref 182, .ref 183, .ref 184, .ref 185, .ref 186, .ref 187, .ref 188, .int 0, .ref 189, .ref 190, .ref 191, .ref 192, .ref 193, .ref 194, .ref 195, .ref 196, .ref 197, .int 0, .ref 198, .ref 199, .int 0, .ref 200, .ref 201, .ref 202, .ref 203, .ref 204, .ref 205, .ref 206, .ref 207, .ref 208, .ref 209, .ref 210, .ref 211, .ref 212, .ref 213, .ref 214, .ref 215, .ref 216, .ref 217, .ref 218, .ref 219, .ref 220, .ref 221, .ref 222, .ref 223, .ref 224, .ref 225, .ref 226, .ref 227, .ref 228, .int 0, .long 0, .ref 229, .ref 230, .ref 231, .ref 232, .long 0, .int 0, .ref 233, .int 0, .int 0, .int 0, .long 0, .int 0, .int 0, .int 0, .ref 234, .ref 235, .ref 236, .ref 237, .ref 238, .ref 239, .ref 240, .int 0, .int 0, .ref 241, .ref 242, .ref 243, .ref 244, .ref 245, .int (-1), .ref 246, .ref 247, .ref 248, .int 0, .int 0, .ref 249, .int 0, .int 0, .int 0, .ref 250, .ref 251, .ref 252, .int 0, .int 0, .int 0, .int 0, .ref 253, .ref 254, .ref 255, .ref 256, .ref 257, .ref 258, .ref 259, .int 0, .ref 260, .int 0, .int 0, .int 0, .int 0, .int 0, .int 0, .int 0, .int 0, .int 0, .int 0, .int 0, .int 0, .ref 261, .ref 262, .ref 263, .ref 264, .ref 265]), .inr (0, 4000), .inr (0, 8000), .inr (6, 31), .inr (0, 4001), .inr (0, 4001), .inr (1, 4001), .inr (1, 4), .inr (0, 4), .inr (1, 48), .inr (3, 576), .inr (0, 576), .inr (0, 576), .inr (0, 4), .inr (0, 4), .inr (1, 12), .inr (0, 12), .inr (1, 48), .inr (3, 48), .inr (3, 48), .inr (1, 48), .inr (0, 12), .inr (3, 12), .inr (3, 12), .inr (1, 6), .inr (0, 6), .inr (1, 12), .inr (0, 12), .inr (0, 12), .inr (0, 12), .inr (1, 96), .inr (0, 96), .inr (1, 96), .inr (0, 96), .inr (0, 96), .inr (1, 768), .inr (0, 96), .inr (0, 3840), .inr (1, 3840), .inr (0, 3840), .inr (0, 3840), .inr (0, 3840), .inr (0, 3840), .inr (0, 3840), .inr (0, 3840), .inr (0, 3840), .inr (0, 15360), .inr (0, 15360), .inr (0, 1219), .inr (1, 24380), .inr (3, 24380), .inr (0, 24380), .inr (1, 97520), .inr (0, 97520), .inr (1, 97520), .inr (0, 3840), .inr (0, 3840), .inr (3, 40), .inr (0, 12), .inr (0, 20), .inr (3, 72), .inr (0, 4800), .inr (0, 1200), .inr (3, 1200), .inr (0, 61440), .inr (3, 3840), .inr (0, 16), .inr (0, 15360), .inr (0, 15360), .inr (0, 15360), .inr (0, 15360), .inr (0, 15360), .inr (0, 400), .inr (0, 400), .inr (0, 6400), .inr (0, 400), .inr (0, 61440), .inr (0, 4), .inr (0, 64), .inr (0, 12), .inr (0, 12), .inr (0, 12), .inr (0, 192), .inr (0, 768), .inr (0, 96), .inr (0, 384), .inr (0, 4), .inr (0, 12), .inr (3, 12), .inr (3, 12), .inr (3, 12), .inr (1, 12), .inr (1, 1)]
def p1_Q : ((Option Value) ⊕ String) → List va_E → Prop := fun o _ => o = .inl (some (.int 1))
def p1_lv : rx_L := [(4, .int 0), (3, .ref 266), (2, .ref 174), (1, .ref 0), (0, .ref rx_S)]
theorem p1_none {L : List va_E} (h : rz_heap L rz_T0 = true) : L[rx_S]? = none := List.getElem?_eq_none (by rw [rz_heap_len h]; exact Nat.le_of_ble_eq_true (by decide +kernel))
def rz_val (L : List va_E) (a n : Nat) (vs : List Int32) : Bool := match L[a]? with
  | some (.inl (t, m, .inl f)) => Nat.beq t 0 && (Nat.beq m n && (List.range n).all (fun j => decide (f j = vs.getD j 0)))
  | _ => false
theorem rz_vals {L : List va_E} {a n : Nat} {vs : List Int32} (h : rz_val L a n vs = true) : ∃ f : Nat → Int32, L[a]? = some (.inl (0, n, .inl f)) ∧ ∀ j, j < n → f j = vs.getD j 0 := by
  unfold rz_val at h
  split at h
  · rename_i t m f hL
    simp only [Bool.and_eq_true] at h
    rw [Nat.eq_of_beq_eq_true h.1, Nat.eq_of_beq_eq_true h.2.1] at hL
    exact ⟨f, hL, fun j hj => of_decide_eq_true (List.all_eq_true.mp h.2.2 j (List.mem_range.mpr hj))⟩
  · cases h
theorem rz_out {x m : Int32} {n : Nat} (h0 : ¬ x < 0) (h1 : x < m) (hm : m.toInt = n) (h : ∀ k : Int, 0 ≤ k → k < n → x ≠ Int32.ofInt k) : False := by
  have h0' : ¬ x.toInt < 0 := fun e => h0 (Int32.lt_iff_toInt_lt.mpr (by simpa using e))
  have h1' := Int32.lt_iff_toInt_lt.mp h1
  exact h x.toInt (by omega) (by omega) (Int32.ofInt_toInt x).symm
theorem rz_sub {x : Int32} {c : Int32} (h : ¬ x < c) (hc : 0 ≤ c.toInt) : 0 ≤ x - c := by
  have h1 := Int32.not_lt.mp h
  have h2 := Int32.le_iff_toInt_le.mp h1
  refine Int32.le_iff_toInt_le.mpr ?_
  rw [Int32.toInt_sub]
  have h3 := Int32.toInt_lt x
  rw [show (0 : Int32).toInt = 0 from by decide, Int.bmod_eq_of_le (by omega) (by omega)]
  omega
theorem rx_ld_s1 {lv : rx_L} {i j : Nat} {v w : Value} (hij : i ≠ j) (hw : w.category = 1) (h : rx_ld lv j = some w) (hm : i ≠ j + 1 ∨ w.category = 1) : rx_ld (rx_s1 lv i v) j = some w := by
  unfold rx_s1
  show (if i = j then some v else rx_ld _ j) = some w
  rw [if_neg hij]
  induction lv with
  | nil => cases h
  | cons q r ih =>
    unfold rx_ld at h
    rw [List.filter_cons]
    split at h
    · rename_i e
      cases h
      have hb : (!(q.1 == i) && !(q.1 + 1 == i && q.2.category == 2)) = true := by
        rw [hw]
        simp [e, Ne.symm hij]
      rw [if_pos hb]
      unfold rx_ld
      rw [if_pos e]
    · rename_i e
      split
      · unfold rx_ld
        rw [if_neg e]
        exact ih h
      · exact ih h
theorem p1_end {n : Nat} {xs : Nat → Int32} {fm : Value} {L : List va_E} {lv : rx_L} {cb sb : Nat} {i : Int32} (hS : L[rx_S]? = none) (h4 : rx_ld lv 4 = some (.int i)) (h0 : rx_ld lv 0 = some (.ref rx_S)) (hi : Int32.ofNat n - 6 < i) : rq (rt_P (n, xs) fm) 0 2048 84000 cb sb 23 lv [] L p1_Q := by
  refine rq_loc (lv' := lv) (st' := [.int i]) i_0_23 rfl (by unfold rx_loc; simp only [h4]) ?_
  refine rq_loc (lv' := lv) (st' := [.ref rx_S, .int i]) i_0_25 rfl (by unfold rx_loc; simp only [show ((0 : Fin 4) : Nat) = 0 from rfl, h0]) ?_
  refine rq_slen i_0_26 hS rfl ?_
  refine rq_pure i_0_27 rfl ?_
  refine rq_topi (v := 6) (by decide) ?_
  refine rq_pure i_0_29 rfl ?_
  refine rq_icgt (tg := 1340) i_0_30 ⟨by decide, by decide⟩ (fun _ => ?_) (fun q => absurd hi q)
  refine rq_pure i_0_1340 rfl ?_
  refine rq_topi (v := 1) (by decide) ?_
  refine rq_iret i_0_1341 r_0 rfl rfl
theorem p1_tail {xs : Nat → Int32} {fm : Value} {L : List va_E} {lv : rx_L} {cb sb : Nat} (hS : L[rx_S]? = none) (h4 : rx_ld lv 4 = some (.int 0)) (h0 : rx_ld lv 0 = some (.ref rx_S)) : rq (rt_P (6, xs) fm) 0 2048 84000 cb sb 1334 lv [] L p1_Q := by
  refine rq_loc (lv' := rx_s1 lv 4 (.int (0 + Int32.ofInt 6))) (st' := []) i_0_1334 rfl ?_ ?_
  · unfold rx_loc
    simp only [h4]
    exact if_pos (Nat.le_of_ble_eq_true (n := 5) rfl)
  refine rq_goto (tg := 23) i_0_1337 ⟨by decide, by decide⟩ ?_
  exact p1_end (n := 6) (i := 0 + Int32.ofInt 6) hS rfl (rx_ld_s1 (by decide) rfl h0 (Or.inr rfl)) (by decide)
theorem rp_loop {sc : Nat × (Nat → Int32)} {fm : Value} {F Lo cb sb a n : Nat} {fs : List Value} {Q : ((Option Value) ⊕ String) → List va_E → Prop} (hn : n < 2 ^ 31) (hn2 : 1218 ≤ n) (hfs : fs[60]? = some (.ref a)) : ∀ (k i : Nat) (f : Nat → Int32) (L : List va_E) (lv : rx_L), i + k = 1218 → L[174]? = some (.inr (15, fs)) → L[a]? = some (.inl (0, n, .inl f)) → rx_ld lv 0 = some (.ref 174) → rx_ld lv 1 = some (.int (nI i)) →
    (∀ L1 lv1, rz_upd L a (.inl (0, n, .inl (rz_fi f 0 i 1218))) L1 → rx_ld lv1 0 = some (.ref 174) → rq (rt_P sc fm) 104 F Lo cb sb 47 lv1 [] L1 Q) → rq (rt_P sc fm) 104 F Lo cb sb 27 lv [] L Q
  | 0, i, f, L, lv, hik, hO, hL, h0, h1, hQ => by
    refine rq_ildn i_104_27 h1 ?_
    refine rq_pure i_104_28 rfl ?_
    refine rq_topi (v := nI 1218) (by decide) ?_
    refine rq_icge (tg := 47) i_104_31 ⟨by decide, by decide⟩ (fun _ => ?_) (fun q => absurd (nI_le (by omega) (by omega)) q)
    refine hQ L lv ⟨?_, fun _ _ => rfl⟩ h0
    rw [rz_fi_none (by omega)]
    exact hL
  | k + 1, i, f, L, lv, hik, hO, hL, h0, h1, hQ => by
    have hi : i < 1218 := by omega
    have ha : (174 : Nat) ≠ a := fun e => by
      rw [← e, hO] at hL
      cases hL
    refine rq_ildn i_104_27 h1 ?_
    refine rq_pure i_104_28 rfl ?_
    refine rq_topi (v := nI 1218) (by decide) ?_
    refine rq_icge (tg := 47) i_104_31 ⟨by decide, by decide⟩ (fun q => absurd q (nI_ge hi (by decide))) (fun _ => ?_)
    refine rq_aldn i_104_34 h0 ?_
    refine rq_getf i_104_35 f_104_218 hO hfs ?_
    refine rq_ildn i_104_38 h1 ?_
    refine rq_pure i_104_39 rfl ?_
    refine rq_topi (v := 0) (by decide) ?_
    refine rq_iast1 i_104_40 hL (nI_in (by omega) hn) (fun L1 u1 => ?_)
    rw [nI_clamp (by omega)] at u1
    refine rq_inc i_104_41 h1 (by rfl) (nI_one i) ?_
    refine rq_goto (tg := 27) i_104_44 ⟨by decide, by decide⟩ ?_
    refine rp_loop hn hn2 hfs k (i + 1) (upd f i 0) L1 _ (by omega) ((u1.2 174 ha).trans hO) u1.1 (rx_ld_ne h0 (by decide) (Or.inl rfl)) rx_ld_self (fun L2 lv2 u2 h2 => ?_)
    exact hQ L2 lv2 (u1.trans u2 (by rw [rz_fi_step hi])) h2
