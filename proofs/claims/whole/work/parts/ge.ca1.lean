/-! THE CALLS over the invariant: those that only look, tape, output, arguments -/
section CA1S
variable {n T T' a i L : Nat} {c d m u v : cS} {r q : Nat → Nat → Bool} {a1 a2 a3 a4 a5 : Int32}
theorem qT_f (h : ¬ ((a = 1 ∧ i = 1) ∨ a = 2)) : qT a i = false := by
  cases e : qT a i with
  | false => rfl
  | true =>
    unfold qT at e
    simp only [Bool.or_eq_true, Bool.and_eq_true, Nat.beq_eq] at e
    exact absurd e h
theorem pT_f (h : ¬ ((a = 174 ∧ (i = 0 ∨ i = 2)) ∨ a = 175)) : pT a i = false := by
  cases e : pT a i with
  | false => rfl
  | true =>
    unfold pT at e
    simp only [Bool.or_eq_true, Bool.and_eq_true, Nat.beq_eq] at e
    exact absurd e h
theorem qO_f (h : ¬ ((a = 172 ∧ i = 1) ∨ a = 173)) : qO a i = false := by
  cases e : qO a i with
  | false => rfl
  | true =>
    unfold qO at e
    simp only [Bool.or_eq_true, Bool.and_eq_true, Nat.beq_eq] at e
    exact absurd e h
theorem pO_f (h : ¬ ((a = 174 ∧ i = 4) ∨ a = 176)) : pO a i = false := by
  cases e : pO a i with
  | false => rfl
  | true =>
    unfold pO at e
    simp only [Bool.or_eq_true, Bool.and_eq_true, Nat.beq_eq] at e
    exact absurd e h
theorem p0_f (h : ¬ (a = 174 ∧ i = 0)) : p0 a i = false := by
  cases e : p0 a i with
  | false => rfl
  | true =>
    unfold p0 at e
    simp only [Bool.and_eq_true, Nat.beq_eq] at e
    exact absurd e h
theorem qA_f (h : ¬ ((a = 160 ∨ (a = 159 ∧ i = 5)) ∨ a = 161)) : qA a i = false := by
  cases e : qA a i with
  | false => rfl
  | true =>
    unfold qA at e
    simp only [Bool.or_eq_true, Bool.and_eq_true, Nat.beq_eq] at e
    exact absurd e h
theorem pA_f (h : ¬ ((a = 251 ∨ (a = 174 ∧ (i = 0 ∨ i = 110))) ∨ a = 252)) : pA a i = false := by
  cases e : pA a i with
  | false => rfl
  | true =>
    unfold pA at e
    simp only [Bool.or_eq_true, Bool.and_eq_true, Nat.beq_eq] at e
    exact absurd e h
/-- how long the tape is behind feed and end -/
theorem feed_L (hn : 5 ≤ n) (hL : L ≤ 4000) (h1 : c.1 1 1 = nI L) : wp (d_56 n a1 a2 a3 a4 a5 c) (fun r => r.2.1 1 1 = nI L ∨ r.2.1 1 1 = nI (L + 20)) := by
  unfold d_56
  have e20 : nI L + 20 = nI (L + 20) := nI_add L 20
  by_cases h4 : L + 20 ≤ 4000
  · refine wpt (show c.1 1 1 + 20 ≤ 4000 by rw [h1, e20]; exact nI_le (b := 4000) h4 (by decide)) ?_
    have p0 : PW (w5 a1 a2 a3 a4 a5) L 0 c c := ⟨h1, fun i => by rw [if_neg (by omega)], sx_rfl⟩
    refine wpc (PW_step hn (by omega) rfl p0) (fun r1 p1 => ?_)
    refine wpc (PW_step hn (by omega) rfl p1) (fun r2 p2 => ?_)
    refine wpc (PW_step hn (by omega) rfl p2) (fun r3 p3 => ?_)
    refine wpc (PW_step hn (by omega) rfl p3) (fun r4 p4 => ?_)
    refine wpc (PW_step hn (by omega) rfl p4) (fun c' p5 => ?_)
    exact Or.inr p5.1
  · refine wpf (show ¬ c.1 1 1 + 20 ≤ 4000 by rw [h1, e20]; exact nI_ge (a := 4000) (by omega) (by omega)) ?_
    exact Or.inl h1
theorem end_L (hL : L ≤ 4000) (h1 : c.1 1 1 = nI L) : wp (d_57 n a1 c) (fun r => ∃ j, j ≤ L ∧ r.2.1 1 1 = nI j) := by
  unfold d_57
  refine wpj (wpi (fun g1 => ?_) (fun g1 => ?_))
  · exact ⟨L, Nat.le_refl _, h1⟩
  refine wpi (fun g2 => ?_) (fun g2 => ?_)
  · refine wpl ?_
    rcases pk_ix a1 (n := L + 1) (by omega) with z | z | ⟨j, hj, rfl⟩
    · exact absurd z g1
    · rw [h1] at g2
      exact absurd (Int32.le_trans z g2) (nI_ge (by omega) (by omega))
    · refine ⟨j, by omega, ?_⟩
      show (pI c 1 1 (nI j)).1 1 1 = _
      rw [rI, if_pos ⟨rfl, rfl⟩]
  · exact ⟨L, Nat.le_refl _, h1⟩
theorem JT_sx (h : JT c u) (sc : sx r c d) (su : sx q u v) (r1 : r 1 1 = false) (r2 : ∀ i, r 2 i = false) (q1 : q 174 2 = false) (q2 : ∀ i, q 175 i = false) : JT d v := JT_cg h (sc.1 _ _ r1) (fun i => sc.1 _ _ (r2 i)) (su.1 _ _ q1) (fun i => su.1 _ _ (q2 i))
theorem JOsx (h : JO c u) (sc : sx r c d) (su : sx q u v) (r1 : r 172 1 = false) (r2 : ∀ i, r 173 i = false) (q1 : q 174 4 = false) (q2 : ∀ i, q 176 i = false) : JO d v := JO_cg h (sc.1 _ _ r1) (fun i => sc.1 _ _ (r2 i)) (su.1 _ _ q1) (fun i => su.1 _ _ (q2 i))
theorem JF_sx (h : JF c u) (sc : sx r c d) (su : sx q u v) (r1 : r 145 4 = false) (r2 : r 145 5 = false) (q1 : q 174 11 = false) (q2 : q 174 12 = false) : JF d v := JF_cg h (sc.1 _ _ r1) (sc.1 _ _ r2) (su.1 _ _ q1) (su.1 _ _ q2)
theorem JA_sx (h : JA c u) (sc : sx r c d) (su : sx q u v) (r1 : ∀ i, r 160 i = false) (r2 : r 159 5 = false) (r3 : ∀ i, r 161 i = false) (q1 : ∀ i, q 251 i = false) (q2 : q 174 110 = false) (q3 : ∀ i, q 252 i = false) : JA d v := JA_cg h (fun i => sc.1 _ _ (r1 i)) (sc.1 _ _ r2) (fun i => sc.1 _ _ (r3 i)) (fun i => su.1 _ _ (q1 i)) (su.1 _ _ q2) (fun i => su.1 _ _ (q3 i))
theorem WRD_sx (h : WRD c u) (sc : sx r c d) (su : sx q u v) (r1 : ∀ i, 7 ≤ i → i ≤ 9 → r 167 i = false) (r2 : ∀ i, r 171 i = false) (q1 : ∀ i, i = 14 ∨ i = 130 ∨ i = 132 ∨ i = 133 ∨ i = 134 → q 174 i = false) (q2 : ∀ i, q 261 i = false) : WRD d v := WRD_cg h (fun i z1 z2 => sc.1 _ _ (r1 i z1 z2)) (fun i => sc.1 _ _ (r2 i)) (fun i z => su.1 _ _ (q1 i z)) (fun i => su.1 _ _ (q2 i))
theorem WTsx (h : WT c) (sc : sx r c d) (r1 : ∀ i, r 6 i = false) : WT d := fun i hi => by
  rw [sc.2 _ _ (r1 i)]
  exact h i hi
theorem WV_sx (h : WV c) (sc : sx r c d) (r1 : ∀ i, r 6 i = false) : WV d := fun i hi => by
  rw [sc.2 _ _ (r1 i)]
  exact h i hi
theorem tot_sx (h : ∃ tot, tot ≤ 1024 ∧ c.1 114 7 = nI tot) (sc : sx r c d) (r1 : r 114 7 = false) : ∃ tot, tot ≤ 1024 ∧ d.1 114 7 = nI tot := by
  obtain ⟨t, h1, h2⟩ := h
  exact ⟨t, h1, (sc.1 _ _ r1).trans h2⟩
/-- the tape has changed -/
theorem MBN_t (h : MBN T m c) (sc : sx r c d) (r1 : ∀ a i, 133 ≤ a ∧ a ≤ 144 → r a i = false) (hl : ix (d.1 1 1) ≤ ix (c.1 1 1) + 20) : MBN (T + 1) m d := by
  obtain ⟨Lb, A, V, F, sz, X, Y, h1, h2, h3, h4, h5⟩ := h
  exact ⟨Lb, A, V, F, sz, X, Y, ALO_cg h1 (fun A l z => sc.1 _ _ (r1 _ _ (by omega))), h2, by omega, h4, by omega⟩
theorem INV_t (h : INV T c u) (hT : T < 512) (sc : sx qT c d) (su : sx pT u v) (hJ : JT d v) (hl : ix (d.1 1 1) ≤ ix (c.1 1 1) + 20) : INV (T + 1) d v := by
  obtain ⟨-, ⟨h1, h2, h3, h4, h5, h6, h7, h8, h9⟩, h10⟩ := h
  refine ⟨by omega, ⟨hJ, JOsx h2 sc su rfl (fun _ => rfl) rfl (fun _ => rfl), JF_sx h3 sc su rfl rfl rfl rfl, JA_sx h4 sc su (fun _ => rfl) rfl (fun _ => rfl) (fun _ => rfl) rfl (fun _ => rfl), WTsx h5 sc (fun _ => rfl), WV_sx h6 sc (fun _ => rfl), tot_sx h7 sc rfl, WRD_sx h8 sc su (fun i _ _ => rfl) (fun _ => rfl) (fun i z => pT_f (by omega)) (fun _ => rfl), by omega⟩, PRW_sx h10 sc su (fun a i z => qT_f (by unfold KP at z; omega)) (fun a i z => pT_f (by unfold KPu at z; omega)) (by omega) (fun m z => MBN_t z sc (fun a i y => qT_f (by omega)) hl)⟩
theorem i_feed (hn : 5 ≤ n) (hT : T < 512) (h : INV T c u) : bo (d_56 n a1 a2 a3 a4 a5 c) (d_93 n a1 a2 a3 a4 a5 u) (INV (T + 1)) := by
  obtain ⟨L, hL, l1, -⟩ := id h.2.1.1
  obtain ⟨r, e1, hr⟩ := wp_ex (c_feed (n := n) (a1 := a1) (a2 := a2) (a3 := a3) (a4 := a4) (a5 := a5) hn h.2.1.1)
  obtain ⟨s, e2, g1, g2, g3, g4⟩ := wp_ex hr
  have hl := feed_L (n := n) (a1 := a1) (a2 := a2) (a3 := a3) (a4 := a4) (a5 := a5) hn hL l1
  rw [e1] at hl
  have hl : r.2.1 1 1 = nI L ∨ r.2.1 1 1 = nI (L + 20) := hl
  refine wp_of e1 (wp_of e2 ⟨g1, INV_t h hT g3 g4 g2 ?_⟩)
  rw [l1, ix_n (by omega)]
  rcases hl with z | z
  · rw [z, ix_n (by omega)]
    omega
  · rw [z, ix_n (by omega)]
    omega
theorem i_end (hT : T < 512) (h : INV T c u) : bo (d_57 n a1 c) (d_95 n a1 u) (INV (T + 1)) := by
  obtain ⟨L, hL, l1, -⟩ := id h.2.1.1
  obtain ⟨r, e1, hr⟩ := wp_ex (c_end (n := n) (a := a1) h.2.1.1)
  obtain ⟨s, e2, g1, g2, g3, g4⟩ := wp_ex hr
  have hl := end_L (n := n) (a1 := a1) hL l1
  rw [e1] at hl
  obtain ⟨j, j1, j2⟩ : ∃ j, j ≤ L ∧ r.2.1 1 1 = nI j := hl
  refine wp_of e1 (wp_of e2 ⟨g1, INV_t h hT g3 g4 g2 ?_⟩)
  rw [l1, ix_n (by omega), j2, ix_n (by omega)]
  omega
theorem INV_p0 (h : INV T c u) (hT : T < 512) (su : sx p0 u v) : INV (T + 1) c v := INV_sx (r := fun _ _ => false) h hT sx_rfl su (fun _ _ _ => rfl) (fun a i z => p0_f (by
  unfold KBu KPu at z
  omega))
theorem i_out (hT : T < 512) (h : INV T c u) : br (d_58 n a1 c) (d_96 n a1 u) (INV (T + 1) c) := br_mono (c_out h.2.1.2.1) (fun w hw => INV_p0 h hT hw)
theorem i_fault (hT : T < 512) (h : INV T c u) : br (d_60 n a1 c) (d_107 n a1 u) (INV (T + 1) c) := br_mono (c_fault h.2.1.2.2.1) (fun w hw => INV_p0 h hT hw)
theorem INV_a (h : INV T c u) (hT : T < 512) (sc : sx qA c d) (su : sx pA u v) (hJ : JA d v) : INV (T + 1) d v := by
  obtain ⟨-, ⟨h1, h2, h3, h4, h5, h6, h7, h8, h9⟩, h10⟩ := h
  refine ⟨by omega, ⟨JT_sx h1 sc su rfl (fun _ => rfl) rfl (fun _ => rfl), JOsx h2 sc su rfl (fun _ => rfl) rfl (fun _ => rfl), JF_sx h3 sc su rfl rfl rfl rfl, hJ, WTsx h5 sc (fun _ => rfl), WV_sx h6 sc (fun _ => rfl), tot_sx h7 sc rfl, WRD_sx h8 sc su (fun i _ _ => rfl) (fun _ => rfl) (fun i z => pA_f (by omega)) (fun _ => rfl), ?_⟩, PRW_sx h10 sc su (fun a i z => qA_f (by unfold KP at z; omega)) (fun a i z => pA_f (by unfold KPu at z; omega)) (by omega) (fun m z => MBN_sx z sc (fun a i y => qA_f (by omega)) (by omega))⟩
  rw [sc.1 1 1 rfl]
  omega
theorem i_argument (hT : T < 512) (h : INV T c u) : bo (d_82 n a1 a2 c) (d_136 n a1 a2 u) (INV (T + 1)) := bo_mono (c_argument h.2.1.2.2.2.1) (fun d w hw => INV_a h hT hw.2.1 hw.2.2 hw.1)
theorem i_input (hT : T < 512) (h : INV T c u) : bo (d_83 n a1 c) (d_137 n a1 u) (INV (T + 1)) := bo_mono (c_input h.2.1.2.2.2.1) (fun d w hw => INV_a h hT hw.2.1 hw.2.2 hw.1)
/-! calls that only look -/
theorem INV_w (h : INV T c u) (hT : T < 512) {w : cS} (hw : w = pI u 174 0 0) : INV (T + 1) c w := by
  rw [hw]
  exact INV_up (INV_0 h) hT
theorem i_size (hT : T < 512) (h : INV T c u) : br (d_62 n a1 a2 c) (d_118 n a1 a2 u) (INV (T + 1) c) := br_mono (c_size (INV_P1 (INV_0 h))) (fun w hw => INV_w h hT hw)
theorem i_mark (hn : 1000 ≤ n) (hT : T < 512) (h : INV T c u) : br (d_64 n a1 a2 a3 c) (d_117 n a1 a2 a3 u) (INV (T + 1) c) := br_mono (c_mark hn (INV_P1 (INV_0 h))) (fun w hw => INV_w h hT hw)
theorem i_error (hT : T < 512) (h : INV T c u) : br (d_74 n a1 a2 c) (d_127 n a1 a2 u) (INV (T + 1) c) := br_mono (c_error (INV_P3 (INV_0 h))) (fun w hw => INV_w h hT hw)
theorem i_step (hT : T < 512) (h : INV T c u) : br (d_76 n a1 c) (d_130 n a1 u) (INV (T + 1) c) := br_mono (c_step (INV_P3 (INV_0 h))) (fun w hw => INV_w h hT hw)
theorem i_state (hT : T < 512) (h : INV T c u) : br (d_77 n a1 a2 a3 c) (d_128 n a1 a2 a3 u) (INV (T + 1) c) := br_mono (c_state (INV_P3 (INV_0 h))) (fun w hw => INV_w h hT hw)
theorem i_wired (hT : T < 512) (h : INV T c u) : br (d_89 n a1 c) (d_144 n a1 u) (INV (T + 1) c) := br_mono (c_wired (INV_0 (x := 0) h).2.1.2.2.2.2.2.2.2.1) (fun w hw => INV_w h hT hw)
theorem RUX_N (h : RUX T m c u) : RUN m c u := by
  rcases h with h | ⟨-, -, h⟩
  · exact Or.inl h
  · exact Or.inr h
theorem i_run (hT : T < 512) (h : INV T c u) : br (d_86 n a1 c) (d_141 n a1 u) (INV (T + 1) c) := by
  refine br_mono (c_run ?_) (fun w hw => INV_w h hT hw)
  rcases (INV_0 (x := 0) h).2.2 with ⟨-, -, -, -, -, z⟩ | ⟨-, m, -, -, h3, -, -, -, -, -, -, h10, -⟩
  · exact Or.inl z
  · exact Or.inr ⟨m, h3.1.2.2.1, RUX_N h10⟩
theorem i_truth (hT : T < 512) (h : INV T c u) : br (d_87 n a1 c) (d_142 n a1 u) (INV (T + 1) c) := by
  refine br_mono (c_truth ?_) (fun w hw => INV_w h hT hw)
  rcases (INV_0 (x := 0) h).2.2 with ⟨z1, z2, -⟩ | ⟨h0, m, h1, h2, h3, -, -, -, -, -, -, h10, -⟩
  · exact Or.inl ⟨z1, z2⟩
  · exact Or.inr ⟨h0, m, h1, h2, h3.1.1, RUX_N h10⟩
theorem PO_AG {oc : Nat} (hA : AG m u) (h : PO oc c m) : PO oc c u := by
  obtain ⟨o1, o2, o3, o4⟩ := h
  refine ⟨o1, o2, (hA.2.2.1 15 rfl).trans o3, fun o ho => ?_⟩
  obtain ⟨E, hE⟩ := o4 o ho
  exact ⟨E, RO_cg hE (fun _ _ _ _ => ⟨rfl, rfl⟩) ⟨hA.1 182 o rfl, hA.1 187 o rfl, hA.1 188 o rfl, hA.2.1 181 o rfl⟩ (fun A j z1 z2 _ _ => by
    have : A = 184 ∨ A = 185 ∨ A = 186 := by omega
    rcases this with rfl | rfl | rfl
    · exact hA.1 184 j rfl
    · exact hA.1 185 j rfl
    · exact hA.1 186 j rfl) (fun j _ _ => hA.2.1 183 j rfl)⟩
theorem i_order (hT : T < 512) (h : INV T c u) : br (d_63 n a1 a2 a3 a4 c) (d_120 n a1 a2 a3 a4 u) (INV (T + 1) c) := by
  refine br_mono (c_order ?_) (fun w hw => INV_w h hT hw)
  rcases (INV_0 (x := 0) h).2.2 with ⟨z1, z2, -⟩ | ⟨h0, m, h1, h2, h3, -⟩
  · exact Or.inl ⟨z1, z2⟩
  · exact Or.inr ⟨h0, (h2.2.2.1 14 rfl).trans h1, ocn m, PO_AG h2 h3.1.1⟩
/-! calls that look for EFFECTIVE MARKS, calls that write output -/
theorem i_effective (hn : 1000 ≤ n) (hT : T < 512) (h : INV T c u) : bo (d_67 n a1 a2 c) (d_114 n a1 a2 u) (INV (T + 1)) := bo_mono (c_effective hn (INV_P1 (INV_0 h))) (fun d w hw => INV_sx (INV_0 h) hT hw.1 hw.2 (fun a i z => decide_eq_false (by
  unfold KB KP at z
  omega)) (fun a i z => decide_eq_false (by
  unfold KBu KPu at z
  omega)))
theorem i_whence (hn : 1000 ≤ n) (hT : T < 512) (h : INV T c u) : bo (d_68 n a1 a2 a3 c) (d_115 n a1 a2 a3 u) (INV (T + 1)) := bo_mono (c_whence hn (INV_P1 (INV_0 h))) (fun d w hw => INV_sx (INV_0 h) hT hw.1 hw.2 (fun a i z => decide_eq_false (by
  unfold KB KP at z
  omega)) (fun a i z => decide_eq_false (by
  unfold KBu KPu at z
  omega)))
def qOz (a i : Nat) : Bool := decide ((a = 146 ∧ 3 ≤ i ∧ i ≤ 5) ∨ (a = 172 ∧ i = 1) ∨ a = 173)
def pOz (a i : Nat) : Bool := decide ((a = 174 ∧ ((73 ≤ i ∧ i ≤ 79) ∨ i = 4 ∨ i = 5)) ∨ a = 232 ∨ a = 233 ∨ a = 176)
theorem INV_o (h : INV T c u) (hT : T < 512) (sc : sx qOz c d) (su : sx pOz u v) (hJ : JO d v) : INV (T + 1) d v := by
  obtain ⟨-, ⟨h1, h2, h3, h4, h5, h6, h7, h8, h9⟩, h10⟩ := h
  refine ⟨by omega, ⟨JT_sx h1 sc su rfl (fun _ => rfl) rfl (fun _ => rfl), hJ, JF_sx h3 sc su rfl rfl rfl rfl, JA_sx h4 sc su (fun _ => rfl) rfl (fun _ => rfl) (fun _ => rfl) rfl (fun _ => rfl), WTsx h5 sc (fun _ => rfl), WV_sx h6 sc (fun _ => rfl), tot_sx h7 sc rfl, WRD_sx h8 sc su (fun i _ _ => rfl) (fun _ => rfl) (fun i z => decide_eq_false (by omega)) (fun _ => rfl), ?_⟩, PRW_sx h10 sc su (fun a i z => decide_eq_false (by unfold KP at z; omega)) (fun a i z => decide_eq_false (by unfold KPu at z; omega)) (by omega) (fun m z => MBN_sx z sc (fun a i y => decide_eq_false (by omega)) (by omega))⟩
  rw [sc.1 1 1 rfl]
  omega
theorem sx_qO (h : sx qO c d) : sx qOz c d := sx_wide h (fun A l y => by
  have := of_decide_eq_false y
  exact qO_f (by omega))
theorem i_file (hn : 1000 ≤ n) (hT : T < 512) (h : INV T c u) : bo (d_66 n a1 c) (d_122 n a1 u) (INV (T + 1)) := bo_mono (c_file hn (INV_P1 (INV_0 h)) (INV_0 (x := 0) h).2.1.2.1) (fun d w hw => INV_o (INV_0 h) hT (sx_qO hw.1) (sx_wide hw.2.1 (fun A l y => by
  have := of_decide_eq_false y
  exact pO_f (by omega))) hw.2.2)
theorem i_ask (hn : 1000 ≤ n) (hT : T < 512) (h : INV T c u) : bo (d_69 n a1 a2 a3 a4 c) (d_116 n a1 a2 a3 a4 u) (INV (T + 1)) := bo_mono (c_ask hn (INV_P1 (INV_0 h)) (INV_0 (x := 0) h).2.1.2.1) (fun d w hw => INV_o (INV_0 h) hT (sx_wide hw.1 (fun A l y => by
  have := of_decide_eq_false y
  exact decide_eq_false (by omega))) (sx_wide hw.2.1 (fun A l y => by
  have := of_decide_eq_false y
  exact decide_eq_false (by omega))) hw.2.2)
theorem i_code (hn : 3000 ≤ n) (hT : T < 512) (h : INV T c u) : bo (d_81 n a1 a2 c) (d_135 n a1 a2 u) (INV (T + 1)) := bo_mono (c_code hn h.2.1.2.2.2.2.1 (INV_P4 (INV_0 h)) (INV_0 (x := 0) h).2.1.2.1) (fun d w hw => INV_o (INV_0 h) hT (sx_qO hw.1) (sx_wide hw.2.1 (fun A l y => by
  have := of_decide_eq_false y
  exact decide_eq_false (by omega))) hw.2.2)
theorem i_tell (hn : 3000 ≤ n) (hT : T < 512) (h : INV T c u) : bo (d_61 n c) (d_123 n u) (INV (T + 1)) := bo_mono (c_tell hn h.2.1.2.2.2.2.1 (INV_P1 (INV_0 h)) (INV_0 (x := 0) h).2.1.2.1) (fun d w hw => INV_o (INV_0 h) hT (sx_qO hw.1) (sx_wide hw.2.1 (fun A l y => by
  have := of_decide_eq_false y
  exact decide_eq_false (by omega))) hw.2.2)
end CA1S
