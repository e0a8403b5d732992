/-! READING an ORDER: both, whole -/
section RDQ
variable {n i N o E oc kc mc cc : Nat} {c d u w : cS} {K P : Nat → Nat} {V : Nat → Int64} {R W : Nat → Nat → Bool}
theorem NMR_cg {c' u' : cS} (h : NMR c u oc kc mc cc) (a1 : ∀ j, j = 2 ∨ j = 4 ∨ j = 7 ∨ j = 10 → c'.1 7 j = c.1 7 j) (a2 : ∀ o, o < oc → c'.2 (oA o) 0 = c.2 (oA o) 0) (a3 : ∀ k, k < kc → c'.2 (kA k) 0 = c.2 (kA k) 0) (a4 : ∀ k, k < mc → c'.2 10 k = c.2 10 k) (a5 : ∀ k, k < cc → c'.2 12 k = c.2 12 k) (b1 : ∀ j, j = 15 ∨ j = 24 ∨ j = 34 ∨ j = 37 → u'.1 174 j = u.1 174 j) (b2 : ∀ o, o < oc → u'.2 181 o = u.2 181 o) (b3 : ∀ k, k < kc → u'.2 189 k = u.2 189 k) (b4 : ∀ k, k < mc → u'.2 198 k = u.2 198 k) (b5 : ∀ k, k < cc → u'.2 200 k = u.2 200 k) : NMR c' u' oc kc mc cc := by
  obtain ⟨⟨h1, h2, h3, h4⟩, ⟨k1, k2, k3, k4⟩, ⟨m1, m2, m3, m4⟩, ⟨l1, l2, l3, l4⟩⟩ := h
  exact ⟨⟨h1, (a1 2 (by omega)).trans h2, (b1 15 (by omega)).trans h3, fun o ho => by rw [a2 o ho, b2 o ho]; exact h4 o ho⟩, ⟨k1, (a1 4 (by omega)).trans k2, (b1 24 (by omega)).trans k3, fun k hk => by rw [a3 k hk, b3 k hk]; exact k4 k hk⟩, ⟨m1, (a1 7 (by omega)).trans m2, (b1 34 (by omega)).trans m3, fun k hk => by rw [a4 k hk, b4 k hk]; exact m4 k hk⟩, ⟨l1, (a1 10 (by omega)).trans l2, (b1 37 (by omega)).trans l3, fun k hk => by rw [a5 k hk, b5 k hk]; exact l4 k hk⟩⟩
theorem NMR_at (h : NMR c u oc kc mc cc) : NMR (atC c i) (atR u i) oc kc mc cc := by
  have C : ∀ A j, A ≠ 145 → (atC c i).1 A j = c.1 A j := fun A j z => by
    unfold atC
    rw [rI, if_neg (by omega)]
  have U : ∀ A j, ¬ (A = 174 ∧ j = 67) → (atR u i).1 A j = u.1 A j := fun A j z => by
    unfold atR
    rw [rI, if_neg z]
  exact NMR_cg h (fun j _ => C _ _ (by omega)) (fun _ _ => rfl) (fun _ _ => rfl) (fun _ _ => rfl) (fun _ _ => rfl) (fun j _ => U _ _ (by omega)) (fun _ _ => rfl) (fun _ _ => rfl) (fun _ _ => rfl) (fun _ _ => rfl)
/-- a found one stays where it is when one is added -/
theorem ff_add {p q : Nat → Bool} {k j : Nat} (h : ff p k = some j) (hpq : ∀ i, i < k → p i = q i) : ff q (k + 1) = some j := by
  obtain ⟨h1, h2, h3⟩ := ff_some h
  exact ff_is (by omega) ((hpq j h1).symm.trans h2) (fun i hi => (hpq i (by omega)).symm.trans (h3 i hi))
theorem ff_new {p : Nat → Bool} {k : Nat} (h : ∀ i, i < k → p i = false) (hk : p k = true) : ff p (k + 1) = some k := ff_is (by omega) hk h
theorem fin_go {j p1 i1 : Nat} {nm : Int64} {q : cS} (hn : 10000 ≤ n) (ho : oc < 4) (hS : ORS K P V N d q oc E R j) (hE1 : 1 ≤ E) (hN : NMR d q oc kc mc cc) (hO : PO oc d q) (hM : ONM q oc) (hnm : d.2 (oA oc) 0 = nm) (hv0 : nm ≠ 0) (hfr : fO q oc nm = none) (h9 : q.1 179 i1 = nI p1) (hi1 : i1 ≤ 4000) : jw (finC n oc (nI p1) d) (finR n (nI oc) (nI i1) nm q) (ORDP K P V N d q j oc kc mc cc) := by
  obtain ⟨h1, h2, h3, h4, h5, h6, h7, h8, h10⟩ := hS
  have hoA : oA oc + 5 ≤ 41 := by unfold oA; omega
  have hoA2 : 18 ≤ oA oc := by unfold oA; omega
  have h257 := e257 (n := n) (b := 59) h1 (by decide)
  have h101 := e101 (n := n) (b := 59) h1 (by decide) (by decide)
  unfold jw finC
  by_cases e59 : K j = 59
  rotate_left
  · rw [if_neg e59] at h257 h101
    refine wpe h257 (wpSr (wp_of rfl (wp_of (a := flt q 2 (nI (P j))) ?_ (Or.inr ⟨_, rfl, FLR_of sx_rfl sx_rfl⟩))))
    unfold finR
    exact eq_wp (wpt h1.2.2.2.2 (wpe h101 (wpt rfl (wpe (e103 h1) rfl))))
  rw [if_pos e59] at h257 h101
  have hj := PSI_lt h1 (by omega)
  have hP1 := PSI_s h1 (by omega)
  have C1 : ∀ A k, A ≠ 145 → (atC d (j + 1)).1 A k = d.1 A k := fun A k z => by
    unfold atC
    rw [rI, if_neg (by omega)]
  refine wpe h257 (wpSl ?_)
  refine wpc (e241 (R := R) (by omega) hE1 h2 (by rw [C1 _ _ (by omega)]; exact h3) (fun a ha => by rw [C1 _ _ (by omega)]; exact h6 a ha) (fun a _ => h10 a)) (fun r hr => ?_)
  obtain ⟨q1, hq1, hq2⟩ := wp_ex (e389 (n := n) (R := R) (by omega) ho h2 h4 (fun a b ha hb => h7 a b (by omega) (by omega)))
  obtain ⟨x, r⟩ := r
  obtain ⟨y, q1⟩ := q1
  have hWr : ∀ a, a < E → wcl R E a a = true := fun a ha => wcl_R (h10 a) E
  have hWt : ∀ a b d, a < E → b < E → d < E → wcl R E a b = true → wcl R E b d = true → wcl R E a d = true := fun a b d _ hb _ => wcl_tr E b hb a d
  generalize wcl R E = W at *
  obtain ⟨r1, r2⟩ := hr
  obtain ⟨s1, s2, s3⟩ := hq2
  dsimp only at r1 r2 s1 s2 s3
  have r7 : r.1 7 2 = nI oc := (r1.1 7 2 (decide_eq_false (by omega))).trans ((C1 7 2 (by omega)).trans hN.1.2.1)
  have s67 : q1.1 174 67 = nI j := (s1.1 174 67 (decide_eq_false (by omega))).trans h1.2.2.2.1
  have s15 : q1.1 174 15 = nI oc := (s1.1 174 15 (decide_eq_false (by omega))).trans hN.1.2.2.1
  have s13 : q1.1 174 13 = nI 0 := (s1.1 174 13 (decide_eq_false (by omega))).trans h1.2.2.2.2
  have s9 : q1.1 179 (ix (nI i1)) = nI p1 := by
    rw [ix_n (by omega), s1.1 179 i1 (decide_eq_false (by omega))]
    exact h9
  have sd : sx qRO d r := sx_trans (sx_pI sx_rfl (by decide)) (qOS_RO ho r1)
  have sq : sx qRU q q1 := qOL_RU s1
  have hib : ib (nI oc) 4 := ib_n (by omega) (by decide)
  refine wpj ?_
  rcases r2 with ⟨r2, r3⟩ | ⟨r2, r3, r4, r5, r6, r8, r9⟩
  · subst r3
    rw [r2] at s2
    subst s2
    refine wpt rfl (wpe e41 (wpSr (wp_of rfl ?_)))
    obtain ⟨f1, f2, f3, f4⟩ := flt_at (u := q1) (a := 4) (f := nI p1)
    have f67 : (flt q1 4 (nI p1)).1 174 67 = nI j := (f4 174 67 (by omega)).trans s67
    refine wp_of (a := pI (pL (pI (flt q1 4 (nI p1)) 174 67 (nI (j + 1))) 181 oc nm) 174 15 (nI (oc + 1))) ?_ (Or.inr ⟨_, rfl, FLR_sx (r := fun A k => decide ((A = 174 ∧ (k = 67 ∨ k = 15)) ∨ A = 181)) (FLR_of (qRO_c sd) (qRU_u sq)) (sx_pI (sx_pL (sx_pI sx_rfl (by decide)) (decide_eq_true (by omega))) (by decide)) (fun A k z => ?_) (fun k z1 z2 => decide_eq_false (by omega))⟩)
    · unfold finR
      refine eq_wp (wpt h1.2.2.2.2 (wpe h101 (wpf (by decide) (wpe hq1 (wpj (wpt rfl (wpt (ib_n (by omega) (by decide)) ?_)))))))
      dsimp only
      rw [s9]
      refine wpe (e97 s13) ?_
      rw [f67, nI_1]
      refine wpl (wpt hib ?_)
      rw [ix_n (show oc < 2147483648 by omega)]
      have g15 : (pL (pI (flt q1 4 (nI p1)) 174 67 (nI (j + 1))) 181 oc nm).1 174 15 = nI oc := by
        show (pI (flt q1 4 (nI p1)) 174 67 (nI (j + 1))).1 174 15 = _
        rw [rI, if_neg (by omega), f4 174 15 (by omega)]
        exact s15
      refine wpl ?_
      rw [g15, nI_1]
      exact wpl rfl
    · have := of_decide_eq_true z
      exact decide_eq_true (by omega)
  · subst r3
    obtain ⟨t1, t2, t3, t4⟩ := s3 r2
    rw [r2] at s2
    subst s2
    refine wpf (show ¬ (1 : Int32) = 0 by decide) ?_
    dsimp only
    rw [r7, nI_1]
    refine wpl (wp_of rfl ?_)
    refine wp_of (a := pI (pL (pI q1 174 67 (nI (j + 1))) 181 oc nm) 174 15 (nI (oc + 1))) ?_ (Or.inl ⟨_, j + 1, rfl, by omega, ?_, ?_, ?_, fun o hoo => ?_, ?_, ?_⟩)
    · unfold finR
      refine eq_wp (wpt h1.2.2.2.2 (wpe h101 (wpf (by decide) (wpe hq1 (wpj (wpf (show ¬ bI true = 0 by decide) ?_))))))
      dsimp only
      rw [s67, nI_1]
      refine wpl (wpt hib ?_)
      rw [ix_n (show oc < 2147483648 by omega)]
      have g15 : (pL (pI q1 174 67 (nI (j + 1))) 181 oc nm).1 174 15 = nI oc := by
        show (pI q1 174 67 (nI (j + 1))).1 174 15 = _
        rw [rI, if_neg (by omega)]
        exact s15
      refine wpl ?_
      rw [g15, nI_1]
      exact wpl rfl
    · refine ⟨TKR_sx h1.1 (r := qRO) (q := qRU) (sx_pI sd (by decide)) (sx_pI (sx_pL (sx_pI sq (by decide)) (decide_eq_true (by omega))) (by decide)) (fun A k z1 z2 => decide_eq_false (by omega)) (fun A k z1 z2 => decide_eq_false (by omega)), hj, ?_, ?_, ?_⟩
      · rw [rI, if_neg (by omega), r1.1 145 7 (decide_eq_false (by omega))]
        exact hP1.2.2.1
      · rw [rI, if_neg (by omega)]
        show (pI q1 174 67 (nI (j + 1))).1 174 67 = _
        rw [rI, if_pos ⟨rfl, rfl⟩]
      · rw [rI, if_neg (by omega)]
        show (pI q1 174 67 (nI (j + 1))).1 174 13 = _
        rw [rI, if_neg (by omega)]
        exact s13
    · obtain ⟨⟨n1, n2, n3, n4⟩, n5⟩ := hN
      have hc : NMR (pI r 7 2 (nI (oc + 1))) (pI (pL (pI q1 174 67 (nI (j + 1))) 181 oc nm) 174 15 (nI (oc + 1))) (oc + 1) kc mc cc := by
        obtain ⟨⟨k1, k2, k3, k4⟩, ⟨m1, m2, m3, m4⟩, ⟨l1, l2, l3, l4⟩⟩ := n5
        have D : ∀ A k, A ≠ 145 → ¬ (A = 7 ∧ k = 2) → (A < 18 ∨ 42 ≤ A) → (pI r 7 2 (nI (oc + 1))).1 A k = d.1 A k := fun A k z1 z2 z3 => by
          rw [rI, if_neg z2, r1.1 A k (decide_eq_false (by omega)), C1 A k z1]
        have D2 : ∀ A k, (A < 18 ∨ 42 ≤ A) → (pI r 7 2 (nI (oc + 1))).2 A k = d.2 A k := fun A k z3 => r1.2 A k (decide_eq_false (by omega))
        have Q : ∀ k, k ≠ 67 → k ≠ 15 → (pI (pL (pI q1 174 67 (nI (j + 1))) 181 oc nm) 174 15 (nI (oc + 1))).1 174 k = q.1 174 k := fun k z1 z2 => by
          rw [rI, if_neg (by omega)]
          show (pI q1 174 67 (nI (j + 1))).1 174 k = _
          rw [rI, if_neg (by omega), s1.1 174 k (decide_eq_false (by omega))]
        have Q2 : ∀ A k, A ≠ 181 → (A < 184 ∨ 189 ≤ A) → (pI (pL (pI q1 174 67 (nI (j + 1))) 181 oc nm) 174 15 (nI (oc + 1))).2 A k = q.2 A k := fun A k z1 z2 => by
          show (pL (pI q1 174 67 (nI (j + 1))) 181 oc nm).2 A k = _
          rw [rL, if_neg (by omega)]
          exact s1.2 A k (decide_eq_false (by omega))
        refine ⟨⟨by omega, by rw [rI, if_pos ⟨rfl, rfl⟩], by rw [rI, if_pos ⟨rfl, rfl⟩], fun o hoo => ?_⟩, ⟨k1, by rw [D _ _ (by omega) (by omega) (by omega)]; exact k2, by rw [Q _ (by omega) (by omega)]; exact k3, fun k hk => ?_⟩, ⟨m1, by rw [D _ _ (by omega) (by omega) (by omega)]; exact m2, by rw [Q _ (by omega) (by omega)]; exact m3, fun k hk => ?_⟩, ⟨l1, by rw [D _ _ (by omega) (by omega) (by omega)]; exact l2, by rw [Q _ (by omega) (by omega)]; exact l3, fun k hk => ?_⟩⟩
        · show r.2 (oA o) 0 = (pL (pI q1 174 67 (nI (j + 1))) 181 oc nm).2 181 o
          rw [rL]
          by_cases e : o = oc
          · subst e
            rw [if_pos ⟨rfl, rfl⟩, r1.2 (oA o) 0 (decide_eq_false (by omega))]
            exact hnm
          · have : oA o ≠ oA oc ∧ (oA o + 6 ≤ oA oc) := by unfold oA; omega
            rw [if_neg (fun z => e z.2), r1.2 (oA o) 0 (decide_eq_false (by omega))]
            show d.2 (oA o) 0 = q1.2 181 o
            rw [s1.2 181 o (decide_eq_false (by omega))]
            exact n4 o (by omega)
        · rw [D2 _ _ (by unfold kA; omega), Q2 _ _ (by omega) (by omega)]
          exact k4 k hk
        · rw [D2 _ _ (by omega), Q2 _ _ (by omega) (by omega)]
          exact m4 k hk
        · rw [D2 _ _ (by omega), Q2 _ _ (by omega) (by omega)]
          exact l4 k hk
      exact hc
    · obtain ⟨o1, o2, o3, o4⟩ := hO
      refine ⟨by omega, by rw [rI, if_pos ⟨rfl, rfl⟩], by rw [rI, if_pos ⟨rfl, rfl⟩], fun o hoo => ?_⟩
      by_cases e : o = oc
      · subst e
        have q182 : q1.1 182 o = nI E := (s1.1 182 o (decide_eq_false (by omega))).trans h4
        refine ⟨E, RO_of (W := W) hE1 h2 r2 hWr hWt ?_ ?_ (fun e he => ?_) (fun a ha => ?_) (fun a ha => ?_) (fun a b ha hb z => ?_) ?_ ?_ ?_ (fun a b ha hb => ?_) (fun a b ha hb z => ?_) (fun e he z => ?_) (fun e he z => ?_)⟩
        · rw [rI, if_neg (by omega), r1.1 (oA o) 1 (decide_eq_false (by omega)), C1 _ _ (by omega)]
          exact h3
        · show r.2 (oA o) 0 = (pL (pI q1 174 67 (nI (j + 1))) 181 o nm).2 181 o
          rw [rL, if_pos ⟨rfl, rfl⟩, r1.2 (oA o) 0 (decide_eq_false (by omega))]
          exact hnm
        · show r.2 (oA o + 1) e = (pL (pI q1 174 67 (nI (j + 1))) 181 o nm).2 183 (12 * o + e)
          rw [rL, if_neg (by omega), r1.2 (oA o + 1) e (decide_eq_false (by omega))]
          show d.2 (oA o + 1) e = q1.2 183 (12 * o + e)
          rw [s1.2 183 _ (decide_eq_false (by omega))]
          exact h5 e he
        · rw [rI, if_neg (by omega)]
          exact r4 a ha
        · rw [rI, if_neg (by omega)]
          exact r5 a ha
        · rw [rI, if_neg (by omega), rI, if_neg (by omega)]
          exact r6 a b ha hb z
        · rw [rI, if_neg (by omega)]
          exact r8
        · rw [rI, if_neg (by omega)]
          exact r9
        · rw [rI, if_neg (by omega)]
          show (pI q1 174 67 (nI (j + 1))).1 182 o = _
          rw [rI, if_neg (by omega)]
          exact q182
        · rw [rI, if_neg (by omega)]
          show (pI q1 174 67 (nI (j + 1))).1 184 _ = _
          rw [rI, if_neg (by omega)]
          exact t1 a b ha hb
        · rw [rI, if_neg (by omega), rI, if_neg (by omega)]
          show _ ∧ (pI q1 174 67 (nI (j + 1))).1 185 _ = _ ∧ (pI q1 174 67 (nI (j + 1))).1 186 _ = _
          rw [rI, if_neg (by omega), rI, if_neg (by omega)]
          exact t2 a b ha hb z
        · rw [rI, if_neg (by omega)]
          show (pI q1 174 67 (nI (j + 1))).1 187 o = _
          rw [rI, if_neg (by omega)]
          exact t3 e he z
        · rw [rI, if_neg (by omega)]
          show (pI q1 174 67 (nI (j + 1))).1 188 o = _
          rw [rI, if_neg (by omega)]
          exact t4 e he z
      · obtain ⟨E', hr⟩ := o4 o (by omega)
        have hne : oA o + 6 ≤ oA oc := by unfold oA; omega
        have hne2 : 18 ≤ oA o := by unfold oA; omega
        have Q : ∀ A k, A ≠ 174 → (A = 184 ∨ A = 185 ∨ A = 186 → k < 144 * oc) → (A = 187 ∨ A = 188 → k ≠ oc) → (pI (pL (pI q1 174 67 (nI (j + 1))) 181 oc nm) 174 15 (nI (oc + 1))).1 A k = q.1 A k := fun A k z1 z2 z3 => by
          rw [rI, if_neg (by omega)]
          show (pI q1 174 67 (nI (j + 1))).1 A k = _
          rw [rI, if_neg (by omega), s1.1 A k (decide_eq_false (by omega))]
        have Q2 : ∀ A k, ¬ (A = 181 ∧ k = oc) → (A < 184 ∨ 189 ≤ A) → (pI (pL (pI q1 174 67 (nI (j + 1))) 181 oc nm) 174 15 (nI (oc + 1))).2 A k = q.2 A k := fun A k z1 z2 => by
          show (pL (pI q1 174 67 (nI (j + 1))) 181 oc nm).2 A k = _
          rw [rL, if_neg z1]
          exact s1.2 A k (decide_eq_false (by omega))
        refine ⟨E', RO_cg hr (fun A k z1 z2 => ⟨?_, ?_⟩) ⟨Q _ _ (by omega) (by omega) (by omega), Q _ _ (by omega) (by omega) (by omega), Q _ _ (by omega) (by omega) (by omega), Q2 _ _ (by omega) (by omega)⟩ (fun A k z1 z2 z3 z4 => Q _ _ (by omega) (by omega) (by omega)) (fun k z1 z2 => Q2 _ _ (by omega) (by omega))⟩
        · rw [rI, if_neg (by omega), r1.1 A k (decide_eq_false (by omega)), C1 _ _ (by omega)]
        · exact r1.2 A k (decide_eq_false (by omega))
    · have Q2 : ∀ k, (pI (pL (pI q1 174 67 (nI (j + 1))) 181 oc nm) 174 15 (nI (oc + 1))).2 181 k = if k = oc then nm else q.2 181 k := fun k => by
        show (pL (pI q1 174 67 (nI (j + 1))) 181 oc nm).2 181 k = _
        rw [rL]
        by_cases e : k = oc
        · rw [if_pos ⟨rfl, e⟩, if_pos e]
        · rw [if_neg (fun z => e z.2), if_neg e]
          exact s1.2 181 k (decide_eq_false (by omega))
      rw [Q2]
      unfold fO
      by_cases e : o = oc
      · rw [if_pos e]
        refine ⟨?_, hv0⟩
        rw [e]
        refine ff_new (fun k hk => ?_) ?_
        · rw [Q2, if_neg (by omega)]
          exact ff_none hfr k hk
        · rw [Q2, if_pos rfl]
          exact decide_eq_true rfl
      · rw [if_neg e]
        obtain ⟨m1, m2⟩ := hM o (by omega)
        refine ⟨ff_add m1 (fun k hk => ?_), m2⟩
        rw [Q2, if_neg (by omega)]
    · exact sx_pI sd (by decide)
    · exact sx_pI (sx_pL (sx_pI sq (by decide)) (decide_eq_true (by omega))) (by decide)
theorem ord_go (hn : 10000 ≤ n) (hP : PSI K P V N c u i) (hk : K i = 200) (hN : NMR c u oc kc mc cc) (hO : PO oc c u) (hM : ONM u oc) : jw (d_262 n c) (d_386 n (atR u (i + 1))) (ORDP K P V N c u i oc kc mc cc) := by
  have hP1 := PSI_s hP (by omega)
  have hN1 := NMR_at (i := i + 1) hN
  have hoc := hN.1.1
  have hi := PSI_lt hP (by omega)
  have sc1 : sx qRO c (atC c (i + 1)) := sx_pI sx_rfl (by decide)
  have su1 : sx qRU u (atR u (i + 1)) := sx_pI sx_rfl (by decide)
  obtain ⟨c1, hc1⟩ : ∃ c1, c1 = atC c (i + 1) := ⟨_, rfl⟩
  obtain ⟨u1, hu1⟩ : ∃ u1, u1 = atR u (i + 1) := ⟨_, rfl⟩
  have c1v : ∀ A j, c1.2 A j = c.2 A j := fun A j => by rw [hc1]; rfl
  have u1v : ∀ A j, u1.2 A j = u.2 A j := fun A j => by rw [hu1]; rfl
  have c1f : ∀ A j, A ≠ 145 → c1.1 A j = c.1 A j := fun A j z => by
    rw [hc1]
    unfold atC
    rw [rI, if_neg (by omega)]
  have u1f : ∀ A j, ¬ (A = 174 ∧ j = 67) → u1.1 A j = u.1 A j := fun A j z => by
    rw [hu1]
    unfold atR
    rw [rI, if_neg z]
  have hC0 : d_262 n c = Option.bind (some c1) (fun c1 =>
    Option.bind (d_42 n c1) (fun v3 =>
    Option.bind (d_261 n c1) (fun v5 =>
    jn (fun p6 : Int32 =>
      Option.bind (d_260 n v5 p6 c1) (Sum.elim (midC n v3)
      (fun z8 => some (.inr z8))))
    (fun j36 =>
    if (c1.1 7 2) < 4 then
      j36 0
    else
      j36 1)))) := by
    rw [d262_s, hP.2.2.1, nI_1, hc1]
    rfl
  rw [← hc1, ← hu1] at hP1 hN1
  rw [← hu1]
  rw [← hc1] at sc1
  rw [← hu1] at su1
  have h15 : u1.1 174 15 = nI oc := hN1.1.2.2.1
  have fl1 : ∀ {z q : cS}, FLR c1 u1 z q → FLR c u z q := fun hf => FLR_tr hf (qRO_c sc1) (qRU_u su1)
  have hrefF : ∀ {x : Int64} {y : cS}, nnR K P V u1 (i + 1) (tkn4 u1 oc kc mc cc (V (i + 1))) (nI oc) 4 = (x, y) → y.1 174 13 = nI 1 → d_386 n u1 = some y := fun {x y} h1 h2 => by
    rw [d386_s, h15]
    refine eq_wp (wpl (wpe (f383 (by omega) hP1 hN1) ?_))
    rw [h1]
    exact wpe (e380w h2) (wpf (by rw [h2]; decide) rfl)
  rw [hC0]
  unfold jw
  refine wpe rfl (wpe (e42 hP1) (wpe (f261 (by omega) hP1 hN1) (wpjQ (fun p : Int32 => p = bI (decide (oc = 4))) ?_ ?_)))
  rotate_left
  · intro Q' k' hk'
    rw [c1f 7 2 (by omega), hN.1.2.1]
    by_cases e : oc = 4
    · exact wpf (by rw [e]; decide) (hk' 1 (by rw [decide_eq_true e]; rfl))
    · exact wpt (by simp (disch := first | omega | decide) only [↓neg1, nlit, rI, rL, rI2, rL1, nI_add, pk_mul, sbT, dvT, nmd, ixT, ↓ibT, ltT, ltF, leT, leF, eqT, eqF, nM_ltT, nM_ltF, nM_leT, nM_leF, nM_eqF, nM_eqF', nbT0, nbT1, oI_s, oI_n, natF, natT, nltT, nltF, nleT, nleF, ↓reduceIte, lgc, not_true_eq_false, not_false_eq_true, or_false, false_or, or_true, true_or, and_true, true_and, and_false, false_and, ne_eq, eq_self, or_self, and_self]) (hk' 0 (by rw [decide_eq_false e]; rfl))
  rintro p rfl
  refine wpe (e260 hP1) ?_
  by_cases e1 : K (i + 1) = 1
  rotate_left
  · rw [show nnC K P V c1 (i + 1) (bI (tkn4 u1 oc kc mc cc (c1.2 5 (i + 1)))) (bI (decide (oc = 4))) = .inr (flC c1 2 (nI (P (i + 1)))) by unfold nnC; rw [if_neg e1]]
    refine wpSr ?_
    exact wp_of rfl (wp_of (hrefF (by unfold nnR; rw [if_neg e1]) (flt_at (u := u1)).1) (Or.inr ⟨_, rfl, fl1 (FLR_of sx_rfl sx_rfl)⟩))
  obtain ⟨hval, hv0⟩ := val_at hP1 e1
  rw [hval]
  have fU : (flt (atR u1 (i + 1 + 1)) 3 (nI (P (i + 1)))).1 174 13 = nI 1 := (flt_at (u := atR u1 (i + 1 + 1))).1
  cases et : tkn4 u1 oc kc mc cc (V (i + 1)) with
  | true =>
    rw [show nnC K P V c1 (i + 1) (bI true) (bI (decide (oc = 4))) = .inr (flC c1 3 (nI (P (i + 1)))) by unfold nnC; rw [if_pos e1, if_neg (by decide)]]
    refine wpSr ?_
    exact wp_of rfl (wp_of (hrefF (by rw [et]; unfold nnR; rw [if_pos e1, if_pos rfl]) fU) (Or.inr ⟨_, rfl, fl1 (FLR_of sx_rfl atR_sx)⟩))
  | false =>
    by_cases e4 : oc = 4
    · rw [show nnC K P V c1 (i + 1) (bI false) (bI (decide (oc = 4))) = .inr (flC c1 6 (nI (P (i + 1)))) by unfold nnC; rw [if_pos e1, if_pos (by decide), decide_eq_true e4, if_neg (by decide)]]
      refine wpSr ?_
      exact wp_of rfl (wp_of (hrefF (by rw [et]; unfold nnR; rw [if_pos e1, if_neg (by decide), if_pos (by rw [e4]; rfl)]) (flt_at (u := atR u1 (i + 1 + 1))).1) (Or.inr ⟨_, rfl, fl1 (FLR_of sx_rfl atR_sx)⟩))
    rw [show nnC K P V c1 (i + 1) (bI false) (bI (decide (oc = 4))) = .inl (V (i + 1), atC c1 (i + 1 + 1)) by unfold nnC; rw [if_pos e1, if_pos (by decide), decide_eq_false e4, if_pos (by decide)]]
    have hP2 := PSI_s hP1 (by omega)
    have hnnR : nnR K P V u1 (i + 1) (tkn4 u1 oc kc mc cc (V (i + 1))) (nI oc) 4 = (V (i + 1), atR u1 (i + 1 + 1)) := by
      rw [et]
      unfold nnR
      rw [if_pos e1, if_neg (by decide), if_neg (show ¬ nI oc = (4 : Int32) from fun z => e4 ((nI_eq (by omega) (by decide)).mp (show _ = nI 4 from z)))]
    have hoA : oA oc < 42 := by unfold oA; omega
    have hoA2 : 18 ≤ oA oc := by unfold oA; omega
    have hoA3 : oA oc + 5 ≤ 41 := by unfold oA; omega
    have h72 : (atC c1 (i + 1 + 1)).1 7 2 = nI oc := by
      unfold atC
      rw [rI, if_neg (by omega), c1f 7 2 (by omega)]
      exact hN.1.2.1
    refine wpSl ?_
    unfold midC
    dsimp only
    rw [h72]
    refine wpt (by simp (disch := first | omega | decide) only [↓neg1, nlit, rI, rL, rI2, rL1, nI_add, pk_mul, sbT, dvT, nmd, ixT, ↓ibT, ltT, ltF, leT, leF, eqT, eqF, nM_ltT, nM_ltF, nM_leT, nM_leF, nM_eqF, nM_eqF', nbT0, nbT1, oI_s, oI_n, natF, natT, nltT, nltF, nleT, nleF, ↓reduceIte, lgc, not_true_eq_false, not_false_eq_true, or_false, false_or, or_true, true_or, and_true, true_and, and_false, false_and, ne_eq, eq_self, or_self, and_self]) ?_
    rw [ix_n (show oc < 2147483648 by omega)]
    refine wpe (show d_234 n oc (V (i + 1)) (atC c1 (i + 1 + 1)) = some (pI (pL (atC c1 (i + 1 + 1)) (oA oc) 0 (V (i + 1))) (oA oc) 1 0) from rfl) ?_
    obtain ⟨c3, hc3⟩ : ∃ c3, c3 = pI (pL (atC c1 (i + 1 + 1)) (oA oc) 0 (V (i + 1))) (oA oc) 1 0 := ⟨_, rfl⟩
    rw [← hc3]
    have sc3 : sx (fun A j => decide (A = oA oc)) (atC c1 (i + 1 + 1)) c3 := by
      rw [hc3]
      exact sx_pI (sx_pL sx_rfl (decide_eq_true rfl)) (decide_eq_true rfl)
    have sc3' : sx qRO c c3 := sx_trans sc1 (sx_trans (sx_pI sx_rfl (by decide)) (sx_wide sc3 (fun A j z => by
      have := of_decide_eq_false z
      exact decide_eq_false (by omega))))
    have hP3 : PSI K P V N c3 (atR u1 (i + 1 + 1)) (i + 1 + 1) := PSI_sx hP2 sc3 (show sx (fun _ _ => false) _ _ from sx_rfl) (fun A j z => decide_eq_false (by omega)) (fun _ _ _ => rfl)
    have su2 : sx qRU u (atR u1 (i + 1 + 1)) := sx_trans su1 (sx_pI sx_rfl (by decide))
    refine wpe (e257 (b := 58) hP3 (by decide)) ?_
    by_cases e58 : K (i + 1 + 1) = 58
    rotate_left
    · rw [if_neg e58]
      refine wpSr ?_
      refine wp_of rfl (wp_of (a := flt (atR u1 (i + 1 + 1)) 2 (nI (P (i + 1 + 1)))) ?_ (Or.inr ⟨_, rfl, FLR_of (qRO_c sc3') (qRU_u su2)⟩))
      rw [d386_s, h15]
      refine eq_wp (wpl (wpe (f383 (by omega) hP1 hN1) ?_))
      rw [hnnR]
      refine wpe (e380 (b := 58) hP2 (by decide) (by decide)) ?_
      rw [if_neg e58]
      exact wpf (by rw [(flt_at (u := atR u1 (i + 1 + 1))).1]; decide) rfl
    rw [if_pos e58]
    refine wpSl ?_
    have hP4 := PSI_s hP3 (by omega)
    obtain ⟨c4, hc4⟩ : ∃ c4, c4 = atC c3 (i + 1 + 1 + 1) := ⟨_, rfl⟩
    obtain ⟨u3, hu3⟩ : ∃ u3, u3 = atR (atR u1 (i + 1 + 1)) (i + 1 + 1 + 1) := ⟨_, rfl⟩
    rw [← hc4, ← hu3] at hP4
    rw [← hc4]
    have sc4 : sx qRO c c4 := by
      rw [hc4]
      exact sx_trans sc3' (sx_pI sx_rfl (by decide))
    have su3 : sx qRU u u3 := by
      rw [hu3]
      exact sx_trans su2 (sx_pI sx_rfl (by decide))
    have u3f : ∀ A k, ¬ (A = 174 ∧ k = 67) → u3.1 A k = u.1 A k := fun A k z => by
      rw [hu3]
      unfold atR
      rw [rI, if_neg z, rI, if_neg z]
      exact u1f A k z
    have u3v : ∀ A k, u3.2 A k = u.2 A k := fun A k => by
      rw [hu3]
      exact u1v A k
    have c4f : ∀ A k, A ≠ 145 → A ≠ oA oc → c4.1 A k = c.1 A k := fun A k z1 z2 => by
      rw [hc4]
      unfold atC
      rw [rI, if_neg (by omega), sc3.1 A k (decide_eq_false z2)]
      unfold atC
      rw [rI, if_neg (by omega)]
      exact c1f A k z1
    have c4v : ∀ A k, A ≠ oA oc → c4.2 A k = c.2 A k := fun A k z2 => by
      rw [hc4]
      show c3.2 A k = _
      rw [sc3.2 A k (decide_eq_false z2)]
      exact c1v A k
    have c41 : c4.1 (oA oc) 1 = nI 0 := by
      rw [hc4]
      unfold atC
      rw [rI, if_neg (by omega), hc3, rI, if_pos ⟨rfl, rfl⟩]
      rfl
    have c40 : c4.2 (oA oc) 0 = V (i + 1) := by
      rw [hc4, hc3]
      show (pL (atC c1 (i + 1 + 1)) (oA oc) 0 (V (i + 1))).2 (oA oc) 0 = _
      rw [rL, if_pos ⟨rfl, rfl⟩]
    obtain ⟨x29, hx, hx1, hx2⟩ := wp_ex (ini_r (n := n) (o := oc) (u := pI u3 182 oc 0) (by omega) (by omega))
    have x182 : x29.1 182 oc = nI 0 := by
      rw [hx2.1 182 oc (decide_eq_false (by omega)), rI, if_pos ⟨rfl, rfl⟩]
      rfl
    have sx3 : sx (fun A k => decide ((A = 182 ∧ k = oc) ∨ (A = 184 ∧ 144 * oc ≤ k ∧ k < 144 * oc + 144))) u3 x29 := sx_trans (sx_pI sx_rfl (decide_eq_true (by omega))) (sx_wide hx2 (fun A k z => by
      have := of_decide_eq_false z
      exact decide_eq_false (by omega)))
    have hD : d_386 n u1 = Option.bind (whl (orR n (nI oc)) n (1, x29)) (finR n (nI oc) (nI (i + 1)) (V (i + 1))) := by
      rw [d386_s, h15, hP1.2.2.2.1]
      show Option.bind (d_383 n (nI oc) 4 u1) _ = _
      rw [f383 (by omega) hP1 hN1, hnnR]
      show Option.bind (d_380 n 58 (atR u1 (i + 1 + 1))) _ = _
      have h380 := e380 (n := n) (b := 58) hP2 (by decide) (by decide)
      rw [if_pos e58, ← hu3] at h380
      rw [show d_380 n 58 (atR u1 (i + 1 + 1)) = some u3 from h380]
      show (if u3.1 174 13 = 0 then lt (u3.1 174 15) _ else some u3) = _
      rw [if_pos (show u3.1 174 13 = 0 from hP4.2.2.2.2), u3f 174 15 (by omega), hN.1.2.2.1]
      show (if ib (nI oc) 4 then lt (pI u3 182 (ix (nI oc)) 0) _ else none) = _
      rw [if_pos (show ib (nI oc) 4 from ib_n (by omega) (by decide)), ix_n (show oc < 2147483648 by omega)]
      show Option.bind (iniR n (nI oc) (pI u3 182 oc 0)) _ = _
      rw [hx]
      rfl
    have hOR : ORS K P V N c4 x29 oc 0 (fun a b => decide (a = b)) (i + 1 + 1 + 1) := by
      refine ⟨PSI_sx hP4 (show sx (fun _ _ => false) _ _ from sx_rfl) sx3 (fun _ _ _ => rfl) (fun A k z => decide_eq_false (by omega)), by omega, c41, x182, fun e he => absurd he (Nat.not_lt_zero _), fun a ha => absurd ha (Nat.not_lt_zero _), hx1, fun _ _ _ => rfl, fun a => decide_eq_true rfl⟩
    rw [hD]
    show jw (Option.bind (whl (orC n oc) n (1, 0, c4)) (Sum.elim (finC n oc (nI (P (i + 1)))) (fun x43 : cS ⊕ cS => some x43))) (Option.bind (whl (orR n (nI oc)) n (1, x29)) (finR n (nI oc) (nI (i + 1)) (V (i + 1)))) _
    have sx29 : sx qRU u x29 := sx_trans su3 (sx_wide sx3 (fun A k z => by
      have := of_decide_eq_false z
      exact decide_eq_false (by omega)))
    refine jwb (or_lp hn (by omega) (by omega) hOR) (fun r q hrq => ?_)
    rcases hrq with ⟨d, j, E, R, rfl, j1, j2, j3, j4, j5⟩ | ⟨z, rfl, hf⟩
    · have sd : sx qRO c d := sx_trans sc4 (qO1_RO (by omega) j4)
      have sq : sx qRU u q := sx_trans sx29 (qO2_RU j5)
      have D : ∀ A k, A ≠ 145 → (A < oA oc ∨ oA oc + 2 < A) → d.1 A k = c.1 A k := fun A k z1 z2 => by
        rw [j4.1 A k (decide_eq_false (by omega)), c4f A k z1 (by omega)]
      have D2 : ∀ A k, (A < oA oc ∨ oA oc + 2 < A) → A ≠ 145 → d.2 A k = c.2 A k := fun A k z2 z1 => by
        rw [j4.2 A k (decide_eq_false (by omega)), c4v A k (by omega)]
      have Q : ∀ A k, ¬ (A = 174 ∧ k = 67) → (A = 182 → k ≠ oc) → (A = 184 → k < 144 * oc) → A ≠ 183 → q.1 A k = u.1 A k := fun A k z1 z2 z3 z4 => by
        rw [j5.1 A k (decide_eq_false (by omega)), sx3.1 A k (decide_eq_false (by omega)), u3f A k z1]
      have Q2 : ∀ A k, A ≠ 174 → A ≠ 182 → A ≠ 184 → (A = 183 → k < 12 * oc) → q.2 A k = u.2 A k := fun A k z1 z2 z3 z4 => by
        rw [j5.2 A k (decide_eq_false (by omega)), sx3.2 A k (decide_eq_false (by omega)), u3v A k]
      have hNd : NMR d q oc kc mc cc := NMR_cg hN (fun k _ => D _ _ (by omega) (by omega)) (fun o hoo => D2 _ _ (by unfold oA; omega) (by unfold oA; omega)) (fun k hk => D2 _ _ (by unfold kA; omega) (by have := hN.2.1.1; unfold kA; omega)) (fun k hk => D2 _ _ (by omega) (by omega)) (fun k hk => D2 _ _ (by omega) (by omega)) (fun k _ => Q _ _ (by omega) (by omega) (by omega) (by omega)) (fun o _ => Q2 _ _ (by omega) (by omega) (by omega) (by omega)) (fun k _ => Q2 _ _ (by omega) (by omega) (by omega) (by omega)) (fun k _ => Q2 _ _ (by omega) (by omega) (by omega) (by omega)) (fun k _ => Q2 _ _ (by omega) (by omega) (by omega) (by omega))
      have hOd : PO oc d q := by
        obtain ⟨o1, o2, o3, o4⟩ := hO
        refine ⟨o1, by rw [D _ _ (by omega) (by omega)]; exact o2, by rw [Q _ _ (by omega) (by omega) (by omega) (by omega)]; exact o3, fun o hoo => ?_⟩
        obtain ⟨E', hr⟩ := o4 o hoo
        have hne : oA o + 6 ≤ oA oc := by unfold oA; omega
        exact ⟨E', RO_cg hr (fun A k z1 z2 => ⟨D _ _ (by omega) (by omega), D2 _ _ (by omega) (by omega)⟩) ⟨Q _ _ (by omega) (by omega) (by omega) (by omega), Q _ _ (by omega) (by omega) (by omega) (by omega), Q _ _ (by omega) (by omega) (by omega) (by omega), Q2 _ _ (by omega) (by omega) (by omega) (by omega)⟩ (fun A k z1 z2 z3 z4 => Q _ _ (by omega) (by omega) (by omega) (by omega)) (fun k z1 z2 => Q2 _ _ (by omega) (by omega) (by omega) (by omega))⟩
      have hMd : ONM q oc := fun o hoo => by
        obtain ⟨m1, m2⟩ := hM o hoo
        have e : ∀ k, q.2 181 k = u.2 181 k := fun k => Q2 _ _ (by omega) (by omega) (by omega) (by omega)
        unfold fO at m1 ⊢
        rw [e o]
        refine ⟨?_, m2⟩
        rw [show (fun o' => decide (q.2 181 o' = u.2 181 o)) = (fun o' => decide (u.2 181 o' = u.2 181 o)) from funext fun k => by rw [e k]]
        exact m1
      have hfr : fO q oc (V (i + 1)) = none := by
        have e : ∀ k, q.2 181 k = u1.2 181 k := fun k => (Q2 _ _ (by omega) (by omega) (by omega) (by omega)).trans (u1v _ _).symm
        unfold tkn4 at et
        have et := (Bool.or_eq_false_iff.mp (Bool.or_eq_false_iff.mp (Bool.or_eq_false_iff.mp et).1).1).1
        unfold fO at et ⊢
        rw [show (fun o' => decide (q.2 181 o' = V (i + 1))) = (fun o' => decide (u1.2 181 o' = V (i + 1))) from funext fun k => by rw [e k]]
        cases hf : ff (fun o => decide (u1.2 181 o = V (i + 1))) oc with
        | none => rfl
        | some o =>
          rw [hf] at et
          cases et
      have h9 : q.1 179 (i + 1) = nI (P (i + 1)) := by
        rw [Q _ _ (by omega) (by omega) (by omega) (by omega), ← u1f 179 (i + 1) (by omega)]
        exact (hP1.1.2.2.1 (i + 1) hP1.2.1).2.2.1
      have hdn : d.2 (oA oc) 0 = V (i + 1) := by
        rw [j4.2 (oA oc) 0 (decide_eq_false (by omega))]
        exact c40
      refine jw_mono (fin_go hn (by omega) j2 j3 hNd hOd hMd hdn hv0 hfr h9 (by have := PSI_K hP1; omega)) (fun r q' hh => ?_)
      rcases hh with ⟨d', j', rfl, k1, k2, k3, k4, k5, k6, k7⟩ | ⟨z, rfl, hf⟩
      · exact Or.inl ⟨d', j', rfl, by omega, k2, k3, k4, k5, sx_trans sd k6, sx_trans sq k7⟩
      · exact Or.inr ⟨z, rfl, FLR_tr hf (qRO_c sd) (qRU_u sq)⟩
    · have hf' := FLR_tr hf (qRO_c sc4) (qRU_u sx29)
      refine jw_of (a := Sum.inr z) (b := q) rfl ?_ (Or.inr ⟨z, rfl, hf'⟩)
      unfold finR
      exact eq_wp (wpf (by rw [hf'.2.2.1]; decide) rfl)
end RDQ
