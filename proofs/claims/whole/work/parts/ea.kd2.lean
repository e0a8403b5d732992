/-! READING a KIND: whole -/
section KD2
variable {n i j j0 N k p b m U oc kc mc cc : Nat} {c d u w v w0 v0 : cS} {K P : Nat → Nat} {V : Nat → Int64} {nm : Int64}
def kr2 (n : Nat) (v4 : Int32) (nm : Int64) (c : cS) : Option cS :=
    if ib v4 12 then
    lt (pI c 190 (ix v4) 0) (fun c7 =>
    Option.bind (d_379 n 40 c7) (fun r9 =>
    jn (kr3 n v4 nm)
    (fun j77 =>
    if r9.1 = 0 then
      j77 r9.2
    else
      Option.bind (whl (mlpR n v4) n (1, r9.2))
      (fun x59 : cS =>
        Option.bind (d_380 n 41 x59) (fun r60 =>
        j77 r60)))))
    else none
theorem d400_2 : d_400 n c = Option.bind (d_383 n (c.1 174 24) 12 c) (fun r1 =>
  if (r1.2.1 174 13) = 0 then kr2 n (r1.2.1 174 24) r1.1 r1.2 else some r1.2) := rfl
/-- a fresh KIND -/
theorem e217n (hn : 10000 ≤ n) : wp (d_217 n k nm w) (fun d => d.2 (kA k) 0 = nm ∧ d.1 (kA k) 1 = nI 0 ∧ d.1 (kA k) 6 = nI 15 ∧ (∀ s, s < 16 → d.1 (kA k + 5) s = nM) ∧ sx (fun A _ => decide (A = kA k ∨ A = kA k + 5)) w d) := by
  unfold d_217
  refine wpl (wpl (wpl (wpl (wpl (wpc (e153 hn (by decide)) (fun r hr => ?_))))))
  obtain ⟨h1, h2, h3⟩ := hr
  have hA : ∀ l, r.1 (kA k) l = (pI (pI (pI (pI (pL w (kA k) 0 nm) (kA k) 1 0) (kA k) 6 15) (kA k) 7 0) (kA k) 8 0).1 (kA k) l := fun l => congrFun (h2 (kA k) (by omega)) l
  refine ⟨?_, ?_, ?_, fun s hs => ?_, ⟨fun A l z => ?_, fun A l z => ?_⟩⟩
  · rw [h3]
    show (pL w (kA k) 0 nm).2 (kA k) 0 = _
    rw [rL, if_pos ⟨rfl, rfl⟩]
  · rw [hA, rI, if_neg (by omega), rI, if_neg (by omega), rI, if_neg (by omega), rI, if_pos ⟨rfl, rfl⟩]
    rfl
  · rw [hA, rI, if_neg (by omega), rI, if_neg (by omega), rI, if_pos ⟨rfl, rfl⟩]
    rfl
  · rw [h1, if_pos hs]
    rfl
  · have z := of_decide_eq_false z
    rw [congrFun (h2 A (by omega)) l, rI, if_neg (by omega), rI, if_neg (by omega), rI, if_neg (by omega), rI, if_neg (by omega)]
    rfl
  · have z := of_decide_eq_false z
    rw [h3]
    show (pL w (kA k) 0 nm).2 A l = _
    rw [rL, if_neg (by omega)]
theorem kd2 (hn : 10000 ≤ n) (hk : k < 12) (hP : PSI K P V N w v j) (hj : j0 ≤ j) (hU : 2 * U ≤ j) (hV : ENV w v oc k mc cc) (h11 : w.1 133 11 = nI U) (h12 : w.1 133 12 = nM) (h13 : w.1 133 13 = nI U) (h144 : w.1 144 (1200 + k) = nI 0) (hE : ∀ t, t < k → GVE w t) (sc : sx (qKc k U) w0 w) (su : sx (qKu k) v0 v) : jw (kc2 n (nm, w)) (kr2 n (nI k) nm v) (KP4 K P V N w0 v0 oc k U j0 nm) := by
  have hik : ib (nI k) 12 := ib_n hk (by decide)
  have ek : ix (nI k) = k := ix_n (by omega)
  have h74 : w.1 7 4 = nI k := hV.1.2.2.1
  have hk5 : kA k + 5 < 120 ∧ 42 ≤ kA k := by unfold kA; omega
  obtain ⟨w1, hw1, f1, f2, f3, f4, f5⟩ := wp_ex (e217n (n := n) (k := k) (nm := nm) (w := w) hn)
  have dd : ∀ A l, A ≠ kA k → A ≠ kA k + 5 → w1.1 A l = w.1 A l ∧ w1.2 A l = w.2 A l := fun A l z1 z2 => ⟨f5.1 _ _ (decide_eq_false (by omega)), f5.2 _ _ (decide_eq_false (by omega))⟩
  have hP1 : PSI K P V N w1 (pI v 190 k 0) j := PSI_sx hP f5 (sx_pI (r := fun A _ => decide (A = 190)) sx_rfl (decide_eq_true rfl)) (fun A l z => decide_eq_false (by omega)) (fun A l z => decide_eq_false (by omega))
  have hB0 : MBD w1 (pI v 190 k 0) k 0 := ⟨by omega, f2, by rw [rI, if_pos ⟨rfl, rfl⟩]; rfl, fun j hj => absurd hj (Nat.not_lt_zero _), fun j hj => absurd hj (Nat.not_lt_zero _)⟩
  have hM1 : KMR w1 (pI v 190 k 0) oc k mc cc U := by
    refine ⟨ENV_k hV (fun A l z => dd A l (by unfold kcR at z; unfold kA at *; omega) (by unfold kcR at z; unfold kA at *; omega)) (fun A l z => ⟨by unfold kuR at z; rw [rI, if_neg (by omega)], rfl⟩), by rw [(dd _ _ (by omega) (by omega)).1]; exact h11, by rw [(dd _ _ (by omega) (by omega)).1]; exact h12, by rw [(dd _ _ (by omega) (by omega)).1]; exact h13, by rw [(dd _ _ (by omega) (by omega)).1]; exact h144, f4, fun t ht s hs => ?_⟩
    rw [(dd _ _ (by unfold kA; omega) (by unfold kA; omega)).1]
    exact hE t ht s hs
  obtain ⟨B, j1, w2, v2, x1, x2, x3, x4, x5, x6, -, -, -⟩ := opt_s (n := n) (b := 40) hP1 (by decide) (by decide)
  have nxt : ∀ {w3 v3 : cS} {j3 p : Nat}, PSI K P V N w3 v3 j3 → j1 ≤ j3 → MBD w3 v3 k p → w3.2 (kA k) 0 = nm → w3.1 (kA k) 6 = nI 15 → sx (qMBc k) w1 w3 → sx (qMBu k) (pI v 190 k 0) v3 → jw (kc3 n k w3) (kr3 n (nI k) nm v3) (KP4 K P V N w0 v0 oc k U j0 nm) := fun {w3 v3 j3 p} a1 a2 a3 a4 a5 a6 a7 => by
    have hc : ∀ A l, ¬ ((A = 145 ∧ l = 7) ∨ (A = kA k ∧ l = 1) ∨ (kA k < A ∧ A ≤ kA k + 4)) → w3.1 A l = w1.1 A l ∧ w3.2 A l = w1.2 A l := fun A l z => ⟨a6.1 _ _ (decide_eq_false z), a6.2 _ _ (decide_eq_false z)⟩
    have hu : ∀ A l, ¬ ((A = 174 ∧ (l = 67 ∨ l = 68)) ∨ (A = 190 ∧ l = k) ∨ (191 ≤ A ∧ A ≤ 194 ∧ 4 * k ≤ l ∧ l < 4 * k + 4)) → v3.1 A l = (pI v 190 k 0).1 A l ∧ v3.2 A l = (pI v 190 k 0).2 A l := fun A l z => ⟨a7.1 _ _ (decide_eq_false z), a7.2 _ _ (decide_eq_false z)⟩
    refine kd3 (p := p) hn hk a1 (by omega) (by omega) a4 a3 a5 (KMR_cg hM1 hk (fun A l z => hc A l (by unfold kcR at z; unfold kA at *; omega)) (fun A l z => hu A l (by unfold kuR at z; omega))) (sx_trans sc (sx_trans (sx_wide f5 (fun A l z => ?_)) (sx_wide a6 (fun A l z => ?_)))) (sx_trans su (sx_trans (sx_pI sx_rfl (decide_eq_true (by omega))) (sx_wide a7 (fun A l z => ?_))))
    · have := of_decide_eq_false z
      exact decide_eq_false (by omega)
    · have := of_decide_eq_false z
      exact decide_eq_false (by omega)
    · have := of_decide_eq_false z
      exact decide_eq_false (by omega)
  have s2 : sx (qMBc k) w1 w2 := sx_wide x5 (fun A l z => by
    have := of_decide_eq_false z
    exact decide_eq_false (by omega))
  have t2 : sx (qMBu k) (pI v 190 k 0) v2 := sx_wide x6 (fun A l z => by
    have := of_decide_eq_false z
    exact decide_eq_false (by omega))
  have hB2 : MBD w2 v2 k 0 := MBD_c2 hB0 (fun A l z => ⟨x5.1 _ _ (decide_eq_false (by omega)), x5.2 _ _ (decide_eq_false (by omega))⟩) (fun A l z => ⟨x6.1 _ _ (decide_eq_false (by omega)), x6.2 _ _ (decide_eq_false (by omega))⟩)
  have g0 : w2.2 (kA k) 0 = nm := by
    rw [x5.2 _ _ (decide_eq_false (by omega))]
    exact f1
  have g6 : w2.1 (kA k) 6 = nI 15 := by
    rw [x5.1 _ _ (decide_eq_false (by omega))]
    exact f3
  have hC : ∀ Q : cS ⊕ cS → Prop, wp (if bI B = 0 then kc3 n k w2 else Option.bind (d_265 n k w2) (Sum.elim (kc3 n k) (fun z35 => some (.inr z35)))) Q → wp (kc2 n (nm, w)) Q := fun Q h => by
    unfold kc2
    dsimp only
    rw [h74, ek]
    exact wpt hik (wpe hw1 (wpe x1 (wpj h)))
  have hR : ∀ Q : cS → Prop, wp (if bI B = 0 then kr3 n (nI k) nm v2 else Option.bind (mlpX n (nI k) v2) (kr3 n (nI k) nm)) Q → wp (kr2 n (nI k) nm v) Q := fun Q h => by
    unfold kr2
    rw [ek]
    refine wpt hik (wpl (wpe x2 (wpj ?_)))
    dsimp only
    unfold mlpX at h
    rw [Option.bind_assoc] at h
    exact h
  refine jw_up ?_ hC hR
  cases B with
  | false =>
    rw [if_pos (show bI false = 0 from rfl), if_pos (show bI false = 0 from rfl)]
    exact nxt x4 (Nat.le_refl _) hB2 g0 g6 s2 t2
  | true =>
    rw [if_neg (show ¬ bI true = 0 by decide), if_neg (show ¬ bI true = 0 by decide)]
    refine jwb (mems_go hn hk x4 hB2) (fun r q hrq => ?_)
    rcases hrq with ⟨d, j2, p, rfl, a1, a2, a3, a4, a5⟩ | ⟨z, rfl, hf⟩
    · refine nxt a2 (by omega) a3 ?_ ?_ (sx_trans s2 a4) (sx_trans t2 a5)
      · rw [a4.2 _ _ (decide_eq_false (by omega))]
        exact g0
      · rw [a4.1 _ _ (decide_eq_false (by omega))]
        exact g6
    · refine wp_of rfl (kr3_w hk hf.2.2.1 (fun q' hq => Or.inr ⟨z, rfl, qKw_F (FLR_tr hf (qKc_c (U := U) hk (sx_trans sc (sx_trans (sx_wide f5 (fun A l z => ?_)) (sx_wide s2 (fun A l z => ?_))))) (qKu_u (sx_trans su (sx_trans (sx_pI sx_rfl (decide_eq_true (by omega))) (sx_wide t2 (fun A l z => ?_)))))) hq⟩))
      · have := of_decide_eq_false z
        exact decide_eq_false (by omega)
      · have := of_decide_eq_false z
        exact decide_eq_false (by omega)
      · have := of_decide_eq_false z
        exact decide_eq_false (by omega)
/-- a new NAME, both -/
theorem new_go {B : Bool} {a b : Int32} (hn : 100 ≤ n) (hP : PSI K P V N c u i) (hN : NMR c u oc kc mc cc) (hab : a = b ↔ B = true) : (V i ≠ 0 ∧ K i = 1 ∧ tkn4 u oc kc mc cc (V i) = false ∧ B = false ∧ d_260 n (bI (tkn4 u oc kc mc cc (c.2 5 i))) (bI B) c = some (.inl (V i, atC c (i + 1))) ∧ d_383 n a b u = some (V i, atR u (i + 1)) ∧ PSI K P V N (atC c (i + 1)) (atR u (i + 1)) (i + 1)) ∨ (∃ z q x, d_260 n (bI (tkn4 u oc kc mc cc (c.2 5 i))) (bI B) c = some (.inr z) ∧ d_383 n a b u = some (x, q) ∧ FLR c u z q) := by
  have h260 := e260 (n := n) (x := bI (tkn4 u oc kc mc cc (c.2 5 i))) (y := bI B) hP
  have h383 := f383 (n := n) (a := a) (b := b) hn hP hN
  by_cases e1 : K i = 1
  · obtain ⟨hv, hv0⟩ := val_at hP e1
    rw [hv] at h260 ⊢
    cases et : tkn4 u oc kc mc cc (V i) with
    | true =>
      rw [et] at h260 h383
      refine Or.inr ⟨flC c 3 (nI (P i)), flt (atR u (i + 1)) 3 (nI (P i)), V i, ?_, ?_, FLR_of sx_rfl atR_sx⟩
      · rw [h260]
        unfold nnC
        rw [if_pos e1, if_neg (by decide)]
      · rw [h383]
        unfold nnR
        rw [if_pos e1, if_pos rfl]
    | false =>
      rw [et] at h260 h383
      cases B with
      | true =>
        refine Or.inr ⟨flC c 6 (nI (P i)), flt (atR u (i + 1)) 6 (nI (P i)), V i, ?_, ?_, FLR_of sx_rfl atR_sx⟩
        · rw [h260]
          unfold nnC
          rw [if_pos e1, if_pos (by decide), if_neg (by decide)]
        · rw [h383]
          unfold nnR
          rw [if_pos e1, if_neg (by decide), if_pos (hab.mpr rfl)]
      | false =>
        refine Or.inl ⟨hv0, e1, rfl, rfl, ?_, ?_, PSI_s hP (by omega)⟩
        · rw [h260]
          unfold nnC
          rw [if_pos e1, if_pos (by decide), if_pos (by decide)]
        · rw [h383]
          unfold nnR
          rw [if_pos e1, if_neg (by decide), if_neg (fun z => by cases hab.mp z)]
  · refine Or.inr ⟨flC c 2 (nI (P i)), flt u 2 (nI (P i)), 0, ?_, ?_, FLR_of sx_rfl sx_rfl⟩
    · rw [h260]
      unfold nnC
      rw [if_neg e1]
    · rw [h383]
      unfold nnR
      rw [if_neg e1]
theorem n_is {x y : Nat} {a b : Int32} (ha : a = nI x) (hb : b = nI y) (hx : x < 2147483648) (hy : y < 2147483648) : a = b ↔ decide (x = y) = true := by
  rw [ha, hb, nI_eq hx hy]
  exact decide_eq_true_iff.symm
def KDPr (K P : Nat → Nat) (V : Nat → Int64) (N : Nat) (c u : cS) (oc kc mc cc U i : Nat) (r : cS ⊕ cS) (q : cS) : Prop := (∃ nm, kc < 12 ∧ nm ≠ 0 ∧ tkn4 u oc kc mc cc nm = false ∧ KP4 K P V N c u oc kc U i nm r q) ∨ (∃ z, r = .inr z ∧ FLR c u z q)
theorem kd_go (hn : 10000 ≤ n) (hP : PSI K P V N c u i) (hk : K i = 201) (hN : NMR c u oc kc mc cc) (hO : PO oc c u) (hR : ∀ t, t < kc → RK c u t) (hU : 2 * U ≤ i) (h11 : c.1 133 11 = nI U) (h12 : c.1 133 12 = nM) (h13 : c.1 133 13 = nI U) (h144 : kc < 12 → c.1 144 (1200 + kc) = nI 0) (hE : ∀ t, t < kc → GVE c t) : jw (d_264 n c) (d_400 n (atR u (i + 1))) (KDPr K P V N c u oc kc mc cc U i) := by
  have hP1 := PSI_s hP (by omega)
  have hN1 : NMR (atC c (i + 1)) (atR u (i + 1)) oc kc mc cc := NMR_at hN
  have k12 := hN1.2.1.1
  have h74 := hN1.2.1.2.1
  have h24 := hN1.2.1.2.2.1
  have hC : ∀ Q : cS ⊕ cS → Prop, wp (Option.bind (d_260 n (bI (tkn4 (atR u (i + 1)) oc kc mc cc ((atC c (i + 1)).2 5 (i + 1)))) (bI (decide (kc = 12))) (atC c (i + 1))) (Sum.elim (kc2 n) (fun z6 => some (.inr z6)))) Q → wp (d_264 n c) Q := fun Q h => by
    rw [d264_s, hP.2.2.1, nI_1]
    refine wpl (wpe (f261 (by omega) hP1 hN1) (wpj ?_))
    rw [show (pI c 145 7 (nI (i + 1))).1 7 4 = nI kc from h74]
    by_cases e : kc = 12
    · rw [decide_eq_true e] at h
      exact wpf (by rw [e]; decide) h
    · rw [decide_eq_false e] at h
      exact wpt (by simp (disch := first | omega | decide) only [↓neg1, nlit, rI, rL, rI2, rL1, nI_add, pk_mul, sbT, dvT, nmd, ixT, ↓ibT, ltT, ltF, leT, leF, eqT, eqF, nM_ltT, nM_ltF, nM_leT, nM_leF, nM_eqF, nM_eqF', nbT0, nbT1, oI_s, oI_n, natF, natT, nltT, nltF, nleT, nleF, ↓reduceIte, lgc, not_true_eq_false, not_false_eq_true, or_false, false_or, or_true, true_or, and_true, true_and, and_false, false_and, ne_eq, eq_self, or_self, and_self]) h
  rcases new_go (n := n) (B := decide (kc = 12)) (a := (atR u (i + 1)).1 174 24) (b := 12) (by omega) hP1 hN1 (n_is h24 rfl (by omega) (by omega)) with ⟨x1, x2, x3, x4, x5, x6, x7⟩ | ⟨z, q, x, x1, x2, x3⟩
  · have hk12 : kc < 12 := by
      have := of_decide_eq_false x4
      omega
    have cf : ∀ A l, ¬ (A = 145 ∧ l = 7) → (atC (atC c (i + 1)) (i + 1 + 1)).1 A l = c.1 A l := fun A l z => by
      unfold atC
      rw [rI, if_neg z, rI, if_neg z]
    have uf : ∀ A l, ¬ (A = 174 ∧ l = 67) → (atR (atR u (i + 1)) (i + 1 + 1)).1 A l = u.1 A l := fun A l z => by
      unfold atR
      rw [rI, if_neg z, rI, if_neg z]
    have hV : ENV (atC (atC c (i + 1)) (i + 1 + 1)) (atR (atR u (i + 1)) (i + 1 + 1)) oc kc mc cc := ENV_k ⟨⟨hN.1, hN.2.1⟩, hO, hR⟩ (fun A l z => ⟨cf A l (by unfold kcR kA at z; omega), rfl⟩) (fun A l z => ⟨uf A l (by unfold kuR at z; omega), rfl⟩)
    have h2 := kd2 (n := n) (j0 := i) (U := U) (w0 := c) (v0 := u) (nm := V (i + 1)) hn hk12 x7 (by omega) (by omega) hV (by rw [cf _ _ (by omega)]; exact h11) (by rw [cf _ _ (by omega)]; exact h12) (by rw [cf _ _ (by omega)]; exact h13) (by rw [cf _ _ (by omega)]; exact h144 hk12) (fun t ht s hs => by rw [cf _ _ (by unfold kA; omega)]; exact hE t ht s hs) (sx_pI (sx_pI sx_rfl (decide_eq_true (by omega))) (decide_eq_true (by omega))) (sx_pI (sx_pI sx_rfl (decide_eq_true (by omega))) (decide_eq_true (by omega)))
    obtain ⟨r, q, y1, y2, y3⟩ := jw_ex (jw_up h2 (fun Q h => hC Q (wpe x5 (wpSl h))) (fun Q h => by
      show wp (d_400 n (atR u (i + 1))) Q
      rw [d400_2]
      refine wpe x6 (wpt x7.2.2.2.2 ?_)
      dsimp only
      rw [show (atR (atR u (i + 1)) (i + 1 + 1)).1 174 24 = nI kc from hV.1.2.2.2.1]
      exact h))
    exact jw_of y1 y2 (Or.inl ⟨V (i + 1), hk12, x1, x3, y3⟩)
  · refine hC _ (wpe x1 (wpSr (wp_of rfl ?_)))
    rw [d400_2]
    exact wpe x2 (wpf (by rw [x3.2.2.1]; decide) (wp_of rfl (Or.inr ⟨z, rfl, FLR_tr x3 atC_sx atR_sx⟩)))
end KD2
