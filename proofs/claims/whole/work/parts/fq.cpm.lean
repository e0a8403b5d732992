/-! compile: both, whole -/
section CPMS
variable {n i j N k L tot U oc kc mc cc : Nat} {c d u v w q z : cS} {K P : Nat → Nat} {V : Nat → Int64} {b : Nat → Nat}
set_option maxHeartbeats 8000000 in
/-- behind the cutting: reading, NAMES, DEPTHS -/
theorem cp_rd (hn : 10000 ≤ n) (hA : CPA c u w v) (hT : TKR w v K P V N) (h13 : v.1 174 13 = nI 0) (hf : v.1 174 11 = nI 0 ∧ v.1 174 12 = nI 0) : jw (Option.bind (Option.bind (d_44 n w) (Sum.elim (d_45 n) (fun z => some (.inr z)))) (Sum.elim (g59 n) (fun z => some (.inr z)))) (Option.bind (d_104 n v) (fun p16 => jn (fun p17 : cS =>
      Option.bind (whl (dmR n) n (0, p17)) (enR n))
    (fun j61 =>
    if (p16.1 174 13) = 0 then
      Option.bind (d_415 n p16) (fun r48 =>
      j61 r48)
    else
      j61 p16))) (CPX N c u) := by
  obtain ⟨⟨m0, m2, m4, m7, m10⟩, n1, ⟨n2, n3, n4⟩, n5, ⟨n6, n7, n8⟩, n9⟩ := hA.1
  have hZw : ZJ w := ZJ_0 hA.1
  have hz0 : zc (Option.bind (d_44 n w) (Sum.elim (d_45 n) (fun z => some (.inr z)))) (Sum.elim ZJ ZE) := zcB (z_44 hZw) (fun y hy => zcE hy (fun a ha => z_45 ha) (fun a ha => zcS ha))
  obtain ⟨r, s, y1, y2, y3⟩ := jw_ex (rd_go (n := n) hn ⟨hT, h13, n8, ⟨m2, m4, m7, m10⟩, ⟨n2, n3, n4, n1⟩, n5⟩)
  have hZr := hz0 r y1
  have hq0 : ZR s := z_104 (fun _ => hf) s y2
  -- where something is wrong behind the reading
  have hwr : ∀ {p16 : cS} {Q : Int32 × cS → Prop}, p16.1 174 13 = nI 1 → Q (0, pI p16 174 0 1) → wp (jn (fun p17 : cS =>
      Option.bind (whl (dmR n) n (0, p17)) (enR n))
    (fun j61 =>
    if (p16.1 174 13) = 0 then
      Option.bind (d_415 n p16) (fun r48 =>
      j61 r48)
    else
      j61 p16)) Q := fun {p16 Q} h hQ => wpj (wpf (ne13 h) (wpe (dmR_w (by omega) h) (wp_of (enR_w h) hQ)))
  rcases y3 with ⟨d, i, oc, kc, mc, cc, U, tot, rfl, hK, hcc, hC, sc, su⟩ | ⟨z, rfl, hF⟩
  rotate_left
  · exact wpe y1 (wpSr (wp_of rfl (wpe y2 (hwr hF.2.2.1 (CPA_F hA hF hZr)))))
  have hZd : ZJ d := hZr
  have s13 : s.1 174 13 = nI 0 := hC.1.2.2.2.2
  obtain ⟨r2, s2, t1, t2, t3⟩ := jw_ex (ns_go hn hC hcc)
  have hZ2 := z_286 hZd r2 t1
  have hq2 : ZR s2 := z_415 hq0 s2 t2
  have hR2 : ∀ {Q : Int32 × cS → Prop}, wp (Option.bind (whl (dmR n) n (0, s2)) (enR n)) Q → wp (Option.bind (d_104 n v) (fun p16 => jn (fun p17 : cS =>
      Option.bind (whl (dmR n) n (0, p17)) (enR n))
    (fun j61 =>
    if (p16.1 174 13) = 0 then
      Option.bind (d_415 n p16) (fun r48 =>
      j61 r48)
    else
      j61 p16))) Q := fun {Q} h => wpe y2 (wpj (wpt s13 (wpe t2 h)))
  have hC2 : ∀ {Q : (Int32 × cS) ⊕ cS → Prop}, wp ((Sum.elim (fun r8 : cS =>
  Option.bind (d_288 n r8) (Sum.elim (e59 n)
  (fun z11 => some (.inr z11))))
  (fun z9 : cS => some (.inr z9)) r2 : Option ((Int32 × cS) ⊕ cS))) Q → wp (Option.bind (Option.bind (d_44 n w) (Sum.elim (d_45 n) (fun z => some (.inr z)))) (Sum.elim (g59 n) (fun z => some (.inr z)))) Q := fun {Q} h => by
    refine wpe y1 (wpSl ?_)
    unfold g59
    exact wpe t1 h
  rcases t3 with ⟨d2, rfl, hS⟩ | ⟨z, rfl, hF⟩
  rotate_left
  · exact hC2 (wpSr (wp_of rfl (hR2 (wpe (dmR_w (by omega) hF.2.2.1) (wp_of (enR_w hF.2.2.1) (CPA_F hA (FLR_tr hF sc su) hZ2))))))
  have hZd2 : ZJ d2 := hZ2
  have sc2 : sx QRc w d2 := sx_trans sc (qNc_c hS.1)
  have su2 : sx QRu v s2 := sx_trans su (qNu_u hS.2.1)
  obtain ⟨r3, s3, x1, x2, x3⟩ := jw_ex (dl_go hn (DALL_of hC hcc hS))
  have hZ3 := z_288 hZd2 r3 x1
  have hq3 : ZR s3 := (zcW (I := fun s : Int32 × cS => ZR s.2) (X := ZR) (f := dmR n) (fun s hs => by
    unfold dmR
    exact zcI (fun _ => zcS hs) (fun _ => zcI (fun _ => zcB0 (fun v20 => zcJ (P := ZR) (fun p hp => zcl (fun _ => zcS hp)) (fun j89 hj => zcI (fun _ => hj _ hs) (fun _ => zcB (z_419 hs) (fun r hr => hj r hr))))) (fun _ => zcS hs))) (n := n) (s := ((0 : Int32), s2)) hq2) s3 x2
  rcases x3 with ⟨d3, rfl, hD⟩ | ⟨z, rfl, hF⟩
  rotate_left
  · exact hC2 (wpSl (wpe x1 (wpSr (wp_of rfl (hR2 (wpe x2 (wp_of (enR_w hF.2.2.1) (CPA_F hA (FLR_tr hF sc2 su2) hZ3))))))))
  have hZd3 : ZJ d3 := hZ3
  have sc3 : sx QRc w d3 := sx_trans sc2 (sx_wide hD.1 (fun A l y => by
    have := of_decide_eq_false y
    exact decide_eq_false (by omega)))
  have su3 : sx QRu v s3 := sx_trans su2 (sx_wide hD.2.1 (fun A l y => by
    have := of_decide_eq_false y
    exact decide_eq_false (by omega)))
  have hFR : FRN d3 s3 oc kc mc U := (fin_pg hC hcc hS hD sx_rfl sx_rfl).2.2.2.2.1
  -- from reading to here
  have D3 : ∀ A l, ¬ (122 ≤ A ∧ A ≤ 125) → d3.1 A l = d.1 A l := fun A l y => by
    rw [hD.1.1 _ _ (decide_eq_false (by omega)), hS.1.1 _ _ (decide_eq_false (by omega))]
  have S3 : ∀ A l, ¬ ((214 ≤ A ∧ A ≤ 216) ∨ (229 ≤ A ∧ A ≤ 231)) → s3.1 A l = s.1 A l := fun A l y => by
    rw [hD.2.1.1 _ _ (decide_eq_false (by omega)), hS.2.1.1 _ _ (decide_eq_false (by omega))]
  have hcc12 := hC.2.2.1.2.2.2.1
  have d10 : d3.1 7 10 = nI cc := by
    rw [D3 _ _ (by omega)]
    exact hC.2.2.1.2.2.2.2.1
  have s37 : s3.1 174 37 = nI cc := by
    rw [S3 _ _ (by omega)]
    exact hC.2.2.1.2.2.2.2.2
  have s13' : s3.1 174 13 = nI 0 := by
    rw [S3 _ _ (by omega)]
    exact s13
  have hoc := hFR.1.1
  have ho := FRN_oc hFR
  -- the class's end
  obtain ⟨d4, w1, w2, w3, w4⟩ := wp_ex (e176 (n := n) (c := pI d3 7 0 1) (oc := oc) (cc := cc) hn hoc hcc12 (by rw [rI, if_neg (by omega)]; exact hFR.1.2.1) (by rw [rI, if_neg (by omega)]; exact d10))
  -- the reference's end
  obtain ⟨v0, hv0⟩ : ∃ v0, v0 = pI (pI s3 174 0 0) 174 14 1 := ⟨_, rfl⟩
  have V0 : ∀ A l, ¬ (A = 174 ∧ (l = 0 ∨ l = 14)) → v0.1 A l = s3.1 A l := fun A l y => by rw [hv0, rI, if_neg (by omega), rI, if_neg (by omega)]
  obtain ⟨v4, g1, g2, g3⟩ := wp_ex (fn_all (n := n) (u := v0) (oc := oc) hn hoc (by rw [V0 _ _ (by omega)]; exact hFR.1.2.2.1))
  have V4 : ∀ A l, ¬ (A = 235 ∨ (A = 174 ∧ (l = 0 ∨ l = 14))) → v4.1 A l = s3.1 A l := fun A l y => by
    rw [g3.1 _ _ (decide_eq_false (by omega))]
    exact V0 A l (by omega)
  have V42 : ∀ A l, A ≠ 235 → v4.2 A l = s3.2 A l := fun A l y => by
    rw [g3.2 _ _ (decide_eq_false y), hv0]
    rfl
  have hRe : enR n s3 = some (nI cc, v4) := by
    unfold enR
    refine eq_wp (wpj (wpt s13' (wpl (wpt ?_ (wpl ?_)))))
    · rw [rI, if_neg (by omega)]
      exact s13'
    · rw [← hv0]
      refine wpe g1 ?_
      rw [V4 174 37 (by omega), s37]
      exact rfl
  have D4 : ∀ A l, ¬ ((A = 146 ∧ l = 8) ∨ A = 148 ∨ (A = 7 ∧ l = 0)) → d4.1 A l = d3.1 A l := fun A l y => by
    rw [w4.1 _ _ (decide_eq_false (by omega)), rI, if_neg (by omega)]
  have D42 : ∀ A l, ¬ ((A = 146 ∧ l = 8) ∨ A = 148) → d4.2 A l = d3.2 A l := fun A l y => by
    rw [w4.2 _ _ (decide_eq_false (by omega))]
    rfl
  have hCe : e59 n d3 = some (.inl (nI cc, d4)) := by
    unfold e59
    refine eq_wp (wpl (wpe w1 ?_))
    rw [D4 7 10 (by omega), d10]
    exact rfl
  have hZ4 : ZJ d4 := by
    obtain ⟨⟨⟨tot, t1, t2⟩, hU⟩, t3, t4⟩ := hZd3
    exact ⟨⟨⟨tot, t1, by rw [D4 _ _ (by omega)]; exact t2⟩, ZM_cg hU (fun A l z => D4 _ _ (by omega))⟩, by rw [D4 _ _ (by omega)]; exact t3, by rw [D4 _ _ (by omega)]; exact t4⟩
  refine hC2 (wpSl (wpe x1 (wpSl (wp_of hCe (hR2 (wpe x2 (wp_of hRe (Or.inl ⟨nI cc, d4, v4, rfl, rfl, ?_, ?_, ?_⟩))))))))
  · rw [g3.1 _ _ rfl, hv0, rI, if_neg (by omega), rI, if_pos ⟨rfl, rfl⟩]
    rfl
  · -- what both have
    obtain ⟨p1, ⟨a1, a2, a3, a4, a5, a6⟩, ⟨b1, b2, b3, b4, b5⟩, p4, p5, p6, p7⟩ := hA
    have CC : ∀ A l, ¬ (7 ≤ A ∧ A ≤ 145) → ¬ ((A = 146 ∧ l = 8) ∨ A = 148) → d4.1 A l = w.1 A l := fun A l y y' => by
      rw [D4 _ _ (by omega)]
      exact sc3.1 _ _ (decide_eq_false (by omega))
    have RR : ∀ l, ¬ ((11 ≤ l ∧ l ≤ 15) ∨ l = 24 ∨ l = 34 ∨ l = 37 ∨ l = 67 ∨ l = 68 ∨ l = 0) → v4.1 174 l = v.1 174 l := fun l y => by
      rw [V4 _ _ (by omega)]
      exact su3.1 _ _ (decide_eq_false (by omega))
    refine ⟨⟨by rw [CC _ _ (by omega) (by omega)]; exact p1.2.2.2.2.2, by rw [RR _ (by omega)]; exact p4⟩, ⟨?_, ?_⟩, hZ4.1.1, ⟨by rw [CC _ _ (by omega) (by omega)]; exact a1, by rw [CC _ _ (by omega) (by omega)]; exact a2, fun j hj => by rw [CC _ _ (by omega) (by omega)]; exact a3 j hj, by rw [CC _ _ (by omega) (by omega)]; exact a4, by rw [CC _ _ (by omega) (by omega)]; exact a5, by rw [CC _ _ (by omega) (by omega)]; exact a6⟩, ⟨by rw [RR _ (by omega)]; exact b1, by rw [RR _ (by omega)]; exact b2, by rw [RR _ (by omega)]; exact b3, by rw [RR _ (by omega)]; exact b4, by rw [RR _ (by omega)]; exact b5⟩, ?_, ?_⟩
    · rw [hZ4.2.1, V4 _ _ (by omega)]
      exact (hq3 s13').1.symm
    · rw [hZ4.2.2, V4 _ _ (by omega)]
      exact (hq3 s13').2.symm
    · exact sx_trans p6 (sx_trans (sx_wide sc3 (fun A l y => by
        have := of_decide_eq_false y
        exact decide_eq_false (by omega))) (sx_trans (sx_pI sx_rfl (by decide)) (sx_wide w4 (fun A l y => by
        have := of_decide_eq_false y
        exact decide_eq_false (by omega)))))
    · refine sx_trans p7 (sx_trans (sx_wide su3 (fun A l y => by
        have := of_decide_eq_false y
        exact decide_eq_false (by omega))) (sx_trans ?_ (sx_wide g3 (fun A l y => by
        have := of_decide_eq_false y
        exact decide_eq_false (by omega)))))
      rw [hv0]
      exact sx_pI (sx_pI sx_rfl (by decide)) (by decide)
  · -- a program
    have s4 : sx (fun A l => decide ((A = 7 ∧ l = 0) ∨ (A = 146 ∧ l = 8) ∨ A = 148)) d3 d4 := sx_trans (sx_pI sx_rfl (by decide)) (sx_wide w4 (fun A l y => by
      have := of_decide_eq_false y
      exact decide_eq_false (by omega)))
    have s5 : sx (fun A l => decide ((A = 174 ∧ (l = 0 ∨ l = 14)) ∨ A = 235)) s3 v4 := by
      refine sx_trans ?_ (sx_wide g3 (fun A l y => by
        have := of_decide_eq_false y
        exact decide_eq_false (by omega)))
      rw [hv0]
      exact sx_pI (sx_pI sx_rfl (by decide)) (by decide)
    obtain ⟨hPG, hWB, hCN, hBT, hFR4, hRow⟩ := fin_pg hC hcc hS hD s4 s5
    have ho4 := FRN_oc hFR4
    have hc4 : cc = ccn v4 := by
      unfold ccn
      rw [V4 _ _ (by omega), s37, ix_n (by omega)]
    obtain ⟨-, V', F', sz', X', Y', hU'⟩ := hZ4.1
    have hUU : V' = U := by
      have e1 := hU'.2.2.1
      have e2 : d4.1 133 13 = nI U := by
        rw [D4 _ _ (by omega), D3 _ _ (by omega)]
        exact hC.2.2.2.1.2.2.1
      have h1 := hU'.1
      have h2 := hC.2.2.2.1.2.2.2
      have h3 := PSI_K hC.1
      rw [e1] at e2
      exact (nI_eq (by omega) (by omega)).mp e2
    refine ⟨?_, ?_, hPG, hWB, hCN, ⟨by rw [w2]; exact Or.inr rfl, fun y => ?_⟩, fd_of hcc12 hFR4.1 ho4 hc4 (fun o p ho' hp => ?_) (fun o p ho' hp => ?_), hBT, V', F', sz', X', Y', hU', ?_⟩
    · rw [w4.1 _ _ (decide_eq_false (by omega)), rI, if_pos ⟨rfl, rfl⟩]
      rfl
    · rw [g3.1 _ _ rfl, hv0, rI, if_pos ⟨rfl, rfl⟩]
      rfl
    · rw [w2] at y
      exact absurd y (by decide)
    · rw [w3 o p ho' hp, D4 (oA o) 2 (by unfold oA; omega), rI, if_neg (by unfold oA; omega)]
    · rw [g2 o p ho' hp]
      exact (g3.1 187 o rfl).symm
    · have h2 := hC.2.2.2.1.2.2.2
      have h3 := hC.1.2.1
      omega
theorem CPX_le {L' : Nat} {r : (Int32 × cS) ⊕ cS} {s : Int32 × cS} (hL : L ≤ L') (h : CPX L c u r s) : CPX L' c u r s := by
  rcases h with ⟨k, d, w, h1, h2, h3, h4, a1, a2, a3, a4, a5, a6, a7, a8, V, F, sz, X, Y, b1, b2⟩ | h
  · exact Or.inl ⟨k, d, w, h1, h2, h3, h4, a1, a2, a3, a4, a5, a6, a7, a8, V, F, sz, X, Y, b1, by omega⟩
  · exact Or.inr h
set_option maxHeartbeats 8000000 in
/-- compile -/
theorem c_compile {tot : Nat} (hn : 10000 ≤ n) (hT : JT c u) (hW : WV c) (ht : tot ≤ 1024) (h7 : c.1 114 7 = nI tot) : jw (d_59 n c) (d_106 n u) (CPX (ix (c.1 1 1)) c u) := by
  obtain ⟨L, hL, l1, l2, l3⟩ := hT
  obtain ⟨b, hb⟩ : ∃ b : Nat → Nat, b = fun i => ix (u.1 175 i) := ⟨_, rfl⟩
  have hbv : ∀ i, i < L → b i < 256 ∧ u.1 175 i = nI (b i) ∧ c.1 2 i = sb (b i) := fun i hi => by
    obtain ⟨x, x1, x2, x3⟩ := l3 i hi
    have : b i = x := by
      rw [hb]
      dsimp only
      rw [x2, ix_n (by omega)]
    rw [this]
    exact ⟨x1, x2, x3⟩
  obtain ⟨N, hN, hX⟩ := LXN_ex (b := b) (L := L)
  -- the class
  obtain ⟨x1, a1, a2, a3⟩ := wp_ex (e90 (n := n) (c := c) hn ht h7)
  have X1 : ∀ A l, ¬ (A = 126 ∨ A = 162 ∨ (A = 150 ∧ (l = 3 ∨ l = 6 ∨ l = 16)) ∨ (A = 167 ∧ 7 ≤ l ∧ l ≤ 9)) → x1.1 A l = c.1 A l ∧ x1.2 A l = c.2 A l := fun A l y => ⟨a2.1 _ _ (decide_eq_false y), a2.2 _ _ (decide_eq_false y)⟩
  have hW1 : WV x1 := fun w hw => by
    rw [(X1 6 w (by omega)).2]
    exact hW w hw
  have hT1 : TAP x1 b L := ⟨hL, by rw [(X1 _ _ (by omega)).1]; exact l1, fun j hj => ⟨(hbv j hj).1, by rw [(X1 _ _ (by omega)).1]; exact (hbv j hj).2.2⟩⟩
  obtain ⟨r, b1, w, b2, b3, b4, b5⟩ := wp_ex (e40 (n := n) hn hW1 hT1 hX)
  -- the reference
  obtain ⟨y1, c1, c2, c3⟩ := wp_ex (e133 (n := n) (u := uR0 u))
  have Y1 : ∀ A l, ¬ (A = 174 ∧ (l = 2 ∨ (11 ≤ l ∧ l ≤ 14) ∨ l = 106 ∨ l = 111 ∨ l = 97 ∨ l = 102 ∨ l = 130)) → y1.1 A l = u.1 A l := fun A l y => by
    rw [c2.1 _ _ (decide_eq_false (by omega))]
    unfold uR0
    rw [rI, if_neg (by omega), rI, if_neg (by omega), rI, if_neg (by omega), rI, if_neg (by omega), rI, if_neg (by omega)]
  have Y2 : ∀ l, l = 2 ∨ (11 ≤ l ∧ l ≤ 14) → y1.1 174 l = nI 0 := fun l hl => by
    rw [c2.1 _ _ (decide_eq_false (by omega))]
    unfold uR0
    rw [rI]
    by_cases e14 : l = 14
    · rw [if_pos ⟨rfl, e14⟩]
      rfl
    rw [if_neg (by omega), rI]
    by_cases e12 : l = 12
    · rw [if_pos ⟨rfl, e12⟩]
      rfl
    rw [if_neg (by omega), rI]
    by_cases e11 : l = 11
    · rw [if_pos ⟨rfl, e11⟩]
      rfl
    rw [if_neg (by omega), rI]
    by_cases e13 : l = 13
    · rw [if_pos ⟨rfl, e13⟩]
      rfl
    rw [if_neg (by omega), rI, if_pos ⟨rfl, by omega⟩]
    rfl
  obtain ⟨v, d1, d2, d3⟩ := wp_ex (e99 (n := n) (u := y1) (b := b) (L := L) (N := N) hn hL (fun j hj => ⟨(hbv j hj).1, by rw [Y1 _ _ (by omega)]; exact (hbv j hj).2.1⟩) (Y2 13 (by omega)) hX)
  have D2 : ∀ A l, ¬ ((A = 174 ∧ (l = 7 ∨ (11 ≤ l ∧ l ≤ 13))) ∨ (178 ≤ A ∧ A ≤ 180)) → v.1 A l = y1.1 A l := fun A l y => d2.1 _ _ (decide_eq_false y)
  have B4 : ∀ A l, ¬ ((A = 1 ∧ (l = 1 ∨ l = 6 ∨ l = 7)) ∨ (3 ≤ A ∧ A ≤ 5) ∨ (A = 7 ∧ (l = 0 ∨ l = 2 ∨ l = 4 ∨ l = 7 ∨ l = 10)) ∨ (A = 114 ∧ l = 7) ∨ (A = 133 ∧ 11 ≤ l ∧ l ≤ 13) ∨ A = 144 ∨ (A = 145 ∧ (l = 4 ∨ l = 5 ∨ l = 7))) → w.1 A l = x1.1 A l := fun A l y => b4.1 _ _ (decide_eq_false y)
  obtain ⟨f1, f2, f3, f4, f5, f6, f7, f8⟩ := a3
  obtain ⟨k1, k2, k3, k4, k5⟩ := c3
  have hA : CPA c u w v := by
    refine ⟨b2, ⟨by rw [B4 _ _ (by omega)]; exact f1, by rw [B4 _ _ (by omega)]; exact f3, fun j hj => by rw [B4 _ _ (by omega)]; exact f5 j hj, by rw [B4 _ _ (by omega)]; exact f6, by rw [B4 _ _ (by omega)]; exact f7, by rw [B4 _ _ (by omega)]; exact f8⟩, ⟨by rw [D2 _ _ (by omega)]; exact k1, by rw [D2 _ _ (by omega)]; exact k2, by rw [D2 _ _ (by omega)]; exact k3, by rw [D2 _ _ (by omega)]; exact k4, by rw [D2 _ _ (by omega)]; exact k5⟩, by rw [D2 _ _ (by omega)]; exact Y2 2 (by omega), by rw [D2 _ _ (by omega)]; exact Y2 14 (by omega), ?_, ?_⟩
    · exact sx_trans (sx_wide a2 (fun A l y => by
        have := of_decide_eq_false y
        exact decide_eq_false (by omega))) (sx_wide b4 (fun A l y => by
        have := of_decide_eq_false y
        exact decide_eq_false (by omega)))
    · refine sx_trans (sx_trans ?_ (sx_wide c2 (fun A l y => by
        have := of_decide_eq_false y
        exact decide_eq_false (by omega)))) (sx_wide d2 (fun A l y => by
        have := of_decide_eq_false y
        exact decide_eq_false (by omega)))
      exact sx_pI (sx_pI (sx_pI (sx_pI (sx_pI sx_rfl (by decide)) (by decide)) (by decide)) (by decide)) (by decide)
  have eL : ix (c.1 1 1) = L := by
    rw [l1, ix_n (by omega)]
  rw [d59_s, d106_s, l2, eL]
  rcases b5 with ⟨z1, rfl, z3, z4⟩ | ⟨z1, z2, rfl⟩
  · rcases d3 with ⟨-, e2, e3, e4, e5⟩ | ⟨e1, -⟩
    rotate_left
    · omega
    have hTK := TKR_of (c := w) (u := v) hL (fun j hj => (hbv j hj).1) hX z1 b3 z3 z4 e3 e4 e5
    have hf : v.1 174 11 = nI 0 ∧ v.1 174 12 = nI 0 := (z_99 (fun _ => ⟨Y2 11 (by omega), Y2 12 (by omega)⟩) v d1) e2
    obtain ⟨r, q, p1, p2, p3⟩ := jw_ex (cp_rd hn hA hTK e2 hf)
    exact wpe a1 (wpe b1 (wpSl (wp_of p1 (wpe c1 (wpe d1 (wpj (wpt e2 (wp_of p2 (CPX_le hN p3)))))))))
  · rcases d3 with ⟨e1, -⟩ | ⟨-, -, e3, e4, e5⟩
    · omega
    refine wpe a1 (wpe b1 (wpSr (wp_of rfl (wpe c1 (wpe d1 (wpj (wpf (ne13 e3) (wpj (wpf (ne13 e3) (wpe (dmR_w (by omega) e3) (wp_of (enR_w e3) ?_)))))))))))
    have hZ : ZE (flC w 1 (nI (psn b L N))) := ZE_pI (ZE_pI (ZJ_0 b2).1 (by decide)) (by decide)
    refine CPA_F hA ⟨?_, ?_, e3, sx_pI (sx_pI sx_rfl (by decide)) (by decide), sx_rfl⟩ hZ
    · unfold flC
      rw [rI, if_neg (by omega), rI, if_pos ⟨rfl, rfl⟩, e4]
      rfl
    · unfold flC
      rw [rI, if_pos ⟨rfl, rfl⟩, e5]
end CPMS
