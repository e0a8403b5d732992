/-! READING an ACT: from its word on -/
section ACT6
variable {n i i0 j N k M a b a0 na op L L' U U' U0 oc kc mc : Nat} {c d u w v q c' u' c0 u0 : cS} {K P : Nat → Nat} {V : Nat → Int64} {nm lb : Int64}
def aC6 (n : Nat) (v1 : Int32) (lb : Int64) (p15 : cS) : Option (cS ⊕ cS) :=
                Option.bind (d_164 n (p15.1 145 9) lb v1 p15) (fun r16 =>
                Option.bind (d_43 n r16.2) (fun v18 =>
                if ib r16.1 1024 then
                lt (pI r16.2 121 (ix r16.1) v18) (fun c20 =>
                lt (pI c20 145 7 ((c20.1 145 7) + 1)) (fun c22 =>
                Option.bind (d_281 n r16.1 c22) (Sum.elim (fun r24 =>
                Option.bind (d_257 n 59 r24) (Sum.elim (fun r26 =>
                some (.inl r26))
                (fun z27 => some (.inr z27))))
                (fun z25 => some (.inr z25)))))
                else none))
def aR6 (n : Nat) (a1 v6 v9 : Int32) (lb : Int64) (p17 : cS) : Option cS :=
            if (p17.1 174 13) = 0 then
              if ib v6 3840 then
              lt (pL p17 212 (ix v6) lb) (fun c19 =>
              if ib v9 4001 then
              if ib v6 3840 then
              lt (pI c19 213 (ix v6) (c19.1 179 (ix v9))) (fun c23 =>
              if ib (c23.1 174 67) 4001 then
              if ib v6 3840 then
              lt (pI c23 211 (ix v6) (((c23.2 180 (ix (c23.1 174 67))) : Int64).toInt32)) (fun c27 =>
              lt (pI c27 174 67 ((c27.1 174 67) + 1)) (fun c29 =>
              if ib v6 3840 then
              lt (pI c29 219 (ix v6) 0) (fun c32 =>
              if ib v6 3840 then
              lt (pI c32 216 (ix v6) (-1)) (fun c35 =>
              Option.bind (d_409 n a1 v6 c35) (fun r37 =>
              Option.bind (d_380 n 59 r37) (fun r38 =>
              if ib a1 96 then
              if ib a1 96 then
              lt (pI r38 210 (ix a1) ((r38.1 210 (ix a1)) + 1)) (fun c41 =>
              some c41)
              else none
              else none)))
              else none)
              else none))
              else none
              else none)
              else none
              else none)
              else none
            else
              some p17
theorem aR6_w {a1 v6 v9 : Int32} (h : v.1 174 13 = nI 1) : aR6 n a1 v6 v9 lb v = some v := by
  unfold aR6
  exact eq_wp (wpf (ne13 h) rfl)
/-- an ACT more, the class -/
def acW (w : cS) (M a na : Nat) (lb : Int64) (x : Int32) : cS := pI (pL (pL (pL (pI (pI (pI (pI (pI (pI (pI w 114 7 (nI (a + 1))) 120 M (nI (na + 1))) 122 a 0) 123 a 0) 124 a (-1)) 125 a (-1)) 126 a 0) 127 a lb) 128 a 0) 129 a 0) 130 a x
theorem e164 {x : Int32} (hM : M < 96) (ha : a < 1024) (h1 : w.1 114 7 = nI a) (h2 : w.1 120 M = nI na) : d_164 n (nI M) lb x w = some (nI a, acW w M a na lb x) := by
  have hiM : ib (nI M) 96 := ib_n hM (by decide)
  have eM : ix (nI M) = M := ix_n (by omega)
  have hia : ib (nI a) 1024 := ib_n ha (by decide)
  have ea : ix (nI a) = a := ix_n (by omega)
  unfold d_164
  rw [h1, nI_1, eM]
  refine eq_wp (wpl (wpl (wpt hiM (wpt hiM ?_))))
  rw [ea, show (pI w 114 7 (nI (a + 1))).1 120 M = nI na by rw [rI, if_neg (by omega)]; exact h2, nI_1]
  exact wpl (wpt hia (wpl (wpt hia (wpl (wpt hia (wpl (wpt hia (wpl (wpt hia (wpl (wpt hia (wpl (wpt hia (wpl (wpt hia (wpl (wpt hia (wpl rfl))))))))))))))))))
def ACZ (K P : Nat → Nat) (V : Nat → Int64) (N : Nat) (w v vs : cS) (k M a0 na L oc kc mc U U0 i : Nat) (r : cS ⊕ cS) (q : cS) : Prop := (∃ d j' U' L', r = .inl d ∧ U ≤ U' ∧ L ≤ L' ∧ i + 2 * (U' - U) + 2 ≤ j' ∧ PSI K P V N d q j' ∧ MAS K P V N d q k M a0 (na + 1) L' oc kc mc U' ∧ P i + 4 ≤ P j' ∧ P i + 2 * (if opn q (40 * M + na) = 20 then 4 else 1) ≤ P j' ∧ (∀ l, l < na → q.1 211 (40 * M + l) = vs.1 211 (40 * M + l) ∧ q.2 212 (40 * M + l) = vs.2 212 (40 * M + l)) ∧ (q.2 212 (40 * M + na) = 0 ∨ lbX vs M na (q.2 212 (40 * M + na)) = none) ∧ sx (qAc M a0 U0) w d ∧ sx (qAu M) v q) ∨ (∃ z, r = .inr z ∧ FLR w v z q)
theorem act6 (hn : 10000 ≤ n) (hlb : lb = 0 ∨ lbX v M na lb = none) (hM : M < 96) (hna : na < 40) (ha : a0 + na < 1024) (hi0 : i0 ≤ j) (hP : PSI K P V N w v j) (h214 : 214 ≤ K j) (hU : 2 * U ≤ j) (hUU : U0 ≤ U) (hS : MAS K P V N w v k M a0 na L oc kc mc U) (sc : sx (qAc M a0 U0) c0 w) (su : sx (qAu M) u0 v) : jw (aC6 n (nI (P i0)) lb w) (aR6 n (nI M) (nI (40 * M + na)) (nI i0) lb v) (ACZ K P V N c0 u0 v k M a0 na L oc kc mc U U0 i0) := by
  have hkK := PSI_K hP
  have hlt := PSI_lt hP (by omega)
  obtain ⟨op, hop⟩ : ∃ op, K j = 200 + op := ⟨K j - 200, by omega⟩
  have ho : 14 ≤ op ∧ op ≤ 30 := by omega
  obtain ⟨a, ea0⟩ : ∃ a, a = a0 + na := ⟨_, rfl⟩
  obtain ⟨b, eb0⟩ : ∃ b, b = 40 * M + na := ⟨_, rfl⟩
  have hb : b < 3840 := by omega
  have hiM : ib (nI M) 96 := ib_n hM (by decide)
  have eM : ix (nI M) = M := ix_n (by omega)
  have hia : ib (nI a) 1024 := ib_n (by omega) (by decide)
  have ea : ix (nI a) = a := ix_n (by omega)
  have hib : ib (nI b) 3840 := ib_n hb (by decide)
  have eb : ix (nI b) = b := ix_n (by omega)
  obtain ⟨⟨a1, a2⟩, ⟨b1, b2, b3, b4, b5⟩, s1, e1, x1, x2⟩ := hS
  rw [← ea0] at b5
  rw [← eb0]
  have hkc := e1.1.2.1
  obtain ⟨w1, hw1⟩ : ∃ w1, w1 = pI (pI (acW w M a na lb (nI (P i0))) 121 a (nI (200 + op))) 145 7 (nI (j + 1)) := ⟨_, rfl⟩
  obtain ⟨v1, hv1⟩ : ∃ v1, v1 = pI (pI (pI (pI (pI (pL v 212 b lb) 213 b (nI (P i0))) 211 b (nI op)) 174 67 (nI (j + 1))) 219 b 0) 216 b (-1) := ⟨_, rfl⟩
  have sA : sx (fun A l => decide ((A = 114 ∧ l = 7) ∨ (A = 120 ∧ l = M) ∨ (122 ≤ A ∧ A ≤ 130 ∧ l = a))) w (acW w M a na lb (nI (P i0))) := by
    unfold acW
    exact sx_pI (sx_pL (sx_pL (sx_pL (sx_pI (sx_pI (sx_pI (sx_pI (sx_pI (sx_pI (sx_pI sx_rfl (decide_eq_true (by omega))) (decide_eq_true (by omega))) (decide_eq_true (by omega))) (decide_eq_true (by omega))) (decide_eq_true (by omega))) (decide_eq_true (by omega))) (decide_eq_true (by omega))) (decide_eq_true (by omega))) (decide_eq_true (by omega))) (decide_eq_true (by omega))) (decide_eq_true (by omega))
  have sW : sx (fun A l => decide ((A = 145 ∧ l = 7) ∨ (A = 114 ∧ l = 7) ∨ (A = 120 ∧ l = M) ∨ (121 ≤ A ∧ A ≤ 130 ∧ l = a))) w w1 := by
    rw [hw1]
    exact sx_pI (sx_pI (sx_wide sA (fun A l z => by
      have := of_decide_eq_false z
      exact decide_eq_false (by omega))) (decide_eq_true (by omega))) (decide_eq_true (by omega))
  have sV : sx (fun A l => decide ((A = 174 ∧ l = 67) ∨ (211 ≤ A ∧ A ≤ 219 ∧ l = b))) v v1 := by
    rw [hv1]
    exact sx_pI (sx_pI (sx_pI (sx_pI (sx_pI (sx_pL sx_rfl (decide_eq_true (by omega))) (decide_eq_true (by omega))) (decide_eq_true (by omega))) (decide_eq_true (by omega))) (decide_eq_true (by omega))) (decide_eq_true (by omega))
  have C1 : ∀ A l, ¬ ((A = 145 ∧ l = 7) ∨ (A = 114 ∧ l = 7) ∨ (A = 120 ∧ l = M) ∨ (121 ≤ A ∧ A ≤ 130 ∧ l = a)) → w1.1 A l = w.1 A l ∧ w1.2 A l = w.2 A l := fun A l z => ⟨sW.1 _ _ (decide_eq_false z), sW.2 _ _ (decide_eq_false z)⟩
  have R1 : ∀ A l, ¬ ((A = 174 ∧ l = 67) ∨ (211 ≤ A ∧ A ≤ 219 ∧ l = b)) → v1.1 A l = v.1 A l ∧ v1.2 A l = v.2 A l := fun A l z => ⟨sV.1 _ _ (decide_eq_false z), sV.2 _ _ (decide_eq_false z)⟩
  have g121 : w1.1 121 a = nI (200 + op) := by
    rw [hw1, rI, if_neg (by omega), rI, if_pos ⟨rfl, rfl⟩]
  obtain ⟨wA, hwA⟩ : ∃ wA, wA = acW w M a na lb (nI (P i0)) := ⟨_, rfl⟩
  rw [← hwA] at hw1 sA
  have gA : ∀ A, 122 ≤ A → A ≤ 130 → w1.1 A a = wA.1 A a ∧ w1.2 A a = wA.2 A a := fun A z z' => by
    rw [hw1]
    refine ⟨?_, rfl⟩
    rw [rI, if_neg (by omega), rI, if_neg (by omega)]
  have y124 : wA.1 124 a = nM := by
    rw [hwA]
    unfold acW
    rw [rI, if_neg (by omega)]
    show (pI (pI (pI (pI (pI (pI (pI w 114 7 (nI (a + 1))) 120 M (nI (na + 1))) 122 a 0) 123 a 0) 124 a (-1)) 125 a (-1)) 126 a 0).1 124 a = _
    rw [rI, if_neg (by omega), rI, if_neg (by omega), rI, if_pos ⟨rfl, rfl⟩]
    rfl
  have y125 : wA.1 125 a = nM := by
    rw [hwA]
    unfold acW
    rw [rI, if_neg (by omega)]
    show (pI (pI (pI (pI (pI (pI (pI w 114 7 (nI (a + 1))) 120 M (nI (na + 1))) 122 a 0) 123 a 0) 124 a (-1)) 125 a (-1)) 126 a 0).1 125 a = _
    rw [rI, if_neg (by omega), rI, if_pos ⟨rfl, rfl⟩]
    rfl
  have y126 : wA.1 126 a = nI 0 := by
    rw [hwA]
    unfold acW
    rw [rI, if_neg (by omega)]
    show (pI (pI (pI (pI (pI (pI (pI w 114 7 (nI (a + 1))) 120 M (nI (na + 1))) 122 a 0) 123 a 0) 124 a (-1)) 125 a (-1)) 126 a 0).1 126 a = _
    rw [rI, if_pos ⟨rfl, rfl⟩]
    rfl
  have y130 : wA.1 130 a = nI (P i0) := by
    rw [hwA]
    unfold acW
    rw [rI, if_pos ⟨rfl, rfl⟩]
  have y127 : wA.2 127 a = lb := by
    rw [hwA]
    unfold acW
    show (pL (pL (pL (pI (pI (pI (pI (pI (pI (pI w 114 7 (nI (a + 1))) 120 M (nI (na + 1))) 122 a 0) 123 a 0) 124 a (-1)) 125 a (-1)) 126 a 0) 127 a lb) 128 a 0) 129 a 0).2 127 a = _
    rw [rL, if_neg (by omega), rL, if_neg (by omega), rL, if_pos ⟨rfl, rfl⟩]
  have y120 : wA.1 120 M = nI (na + 1) := by
    rw [hwA]
    unfold acW
    rw [rI, if_neg (by omega)]
    show (pI (pI (pI (pI (pI (pI (pI w 114 7 (nI (a + 1))) 120 M (nI (na + 1))) 122 a 0) 123 a 0) 124 a (-1)) 125 a (-1)) 126 a 0).1 120 M = _
    rw [rI, if_neg (by omega), rI, if_neg (by omega), rI, if_neg (by omega), rI, if_neg (by omega), rI, if_neg (by omega), rI, if_pos ⟨rfl, rfl⟩]
  have y114 : wA.1 114 7 = nI (a + 1) := by
    rw [hwA]
    unfold acW
    rw [rI, if_neg (by omega)]
    show (pI (pI (pI (pI (pI (pI (pI w 114 7 (nI (a + 1))) 120 M (nI (na + 1))) 122 a 0) 123 a 0) 124 a (-1)) 125 a (-1)) 126 a 0).1 114 7 = _
    rw [rI, if_neg (by omega), rI, if_neg (by omega), rI, if_neg (by omega), rI, if_neg (by omega), rI, if_neg (by omega), rI, if_neg (by omega), rI, if_pos ⟨rfl, rfl⟩]
  have hPA : PSI K P V N wA v j := PSI_sx hP sA (show sx (fun _ _ => false) _ _ from sx_rfl) (fun A l z => decide_eq_false (by omega)) (fun _ _ _ => rfl)
  have hX : ∀ {r : cS ⊕ cS} {Q : cS ⊕ cS → Prop}, d_281 n (nI a) w1 = some r → wp ((Sum.elim (fun r24 : cS =>
                Option.bind (d_257 n 59 r24) (Sum.elim (fun r26 =>
                some (.inl r26))
                (fun z27 => some (.inr z27))))
                (fun z25 : cS => some (.inr z25)) r : Option (cS ⊕ cS))) Q → wp (aC6 n (nI (P i0)) lb w) Q := fun {r Q} h h' => by
    unfold aC6
    rw [a2]
    refine wpe (e164 hM (by omega) b5 b2) ?_
    rw [← hwA]
    dsimp only
    refine wpe (e43 hPA) (wpt hia ?_)
    rw [ea, hop]
    refine wpl ?_
    rw [show (pI wA 121 a (nI (200 + op))).1 145 7 = nI j by rw [rI, if_neg (by omega)]; exact hPA.2.2.1, nI_1]
    refine wpl ?_
    rw [← hw1]
    exact wpe h h'
  have hY : ∀ {s : cS} {Q : cS → Prop}, d_409 n (nI M) (nI b) v1 = some s → wp (Option.bind (d_380 n 59 s) (fun r38 =>
              if ib (nI M) 96 then
              if ib (nI M) 96 then
              lt (pI r38 210 M ((r38.1 210 M) + 1)) (fun c41 =>
              some c41)
              else none
              else none)) Q → wp (aR6 n (nI M) (nI b) (nI i0) lb v) Q := fun {s Q} h h' => by
    have c1 : (pL v 212 b lb).1 179 i0 = nI (P i0) := (hP.1.2.2.1 i0 (by omega)).2.2.1
    have c2 : (pI (pL v 212 b lb) 213 b (nI (P i0))).1 174 67 = nI j := by
      rw [rI, if_neg (by omega)]
      exact hP.2.2.2.1
    have c3 : (pI (pL v 212 b lb) 213 b (nI (P i0))).2 180 j = (nI op).toInt64 := by
      show (pL v 212 b lb).2 180 j = _
      rw [rL, if_neg (by omega)]
      have ht := (hP.1.2.2.1 j hP.2.1).2.2.2.2
      unfold TKO at ht
      rcases ht with z | z | z | z | z | z
      · omega
      · omega
      · omega
      · omega
      · omega
      · rw [z.2.2.2, show K j - 200 = op by omega]
    have c4 : (pI (pI (pL v 212 b lb) 213 b (nI (P i0))) 211 b (nI op)).1 174 67 = nI j := by
      rw [rI, if_neg (by omega)]
      exact c2
    unfold aR6
    rw [eb, eM, show ix (nI i0) = i0 from ix_n (by omega)]
    refine wpt hP.2.2.2.2 (wpt hib (wpl (wpt (ib_n (by omega) (by decide)) (wpt hib ?_))))
    rw [c1]
    refine wpl ?_
    rw [c2, show ix (nI j) = j from ix_n (by omega), c3, Int32.toInt32_toInt64]
    refine wpt (ib_n (by omega) (by decide)) (wpt hib (wpl ?_))
    rw [c4, nI_1]
    refine wpl (wpt hib (wpl (wpt hib (wpl ?_))))
    rw [← hv1]
    exact wpe h h'
  have g67 : v1.1 174 67 = nI (j + 1) := by
    rw [hv1, rI, if_neg (by omega), rI, if_neg (by omega), rI, if_pos ⟨rfl, rfl⟩]
  have g211 : v1.1 211 b = nI op := by
    rw [hv1, rI, if_neg (by omega), rI, if_neg (by omega), rI, if_neg (by omega), rI, if_pos ⟨rfl, rfl⟩]
  have g216 : v1.1 216 b = nM := by
    rw [hv1, rI, if_pos ⟨rfl, rfl⟩]
    rfl
  have g213 : v1.1 213 b = nI (P i0) := by
    rw [hv1, rI, if_neg (by omega), rI, if_neg (by omega), rI, if_neg (by omega), rI, if_neg (by omega), rI, if_pos ⟨rfl, rfl⟩]
  have g212 : v1.2 212 b = lb := by
    rw [hv1]
    show (pL v 212 b lb).2 212 b = _
    rw [rL, if_pos ⟨rfl, rfl⟩]
  have hP1 : PSI K P V N w1 v1 (j + 1) := ⟨TKR_sx hP.1 sW sV (fun A l z1 z2 => decide_eq_false (by omega)) (fun A l z1 z2 => decide_eq_false (by omega)), hlt, by rw [hw1, rI, if_pos ⟨rfl, rfl⟩], g67, by rw [(R1 _ _ (by omega)).1]; exact hP.2.2.2.2⟩
  have hV1 : ENV w1 v1 oc kc mc 0 := ENV_k e1 (fun A l z => C1 A l (by unfold kcR kA at z; omega)) (fun A l z => R1 A l (by unfold kuR at z; omega))
  have hS1 : OPS w1 v1 M L U := OPS_cg s1 (fun A l z => C1 A l (by omega)) (fun A l z => R1 A l (by omega))
  have sc1 : sx (qAc M a0 U0) c0 w1 := sx_trans sc (sx_wide sW (fun A l z => by
    have := of_decide_eq_false z
    exact decide_eq_false (by omega)))
  have su1 : sx (qAu M) u0 v1 := sx_trans su (sx_wide sV (fun A l z => by
    have := of_decide_eq_false z
    exact decide_eq_false (by omega)))
  have F210 : ∀ {z s s' : cS}, FLR c0 u0 z s → sx (fun A l => decide (A = 210 ∧ l = M)) s s' → FLR c0 u0 z s' := fun {z s s'} h hs => FLR_sx h hs (fun A l z => by
    have := of_decide_eq_true z
    exact decide_eq_true (by omega)) (fun l z1 z2 => decide_eq_false (by omega))
  obtain ⟨r, s, o1, o2, o3⟩ := jw_ex (opn_all (n := n) (a := a) (b := b) hn (by omega) hb hM ho g121 g211 (by rw [(C1 _ _ (by omega)).1]; exact a2) hP1 (by omega) hV1 hS1 (by rw [(C1 _ _ (by omega)).1]; exact x2 a (by omega) (by omega)))
  rcases o3 with ⟨d, j', U', L', rfl, z1, z2, z3, z4, z5, z6, z7, z8, z9⟩ | ⟨z, rfl, hf⟩
  rotate_left
  · exact hX o1 (wpSr (wp_of rfl (hY o2 (wpe (e380w hf.2.2.1) (wpt hiM (wpt hiM (wpl (wp_of rfl (Or.inr ⟨z, rfl, F210 (FLR_tr hf (qAc_c sc1) (qAu_u su1)) (sx_pI sx_rfl (decide_eq_true ⟨rfl, rfl⟩))⟩)))))))))
  have sd : sx (qAc M a0 U0) c0 d := sx_trans sc1 (sx_wide z8 (fun A l z => by
    have := of_decide_eq_false z
    exact decide_eq_false (by omega)))
  have ss : sx (qAu M) u0 s := sx_trans su1 (sx_wide z9 (fun A l z => by
    have := of_decide_eq_false z
    exact decide_eq_false (by omega)))
  rcases exp_s (n := n) (b := 59) z5 (by decide) (by decide) with ⟨t1, t2, t3⟩ | ⟨t1, t2⟩
  rotate_left
  · exact hX o1 (wpSl (wpe t1 (wpSr (wp_of rfl (hY o2 (wpe t2 (wpt hiM (wpt hiM (wpl (wp_of rfl (Or.inr ⟨_, rfl, F210 (FLR_of (qAc_c sd) (qAu_u ss)) (sx_pI sx_rfl (decide_eq_true ⟨rfl, rfl⟩))⟩)))))))))))
  have D : ∀ A l, qOc a M U A l = false → d.1 A l = w1.1 A l ∧ d.2 A l = w1.2 A l := fun A l z => ⟨z8.1 _ _ z, z8.2 _ _ z⟩
  have S : ∀ A l, qOu b M A l = false → s.1 A l = v1.1 A l ∧ s.2 A l = v1.2 A l := fun A l z => ⟨z9.1 _ _ z, z9.2 _ _ z⟩
  have s210 : (atR s (j' + 1)).1 210 M = nI na := by
    unfold atR
    rw [rI, if_neg (by omega), (S _ _ (decide_eq_false (by omega))).1, (R1 _ _ (by omega)).1]
    exact b3
  obtain ⟨q, hq⟩ : ∃ q, q = pI (atR s (j' + 1)) 210 M (nI (na + 1)) := ⟨_, rfl⟩
  have df : ∀ A l, ¬ (A = 145 ∧ l = 7) → (atC d (j' + 1)).1 A l = d.1 A l := fun A l z => by
    unfold atC
    rw [rI, if_neg z]
  have qf : ∀ A l, ¬ (A = 174 ∧ l = 67) → ¬ (A = 210 ∧ l = M) → q.1 A l = s.1 A l := fun A l z z' => by
    rw [hq, rI, if_neg z']
    unfold atR
    rw [rI, if_neg z]
  have ql : ∀ A l, q.2 A l = s.2 A l := fun A l => by
    rw [hq]
    rfl
  have hjN := z5.2.1
  have hlt2 := t3.2.1
  have hopn : opn q (40 * M + na) = op := by
    unfold opn
    rw [← eb0, qf _ _ (by omega) (by omega), (S _ _ (decide_eq_false (by omega))).1, g211, ix_n (by omega)]
  have hPl := TKR_le hP.1 hi0 (show j ≤ N by omega)
  have hPw := hP.1.2.2.2 j hlt
  have htl := tln3 h214 hkK.1
  have hPr := TKR_le (i := j + 1) (j := j' + 1) hP.1 (by omega) hlt2
  refine hX o1 (wpSl (wpe t1 (wpSl (wp_of rfl (hY o2 (wpe t2 (wpt hiM (wpt hiM ?_))))))))
  rw [s210, nI_1]
  refine wpl ?_
  rw [← hq]
  refine wp_of rfl (Or.inl ⟨atC d (j' + 1), j' + 1, U', L', rfl, z1, z2, by omega, ?_, ⟨⟨?_, ?_⟩, ⟨by omega, ?_, ?_, ?_, ?_⟩, ?_, ?_, fun l hl => ?_, fun a' h1 h2 => ?_⟩, ?_, ?_, fun l hl => ⟨?_, ?_⟩, ?_, ?_, ?_⟩)
  · rw [hq]
    exact PSI_sx t3 (show sx (fun _ _ => false) _ _ from sx_rfl) (sx_pI (r := fun A _ => decide (A = 210)) sx_rfl rfl) (fun _ _ _ => rfl) (fun A l z => decide_eq_false (by omega))
  · rw [df _ _ (by omega), (D _ _ (decide_eq_false (by omega))).1, (C1 _ _ (by omega)).1]
    exact a1
  · rw [df _ _ (by omega), (D _ _ (decide_eq_false (by omega))).1, (C1 _ _ (by omega)).1]
    exact a2
  · rw [df _ _ (by omega), (D _ _ (decide_eq_false (by omega))).1, hw1, rI, if_neg (by omega), rI, if_neg (by omega)]
    exact y120
  · rw [hq, rI, if_pos ⟨rfl, rfl⟩]
  · rw [df _ _ (by omega), (D _ _ (decide_eq_false (by omega))).1, (C1 _ _ (by omega)).1]
    exact b4
  · rw [df _ _ (by omega), (D _ _ (decide_eq_false (by omega))).1, hw1, rI, if_neg (by omega), rI, if_neg (by omega), y114, ea0, Nat.add_assoc]
  · exact OPS_cg z7 (fun A l z => ⟨df _ _ (by omega), rfl⟩) (fun A l z => ⟨qf _ _ (by omega) (by omega), ql _ _⟩)
  · exact ENV_k hV1 (fun A l z => by
      unfold kcR kA at z
      rw [df _ _ (by omega)]
      exact D _ _ (decide_eq_false (by omega))) (fun A l z => by
      unfold kuR at z
      rw [qf _ _ (by omega) (by omega), ql]
      exact S _ _ (decide_eq_false (by omega)))
  · by_cases el : l = na
    · rw [el, ← ea0, ← eb0]
      refine ⟨op, ho, ?_, ?_, ?_, ⟨?_, ?_, ?_, ?_⟩, ?_, ARO_cg z6 (Nat.le_refl _) (Nat.le_refl _) (fun A l z => ?_) (fun A l z => ?_)⟩
      · rw [df _ _ (by omega), (D _ _ (decide_eq_false (by omega))).1]
        exact g121
      · rw [qf _ _ (by omega) (by omega), (S _ _ (decide_eq_false (by omega))).1]
        exact g211
      · show d.2 127 a = _
        rw [(D _ _ (decide_eq_false (by omega))).2, (gA 127 (by omega) (by omega)).2, y127, ql, (S _ _ (decide_eq_false (by omega))).2, g212]
      · rw [df _ _ (by omega), (D _ _ (decide_eq_false (by omega))).1, (gA 124 (by omega) (by omega)).1]
        exact y124
      · rw [qf _ _ (by omega) (by omega), (S _ _ (decide_eq_false (by omega))).1]
        exact g216
      · rw [df _ _ (by omega), (D _ _ (decide_eq_false (by omega))).1, (gA 125 (by omega) (by omega)).1]
        exact y125
      · rw [df _ _ (by omega), (D _ _ (decide_eq_false (by omega))).1, (gA 126 (by omega) (by omega)).1]
        exact y126
      · rw [df _ _ (by omega), (D _ _ (decide_eq_false (by omega))).1, (gA 130 (by omega) (by omega)).1, y130, qf _ _ (by omega) (by omega), (S _ _ (decide_eq_false (by omega))).1, g213]
      · exact ⟨df _ _ (by unfold acR mkR1 at z; omega), rfl⟩
      · exact ⟨qf _ _ (by unfold auR at z; omega) (by unfold auR at z; omega), ql _ _⟩
    · refine ACX_cg (x1 l (by omega)) z2 z1 (fun A l' z => ?_) (fun A l' z => ?_)
      · unfold acR mkR1 at z
        rw [df _ _ (by omega)]
        show d.1 A l' = _ ∧ d.2 A l' = _
        rw [(D A l' (decide_eq_false (by omega))).1, (D A l' (decide_eq_false (by omega))).2]
        exact C1 A l' (by omega)
      · unfold auR at z
        rw [qf _ _ (by omega) (by omega), ql, (S A l' (decide_eq_false (by omega))).1, (S A l' (decide_eq_false (by omega))).2]
        exact R1 A l' (by omega)
  · rw [df _ _ (by omega), (D _ _ (decide_eq_false (by omega))).1, (C1 _ _ (by omega)).1]
    exact x2 a' (by omega) h2
  · by_cases e9 : K j < 229
    · by_cases e20 : K j = 220
      · rw [if_pos e20] at htl
        omega
      · rw [if_neg e20, if_pos e9] at htl
        omega
    · have := z4 (by omega)
      rw [if_neg (by omega), if_neg e9] at htl
      omega
  · rw [hopn]
    by_cases e20 : op = 20
    · have := z4 (by omega)
      rw [if_pos (by omega)] at htl
      rw [if_pos e20]
      omega
    · rw [if_neg e20]
      by_cases e9 : K j < 229
      · rw [if_neg (by omega), if_pos e9] at htl
        omega
      · rw [if_neg (by omega), if_neg e9] at htl
        omega
  · rw [qf _ _ (by omega) (by omega), (S _ _ (decide_eq_false (by omega))).1, (R1 _ _ (by omega)).1]
  · rw [ql, (S _ _ (decide_eq_false (by omega))).2, (R1 _ _ (by omega)).2]
  · have e : q.2 212 (40 * M + na) = lb := by
      rw [← eb0, ql, (S _ _ (decide_eq_false (by omega))).2]
      exact g212
    rw [e]
    exact hlb
  · exact sx_pI sd (decide_eq_true (by omega))
  · rw [hq]
    exact sx_pI (sx_pI ss (decide_eq_true (by omega))) (decide_eq_true (by omega))
theorem ACZ_v {vs vs' : cS} {r : cS ⊕ cS} (h : ACZ K P V N w v vs k M a0 na L oc kc mc U U0 i r q) (hv : ∀ l, vs.1 211 l = vs'.1 211 l ∧ vs.2 212 l = vs'.2 212 l) : ACZ K P V N w v vs' k M a0 na L oc kc mc U U0 i r q := by
  rcases h with ⟨d, j', U', L', h1, h2, h3, h4, h5, h6, h7, h8, h9, h9b, h10⟩ | h
  · have e : ∀ x, lbX vs M na x = lbX vs' M na x := fun x => ff_congr (fun l hl => by rw [(hv _).2])
    refine Or.inl ⟨d, j', U', L', h1, h2, h3, h4, h5, h6, h7, h8, fun l hl => by rw [← (hv _).1, ← (hv _).2]; exact h9 l hl, ?_, h10⟩
    rw [← e]
    exact h9b
  · exact Or.inr h
end ACT6
