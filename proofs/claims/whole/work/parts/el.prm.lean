/-! READING a PARAMETER -/
section PRMS
variable {n i j j0 N k M p0 t m U U0 tot oc kc mc : Nat} {c d u w v c0 u0 c' u' : cS} {K P : Nat → Nat} {V : Nat → Int64} {nm : Int64}
def pmC2 (n : Nat) (t1 M9 : Int32) (r46 : Int64 × cS) : Option ((Int32 × Int32 × cS) ⊕ (cS ⊕ (cS ⊕ cS))) :=
                  Option.bind (d_162 n M9 r46.1 r46.2) (fun r48 =>
                  if ib (r48.2.1 145 9) 96 then
                  if ib (r48.2.1 145 9) 96 then
                  lt (pI r48.2 116 (ix (r48.2.1 145 9)) ((r48.2.1 116 (ix (r48.2.1 145 9))) + 1)) (fun c51 =>
                  Option.bind (d_156 n (c51.1 145 9)) (fun v53 =>
                  Option.bind (d_273 n ((v53 + 1) + t1) 3 c51) (Sum.elim (fun r54 =>
                  Option.bind (d_258 n 44 r54) (fun r56 =>
                  lt (t1 + 1 : Int32) (fun v59 =>
                  some (.inl (r56.1, v59, r56.2)))))
                  (fun z55 => some (.inr (.inr (.inr z55)))))))
                  else none
                  else none)
def pmC (n : Nat) (s41 : Int32 × Int32 × cS) : Option ((Int32 × Int32 × cS) ⊕ (cS ⊕ (cS ⊕ cS))) :=
          if 4 < s41.2.1 then
            some (.inr (.inl s41.2.2))
          else
            if s41.1 = 0 then
              some (.inr (.inl s41.2.2))
            else
              if ib (s41.2.2.1 145 7) 4001 then
              Option.bind (d_161 n (s41.2.2.1 145 9) (s41.2.2.2 5 (ix (s41.2.2.1 145 7))) s41.2.2) (fun v43 =>
              jn (fun p44 : Int32 =>
                jn (fun p45 : Int32 =>
                  Option.bind (d_260 n p44 p45 s41.2.2) (Sum.elim (pmC2 n s41.2.1 (s41.2.2.1 145 9))
                  (fun z47 => some (.inr (.inr (.inr z47))))))
                (fun j257 =>
                if s41.2.1 < 4 then
                  j257 0
                else
                  j257 1))
              (fun j246 =>
              if v43 < 0 then
                j246 0
              else
                j246 1))
              else none
def pmR2 (n : Nat) (a1 a2 : Int32) (nm : Int64) (p18 : cS) : Option cS :=
        if (p18.1 174 13) = 0 then
          if ib a1 96 then
          if ib ((8 * a1) + (p18.1 207 (ix a1))) 768 then
          lt (pL p18 209 (ix ((8 * a1) + (p18.1 207 (ix a1)))) nm) (fun c21 =>
          if ib a1 96 then
          Option.bind (d_396 n ((a2 + 1) + (c21.1 207 (ix a1))) 8 1 0 c21) (fun r24 =>
          if ib a1 96 then
          if ib a1 96 then
          lt (pI r24 207 (ix a1) ((r24.1 207 (ix a1)) + 1)) (fun c27 =>
          if ib a1 96 then
          if ib a1 96 then
          lt (pI c27 208 (ix a1) ((c27.1 208 (ix a1)) + 1)) (fun c31 =>
          some c31)
          else none
          else none)
          else none
          else none)
          else none)
          else none
          else none
        else
          some p18
theorem d406_s {a1 a2 : Int32} : d_406 n a1 a2 c = nwN n 207 209 96 768 4 a1 (pmR2 n a1 a2) c := rfl
theorem pmR2_w {a1 a2 : Int32} (h : v.1 174 13 = nI 1) : pmR2 n a1 a2 nm v = some v := by
  unfold pmR2
  exact eq_wp (wpf (ne13 h) rfl)
/-- what the reading of the PARAMETERS of METHOD M may change -/
def qTh (M p0 U A l : Nat) : Bool := decide ((A = 145 ∧ l = 7) ∨ ((A = 116 ∨ A = 117) ∧ l = M) ∨ (A = 118 ∧ M * 8 ≤ l ∧ l < M * 8 + 8) ∨ (A = 133 ∧ (l = 11 ∨ l = 13)) ∨ ((A = 142 ∨ A = 143 ∨ A = 144) ∧ (p0 ≤ l ∧ l ≤ p0 + 4)) ∨ (134 ≤ A ∧ A ≤ 138 ∧ U ≤ l) ∨ (139 ≤ A ∧ A ≤ 141 ∧ U * 4 ≤ l))
def qTg (M p0 A l : Nat) : Bool := decide ((A = 174 ∧ (l = 67 ∨ l = 68)) ∨ ((A = 207 ∨ A = 208) ∧ l = M) ∨ (A = 209 ∧ 8 * M ≤ l ∧ l < 8 * M + 8) ∨ (A = 222 ∧ (p0 ≤ l ∧ l ≤ p0 + 4)) ∨ (223 ≤ A ∧ A ≤ 225 ∧ (p0 * 20 ≤ l ∧ l < (p0 + 5) * 20)) ∨ (226 ≤ A ∧ A ≤ 228 ∧ (p0 * 80 ≤ l ∧ l < (p0 + 5) * 80)))
theorem qTh_c (h : sx (qTh M p0 U) c d) : sx QRc c d := sx_wide h (fun A j z => by
  have := of_decide_eq_false z
  exact decide_eq_false (by omega))
theorem qTg_u (h : sx (qTg M p0) u d) : sx QRu u d := sx_wide h (fun A j z => by
  have := of_decide_eq_false z
  exact decide_eq_false (by omega))
/-- METHOD M with t PARAMETERS, U MARKS so far -/
def PMS (w v : cS) (k M p0 t oc kc mc U : Nat) : Prop := (w.1 145 8 = nI k ∧ w.1 145 9 = nI M) ∧ (t ≤ 4 ∧ w.1 116 M = nI t ∧ w.1 117 M = nI t ∧ v.1 207 M = nI t ∧ v.1 208 M = nI t) ∧ (∀ j, j < t → w.2 118 (M * 8 + j) = v.2 209 (8 * M + j)) ∧ ENV w v oc kc mc 0 ∧ (w.1 133 11 = nI U ∧ w.1 133 12 = nM ∧ w.1 133 13 = nI U) ∧ (∀ j, j < t → ∃ U' m', U' + m' ≤ U ∧ RWR w v oc kc (p0 + 1 + j) U' m' 3) ∧ ∀ r, p0 ≤ r → r ≤ p0 + 4 → ¬ (p0 + 1 ≤ r ∧ r < p0 + 1 + t) → w.1 144 r = nI 0
theorem PMS_cg (h : PMS w v k M p0 t oc kc mc U) (hM : M < 96) (hc : ∀ A l, ¬ (A = 145 ∧ l = 7) → c'.1 A l = w.1 A l ∧ c'.2 A l = w.2 A l) (hu : ∀ A l, ¬ (A = 174 ∧ l = 67) → u'.1 A l = v.1 A l ∧ u'.2 A l = v.2 A l) : PMS c' u' k M p0 t oc kc mc U := by
  obtain ⟨⟨a1, a2⟩, ⟨b1, b2, b3, b4, b5⟩, d1, e1, ⟨f1, f2, f3⟩, g1, h1⟩ := h
  have hkc := e1.1.2.1
  refine ⟨⟨by rw [(hc _ _ (by omega)).1]; exact a1, by rw [(hc _ _ (by omega)).1]; exact a2⟩, ⟨b1, by rw [(hc _ _ (by omega)).1]; exact b2, by rw [(hc _ _ (by omega)).1]; exact b3, by rw [(hu _ _ (by omega)).1]; exact b4, by rw [(hu _ _ (by omega)).1]; exact b5⟩, fun j hj => by rw [(hc _ _ (by omega)).2, (hu _ _ (by omega)).2]; exact d1 j hj, ENV_k e1 (fun A l z => hc A l (by unfold kcR kA at z; omega)) (fun A l z => hu A l (by unfold kuR at z; omega)), ⟨by rw [(hc _ _ (by omega)).1]; exact f1, by rw [(hc _ _ (by omega)).1]; exact f2, by rw [(hc _ _ (by omega)).1]; exact f3⟩, fun j hj => ?_, fun r z1 z2 z3 => by rw [(hc _ _ (by omega)).1]; exact h1 r z1 z2 z3⟩
  obtain ⟨U', m', y1, y2⟩ := g1 j hj
  exact ⟨U', m', y1, RWR_k y2 (ENB_of e1) (fun A l z => hc A l (by unfold rcR at z; omega)) (fun A l z => hu A l (by unfold ruR at z; omega)) (fun A l z1 z2 z => hu A l (by omega))⟩
def PMX (K P : Nat → Nat) (V : Nat → Int64) (N n : Nat) (c0 u0 : cS) (X : Option ((Int32 × Int32 × cS) ⊕ (cS ⊕ (cS ⊕ cS)))) (Y : Option cS) (k M p0 t oc kc mc U U0 j0 : Nat) : Prop := (∃ z q, X = some (.inr (.inr (.inr z))) ∧ Y = some q ∧ FLR c0 u0 z q) ∨ (∃ d q j' m, (∀ Q, wp (Option.bind (d_258 n 44 d) (fun r56 => lt (nI t + 1 : Int32) (fun v59 => some (.inl (r56.1, v59, r56.2))))) Q → wp X Q) ∧ Y = some q ∧ j0 + 2 * m ≤ j' ∧ PSI K P V N d q j' ∧ PMS d q k M p0 (t + 1) oc kc mc (U + m) ∧ sx (qTh M p0 U0) c0 d ∧ sx (qTg M p0) u0 q)
theorem prm2 (hn : 10000 ≤ n) (hM : M < 96) (hp : p0 + 4 < 1200) (h156 : d_156 n (nI M) = some (nI p0)) (ht : t < 4) (hP : PSI K P V N w v j) (hj : j0 ≤ j) (hU : 2 * U ≤ j) (hUU : U0 ≤ U) (hS : PMS w v k M p0 t oc kc mc U) (sc : sx (qTh M p0 U0) c0 w) (su : sx (qTg M p0) u0 v) : PMX K P V N n c0 u0 (pmC2 n (nI t) (nI M) (nm, w)) (pmR2 n (nI M) (nI p0) nm v) k M p0 t oc kc mc U U0 j0 := by
  have hiM : ib (nI M) 96 := ib_n hM (by decide)
  have eM : ix (nI M) = M := ix_n (by omega)
  have e8 : (8 : Int32) * nI M + nI t = nI (8 * M + t) := by rw [show (8 : Int32) = nI 8 from rfl, pk_mul, nI_add]
  have e8' : nI M * 8 + nI t = nI (M * 8 + t) := by rw [show (8 : Int32) = nI 8 from rfl, pk_mul, nI_add]
  have ep : nI p0 + 1 + nI t = nI (p0 + 1 + t) := by rw [show (1 : Int32) = nI 1 from rfl, nI_add, nI_add]
  have hi8 : ib (nI (8 * M + t)) 768 := ib_n (by omega) (by decide)
  have ei8 : ix (nI (8 * M + t)) = 8 * M + t := ix_n (by omega)
  have hi8' : ib (nI (M * 8 + t)) 768 := ib_n (by omega) (by decide)
  have ei8' : ix (nI (M * 8 + t)) = M * 8 + t := ix_n (by omega)
  obtain ⟨⟨a1, a2⟩, ⟨b1, b2, b3, b4, b5⟩, d1, e1, ⟨f1, f2, f3⟩, g1, h1⟩ := hS
  have hkc := e1.1.2.1
  obtain ⟨w1, hw1⟩ : ∃ w1, w1 = pI (pI (pL w 118 (M * 8 + t) nm) 117 M (nI (t + 1))) 116 M (nI (t + 1)) := ⟨_, rfl⟩
  obtain ⟨v1, hv1⟩ : ∃ v1, v1 = pL v 209 (8 * M + t) nm := ⟨_, rfl⟩
  have s1 : sx (fun A l => decide ((A = 118 ∧ l = M * 8 + t) ∨ ((A = 116 ∨ A = 117) ∧ l = M))) w w1 := by
    rw [hw1]
    exact sx_pI (sx_pI (sx_pL sx_rfl (decide_eq_true (by omega))) (decide_eq_true (by omega))) (decide_eq_true (by omega))
  have t1 : sx (fun A l => decide (A = 209 ∧ l = 8 * M + t)) v v1 := by
    rw [hv1]
    exact sx_pL sx_rfl (decide_eq_true ⟨rfl, rfl⟩)
  have cf : ∀ A l, ¬ ((A = 118 ∧ l = M * 8 + t) ∨ ((A = 116 ∨ A = 117) ∧ l = M)) → w1.1 A l = w.1 A l ∧ w1.2 A l = w.2 A l := fun A l z => ⟨s1.1 _ _ (decide_eq_false z), s1.2 _ _ (decide_eq_false z)⟩
  have uf : ∀ A l, ¬ (A = 209 ∧ l = 8 * M + t) → v1.1 A l = v.1 A l ∧ v1.2 A l = v.2 A l := fun A l z => ⟨t1.1 _ _ (decide_eq_false z), t1.2 _ _ (decide_eq_false z)⟩
  have hP1 : PSI K P V N w1 v1 j := PSI_sx hP s1 t1 (fun A l z => decide_eq_false (by omega)) (fun A l z => decide_eq_false (by omega))
  have hV1 : ENV w1 v1 oc kc mc 0 := ENV_k e1 (fun A l z => cf A l (by unfold kcR kA at z; omega)) (fun A l z => uf A l (by unfold kuR at z; omega))
  have sc1 : sx (qTh M p0 U0) c0 w1 := sx_trans sc (sx_wide s1 (fun A l z => by
    have := of_decide_eq_false z
    exact decide_eq_false (by omega)))
  have su1 : sx (qTg M p0) u0 v1 := sx_trans su (sx_wide t1 (fun A l z => by
    have := of_decide_eq_false z
    exact decide_eq_false (by omega)))
  have g9 : w1.1 145 9 = nI M := by
    rw [(cf _ _ (by omega)).1]
    exact a2
  have hmg := marks_go (w := 3) (rc := p0 + 1 + t) (rr := p0 + 1 + t) hn (by omega) (by omega) (by omega) hU hP1 hV1 (by rw [(cf _ _ (by omega)).1]; exact f1) (by rw [(cf _ _ (by omega)).1]; exact f2) (by rw [(cf _ _ (by omega)).1]; exact f3) (by rw [(cf _ _ (by omega)).1]; exact h1 _ (by omega) (by omega) (by omega))
  obtain ⟨r, q, y1, y2, y3⟩ := jw_ex hmg
  have hX : ∀ {Q : ((Int32 × Int32 × cS) ⊕ (cS ⊕ (cS ⊕ cS))) → Prop}, wp (Sum.elim (fun r54 : cS =>
                  Option.bind (d_258 n 44 r54) (fun r56 =>
                  lt (nI t + 1 : Int32) (fun v59 =>
                  some (.inl (r56.1, v59, r56.2)))))
                  (fun z55 : cS => some (.inr (.inr (.inr z55)))) r : Option ((Int32 × Int32 × cS) ⊕ (cS ⊕ (cS ⊕ cS)))) Q → wp (pmC2 n (nI t) (nI M) (nm, w)) Q := fun {Q} h => by
    have h162 : d_162 n (nI M) nm w = some (nI t, pI (pL w 118 (M * 8 + t) nm) 117 M (nI (t + 1))) := by
      unfold d_162
      rw [eM, b3, e8', ei8']
      refine eq_wp (wpt hiM (wpt hi8' (wpl (wpt hiM (wpt hiM ?_)))))
      rw [show (pL w 118 (M * 8 + t) nm).1 117 M = nI t from b3, nI_1]
      exact wpl rfl
    have c9 : (pI (pL w 118 (M * 8 + t) nm) 117 M (nI (t + 1))).1 145 9 = nI M := by
      rw [rI, if_neg (by omega)]
      exact a2
    have c6 : (pI (pL w 118 (M * 8 + t) nm) 117 M (nI (t + 1))).1 116 M = nI t := by
      rw [rI, if_neg (by omega)]
      exact b2
    unfold pmC2
    dsimp only
    refine wpe h162 ?_
    dsimp only
    rw [c9, eM, c6, nI_1]
    refine wpt hiM (wpt hiM (wpl ?_))
    rw [← hw1, g9]
    refine wpe h156 ?_
    rw [ep]
    rw [nI_1] at h
    exact wpe y1 h
  have hY : ∀ {Q : cS → Prop}, wp (if ib (nI M) 96 then
          if ib (nI M) 96 then
          lt (pI q 207 M ((q.1 207 M) + 1)) (fun c27 =>
          if ib (nI M) 96 then
          if ib (nI M) 96 then
          lt (pI c27 208 M ((c27.1 208 M) + 1)) (fun c31 =>
          some c31)
          else none
          else none)
          else none
          else none) Q → wp (pmR2 n (nI M) (nI p0) nm v) Q := fun {Q} h => by
    unfold pmR2
    rw [eM, b4, e8, ei8]
    refine wpt hP.2.2.2.2 (wpt hiM (wpt hi8 (wpl (wpt hiM ?_))))
    rw [← hv1, show v1.1 207 M = nI t by rw [(uf _ _ (by omega)).1]; exact b4, ep]
    exact wpe y2 h
  rcases y3 with ⟨d, i, m, rfl, z1, z2, z3, z4, z5, z6, z7⟩ | ⟨z, rfl, hf'⟩
  rotate_left
  · refine Or.inl ⟨z, _, eq_wp (hX rfl), eq_wp (hY (wpt hiM (wpt hiM (wpl (wpt hiM (wpt hiM (wpl rfl))))))), FLR_sx (r := fun A _ => decide (A = 207 ∨ A = 208)) (FLR_tr hf' (qTh_c sc1) (qTg_u su1)) (sx_pI (sx_pI sx_rfl rfl) rfl) (fun A l z => ?_) (fun l z1 z2 => rfl)⟩
    have := of_decide_eq_true z
    exact decide_eq_true (by omega)
  have hN := z3.1.1
  have hN2 := z3.2.1
  have hr := z4.1
  have D : ∀ A l, qRc (p0 + 1 + t) U A l = false → d.1 A l = w1.1 A l ∧ d.2 A l = w1.2 A l := fun A l z => ⟨z6.1 _ _ z, z6.2 _ _ z⟩
  have Q1 : ∀ A l, qRr (p0 + 1 + t) A l = false → q.1 A l = v1.1 A l ∧ q.2 A l = v1.2 A l := fun A l z => ⟨z7.1 _ _ z, z7.2 _ _ z⟩
  have q207 : q.1 207 M = nI t := by
    rw [(Q1 _ _ (decide_eq_false (by omega))).1, (uf _ _ (by omega)).1]
    exact b4
  have q208 : q.1 208 M = nI t := by
    rw [(Q1 _ _ (decide_eq_false (by omega))).1, (uf _ _ (by omega)).1]
    exact b5
  obtain ⟨q1, hq1⟩ : ∃ q1, q1 = pI (pI q 207 M (nI (t + 1))) 208 M (nI (t + 1)) := ⟨_, rfl⟩
  have qf : ∀ A l, ¬ ((A = 207 ∨ A = 208) ∧ l = M) → q1.1 A l = q.1 A l := fun A l z => by
    rw [hq1, rI, if_neg (by omega), rI, if_neg (by omega)]
  have ql : ∀ A l, q1.2 A l = q.2 A l := fun A l => by
    rw [hq1]
    rfl
  refine Or.inr ⟨d, q1, i, m, fun Q h => hX (by rw [Sum.elim_inl]; exact h), eq_wp (hY ?_), by omega, ?_, ⟨⟨?_, ?_⟩, ⟨by omega, ?_, ?_, ?_, ?_⟩, fun l hl => ?_, ?_, ⟨hr.1, hr.2.1, hr.2.2.1⟩, fun l hl => ?_, fun r x1 x2 x3 => ?_⟩, ?_, ?_⟩
  · rw [q207, nI_1]
    refine wpt hiM (wpt hiM (wpl ?_))
    rw [show (pI q 207 M (nI (t + 1))).1 208 M = nI t by rw [rI, if_neg (by omega)]; exact q208, nI_1]
    refine wpt hiM (wpt hiM (wpl ?_))
    rw [hq1]
    rfl
  · rw [hq1]
    exact PSI_sx z3 (show sx (fun _ _ => false) _ _ from sx_rfl) (sx_pI (r := fun A _ => decide (A = 207 ∨ A = 208)) (sx_pI sx_rfl rfl) rfl) (fun _ _ _ => rfl) (fun A l z => decide_eq_false (by omega))
  · rw [(D _ _ (decide_eq_false (by omega))).1, (cf _ _ (by omega)).1]
    exact a1
  · rw [(D _ _ (decide_eq_false (by omega))).1]
    exact g9
  · rw [(D _ _ (decide_eq_false (by omega))).1, hw1, rI, if_pos ⟨rfl, rfl⟩]
  · rw [(D _ _ (decide_eq_false (by omega))).1, hw1, rI, if_neg (by omega), rI, if_pos ⟨rfl, rfl⟩]
  · rw [hq1, rI, if_neg (by omega), rI, if_pos ⟨rfl, rfl⟩]
  · rw [hq1, rI, if_pos ⟨rfl, rfl⟩]
  · rw [(D _ _ (decide_eq_false (by omega))).2, ql, (Q1 _ _ (decide_eq_false (by omega))).2]
    by_cases e : l = t
    · rw [e, hw1, hv1, rL, if_pos ⟨rfl, rfl⟩]
      show (pL w 118 (M * 8 + t) nm).2 118 (M * 8 + t) = _
      rw [rL, if_pos ⟨rfl, rfl⟩]
    · rw [(cf _ _ (by omega)).2, (uf _ _ (by omega)).2]
      exact d1 l (by omega)
  · exact ENV_k z5 (fun A l z => ⟨rfl, rfl⟩) (fun A l z => ⟨qf _ _ (by unfold kuR at z; omega), ql _ _⟩)
  · by_cases e : l = t
    · rw [e]
      exact ⟨U, m, Nat.le_refl _, RWR_k (RWR_of z4 (by omega)) (ENB_of z5) (fun A l z => ⟨rfl, rfl⟩) (fun A l z => ⟨qf _ _ (by unfold ruR at z; omega), ql _ _⟩) (fun A l z1 z2 z => ⟨qf _ _ (by omega), ql _ _⟩)⟩
    · obtain ⟨U', m', x1, x2⟩ := g1 l (by omega)
      refine ⟨U', m', by omega, RWR_k x2 (ENB_of e1) (fun A l' z => ?_) (fun A l' z => ?_) (fun A l' z1 z2 z => ?_)⟩
      · unfold rcR at z
        rw [(D A l' (decide_eq_false (by omega))).1, (D A l' (decide_eq_false (by omega))).2]
        exact cf A l' (by omega)
      · unfold ruR at z
        rw [qf A l' (by omega), ql, (Q1 A l' (decide_eq_false (by omega))).1, (Q1 A l' (decide_eq_false (by omega))).2]
        exact uf A l' (by omega)
      · rw [qf A l' (by omega), ql, (Q1 A l' (decide_eq_false (by omega))).1, (Q1 A l' (decide_eq_false (by omega))).2]
        exact uf A l' (by omega)
  · rw [(D _ _ (decide_eq_false (by omega))).1, (cf _ _ (by omega)).1]
    exact h1 r x1 x2 (by omega)
  · exact sx_trans sc1 (sx_wide z6 (fun A l z => by
      have := of_decide_eq_false z
      exact decide_eq_false (by omega)))
  · rw [hq1]
    exact sx_pI (sx_pI (sx_trans su1 (sx_wide z7 (fun A l z => by
      have := of_decide_eq_false z
      exact decide_eq_false (by omega)))) (decide_eq_true (by omega))) (decide_eq_true (by omega))
end PRMS
