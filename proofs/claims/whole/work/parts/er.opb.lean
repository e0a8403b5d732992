/-! READING the parts of an ACT: names, ELEMENTS and LOCALS -/
section OPB
variable {n i j N k M a b op L U oc kc mc : Nat} {c d u w v q : cS} {K P : Nat → Nat} {V : Nat → Int64} {nm : Int64}
theorem opn_j (ha : a < 1024) (hb : b < 3840) (ho : op = 27 ∨ op = 28) (h1 : w.1 121 a = nI (200 + op)) (h2 : v.1 211 b = nI op) (hP : PSI K P V N w v j) (hS : OPS w v M L U) : jw (d_281 n (nI a) w) (d_409 n (nI M) (nI b) v) (OPZ K P V N w v a b M U L oc op j) := by
  have v67 := hP.2.2.2.1
  have hjN := hP.2.1
  rcases lab_go (n := n) ha hb hP with ⟨z, x1, x2⟩ | ⟨e1, x1, x2⟩
  · obtain ⟨q, x3, x4⟩ := x2 _ (Or.inl rfl)
    refine c281_j ha ho h1 (wpe x1 (wpSr (wp_of rfl (r409_j hb ho h2 ?_))))
    rw [v67]
    exact wpe x3 (wp_of rfl (Or.inr ⟨z, rfl, x4⟩))
  · obtain ⟨x3, x4⟩ := x2 _ (Or.inl rfl)
    have hlt := PSI_lt hP (by omega)
    refine c281_j ha ho h1 (wpe x1 (wpSl (wp_of rfl (r409_j hb ho h2 ?_))))
    rw [v67]
    refine wpe x3 (wp_of rfl (Or.inl ⟨_, j + 1, U, L, rfl, Nat.le_refl _, Nat.le_refl _, by omega, fun z => by omega, x4, ⟨fun z => by omega, fun z => by omega, fun z => by omega, fun z => by omega, fun _ => ⟨j, ?_, hlt, e1, ?_, ?_⟩, fun z => by omega⟩, OPS_cg hS (fun A l z => ⟨?_, ?_⟩) (fun A l z => ⟨?_, rfl⟩), ?_, ?_⟩))
    · unfold atR
      rw [rI, if_neg (by omega), rI, if_pos ⟨rfl, rfl⟩]
    · show (pL (pI w 131 a (nI (P j))) 128 a (V j)).2 128 a = _
      rw [rL, if_pos ⟨rfl, rfl⟩]
    · unfold atC
      rw [rI, if_neg (by omega)]
      show (pI w 131 a (nI (P j))).1 131 a = _
      rw [rI, if_pos ⟨rfl, rfl⟩]
    · unfold atC
      rw [rI, if_neg (by omega)]
      show (pI w 131 a (nI (P j))).1 A l = _
      rw [rI, if_neg (by omega)]
    · show (pL (pI w 131 a (nI (P j))) 128 a (V j)).2 A l = _
      rw [rL, if_neg (by omega)]
      rfl
    · unfold atR
      rw [rI, if_neg (by omega), rI, if_neg (by omega)]
    · exact sx_pI (sx_pL (sx_pI sx_rfl (decide_eq_true (by omega))) (decide_eq_true (by omega))) (decide_eq_true (by omega))
    · exact sx_pI (sx_pI sx_rfl (decide_eq_true (by omega))) (decide_eq_true (by omega))
theorem opn_d (ha : a < 1024) (hb : b < 3840) (ho : op = 18 ∨ op = 19 ∨ op = 20) (h1 : w.1 121 a = nI (200 + op)) (h2 : v.1 211 b = nI op) (hP : PSI K P V N w v j) (hS : OPS w v M L U) : jw (d_281 n (nI a) w) (d_409 n (nI M) (nI b) v) (OPZ K P V N w v a b M U L oc op j) := by
  have v67 := hP.2.2.2.1
  have hjN := hP.2.1
  have hia : ib (nI a) 1024 := ib_n ha (by decide)
  rcases lab_go (n := n) ha hb hP with ⟨z, x1, x2⟩ | ⟨e1, x1, x2⟩
  · obtain ⟨q, x3, x4⟩ := x2 _ (Or.inr rfl)
    refine c281_d ha ho h1 (wpe x1 (wpSr (wp_of rfl (r409_d hb ho h2 ?_))))
    rw [v67]
    exact wpe x3 (wpe (e380w x4.2.2.1) (wpe (e381w x4.2.2.1) (wp_of rfl (Or.inr ⟨z, rfl, x4⟩))))
  obtain ⟨x3, x4⟩ := x2 _ (Or.inr rfl)
  have hlt := PSI_lt hP (by omega)
  obtain ⟨w1, hw1⟩ : ∃ w1, w1 = atC (pL (pI w 131 a (nI (P j))) 128 a (V j)) (j + 1) := ⟨_, rfl⟩
  obtain ⟨v1, hv1⟩ : ∃ v1, v1 = atR (pI v 217 b (nI j)) (j + 1) := ⟨_, rfl⟩
  rw [← hw1] at x1 x4
  rw [← hv1] at x3 x4
  have s1 : sx (qOc a M U) w w1 := by
    rw [hw1]
    exact sx_pI (sx_pL (sx_pI sx_rfl (decide_eq_true (by omega))) (decide_eq_true (by omega))) (decide_eq_true (by omega))
  have t1 : sx (qOu b M) v v1 := by
    rw [hv1]
    exact sx_pI (sx_pI sx_rfl (decide_eq_true (by omega))) (decide_eq_true (by omega))
  rcases exp_s (n := n) (b := 46) x4 (by decide) (by decide) with ⟨y1, y2, y3⟩ | ⟨y1, y2⟩
  rotate_left
  · refine c281_d ha ho h1 (wpe x1 (wpSl (wpe y1 (wpSr (wp_of rfl (r409_d hb ho h2 ?_))))))
    rw [v67]
    exact wpe x3 (wpe y2 (wpe (e381w flt_at.1) (wp_of rfl (Or.inr ⟨_, rfl, FLR_of (qOc_c s1) (qOu_u t1)⟩))))
  obtain ⟨w2, hw2⟩ : ∃ w2, w2 = pI (atC w1 (j + 1 + 1)) 132 a (nI (P (j + 1 + 1))) := ⟨_, rfl⟩
  have hP2 : PSI K P V N w2 (atR v1 (j + 1 + 1)) (j + 1 + 1) := by
    rw [hw2]
    exact PSI_sx y3 (sx_pI (r := fun A _ => decide (A = 132)) sx_rfl rfl) (show sx (fun _ _ => false) _ _ from sx_rfl) (fun A l z => decide_eq_false (by omega)) (fun _ _ _ => rfl)
  have s2 : sx (qOc a M U) w w2 := by
    rw [hw2]
    exact sx_pI (sx_pI s1 (decide_eq_true (by omega))) (decide_eq_true (by omega))
  have t2 : sx (qOu b M) v (atR v1 (j + 1 + 1)) := sx_pI t1 (decide_eq_true (by omega))
  have h259 := e259 (n := n) hP2
  have h381 := e381 (n := n) hP2
  have hX : ∀ {r : (Int64 × cS) ⊕ cS} {Q : cS ⊕ cS → Prop}, d_259 n w2 = some r → wp ((Sum.elim (fun r15 : Int64 × cS =>
    if ib (nI a) 1024 then
    lt (pL r15.2 129 a r15.1) (fun c18 =>
    lt (pI c18 145 7 ((c18.1 145 7) + 1)) (fun c20 =>
    some (.inl c20)))
    else none)
    (fun z16 : cS => some (.inr z16)) r : Option (cS ⊕ cS))) Q → wp (d_281 n (nI a) w) Q := fun {r Q} h h' => by
    refine c281_d ha ho h1 (wpe x1 (wpSl (wpe y1 (wpSl (wpe (e42 y3) (wpt hia (wpl ?_)))))))
    rw [← hw2]
    exact wpe h h'
  have hY : ∀ {r : Int64 × cS} {Q : cS → Prop}, d_381 n (atR v1 (j + 1 + 1)) = some r → Q r.2 → wp (d_409 n (nI M) (nI b) v) Q := fun {r Q} h h' => by
    refine r409_d hb ho h2 ?_
    rw [v67]
    exact wpe x3 (wpe y2 (wpe h (wp_of rfl h')))
  by_cases e3 : K (j + 1 + 1) = 1
  rotate_left
  · rw [if_neg e3] at h259 h381
    exact hX h259 (wpSr (wp_of rfl (hY h381 (Or.inr ⟨_, rfl, FLR_of (qOc_c s2) (qOu_u t2)⟩))))
  rw [if_pos e3] at h259 h381
  have hP3 := PSI_s hP2 (by omega)
  have hlt3 := PSI_lt hP2 (by omega)
  refine hX h259 (wpSl (wpt hia (wpl ?_)))
  dsimp only
  rw [show (pL w2 129 a (V (j + 1 + 1))).1 145 7 = nI (j + 1 + 1) from hP2.2.2.1, nI_1]
  refine wpl (wp_of rfl (hY h381 (Or.inl ⟨_, j + 1 + 1 + 1, U, L, rfl, Nat.le_refl _, Nat.le_refl _, by omega, fun z => by omega, ?_, ⟨fun z => by omega, fun z => by omega, fun z => by omega, fun _ => ⟨j, ?_, ⟨hlt, e1, ?_, ?_⟩, ⟨hlt3, e3, ?_, ?_⟩⟩, fun z => by omega, fun z => by omega⟩, OPS_cg hS (fun A l z => ⟨?_, ?_⟩) (fun A l z => ⟨?_, ?_⟩), ?_, ?_⟩)))
  · exact PSI_sx hP3 (r := fun A _ => decide (A = 129)) ⟨fun A l _ => rfl, fun A l z => by
      show (pL w2 129 a (V (j + 1 + 1))).2 A l = _
      rw [rL, if_neg (fun y => of_decide_eq_false z y.1)]
      rfl⟩ (show sx (fun _ _ => false) _ _ from sx_rfl) (fun A l z => decide_eq_false (by omega)) (fun _ _ _ => rfl)
  · show (atR (atR v1 (j + 1 + 1)) (j + 1 + 1 + 1)).1 217 b = _
    unfold atR
    rw [rI, if_neg (by omega), rI, if_neg (by omega), hv1]
    unfold atR
    rw [rI, if_neg (by omega), rI, if_pos ⟨rfl, rfl⟩]
  · show (pL w2 129 a (V (j + 1 + 1))).2 128 a = _
    rw [rL, if_neg (by omega), hw2]
    show w1.2 128 a = _
    rw [hw1]
    show (pL (pI w 131 a (nI (P j))) 128 a (V j)).2 128 a = _
    rw [rL, if_pos ⟨rfl, rfl⟩]
  · rw [rI, if_neg (by omega)]
    show w2.1 131 a = _
    rw [hw2, rI, if_neg (by omega)]
    unfold atC
    rw [rI, if_neg (by omega), hw1]
    unfold atC
    rw [rI, if_neg (by omega)]
    show (pI w 131 a (nI (P j))).1 131 a = _
    rw [rI, if_pos ⟨rfl, rfl⟩]
  · show (pL w2 129 a (V (j + 1 + 1))).2 129 a = _
    rw [rL, if_pos ⟨rfl, rfl⟩]
  · rw [rI, if_neg (by omega)]
    show w2.1 132 a = _
    rw [hw2, rI, if_pos ⟨rfl, rfl⟩]
  · rw [rI, if_neg (by omega)]
    show w2.1 A l = _
    rw [hw2, rI, if_neg (by omega)]
    unfold atC
    rw [rI, if_neg (by omega), hw1]
    unfold atC
    rw [rI, if_neg (by omega)]
    show (pI w 131 a (nI (P j))).1 A l = _
    rw [rI, if_neg (by omega)]
  · show (pL w2 129 a (V (j + 1 + 1))).2 A l = _
    rw [rL, if_neg (by omega), hw2]
    show w1.2 A l = _
    rw [hw1]
    show (pL (pI w 131 a (nI (P j))) 128 a (V j)).2 A l = _
    rw [rL, if_neg (by omega)]
    rfl
  · show (atR (atR v1 (j + 1 + 1)) (j + 1 + 1 + 1)).1 A l = _
    unfold atR
    rw [rI, if_neg (by omega), rI, if_neg (by omega), hv1]
    unfold atR
    rw [rI, if_neg (by omega), rI, if_neg (by omega)]
  · show v1.2 A l = _
    rw [hv1]
    rfl
  · exact sx_pI (sx_pL s2 (decide_eq_true (by omega))) (decide_eq_true (by omega))
  · exact sx_pI t2 (decide_eq_true (by omega))
end OPB
