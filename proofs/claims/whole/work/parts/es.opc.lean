/-! READING the parts of an ACT: ELEMENTS and LOCALS -/
section OPC
variable {n i j N k M a b op L U oc kc mc : Nat} {c d u w v q : cS} {K P : Nat → Nat} {V : Nat → Int64} {nm : Int64}
def qEc (a A l : Nat) : Bool := decide ((A = 145 ∧ l = 7) ∨ ((A = 122 ∨ A = 123) ∧ l = a))
def qEu (b A l : Nat) : Bool := decide ((A = 174 ∧ l = 67) ∨ ((A = 214 ∨ A = 215) ∧ l = b))
theorem qEc_c (h : sx (qEc a) c d) : sx QRc c d := sx_wide h (fun A j z => by
  have := of_decide_eq_false z
  exact decide_eq_false (by omega))
theorem qEu_u (h : sx (qEu b) u d) : sx QRu u d := sx_wide h (fun A j z => by
  have := of_decide_eq_false z
  exact decide_eq_false (by omega))
def ELZ (K P : Nat → Nat) (V : Nat → Int64) (N : Nat) (w v : cS) (a b oc j : Nat) (r : cS ⊕ cS) (q : cS) : Prop := (∃ d x y, r = .inl d ∧ PSI K P V N d q (j + 3) ∧ x < oc ∧ y < eln q x ∧ q.1 214 b = nI x ∧ q.1 215 b = nI y ∧ d.1 123 a = nI x ∧ d.1 122 a = nI y ∧ sx (qEc a) w d ∧ sx (qEu b) v q) ∨ (∃ z, r = .inr z ∧ FLR w v z q)
def eR3 (n : Nat) (a1 : Int32) (p11 : cS) : Option cS :=
      Option.bind (d_380 n 46 p11) (fun r12 =>
      lt ((r12.1 174 67) : Int32) (fun v14 =>
      Option.bind (d_381 n r12) (fun r16 =>
      if (r16.2.1 174 13) = 0 then
        if ib a1 3840 then
        Option.bind (d_377 n (r16.2.1 214 (ix a1)) r16.1 r16.2) (fun v19 =>
        if ib a1 3840 then
        lt (pI r16.2 215 (ix a1) v19) (fun c21 =>
        if ib a1 3840 then
        jn (fun p24 : cS =>
          some p24)
        (fun j110 =>
        if 0 ≤ (c21.1 215 (ix a1)) then
          j110 c21
        else
          if ib v14 4001 then
          Option.bind (d_97 n 5 (c21.1 179 (ix v14)) c21) (fun r26 =>
          j110 r26)
          else none)
        else none)
        else none)
        else none
      else
        some r16.2)))
theorem eR3_w {x : Int32} (h : v.1 174 13 = nI 1) : eR3 n x v = some v := by
  unfold eR3
  exact eq_wp (wpe (e380w h) (wpl (wpe (e381w h) (wpf (ne13 h) rfl))))
theorem d410_s {a1 : Int32} : d_410 n a1 c = lt ((c.1 174 67) : Int32) (fun v2 =>
  Option.bind (d_381 n c) (fun r4 =>
  if (r4.2.1 174 13) = 0 then
    Option.bind (d_372 n r4.1 r4.2) (fun v6 =>
    if ib a1 3840 then
    lt (pI r4.2 214 (ix a1) v6) (fun c8 =>
    if ib a1 3840 then
    jn (eR3 n a1)
    (fun j49 =>
    if 0 ≤ (c8.1 214 (ix a1)) then
      j49 c8
    else
      if ib v2 4001 then
      Option.bind (d_97 n 5 (c8.1 179 (ix v2)) c8) (fun r28 =>
      j49 r28)
      else none)
    else none)
    else none)
  else
    some r4.2)) := rfl
theorem elm_go (hn : 10000 ≤ n) (ha : a < 1024) (hb : b < 3840) (hP : PSI K P V N w v j) (hV : ENV w v oc kc mc 0) : jw (d_285 n (nI a) w) (d_410 n (nI b) v) (ELZ K P V N w v a b oc j) := by
  have hia : ib (nI a) 1024 := ib_n ha (by decide)
  have ea : ix (nI a) = a := ix_n (by omega)
  have hibb : ib (nI b) 3840 := ib_n hb (by decide)
  have eb : ix (nI b) = b := ix_n (by omega)
  have hkK := PSI_K hP
  have v67 := hP.2.2.2.1
  have hoc := hV.1.1.1
  have h259 := e259 (n := n) hP
  have h381 := e381 (n := n) hP
  by_cases e1 : K j = 1
  rotate_left
  · rw [if_neg e1] at h259 h381
    refine jw_of (a := .inr (flC w 2 (nI (P j)))) (b := flt v 2 (nI (P j))) ?_ ?_ (Or.inr ⟨_, rfl, FLR_of sx_rfl sx_rfl⟩)
    · unfold d_285
      exact eq_wp (wpe h259 (wpSr rfl))
    · rw [d410_s]
      exact eq_wp (wpl (wpe h381 (wpf (ne13 flt_at.1) rfl)))
  rw [if_pos e1] at h259 h381
  have hP1 := PSI_s hP (by omega)
  have h247 := g247 (n := n) (nm := V j) (by omega) hV.1
  have hV1 : NMQ (atC w (j + 1)) (atR v (j + 1)) oc kc := NMQ_cg hV.1 (fun l _ => by unfold atC; rw [rI, if_neg (by omega)]) (fun _ _ => rfl) (fun _ _ => rfl) (fun l _ => by unfold atR; rw [rI, if_neg (by omega)]) (fun _ _ => rfl) (fun _ _ => rfl)
  have h372 := g372 (n := n) (nm := V j) (by omega) hV1
  rw [show fO (atR v (j + 1)) oc (V j) = fO v oc (V j) from rfl] at h372
  have hjn := hP.2.1
  cases et : fO v oc (V j) with
  | none =>
    rw [et] at h247 h372
    have f1 := (flt_at (u := pI (atR v (j + 1)) 214 b nM) (a := 5) (f := nI (P j))).1
    refine jw_of (a := .inr (flC w 5 (nI (P j)))) (b := flt (pI (atR v (j + 1)) 214 b nM) 5 (nI (P j))) ?_ ?_ (Or.inr ⟨_, rfl, FLR_of sx_rfl (sx_pI atR_sx (decide_eq_true (by omega)))⟩)
    · unfold d_285
      exact eq_wp (wpe h259 (wpSl (wpe h247 (wpj (wpf (show ¬ (0 : Int32) ≤ oI none by decide) (wpe (e42 hP) (wpe e41 (wpSr rfl))))))))
    · rw [d410_s, v67]
      refine eq_wp (wpl (wpe h381 (wpt hP1.2.2.2.2 (wpe h372 (wpt hibb ?_)))))
      rw [eb]
      refine wpl (wpt hibb (wpj ?_))
      rw [show (pI (atR v (j + 1)) 214 b (oI none)).1 214 b = nM by rw [rI, if_pos ⟨rfl, rfl⟩]; rfl]
      refine wpf (show ¬ (0 : Int32) ≤ nM by decide) (wpt (ib_n (by omega) (by decide)) ?_)
      rw [show (pI (atR v (j + 1)) 214 b (oI none)).1 179 (ix (nI j)) = nI (P j) by
        rw [ix_n (by omega), rI, if_neg (by omega)]
        exact (hP1.1.2.2.1 j hjn).2.2.1]
      refine wpe (e97 ?_) (wp_of (eR3_w f1) rfl)
      rw [rI, if_neg (by omega)]
      exact hP1.2.2.2.2
  | some x =>
    rw [et, oI_s] at h247 h372
    have hx := fO_lt et
    obtain ⟨E, hr⟩ := hV.2.1.2.2.2 x hx
    have hE := hr.1.1.2
    have hEl : v.1 182 x = nI E := hr.1.2.1
    obtain ⟨v1, hv1⟩ : ∃ v1, v1 = pI (atR v (j + 1)) 214 b (nI x) := ⟨_, rfl⟩
    have hPv : PSI K P V N (atC w (j + 1)) v1 (j + 1) := by
      rw [hv1]
      exact PSI_sx hP1 (show sx (fun _ _ => false) _ _ from sx_rfl) (sx_pI (r := fun A _ => decide (A = 214)) sx_rfl rfl) (fun _ _ _ => rfl) (fun A l z => decide_eq_false (by omega))
    have t1 : sx (qEu b) v v1 := by
      rw [hv1]
      exact sx_pI (sx_pI sx_rfl (decide_eq_true (by omega))) (decide_eq_true (by omega))
    have hY : ∀ {Q : cS → Prop}, wp (eR3 n (nI b) v1) Q → wp (d_410 n (nI b) v) Q := fun {Q} h => by
      rw [d410_s]
      refine wpl (wpe h381 (wpt hP1.2.2.2.2 (wpe h372 (wpt hibb ?_))))
      rw [eb]
      refine wpl (wpt hibb (wpj ?_))
      dsimp only
      rw [← hv1, show v1.1 214 b = nI x by rw [hv1, rI, if_pos ⟨rfl, rfl⟩]]
      exact wpt (nI_pos' (by omega)) h
    rcases exp_s (n := n) (b := 46) hPv (by decide) (by decide) with ⟨y1, y2, y3⟩ | ⟨y1, y2⟩
    rotate_left
    · refine wp_of (a := .inr (flC (atC w (j + 1)) 2 (nI (P (j + 1))))) ?_ (hY ?_)
      · unfold d_285
        refine eq_wp (wpe h259 (wpSl (wpe h247 (wpj (wpt (nI_pos' (by omega)) ?_)))))
        dsimp only
        rw [hP.2.2.1, nI_1]
        exact wpl (wpe y1 (wpSr rfl))
      · have f1 := (flt_at (u := v1) (a := 2) (f := nI (P (j + 1)))).1
        unfold eR3
        exact wpe y2 (wpl (wpe (e381w f1) (wpf (ne13 f1) (wp_of rfl (Or.inr ⟨_, rfl, FLR_of atC_sx (qEu_u t1)⟩)))))
    obtain ⟨w2, hw2⟩ : ∃ w2, w2 = pI (atC (atC w (j + 1)) (j + 1 + 1)) 123 a (nI x) := ⟨_, rfl⟩
    obtain ⟨v2, hv2⟩ : ∃ v2, v2 = atR v1 (j + 1 + 1) := ⟨_, rfl⟩
    rw [← hv2] at y2 y3
    have hP2 : PSI K P V N w2 v2 (j + 1 + 1) := by
      rw [hw2]
      exact PSI_sx y3 (sx_pI (r := fun A _ => decide (A = 123)) sx_rfl rfl) (show sx (fun _ _ => false) _ _ from sx_rfl) (fun A l z => decide_eq_false (by omega)) (fun _ _ _ => rfl)
    have s2 : sx (qEc a) w w2 := by
      rw [hw2]
      exact sx_pI (sx_pI (sx_pI sx_rfl (decide_eq_true (by omega))) (decide_eq_true (by omega))) (decide_eq_true (by omega))
    have t2 : sx (qEu b) v v2 := by
      rw [hv2]
      exact sx_pI t1 (decide_eq_true (by omega))
    have h276 := e276 (n := n) (o := x) (E := E) (by omega) hE hP2 (by
      rw [s2.1 _ _ (decide_eq_false (by unfold oA; omega))]
      exact hr.2.1) (fun e he => by
      rw [s2.2 _ _ (decide_eq_false (by unfold oA; omega)), t2.2 _ _ (decide_eq_false (by omega))]
      exact hr.2.2.2.1 e he)
    have h381b := e381 (n := n) hP2
    have hkK2 := PSI_K hP2
    have hX : ∀ {r : (Int32 × cS) ⊕ cS} {Q : cS ⊕ cS → Prop}, d_276 n x w2 = some r → wp ((Sum.elim (fun r14 : Int32 × cS =>
    if ib (nI a) 1024 then
    lt (pI r14.2 122 a r14.1) (fun c17 =>
    some (.inl c17))
    else none)
    (fun z15 : cS => some (.inr z15)) r : Option (cS ⊕ cS))) Q → wp (d_285 n (nI a) w) Q := fun {r Q} h h' => by
      unfold d_285
      refine wpe h259 (wpSl (wpe h247 (wpj (wpt (nI_pos' (by omega)) ?_))))
      dsimp only
      rw [hP.2.2.1, nI_1]
      refine wpl (wpe y1 (wpSl (wpt hia ?_)))
      rw [ea]
      refine wpl (wpt (ib_n (by omega) (by decide)) ?_)
      rw [show ix (nI x) = x from ix_n (by omega)]
      show wp (Option.bind (d_276 n x (pI (atC (atC w (j + 1)) (j + 1 + 1)) 123 a (nI x))) _) Q
      rw [← hw2]
      exact wpe h h'
    by_cases e3 : K (j + 1 + 1) = 1
    rotate_left
    · rw [if_neg e3] at h276 h381b
      have f1 := (flt_at (u := v2) (a := 2) (f := nI (P (j + 1 + 1)))).1
      refine hX h276 (wpSr (wp_of rfl (hY ?_)))
      unfold eR3
      exact wpe y2 (wpl (wpe h381b (wpf (ne13 f1) (wp_of rfl (Or.inr ⟨_, rfl, FLR_of (qEc_c s2) (qEu_u t2)⟩)))))
    rw [if_pos e3] at h276 h381b
    have hP3 := PSI_s hP2 (by omega)
    have hlt3 := PSI_lt hP2 (by omega)
    obtain ⟨v3, hv3⟩ : ∃ v3, v3 = atR v2 (j + 1 + 1 + 1) := ⟨_, rfl⟩
    rw [← hv3] at h381b hP3
    have t3 : sx (qEu b) v v3 := by
      rw [hv3]
      exact sx_pI t2 (decide_eq_true (by omega))
    have v3b : v3.1 214 b = nI x := by
      rw [hv3]
      unfold atR
      rw [rI, if_neg (by omega), hv2]
      unfold atR
      rw [rI, if_neg (by omega), hv1, rI, if_pos ⟨rfl, rfl⟩]
    have h377 := e377p (n := n) (v := V (j + 1 + 1)) (u := v3) (o := x) (E := E) (by omega) (by omega) hE (by
      rw [t3.1 _ _ (decide_eq_false (by omega))]
      exact hEl)
    have eeO : eOp v3 x E (V (j + 1 + 1)) = eOp v2 x E (V (j + 1 + 1)) := by
      rw [hv3]
      rfl
    rw [eeO] at h377
    have hY3 : ∀ {o : Option Nat} {Q : cS → Prop}, eOp v2 x E (V (j + 1 + 1)) = o → wp (if 0 ≤ (pI v3 215 b (oI o)).1 215 b then some (pI v3 215 b (oI o)) else
          if ib (nI (j + 1 + 1)) 4001 then
          Option.bind (d_97 n 5 ((pI v3 215 b (oI o)).1 179 (ix (nI (j + 1 + 1)))) (pI v3 215 b (oI o))) (fun r26 =>
          some r26)
          else none) Q → wp (d_410 n (nI b) v) Q := fun {o Q} ho h => by
      refine hY ?_
      unfold eR3
      refine wpe y2 ?_
      rw [hP2.2.2.2.1]
      refine wpl (wpe h381b (wpt hP3.2.2.2.2 (wpt hibb ?_)))
      dsimp only
      rw [eb, v3b]
      refine wpe h377 (wpt hibb (wpl (wpt hibb (wpj ?_))))
      rw [ho]
      exact h
    cases ey : eOp v2 x E (V (j + 1 + 1)) with
    | none =>
      rw [ey] at h276
      refine hX h276 (wpSr (wp_of rfl (hY3 ey ?_)))
      rw [show (pI v3 215 b (oI none)).1 215 b = nM by rw [rI, if_pos ⟨rfl, rfl⟩]; rfl]
      refine wpf (show ¬ (0 : Int32) ≤ nM by decide) (wpt (ib_n (by omega) (by decide)) ?_)
      rw [show (pI v3 215 b (oI none)).1 179 (ix (nI (j + 1 + 1))) = nI (P (j + 1 + 1)) by
        rw [ix_n (by omega), rI, if_neg (by omega)]
        exact (hP3.1.2.2.1 (j + 1 + 1) hP2.2.1).2.2.1]
      refine wpe (e97 ?_) (wp_of rfl (Or.inr ⟨_, rfl, FLR_of (qEc_c s2) (qEu_u (sx_pI t3 (decide_eq_true (by omega))))⟩))
      rw [rI, if_neg (by omega)]
      exact hP3.2.2.2.2
    | some y =>
      rw [ey] at h276
      have hy := (ff_some ey).1
      refine hX h276 (wpSl (wpt hia (wpl (wp_of rfl (hY3 ey ?_)))))
      rw [oI_s, show (pI v3 215 b (nI y)).1 215 b = nI y by rw [rI, if_pos ⟨rfl, rfl⟩]]
      refine wpt (nI_pos' (by omega)) (wp_of rfl (Or.inl ⟨_, x, y, rfl, ?_, hx, ?_, ?_, ?_, ?_, ?_, ?_, ?_⟩))
      · exact PSI_sx hP3 (sx_pI (r := fun A _ => decide (A = 122)) sx_rfl rfl) (sx_pI (r := fun A _ => decide (A = 215)) sx_rfl rfl) (fun A l z => decide_eq_false (by omega)) (fun A l z => decide_eq_false (by omega))
      · unfold eln
        rw [rI, if_neg (by omega), t3.1 _ _ (decide_eq_false (by omega)), hEl, ix_n (by omega)]
        exact hy
      · rw [rI, if_neg (by omega)]
        exact v3b
      · rw [rI, if_pos ⟨rfl, rfl⟩]
      · rw [rI, if_neg (by omega)]
        show (atC w2 (j + 1 + 1 + 1)).1 123 a = _
        unfold atC
        rw [rI, if_neg (by omega), hw2, rI, if_pos ⟨rfl, rfl⟩]
      · rw [rI, if_pos ⟨rfl, rfl⟩]
      · exact sx_pI (sx_pI s2 (decide_eq_true (by omega))) (decide_eq_true (by omega))
      · exact sx_pI t3 (decide_eq_true (by omega))
theorem qEc_o (h : sx (qEc a) c d) : sx (qOc a M U) c d := sx_wide h (fun A j z => by
  have := of_decide_eq_false z
  exact decide_eq_false (by omega))
theorem qEu_o (h : sx (qEu b) u d) : sx (qOu b M) u d := sx_wide h (fun A j z => by
  have := of_decide_eq_false z
  exact decide_eq_false (by omega))
theorem opn_f (hn : 10000 ≤ n) (ha : a < 1024) (hb : b < 3840) (h1 : w.1 121 a = nI (200 + 30)) (h2 : v.1 211 b = nI 30) (hP : PSI K P V N w v j) (hV : ENV w v oc kc mc 0) (hS : OPS w v M L U) : jw (d_281 n (nI a) w) (d_409 n (nI M) (nI b) v) (OPZ K P V N w v a b M U L oc 30 j) := by
  obtain ⟨r, q, y1, y2, y3⟩ := jw_ex (elm_go hn ha hb hP hV)
  rcases y3 with ⟨d, x, y, rfl, z1, z2, z3, z4, z5, z6, z7, z8, z9⟩ | ⟨z, rfl, hf⟩
  · refine c281_f ha h1 (wpe y1 (wpSl (wp_of rfl (r409_f hb h2 (wp_of y2 (Or.inl ⟨d, j + 3, U, L, rfl, Nat.le_refl _, Nat.le_refl _, by omega, fun z => by omega, z1, ⟨fun z => by omega, fun z => by omega, fun z => by omega, fun z => by omega, fun z => by omega, fun _ => ⟨x, y, z2, z3, z4, z5, z6, z7⟩⟩, OPS_cg hS (fun A l z => ⟨z8.1 _ _ (decide_eq_false (by omega)), z8.2 _ _ (decide_eq_false (by omega))⟩) (fun A l z => ⟨z9.1 _ _ (decide_eq_false (by omega)), z9.2 _ _ (decide_eq_false (by omega))⟩), qEc_o z8, qEu_o z9⟩))))))
  · exact c281_f ha h1 (wpe y1 (wpSr (wp_of rfl (r409_f hb h2 (wp_of y2 (Or.inr ⟨z, rfl, hf⟩))))))
theorem opn_e (hn : 10000 ≤ n) (ha : a < 1024) (hb : b < 3840) (h1 : w.1 121 a = nI (200 + 29)) (h2 : v.1 211 b = nI 29) (hP : PSI K P V N w v j) (hV : ENV w v oc kc mc 0) (hS : OPS w v M L U) : jw (d_281 n (nI a) w) (d_409 n (nI M) (nI b) v) (OPZ K P V N w v a b M U L oc 29 j) := by
  obtain ⟨r, q, y1, y2, y3⟩ := jw_ex (elm_go hn ha hb hP hV)
  rcases y3 with ⟨d, x, y, rfl, z1, z2, z3, z4, z5, z6, z7, z8, z9⟩ | ⟨z, rfl, hf⟩
  rotate_left
  · refine c281_e ha h1 (wpe y1 (wpSr (wp_of rfl (r409_e hb h2 (wpe y2 ?_)))))
    have hw : (pI q 218 b (q.1 174 67)).1 174 13 = nI 1 := by
      rw [rI, if_neg (by omega)]
      exact hf.2.2.1
    refine wpe (e381w hw) (wp_of rfl (Or.inr ⟨z, rfl, FLR_sx (r := fun A _ => decide (A = 218)) hf (sx_pI sx_rfl rfl) (fun A l z => ?_) (fun l z1 z2 => rfl)⟩))
    have := of_decide_eq_true z
    exact decide_eq_true (by omega)
  have v67 := z1.2.2.2.1
  rcases lab_go (n := n) ha hb z1 with ⟨z, x1, x2⟩ | ⟨e1, x1, x2⟩
  · obtain ⟨s, x3, x4⟩ := x2 _ (Or.inl rfl)
    refine c281_e ha h1 (wpe y1 (wpSl (wpe x1 (wpSr (wp_of rfl (r409_e hb h2 (wpe y2 ?_)))))))
    rw [v67]
    exact wpe x3 (wp_of rfl (Or.inr ⟨z, rfl, FLR_tr x4 (qEc_c z8) (qEu_u z9)⟩))
  · obtain ⟨x3, x4⟩ := x2 _ (Or.inl rfl)
    have hlt := PSI_lt z1 (by omega)
    refine c281_e ha h1 (wpe y1 (wpSl (wpe x1 (wpSl (wp_of rfl (r409_e hb h2 (wpe y2 ?_)))))))
    rw [v67]
    refine wpe x3 (wp_of rfl (Or.inl ⟨_, j + 3 + 1, U, L, rfl, Nat.le_refl _, Nat.le_refl _, by omega, fun z => by omega, x4, ⟨fun z => by omega, fun z => by omega, fun z => by omega, fun z => by omega, fun _ => ⟨j + 3, ?_, hlt, e1, ?_, ?_⟩, fun _ => ⟨x, y, z2, ?_, ?_, ?_, ?_, ?_⟩⟩, OPS_cg hS (fun A l z => ⟨?_, ?_⟩) (fun A l z => ⟨?_, ?_⟩), ?_, ?_⟩))
    · unfold atR
      rw [rI, if_neg (by omega), rI, if_pos ⟨rfl, rfl⟩]
    · show (pL (pI d 131 a (nI (P (j + 3)))) 128 a (V (j + 3))).2 128 a = _
      rw [rL, if_pos ⟨rfl, rfl⟩]
    · unfold atC
      rw [rI, if_neg (by omega)]
      show (pI d 131 a (nI (P (j + 3)))).1 131 a = _
      rw [rI, if_pos ⟨rfl, rfl⟩]
    · unfold eln at z3 ⊢
      unfold atR
      rw [rI, if_neg (by omega), rI, if_neg (by omega)]
      exact z3
    · unfold atR
      rw [rI, if_neg (by omega), rI, if_neg (by omega)]
      exact z4
    · unfold atR
      rw [rI, if_neg (by omega), rI, if_neg (by omega)]
      exact z5
    · unfold atC
      rw [rI, if_neg (by omega)]
      show (pI d 131 a (nI (P (j + 3)))).1 123 a = _
      rw [rI, if_neg (by omega)]
      exact z6
    · unfold atC
      rw [rI, if_neg (by omega)]
      show (pI d 131 a (nI (P (j + 3)))).1 122 a = _
      rw [rI, if_neg (by omega)]
      exact z7
    · unfold atC
      rw [rI, if_neg (by omega)]
      show (pI d 131 a (nI (P (j + 3)))).1 A l = _
      rw [rI, if_neg (by omega)]
      exact z8.1 _ _ (decide_eq_false (by omega))
    · show (pL (pI d 131 a (nI (P (j + 3)))) 128 a (V (j + 3))).2 A l = _
      rw [rL, if_neg (by omega)]
      exact z8.2 _ _ (decide_eq_false (by omega))
    · unfold atR
      rw [rI, if_neg (by omega), rI, if_neg (by omega)]
      exact z9.1 _ _ (decide_eq_false (by omega))
    · show q.2 A l = _
      exact z9.2 _ _ (decide_eq_false (by omega))
    · exact sx_pI (sx_pL (sx_pI (qEc_o z8) (decide_eq_true (by omega))) (decide_eq_true (by omega))) (decide_eq_true (by omega))
    · exact sx_pI (sx_pI (qEu_o z9) (decide_eq_true (by omega))) (decide_eq_true (by omega))
end OPC
