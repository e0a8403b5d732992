/-! READING the head of a CLASS -/
section CHD
variable {n i j j0 N k m U oc kc mc : Nat} {c d u w v c0 u0 : cS} {K P : Nat → Nat} {V : Nat → Int64} {nm : Int64} {sp : Int32}
/-- a beginning that both read; the reference then goes on with Z -/
def HDX (c0 u0 : cS) (R : cS → cS → Prop) (X : Option (cS ⊕ cS)) (Y : Option cS) (Z : cS → Option cS) : Prop := (∃ d q, X = some (.inl d) ∧ (∀ Q : cS → Prop, wp (Z q) Q → wp Y Q) ∧ R d q) ∨ (∃ z q, X = some (.inr z) ∧ Y = some q ∧ FLR c0 u0 z q)
theorem HDX_up {R : cS → cS → Prop} {X X' : Option (cS ⊕ cS)} {Y Y' : Option cS} {Z : cS → Option cS} (h : HDX c0 u0 R X Y Z) (hX : ∀ Q, wp X Q → wp X' Q) (hY : ∀ Q, wp Y Q → wp Y' Q) : HDX c0 u0 R X' Y' Z := by
  rcases h with ⟨d, q, h1, h2, h3⟩ | ⟨z, q, h1, h2, h3⟩
  · exact Or.inl ⟨d, q, eq_wp (hX _ (wp_of h1 rfl)), fun Q h => hY Q (h2 Q h), h3⟩
  · exact Or.inr ⟨z, q, eq_wp (hX _ (wp_of h1 rfl)), eq_wp (hY _ (wp_of h2 rfl)), h3⟩
def hC5 (n : Nat) (r27 : cS) : Option (cS ⊕ cS) :=
      Option.bind (d_257 n 123 r27) (Sum.elim (fun r29 =>
      some (.inl r29))
      (fun z30 => some (.inr z30)))
def hC4 (n : Nat) (nm : Int64) (p10 : Int32 × cS) : Option (cS ⊕ cS) :=
      lt (pI p10.2 145 8 (p10.2.1 7 10)) (fun c11 =>
      if ib (c11.1 145 8) 12 then
      lt (pL c11 12 (ix (c11.1 145 8)) nm) (fun c14 =>
      if ib (c14.1 145 8) 12 then
      lt (pI c14 13 (ix (c14.1 145 8)) p10.1) (fun c17 =>
      if ib (c17.1 145 8) 12 then
      lt (pI c17 14 (ix (c17.1 145 8)) 0) (fun c20 =>
      if ib (c20.1 145 8) 12 then
      lt (pI c20 17 (ix (c20.1 145 8)) 0) (fun c23 =>
      lt (pI c23 7 10 ((c23.1 7 10) + 1)) (fun c25 =>
      Option.bind (d_273 n (100 * (c25.1 145 8)) 0 c25) (Sum.elim (hC5 n)
      (fun z28 => some (.inr z28)))))
      else none)
      else none)
      else none)
      else none)
def hC2 (n : Nat) (r5 : Int64 × cS) : Option (cS ⊕ cS) :=
    Option.bind (d_258 n 58 r5.2) (fun r9 =>
    jn (hC4 n r5.1)
    (fun j82 =>
    if r9.1 = 0 then
      j82 ((-1), r9.2)
    else
      Option.bind (d_259 n r9.2) (Sum.elim (fun r31 =>
      Option.bind (d_249 n r31.1 r31.2) (fun v33 =>
      jn (fun p35 : cS =>
        lt (pI p35 145 7 ((p35.1 145 7) + 1)) (fun c36 =>
        j82 (v33, c36)))
      (fun j72 =>
      if 0 ≤ v33 then
        j72 r31.2
      else
        Option.bind (d_42 n r31.2) (fun v38 =>
        Option.bind (d_41 n 5 v38 r31.2) (Sum.elim (fun r39 =>
        j72 r39)
        (fun z40 => some (.inr z40)))))))
      (fun z32 => some (.inr z32)))))
theorem d269_s : d_269 n c = lt (pI c 145 7 ((c.1 145 7) + 1)) (fun c1 =>
  Option.bind (d_261 n c1) (fun v3 =>
  jn (fun p4 : Int32 =>
    Option.bind (d_260 n v3 p4 c1) (Sum.elim (hC2 n)
    (fun z6 => some (.inr z6))))
  (fun j32 =>
  if (c1.1 7 10) < 12 then
    j32 0
  else
    j32 1))) := rfl
/-- the reference: what stands in a CLASS -/
def cbR (n : Nat) (v7 : Int32) (s26 : Int32 × cS) : Option ((Int32 × cS) ⊕ cS) :=
            if s26.1 = 0 then
              some (.inr s26.2)
            else
              if (s26.2.1 174 13) = 0 then
                Option.bind (d_102 n 3 s26.2) (fun r27 =>
                if r27.1 = 0 then
                  Option.bind (d_102 n 4 r27.2) (fun r28 =>
                  if r28.1 = 0 then
                    some (.inl (0, r28.2))
                  else
                    Option.bind (d_405 n v7 r28.2) (fun r30 =>
                    some (.inl (s26.1, r30))))
                else
                  Option.bind (d_404 n v7 r27.2) (fun r31 =>
                  some (.inl (s26.1, r31))))
              else
                some (.inr s26.2)
def kR6 (n : Nat) (v7 : Int32) (c23 : cS) : Option cS :=
          Option.bind (whl (cbR n v7) n (1, c23))
          (fun x32 : cS =>
            Option.bind (d_380 n 125 x32) (fun r33 =>
            some r33))
def kR5 (n : Nat) (v7 : Int32) (r21 : cS) : Option cS :=
        Option.bind (d_380 n 123 r21) (fun r22 =>
        if (r22.1 174 13) = 0 then
          lt (pI r22 174 37 ((r22.1 174 37) + 1)) (kR6 n v7)
        else
          some r22)
def kR4 (n : Nat) (nm : Int64) (p5 : Int32 × cS) : Option cS :=
      if (p5.2.1 174 13) = 0 then
        lt ((p5.2.1 174 37) : Int32) (fun v7 =>
        if ib v7 12 then
        lt (pL p5.2 200 (ix v7) nm) (fun c10 =>
        if ib v7 12 then
        lt (pI c10 201 (ix v7) p5.1) (fun c13 =>
        if ib v7 12 then
        lt (pI c13 202 (ix v7) 0) (fun c16 =>
        if ib v7 12 then
        lt (pI c16 203 (ix v7) 0) (fun c19 =>
        Option.bind (d_396 n (100 * v7) 1 1 0 c19) (kR5 n v7))
        else none)
        else none)
        else none)
        else none)
      else
        some p5.2
def kR2 (n : Nat) (r1 : Int64 × cS) : Option cS :=
  if (r1.2.1 174 13) = 0 then
    Option.bind (d_379 n 58 r1.2) (fun r4 =>
    jn (kR4 n r1.1)
    (fun j73 =>
    if r4.1 = 0 then
      j73 ((-1), r4.2)
    else
      lt ((r4.2.1 174 67) : Int32) (fun v35 =>
      Option.bind (d_381 n r4.2) (fun r37 =>
      if (r37.2.1 174 13) = 0 then
        Option.bind (d_375 n r37.1 r37.2) (fun v39 =>
        if 0 ≤ v39 then
          j73 (v39, r37.2)
        else
          if ib v35 4001 then
          Option.bind (d_97 n 5 (r37.2.1 179 (ix v35)) r37.2) (fun r42 =>
          j73 (v39, r42))
          else none)
      else
        some r37.2))))
  else
    some r1.2
theorem d403_s : d_403 n c = Option.bind (d_383 n (c.1 174 37) 12 c) (kR2 n) := rfl
theorem kR4_w {x : Int32} (h : v.1 174 13 = nI 1) : kR4 n nm (x, v) = some v := by
  unfold kR4
  exact eq_wp (wpf (ne13 h) rfl)
theorem kR5_w {x : Int32} (h : v.1 174 13 = nI 1) : kR5 n x v = some v := by
  unfold kR5
  exact eq_wp (wpe (e380w h) (wpf (ne13 h) rfl))
/-- what the reading of the head of CLASS k may change -/
def qHc (k U A l : Nat) : Bool := decide ((A = 145 ∧ (l = 7 ∨ l = 8)) ∨ (A = 7 ∧ l = 10) ∨ ((A = 12 ∨ A = 13 ∨ A = 14 ∨ A = 17) ∧ l = k) ∨ (A = 133 ∧ (l = 11 ∨ l = 13)) ∨ ((A = 142 ∨ A = 143 ∨ A = 144) ∧ l = 100 * k) ∨ (134 ≤ A ∧ A ≤ 138 ∧ U ≤ l) ∨ (139 ≤ A ∧ A ≤ 141 ∧ U * 4 ≤ l))
def qHu (k A l : Nat) : Bool := decide ((A = 174 ∧ (l = 67 ∨ l = 68 ∨ l = 37)) ∨ (200 ≤ A ∧ A ≤ 203 ∧ l = k) ∨ (A = 222 ∧ l = 100 * k) ∨ (223 ≤ A ∧ A ≤ 225 ∧ 100 * k * 20 ≤ l ∧ l < 100 * k * 20 + 20) ∨ (226 ≤ A ∧ A ≤ 228 ∧ 100 * k * 80 ≤ l ∧ l < 100 * k * 80 + 80))
theorem qHc_c (h : sx (qHc k U) c d) : sx QRc c d := sx_wide h (fun A j z => by
  have := of_decide_eq_false z
  exact decide_eq_false (by omega))
theorem qHu_u (h : sx (qHu k) u d) : sx QRu u d := sx_wide h (fun A j z => by
  have := of_decide_eq_false z
  exact decide_eq_false (by omega))
def HDP (K P : Nat → Nat) (V : Nat → Int64) (N : Nat) (c u : cS) (oc kc k U i : Nat) (nm : Int64) (sp : Int32) (d q : cS) : Prop := ∃ i' m, i + 2 * m + 1 ≤ i' ∧ PSI K P V N d q i' ∧ d.1 145 8 = nI k ∧ d.2 12 k = nm ∧ q.2 200 k = nm ∧ d.1 13 k = sp ∧ q.1 201 k = sp ∧ d.1 14 k = nI 0 ∧ d.1 17 k = nI 0 ∧ q.1 202 k = nI 0 ∧ q.1 203 k = nI 0 ∧ d.1 7 10 = nI (k + 1) ∧ q.1 174 37 = nI (k + 1) ∧ RWR d q oc kc (100 * k) U m 0 ∧ d.1 133 11 = nI (U + m) ∧ d.1 133 12 = nM ∧ d.1 133 13 = nI (U + m) ∧ sx (qHc k U) c d ∧ sx (qHu k) u q
theorem chd4 (hn : 10000 ≤ n) (hk : k < 12) (hP : PSI K P V N w v j) (hj : j0 ≤ j) (hU : 2 * U ≤ j) (h7 : w.1 7 10 = nI k) (h37 : v.1 174 37 = nI k) (hV : ENV w v oc kc mc 0) (h11 : w.1 133 11 = nI U) (h12 : w.1 133 12 = nM) (h13 : w.1 133 13 = nI U) (h144 : w.1 144 (100 * k) = nI 0) (sc : sx (qHc k U) c0 w) (su : sx (qHu k) u0 v) : HDX c0 u0 (HDP K P V N c0 u0 oc kc k U j0 nm sp) (hC4 n nm (sp, w)) (kR4 n nm (sp, v)) (kR6 n (nI k)) := by
  have hik : ib (nI k) 12 := ib_n hk (by decide)
  have ek : ix (nI k) = k := ix_n (by omega)
  have e100 : (100 : Int32) * nI k = nI (100 * k) := by rw [show (100 : Int32) = nI 100 from rfl, pk_mul]
  have hkc := hV.1.2.1
  obtain ⟨w1, hw1⟩ : ∃ w1, w1 = pI (pI (pI (pI (pL (pI w 145 8 (nI k)) 12 k nm) 13 k sp) 14 k 0) 17 k 0) 7 10 (nI (k + 1)) := ⟨_, rfl⟩
  obtain ⟨v1, hv1⟩ : ∃ v1, v1 = pI (pI (pI (pL v 200 k nm) 201 k sp) 202 k 0) 203 k 0 := ⟨_, rfl⟩
  have s1 : sx (fun A l => decide ((A = 145 ∧ l = 8) ∨ (A = 7 ∧ l = 10) ∨ ((A = 12 ∨ A = 13 ∨ A = 14 ∨ A = 17) ∧ l = k))) w w1 := by
    rw [hw1]
    exact sx_pI (sx_pI (sx_pI (sx_pI (sx_pL (sx_pI sx_rfl (decide_eq_true (by omega))) (decide_eq_true (by omega))) (decide_eq_true (by omega))) (decide_eq_true (by omega))) (decide_eq_true (by omega))) (decide_eq_true (by omega))
  have t1 : sx (fun A l => decide (200 ≤ A ∧ A ≤ 203 ∧ l = k)) v v1 := by
    rw [hv1]
    exact sx_pI (sx_pI (sx_pI (sx_pL sx_rfl (decide_eq_true (by omega))) (decide_eq_true (by omega))) (decide_eq_true (by omega))) (decide_eq_true (by omega))
  have cf : ∀ A l, ¬ ((A = 145 ∧ l = 8) ∨ (A = 7 ∧ l = 10) ∨ ((A = 12 ∨ A = 13 ∨ A = 14 ∨ A = 17) ∧ l = k)) → w1.1 A l = w.1 A l ∧ w1.2 A l = w.2 A l := fun A l z => ⟨s1.1 _ _ (decide_eq_false z), s1.2 _ _ (decide_eq_false z)⟩
  have uf : ∀ A l, ¬ (200 ≤ A ∧ A ≤ 203 ∧ l = k) → v1.1 A l = v.1 A l ∧ v1.2 A l = v.2 A l := fun A l z => ⟨t1.1 _ _ (decide_eq_false z), t1.2 _ _ (decide_eq_false z)⟩
  have hP1 : PSI K P V N w1 v1 j := PSI_sx hP s1 t1 (fun A l z => decide_eq_false (by omega)) (fun A l z => decide_eq_false (by omega))
  have hV1 : ENV w1 v1 oc kc mc 0 := ENV_k hV (fun A l z => cf A l (by unfold kcR kA at z; omega)) (fun A l z => uf A l (by unfold kuR at z; omega))
  have sc1 : sx (qHc k U) c0 w1 := sx_trans sc (sx_wide s1 (fun A l z => by
    have := of_decide_eq_false z
    exact decide_eq_false (by omega)))
  have su1 : sx (qHu k) u0 v1 := sx_trans su (sx_wide t1 (fun A l z => by
    have := of_decide_eq_false z
    exact decide_eq_false (by omega)))
  have g8 : w1.1 145 8 = nI k := by
    rw [hw1, rI, if_neg (by omega), rI, if_neg (by omega), rI, if_neg (by omega), rI, if_neg (by omega)]
    show (pI w 145 8 (nI k)).1 145 8 = _
    rw [rI, if_pos ⟨rfl, rfl⟩]
  have hmg := marks_go (w := 0) (rc := 100 * k) (rr := 100 * k) hn (by omega) (by omega) (by omega) hU hP1 hV1 (by rw [(cf _ _ (by omega)).1]; exact h11) (by rw [(cf _ _ (by omega)).1]; exact h12) (by rw [(cf _ _ (by omega)).1]; exact h13) (by rw [(cf _ _ (by omega)).1]; exact h144)
  obtain ⟨r, q, y1, y2, y3⟩ := jw_ex hmg
  have hX : ∀ {Q : cS ⊕ cS → Prop}, wp (Sum.elim (hC5 n) (fun z28 => some (.inr z28)) r) Q → wp (hC4 n nm (sp, w)) Q := fun {Q} h => by
    have b1 : (pI w 145 8 (nI k)).1 145 8 = nI k := by rw [rI, if_pos ⟨rfl, rfl⟩]
    have b2 : (pL (pI w 145 8 (nI k)) 12 k nm).1 145 8 = nI k := b1
    have b3 : (pI (pL (pI w 145 8 (nI k)) 12 k nm) 13 k sp).1 145 8 = nI k := by rw [rI, if_neg (by omega)]; exact b1
    have b4 : (pI (pI (pL (pI w 145 8 (nI k)) 12 k nm) 13 k sp) 14 k 0).1 145 8 = nI k := by rw [rI, if_neg (by omega)]; exact b3
    have b5 : (pI (pI (pI (pL (pI w 145 8 (nI k)) 12 k nm) 13 k sp) 14 k 0) 17 k 0).1 7 10 = nI k := by
      rw [rI, if_neg (by omega), rI, if_neg (by omega), rI, if_neg (by omega)]
      show (pI w 145 8 (nI k)).1 7 10 = _
      rw [rI, if_neg (by omega)]
      exact h7
    unfold hC4
    dsimp only
    rw [h7]
    refine wpl ?_
    rw [b1, ek]
    refine wpt hik (wpl ?_)
    rw [b2, ek]
    refine wpt hik (wpl ?_)
    rw [b3, ek]
    refine wpt hik (wpl ?_)
    rw [b4, ek]
    refine wpt hik (wpl ?_)
    rw [b5, nI_1]
    refine wpl ?_
    rw [← hw1, g8, e100]
    exact wpe y1 h
  have hY : ∀ {Q : cS → Prop}, wp (kR5 n (nI k) q) Q → wp (kR4 n nm (sp, v)) Q := fun {Q} h => by
    unfold kR4
    dsimp only
    refine wpt hP.2.2.2.2 ?_
    rw [h37]
    refine wpl ?_
    rw [ek, e100]
    refine wpt hik (wpl (wpt hik (wpl (wpt hik (wpl (wpt hik (wpl ?_)))))))
    rw [← hv1]
    exact wpe y2 h
  rcases y3 with ⟨d, i, m, rfl, a1, a2, a3, a4, a5, a6, a7⟩ | ⟨z, rfl, hf'⟩
  rotate_left
  · exact Or.inr ⟨z, q, eq_wp (hX rfl), eq_wp (hY (wp_of (kR5_w hf'.2.2.1) rfl)), FLR_tr hf' (qHc_c sc1) (qHu_u su1)⟩
  have sd : sx (qHc k U) c0 d := sx_trans sc1 (sx_wide a6 (fun A l z => by
    have := of_decide_eq_false z
    exact decide_eq_false (by omega)))
  have sq : sx (qHu k) u0 q := sx_trans su1 (sx_wide a7 (fun A l z => by
    have := of_decide_eq_false z
    exact decide_eq_false (by omega)))
  rcases exp_s (n := n) (b := 123) a3 (by decide) (by decide) with ⟨z1, z2, z3⟩ | ⟨z1, z2⟩
  rotate_left
  · refine Or.inr ⟨flC d 2 (nI (P i)), flt q 2 (nI (P i)), eq_wp (hX ?_), eq_wp (hY ?_), FLR_of (qHc_c sd) (qHu_u sq)⟩
    · rw [Sum.elim_inl]
      unfold hC5
      exact wpe z1 (wpSr rfl)
    · unfold kR5
      exact wpe z2 (wpf (ne13 flt_at.1) rfl)
  have q37 : (atR q (i + 1)).1 174 37 = nI k := by
    unfold atR
    rw [rI, if_neg (by omega), a7.1 _ _ (decide_eq_false (by omega)), (uf _ _ (by omega)).1]
    exact h37
  refine Or.inl ⟨atC d (i + 1), pI (atR q (i + 1)) 174 37 (nI (k + 1)), eq_wp (hX ?_), fun Q h => hY ?_, ?_⟩
  · rw [Sum.elim_inl]
    unfold hC5
    exact wpe z1 (wpSl rfl)
  · unfold kR5
    refine wpe z2 (wpt z3.2.2.2.2 ?_)
    rw [q37, nI_1]
    exact wpl h
  have hN := a3.1.1
  have hN2 := a3.2.1
  have hr := a4.1
  have D : ∀ A l, qRc (100 * k) U A l = false → ¬ (A = 145 ∧ l = 7) → (atC d (i + 1)).1 A l = w1.1 A l := fun A l z z2 => by
    unfold atC
    rw [rI, if_neg z2]
    exact a6.1 _ _ z
  have D2 : ∀ A l, qRc (100 * k) U A l = false → (atC d (i + 1)).2 A l = w1.2 A l := fun A l z => a6.2 _ _ z
  have qf : ∀ A l, ¬ (A = 174 ∧ (l = 67 ∨ l = 37)) → (pI (atR q (i + 1)) 174 37 (nI (k + 1))).1 A l = q.1 A l := fun A l z => by
    rw [rI, if_neg (by omega)]
    unfold atR
    rw [rI, if_neg (by omega)]
  have df : ∀ A l, ¬ (A = 145 ∧ l = 7) → (atC d (i + 1)).1 A l = d.1 A l := fun A l z => by
    unfold atC
    rw [rI, if_neg z]
  refine ⟨i + 1, m, by omega, ?_, ?_, ?_, ?_, ?_, ?_, ?_, ?_, ?_, ?_, ?_, ?_, ?_, ?_, ?_, ?_, ?_, ?_⟩
  · exact PSI_sx z3 (show sx (fun _ _ => false) _ _ from sx_rfl) (sx_pI (r := fun A l => decide (A = 174 ∧ l = 37)) sx_rfl rfl) (fun _ _ _ => rfl) (fun A l z => decide_eq_false (by omega))
  · rw [D _ _ (decide_eq_false (by omega)) (by omega)]
    exact g8
  · rw [D2 _ _ (decide_eq_false (by omega)), hw1]
    show (pL (pI w 145 8 (nI k)) 12 k nm).2 12 k = _
    rw [rL, if_pos ⟨rfl, rfl⟩]
  · show q.2 200 k = _
    rw [a7.2 _ _ (decide_eq_false (by omega)), hv1]
    show (pL v 200 k nm).2 200 k = _
    rw [rL, if_pos ⟨rfl, rfl⟩]
  · rw [D _ _ (decide_eq_false (by omega)) (by omega), hw1, rI, if_neg (by omega), rI, if_neg (by omega), rI, if_neg (by omega), rI, if_pos ⟨rfl, rfl⟩]
  · rw [qf _ _ (by omega), a7.1 _ _ (decide_eq_false (by omega)), hv1, rI, if_neg (by omega), rI, if_neg (by omega), rI, if_pos ⟨rfl, rfl⟩]
  · rw [D _ _ (decide_eq_false (by omega)) (by omega), hw1, rI, if_neg (by omega), rI, if_neg (by omega), rI, if_pos ⟨rfl, rfl⟩]
    rfl
  · rw [D _ _ (decide_eq_false (by omega)) (by omega), hw1, rI, if_neg (by omega), rI, if_pos ⟨rfl, rfl⟩]
    rfl
  · rw [qf _ _ (by omega), a7.1 _ _ (decide_eq_false (by omega)), hv1, rI, if_neg (by omega), rI, if_pos ⟨rfl, rfl⟩]
    rfl
  · rw [qf _ _ (by omega), a7.1 _ _ (decide_eq_false (by omega)), hv1, rI, if_pos ⟨rfl, rfl⟩]
    rfl
  · rw [D _ _ (decide_eq_false (by omega)) (by omega), hw1, rI, if_pos ⟨rfl, rfl⟩]
  · rw [rI, if_pos ⟨rfl, rfl⟩]
  · exact RWR_k (RWR_of a4 (by omega)) (ENB_of a5) (fun A l z => ⟨df _ _ (by unfold rcR at z; omega), rfl⟩) (fun A l z => ⟨qf _ _ (by unfold ruR at z; omega), rfl⟩) (fun A l z1 z2 z => ⟨qf _ _ (by omega), rfl⟩)
  · rw [df _ _ (by omega)]
    exact hr.1
  · rw [df _ _ (by omega)]
    exact hr.2.1
  · rw [df _ _ (by omega)]
    exact hr.2.2.1
  · exact sx_pI sd (decide_eq_true (by omega))
  · exact sx_pI (sx_pI sq (decide_eq_true (by omega))) (decide_eq_true (by omega))
end CHD
