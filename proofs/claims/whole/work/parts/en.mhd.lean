/-! READING the head of a METHOD -/
section MHD
variable {n i j j0 N k q M p0 t m U U0 tot oc kc mc : Nat} {c d u w v c0 u0 : cS} {K P : Nat → Nat} {V : Nat → Int64} {nm : Int64}
def mC5 (n : Nat) (x61 : cS) : Option (cS ⊕ cS) :=
          Option.bind (d_257 n 41 x61) (Sum.elim (fun r62 =>
          Option.bind (d_156 n (r62.1 145 9)) (fun v64 =>
          Option.bind (d_273 n v64 2 r62) (Sum.elim (hC5 n)
          (fun z66 => some (.inr z66)))))
          (fun z63 => some (.inr z63)))
def mC4 (n : Nat) (r35 : cS) : Option (cS ⊕ cS) :=
      Option.bind (d_43 n r35) (fun v37 =>
      jn (fun p38 : Int32 =>
        Option.bind (whl (pmC n) n (p38, 0, r35))
        (Sum.elim (mC5 n)
        (fun x69 : (cS) ⊕ cS =>
          some x69)))
      (fun j190 =>
      if v37 = 41 then
        j190 0
      else
        j190 1))
def mC2 (n : Nat) (v5 : Int32) (r11 : Int64 × cS) : Option (cS ⊕ cS) :=
      lt (pI r11.2 145 9 (((r11.2.1 145 8) * 8) + v5)) (fun c14 =>
      if ib (c14.1 145 9) 96 then
      lt (pL c14 115 (ix (c14.1 145 9)) r11.1) (fun c17 =>
      if ib (c17.1 145 9) 96 then
      lt (pI c17 116 (ix (c17.1 145 9)) 0) (fun c20 =>
      if ib (c20.1 145 9) 96 then
      lt (pI c20 117 (ix (c20.1 145 9)) 0) (fun c23 =>
      if ib (c23.1 145 9) 96 then
      lt (pI c23 119 (ix (c23.1 145 9)) (c23.1 114 7)) (fun c26 =>
      if ib (c26.1 145 9) 96 then
      lt (pI c26 120 (ix (c26.1 145 9)) 0) (fun c29 =>
      if ib (c29.1 145 8) 12 then
      if ib (c29.1 145 8) 12 then
      lt (pI c29 17 (ix (c29.1 145 8)) ((c29.1 17 (ix (c29.1 145 8))) + 1)) (fun c33 =>
      Option.bind (d_257 n 40 c33) (Sum.elim (mC4 n)
      (fun z36 => some (.inr z36))))
      else none
      else none)
      else none)
      else none)
      else none)
      else none)
      else none)
theorem d271_s : d_271 n c = lt (pI c 145 7 ((c.1 145 7) + 1)) (fun c1 =>
  if ib (c1.1 145 8) 12 then
  lt ((c1.1 17 (ix (c1.1 145 8))) : Int32) (fun v5 =>
  if ib (c1.1 145 7) 4001 then
  Option.bind (d_159 n (c1.1 145 8) (c1.2 5 (ix (c1.1 145 7))) c1) (fun v8 =>
  jn (fun p9 : Int32 =>
    jn (fun p10 : Int32 =>
      Option.bind (d_260 n p9 p10 c1) (Sum.elim (mC2 n v5)
      (fun z12 => some (.inr z12))))
    (fun j66 =>
    if v5 < 8 then
      j66 0
    else
      j66 1))
  (fun j55 =>
  if v8 < 0 then
    j55 0
  else
    j55 1))
  else none)
  else none) := rfl
/-- the reference: the ACTS of a METHOD -/
def aLR (n : Nat) (v22 : Int32) (s50 : Int32 × cS) : Option ((Int32 × cS) ⊕ cS) :=
                if s50.1 = 0 then
                  some (.inr s50.2)
                else
                  if (s50.2.1 174 13) = 0 then
                    Option.bind (d_408 n v22 s50.2) (fun r51 =>
                    jn (fun p52 : Int32 × cS =>
                      some (.inl (p52.1, p52.2)))
                    (fun j291 =>
                    jn (fun p54 : cS =>
                      j291 (0, p54))
                    (fun j290 =>
                    if (r51.1 174 13) = 0 then
                      Option.bind (d_379 n 125 r51) (fun r55 =>
                      if r55.1 = 0 then
                        j291 (1, r55.2)
                      else
                        j290 r55.2)
                    else
                      j290 r51)))
                  else
                    some (.inr s50.2)
def mR8 (n : Nat) (v22 : Int32) (c47 : cS) : Option cS :=
              Option.bind (whl (aLR n v22) n (1, c47))
              (fun x56 : cS =>
                some x56)
def mR7 (n : Nat) (a1 v22 : Int32) (r44 : cS) : Option cS :=
              if ib a1 12 then
              if ib a1 12 then
              lt (pI r44 203 (ix a1) ((r44.1 203 (ix a1)) + 1)) (mR8 n v22)
              else none
              else none
def mR5 (n : Nat) (a1 v22 v26 : Int32) (p41 : cS) : Option cS :=
            Option.bind (d_380 n 41 p41) (fun r42 =>
            if (r42.1 174 13) = 0 then
              Option.bind (d_396 n v26 4 1 0 r42) (fun r43 =>
              Option.bind (d_380 n 123 r43) (mR7 n a1 v22))
            else
              some r42)
def mR4 (n : Nat) (a1 v22 v26 : Int32) (c38 : cS) : Option cS :=
          Option.bind (d_101 n 41 c38) (fun v40 =>
          jn (mR5 n a1 v22 v26)
          (fun j210 =>
          if v40 = 0 then
            Option.bind (whl (plR n v22 v26) n (1, c38))
            (fun x62 : cS =>
              j210 x62)
          else
            j210 c38))
def mR2 (n : Nat) (a1 : Int32) (nm : Int64) (p18 : cS) : Option cS :=
        Option.bind (d_380 n 40 p18) (fun r19 =>
        if (r19.1 174 13) = 0 then
          if ib a1 12 then
          lt (((8 * a1) + (r19.1 203 (ix a1))) : Int32) (fun v22 =>
          if ib a1 12 then
          lt ((((100 * a1) + 20) + (10 * (r19.1 203 (ix a1)))) : Int32) (fun v26 =>
          if ib v22 96 then
          lt (pL r19 206 (ix v22) nm) (fun c29 =>
          if ib v22 96 then
          lt (pI c29 207 (ix v22) 0) (fun c32 =>
          if ib v22 96 then
          lt (pI c32 208 (ix v22) 0) (fun c35 =>
          if ib v22 96 then
          lt (pI c35 210 (ix v22) 0) (mR4 n a1 v22 v26)
          else none)
          else none)
          else none)
          else none)
          else none)
          else none
        else
          some r19)
theorem d405_s {a1 : Int32} : d_405 n a1 c = nwN n 203 206 12 96 8 a1 (mR2 n a1) c := rfl
theorem mR2_w {a1 : Int32} (h : v.1 174 13 = nI 1) : mR2 n a1 nm v = some v := by
  unfold mR2
  exact eq_wp (wpe (e380w h) (wpf (ne13 h) rfl))
theorem mR5_w {a b e : Int32} (h : v.1 174 13 = nI 1) : mR5 n a b e v = some v := by
  unfold mR5
  exact eq_wp (wpe (e380w h) (wpf (ne13 h) rfl))
theorem mR8_w {a : Int32} (hn : 0 < n) (h : v.1 174 13 = nI 1) : mR8 n a v = some v := by
  obtain ⟨k, hk⟩ : ∃ k, n = k + 1 := ⟨n - 1, by omega⟩
  have h1 : whl (aLR n a) n (1, v) = some v := by
    have h2 : whl (aLR n a) (k + 1) (1, v) = some v := whl_out (by
      unfold aLR
      exact eq_wp (wpf (show ¬ (1 : Int32) = 0 by decide) (wpf (ne13 h) rfl)))
    rw [← hk] at h2
    exact h2
  unfold mR8
  exact eq_wp (wpe h1 rfl)
theorem mR7_w {a : Int32} {Q : cS → Prop} (hn : 0 < n) (hk : k < 12) (h : v.1 174 13 = nI 1) (hQ : ∀ q, sx (fun A l => decide (A = 203 ∧ l = k)) v q → Q q) : wp (mR7 n (nI k) a v) Q := by
  have hik : ib (nI k) 12 := ib_n hk (by decide)
  unfold mR7
  rw [show ix (nI k) = k from ix_n (by omega)]
  refine wpt hik (wpt hik (wpl (wp_of (mR8_w hn ?_) (hQ _ (sx_pI sx_rfl (decide_eq_true ⟨rfl, rfl⟩))))))
  rw [rI, if_neg (by omega)]
  exact h
/-- what the reading of the head of METHOD M of CLASS k may change -/
def qWh (k M p0 U A l : Nat) : Bool := decide ((A = 145 ∧ (l = 7 ∨ l = 9)) ∨ (A = 17 ∧ l = k) ∨ ((115 ≤ A ∧ A ≤ 120 ∧ A ≠ 118) ∧ l = M) ∨ (A = 118 ∧ M * 8 ≤ l ∧ l < M * 8 + 8) ∨ (A = 133 ∧ (l = 11 ∨ l = 13)) ∨ ((A = 142 ∨ A = 143 ∨ A = 144) ∧ (p0 ≤ l ∧ l ≤ p0 + 4)) ∨ (134 ≤ A ∧ A ≤ 138 ∧ U ≤ l) ∨ (139 ≤ A ∧ A ≤ 141 ∧ U * 4 ≤ l))
def qWg (k M p0 A l : Nat) : Bool := decide ((A = 174 ∧ (l = 67 ∨ l = 68)) ∨ (A = 203 ∧ l = k) ∨ ((A = 206 ∨ A = 207 ∨ A = 208 ∨ A = 210) ∧ l = M) ∨ (A = 209 ∧ 8 * M ≤ l ∧ l < 8 * M + 8) ∨ (A = 222 ∧ (p0 ≤ l ∧ l ≤ p0 + 4)) ∨ (223 ≤ A ∧ A ≤ 225 ∧ (p0 * 20 ≤ l ∧ l < (p0 + 5) * 20)) ∨ (226 ≤ A ∧ A ≤ 228 ∧ (p0 * 80 ≤ l ∧ l < (p0 + 5) * 80)))
theorem qWh_c (h : sx (qWh k M p0 U) c d) : sx QRc c d := sx_wide h (fun A j z => by
  have := of_decide_eq_false z
  exact decide_eq_false (by omega))
theorem qWg_u (h : sx (qWg k M p0) u d) : sx QRu u d := sx_wide h (fun A j z => by
  have := of_decide_eq_false z
  exact decide_eq_false (by omega))
/-- METHOD M besides its PARAMETERS -/
def MH0 (w v : cS) (k q M tot : Nat) : Prop := w.2 115 M = v.2 206 M ∧ w.1 119 M = nI tot ∧ w.1 120 M = nI 0 ∧ v.1 210 M = nI 0 ∧ w.1 17 k = nI (q + 1) ∧ v.1 203 k = nI q ∧ w.1 114 7 = nI tot
def MHP (K P : Nat → Nat) (V : Nat → Int64) (N : Nat) (c u : cS) (oc kc mc k q M p0 U0 tot j0 : Nat) (d v : cS) : Prop := ∃ i t U, j0 + 1 ≤ i ∧ PSI K P V N d v i ∧ 2 * U ≤ i ∧ U0 ≤ U ∧ (d.1 145 8 = nI k ∧ d.1 145 9 = nI M) ∧ (t ≤ 4 ∧ d.1 116 M = nI t ∧ d.1 117 M = nI t ∧ v.1 207 M = nI t ∧ v.1 208 M = nI t) ∧ (∀ j, j < t → d.2 118 (M * 8 + j) = v.2 209 (8 * M + j)) ∧ ENV d v oc kc mc 0 ∧ (d.1 133 11 = nI U ∧ d.1 133 12 = nM ∧ d.1 133 13 = nI U) ∧ (∀ j, j < t → ∃ U' m', U' + m' ≤ U ∧ RWR d v oc kc (p0 + 1 + j) U' m' 3) ∧ (∃ U' m', U' + m' ≤ U ∧ RWR d v oc kc p0 U' m' 2) ∧ (∀ r, p0 ≤ r → r ≤ p0 + 4 → ¬ (p0 ≤ r ∧ r < p0 + 1 + t) → d.1 144 r = nI 0) ∧ (d.2 115 M = v.2 206 M ∧ d.1 119 M = nI tot ∧ d.1 120 M = nI 0 ∧ v.1 210 M = nI 0 ∧ d.1 17 k = nI (q + 1) ∧ v.1 203 k = nI (q + 1) ∧ d.1 114 7 = nI tot) ∧ sx (qWh k M p0 U0) c d ∧ sx (qWg k M p0) u v
theorem mhd5 (hn : 10000 ≤ n) (hk : k < 12) (hM : M < 96) (hp : p0 + 4 < 1200) (h156 : d_156 n (nI M) = some (nI p0)) (hP : PSI K P V N w v j) (hj : j0 ≤ j) (hU : 2 * U ≤ j) (hUU : U0 ≤ U) (hS : PMS w v k M p0 t oc kc mc U) (hH : MH0 w v k q M tot) (sc : sx (qWh k M p0 U0) c0 w) (su : sx (qWg k M p0) u0 v) : HDX c0 u0 (MHP K P V N c0 u0 oc kc mc k q M p0 U0 tot j0) (mC5 n w) (mR5 n (nI k) (nI M) (nI p0) v) (mR8 n (nI M)) := by
  have hik : ib (nI k) 12 := ib_n hk (by decide)
  have ek : ix (nI k) = k := ix_n (by omega)
  rcases exp_s (n := n) (b := 41) hP (by decide) (by decide) with ⟨y1, y2, y3⟩ | ⟨y1, y2⟩
  rotate_left
  · refine Or.inr ⟨flC w 2 (nI (P j)), flt v 2 (nI (P j)), ?_, ?_, FLR_of (qWh_c sc) (qWg_u su)⟩
    · unfold mC5
      exact eq_wp (wpe y1 (wpSr rfl))
    · unfold mR5
      exact eq_wp (wpe y2 (wpf (ne13 flt_at.1) rfl))
  have hS1 : PMS (atC w (j + 1)) (atR v (j + 1)) k M p0 t oc kc mc U := PMS_cg hS hM (fun A l z => ⟨by unfold atC; rw [rI, if_neg z], rfl⟩) (fun A l z => ⟨by unfold atR; rw [rI, if_neg z], rfl⟩)
  have sc1 : sx (qWh k M p0 U0) c0 (atC w (j + 1)) := sx_pI sc (decide_eq_true (by omega))
  have su1 : sx (qWg k M p0) u0 (atR v (j + 1)) := sx_pI su (decide_eq_true (by omega))
  have hH1 : MH0 (atC w (j + 1)) (atR v (j + 1)) k q M tot := by
    obtain ⟨x1, x2, x3, x4, x5, x6, x7⟩ := hH
    have C : ∀ A l, A ≠ 145 → (atC w (j + 1)).1 A l = w.1 A l := fun A l z => by
      unfold atC
      rw [rI, if_neg (by omega)]
    have R : ∀ A l, A ≠ 174 → (atR v (j + 1)).1 A l = v.1 A l := fun A l z => by
      unfold atR
      rw [rI, if_neg (by omega)]
    exact ⟨x1, by rw [C _ _ (by omega)]; exact x2, by rw [C _ _ (by omega)]; exact x3, by rw [R _ _ (by omega)]; exact x4, by rw [C _ _ (by omega)]; exact x5, by rw [R _ _ (by omega)]; exact x6, by rw [C _ _ (by omega)]; exact x7⟩
  obtain ⟨w1, hw1⟩ : ∃ w1, w1 = atC w (j + 1) := ⟨_, rfl⟩
  obtain ⟨v1, hv1⟩ : ∃ v1, v1 = atR v (j + 1) := ⟨_, rfl⟩
  rw [← hw1] at y1 y3 hS1 sc1 hH1
  rw [← hv1] at y2 y3 hS1 su1 hH1
  obtain ⟨⟨a1, a2⟩, ⟨b1, b2, b3, b4, b5⟩, d1, e1, ⟨f1, f2, f3⟩, g1, h1⟩ := hS1
  obtain ⟨x1, x2, x3, x4, x5, x6, x7⟩ := hH1
  have hkc := e1.1.2.1
  have hmg := marks_go (w := 2) (rc := p0) (rr := p0) hn (by omega) (by omega) (by omega) (show 2 * U ≤ j + 1 by omega) y3 e1 f1 f2 f3 (h1 _ (by omega) (by omega) (by omega))
  obtain ⟨r, s, o1, o2, o3⟩ := jw_ex hmg
  have hX : ∀ {Q : cS ⊕ cS → Prop}, wp (Sum.elim (hC5 n) (fun z28 => some (.inr z28)) r) Q → wp (mC5 n w) Q := fun {Q} h => by
    unfold mC5
    refine wpe y1 (wpSl ?_)
    rw [a2]
    exact wpe h156 (wpe o1 h)
  have hY : ∀ {Q : cS → Prop}, wp (Option.bind (d_380 n 123 s) (mR7 n (nI k) (nI M))) Q → wp (mR5 n (nI k) (nI M) (nI p0) v) Q := fun {Q} h => by
    unfold mR5
    exact wpe y2 (wpt y3.2.2.2.2 (wpe o2 h))
  have F203 : ∀ {z s s' : cS}, FLR c0 u0 z s → sx (fun A l => decide (A = 203 ∧ l = k)) s s' → FLR c0 u0 z s' := fun {z s s'} h hs => FLR_sx h hs (fun A l z => by
    have := of_decide_eq_true z
    exact decide_eq_true (by omega)) (fun l z1 z2 => decide_eq_false (by omega))
  rcases o3 with ⟨d, i, m, rfl, z1, z2, z3, z4, z5, z6, z7⟩ | ⟨z, rfl, hf'⟩
  rotate_left
  · obtain ⟨q', e1', e2'⟩ := wp_ex (mR7_w (n := n) (a := nI M) (v := s) (k := k) (Q := fun q' => sx (fun A l => decide (A = 203 ∧ l = k)) s q') (by omega) hk hf'.2.2.1 (fun q' h => h))
    exact Or.inr ⟨z, q', eq_wp (hX rfl), eq_wp (hY (wpe (e380w hf'.2.2.1) (wp_of e1' rfl))), F203 (FLR_tr hf' (qWh_c sc1) (qWg_u su1)) e2'⟩
  have sd : sx (qWh k M p0 U0) c0 d := sx_trans sc1 (sx_wide z6 (fun A l z => by
    have := of_decide_eq_false z
    exact decide_eq_false (by omega)))
  have sq : sx (qWg k M p0) u0 s := sx_trans su1 (sx_wide z7 (fun A l z => by
    have := of_decide_eq_false z
    exact decide_eq_false (by omega)))
  rcases exp_s (n := n) (b := 123) z3 (by decide) (by decide) with ⟨t1, t2, t3⟩ | ⟨t1, t2⟩
  rotate_left
  · obtain ⟨q', e1', e2'⟩ := wp_ex (mR7_w (n := n) (a := nI M) (v := flt s 2 (nI (P i))) (k := k) (Q := fun q' => sx (fun A l => decide (A = 203 ∧ l = k)) (flt s 2 (nI (P i))) q') (by omega) hk flt_at.1 (fun q' h => h))
    refine Or.inr ⟨flC d 2 (nI (P i)), q', eq_wp (hX ?_), eq_wp (hY (wpe t2 (wp_of e1' rfl))), F203 (FLR_of (qWh_c sd) (qWg_u sq)) e2'⟩
    rw [Sum.elim_inl]
    unfold hC5
    exact wpe t1 (wpSr rfl)
  have D : ∀ A l, qRc p0 U A l = false → d.1 A l = w1.1 A l ∧ d.2 A l = w1.2 A l := fun A l z => ⟨z6.1 _ _ z, z6.2 _ _ z⟩
  have Q1 : ∀ A l, qRr p0 A l = false → s.1 A l = v1.1 A l ∧ s.2 A l = v1.2 A l := fun A l z => ⟨z7.1 _ _ z, z7.2 _ _ z⟩
  have s203 : (atR s (i + 1)).1 203 k = nI q := by
    unfold atR
    rw [rI, if_neg (by omega), (Q1 _ _ (decide_eq_false (by omega))).1]
    exact x6
  refine Or.inl ⟨atC d (i + 1), pI (atR s (i + 1)) 203 k (nI (q + 1)), eq_wp (hX ?_), fun Q h => hY (wpe t2 ?_), ?_⟩
  · rw [Sum.elim_inl]
    unfold hC5
    exact wpe t1 (wpSl rfl)
  · unfold mR7
    rw [ek, s203, nI_1]
    exact wpt hik (wpt hik (wpl h))
  have hN := z3.1.1
  have hN2 := z3.2.1
  have hr := z4.1
  have df : ∀ A l, ¬ (A = 145 ∧ l = 7) → (atC d (i + 1)).1 A l = d.1 A l := fun A l z => by
    unfold atC
    rw [rI, if_neg z]
  have qf : ∀ A l, ¬ (A = 174 ∧ l = 67) → ¬ (A = 203 ∧ l = k) → (pI (atR s (i + 1)) 203 k (nI (q + 1))).1 A l = s.1 A l := fun A l z z' => by
    rw [rI, if_neg z']
    unfold atR
    rw [rI, if_neg z]
  refine ⟨i + 1, t, U + m, by omega, ?_, by omega, by omega, ⟨?_, ?_⟩, ⟨b1, ?_, ?_, ?_, ?_⟩, fun l hl => ?_, ?_, ⟨?_, ?_, ?_⟩, fun l hl => ?_, ⟨U, m, Nat.le_refl _, ?_⟩, fun r r1 r2 r3 => ?_, ⟨?_, ?_, ?_, ?_, ?_, ?_, ?_⟩, ?_, ?_⟩
  · exact PSI_sx t3 (show sx (fun _ _ => false) _ _ from sx_rfl) (sx_pI (r := fun A l => decide (A = 203)) sx_rfl rfl) (fun _ _ _ => rfl) (fun A l z => decide_eq_false (by omega))
  · rw [df _ _ (by omega), (D _ _ (decide_eq_false (by omega))).1]
    exact a1
  · rw [df _ _ (by omega), (D _ _ (decide_eq_false (by omega))).1]
    exact a2
  · rw [df _ _ (by omega), (D _ _ (decide_eq_false (by omega))).1]
    exact b2
  · rw [df _ _ (by omega), (D _ _ (decide_eq_false (by omega))).1]
    exact b3
  · rw [qf _ _ (by omega) (by omega), (Q1 _ _ (decide_eq_false (by omega))).1]
    exact b4
  · rw [qf _ _ (by omega) (by omega), (Q1 _ _ (decide_eq_false (by omega))).1]
    exact b5
  · show d.2 _ _ = s.2 _ _
    rw [(D _ _ (decide_eq_false (by omega))).2, (Q1 _ _ (decide_eq_false (by omega))).2]
    exact d1 l hl
  · exact ENV_k z5 (fun A l z => ⟨df _ _ (by unfold kcR kA at z; omega), rfl⟩) (fun A l z => ⟨qf _ _ (by unfold kuR at z; omega) (by unfold kuR at z; omega), rfl⟩)
  · rw [df _ _ (by omega)]
    exact hr.1
  · rw [df _ _ (by omega)]
    exact hr.2.1
  · rw [df _ _ (by omega)]
    exact hr.2.2.1
  · obtain ⟨U', m', y1, y2⟩ := g1 l hl
    refine ⟨U', m', by omega, RWR_k y2 (ENB_of e1) (fun A l' z => ?_) (fun A l' z => ?_) (fun A l' z1 z2 z => ?_)⟩
    · unfold rcR at z
      rw [df _ _ (by omega)]
      exact D _ _ (decide_eq_false (by omega))
    · unfold ruR at z
      rw [qf _ _ (by omega) (by omega)]
      exact Q1 _ _ (decide_eq_false (by omega))
    · rw [qf _ _ (by omega) (by omega)]
      exact Q1 _ _ (decide_eq_false (by omega))
  · exact RWR_k (RWR_of z4 (by omega)) (ENB_of z5) (fun A l z => ⟨df _ _ (by unfold rcR at z; omega), rfl⟩) (fun A l z => ⟨qf _ _ (by unfold ruR at z; omega) (by unfold ruR at z; omega), rfl⟩) (fun A l z1 z2 z => ⟨qf _ _ (by omega) (by omega), rfl⟩)
  · rw [df _ _ (by omega), (D _ _ (decide_eq_false (by omega))).1]
    exact h1 r r1 r2 (by omega)
  · show d.2 _ _ = s.2 _ _
    rw [(D _ _ (decide_eq_false (by omega))).2, (Q1 _ _ (decide_eq_false (by omega))).2]
    exact x1
  · rw [df _ _ (by omega), (D _ _ (decide_eq_false (by omega))).1]
    exact x2
  · rw [df _ _ (by omega), (D _ _ (decide_eq_false (by omega))).1]
    exact x3
  · rw [qf _ _ (by omega) (by omega), (Q1 _ _ (decide_eq_false (by omega))).1]
    exact x4
  · rw [df _ _ (by omega), (D _ _ (decide_eq_false (by omega))).1]
    exact x5
  · rw [rI, if_pos ⟨rfl, rfl⟩]
  · rw [df _ _ (by omega), (D _ _ (decide_eq_false (by omega))).1]
    exact x7
  · exact sx_pI sd (decide_eq_true (by omega))
  · exact sx_pI (sx_pI sq (decide_eq_true (by omega))) (decide_eq_true (by omega))
end MHD
