/-! READING a FIELD -/
section FLD
variable {n i j j0 N k f m U oc kc mc cc : Nat} {c d u w v c0 u0 : cS} {K P : Nat → Nat} {V : Nat → Int64} {nm : Int64} {x : Int32}
def fC5 (n : Nat) (v5 k8 : Int32) (p20 : Int32 × cS) : Option (cS ⊕ cS) :=
        if ib ((k8 * 8) + v5) 96 then
        lt (pI p20.2 16 (ix ((k8 * 8) + v5)) p20.1) (fun c22 =>
        Option.bind (d_257 n 59 c22) (Sum.elim (fun r24 =>
        if ib (r24.1 145 8) 12 then
        if ib (r24.1 145 8) 12 then
        lt (pI r24 14 (ix (r24.1 145 8)) ((r24.1 14 (ix (r24.1 145 8))) + 1)) (fun c28 =>
        some (.inl c28))
        else none
        else none)
        (fun z25 => some (.inr z25))))
        else none
def fC3 (n : Nat) (v5 : Int32) (r17 : cS) : Option (cS ⊕ cS) :=
      Option.bind (d_258 n 61 r17) (fun r19 =>
      jn (fC5 n v5 (r17.1 145 8))
      (fun j139 =>
      if r19.1 = 0 then
        j139 (0, r19.2)
      else
        Option.bind (d_278 n 1 r19.2) (Sum.elim (fun r30 =>
        j139 ((r30.1 : Int64).toInt32, r30.2))
        (fun z31 => some (.inr z31)))))
def fC2 (n : Nat) (v5 : Int32) (r11 : Int64 × cS) : Option (cS ⊕ cS) :=
      if ib (((r11.2.1 145 8) * 8) + v5) 96 then
      lt (pL r11.2 15 (ix (((r11.2.1 145 8) * 8) + v5)) r11.1) (fun c15 =>
      Option.bind (d_273 n (((100 * (c15.1 145 8)) + 1) + v5) 1 c15) (Sum.elim (fC3 n v5)
      (fun z18 => some (.inr z18))))
      else none
theorem d270_s : d_270 n c = lt (pI c 145 7 ((c.1 145 7) + 1)) (fun c1 =>
  if ib (c1.1 145 8) 12 then
  lt ((c1.1 14 (ix (c1.1 145 8))) : Int32) (fun v5 =>
  if ib (c1.1 145 7) 4001 then
  Option.bind (d_253 n (c1.1 145 8) (c1.2 5 (ix (c1.1 145 7))) c1) (fun v8 =>
  jn (fun p9 : Int32 =>
    jn (fun p10 : Int32 =>
      Option.bind (d_260 n p9 p10 c1) (Sum.elim (fC2 n v5)
      (fun z12 => some (.inr z12))))
    (fun j66 =>
    if v5 < 8 then
      j66 0
    else
      j66 1))
  (fun j55 =>
  if v8 < 0 then
    j55 0
  else
    j55 1))
  else none)
  else none) := rfl
def fR5 (n : Nat) (a1 : Int32) (p31 : cS) : Option cS :=
            Option.bind (d_380 n 59 p31) (fun r32 =>
            if ib a1 12 then
            if ib a1 12 then
            lt (pI r32 202 (ix a1) ((r32.1 202 (ix a1)) + 1)) (fun c35 =>
            some c35)
            else none
            else none)
def fR3 (n : Nat) (a1 v21 : Int32) (r29 : cS) : Option cS :=
          Option.bind (d_379 n 61 r29) (fun r30 =>
          jn (fR5 n a1)
          (fun j179 =>
          if r30.1 = 0 then
            j179 r30.2
          else
            Option.bind (d_382 n 0 1 r30.2) (fun r37 =>
            if ib ((8 * a1) + v21) 96 then
            lt (pI r37 205 (ix ((8 * a1) + v21)) (((r37.2 174 68) : Int64).toInt32)) (fun c39 =>
            j179 c39)
            else none)))
def fR2 (n : Nat) (a1 : Int32) (nm : Int64) (p18 : cS) : Option cS :=
        if (p18.1 174 13) = 0 then
          if ib a1 12 then
          lt ((p18.1 202 (ix a1)) : Int32) (fun v21 =>
          if ib ((8 * a1) + v21) 96 then
          lt (pL p18 204 (ix ((8 * a1) + v21)) nm) (fun c24 =>
          if ib ((8 * a1) + v21) 96 then
          lt (pI c24 205 (ix ((8 * a1) + v21)) 0) (fun c27 =>
          Option.bind (d_396 n (((100 * a1) + 1) + v21) 2 1 0 c27) (fR3 n a1 v21))
          else none)
          else none)
          else none
        else
          some p18
theorem d404_s {a1 : Int32} : d_404 n a1 c = nwN n 202 204 12 96 8 a1 (fR2 n a1) c := rfl
theorem fR2_w {a1 : Int32} (h : v.1 174 13 = nI 1) : fR2 n a1 nm v = some v := by
  unfold fR2
  exact eq_wp (wpf (ne13 h) rfl)
theorem fR5_w {Q : cS → Prop} (hk : k < 12) (h : v.1 174 13 = nI 1) (hQ : ∀ q, sx (fun A l => decide (A = 202 ∧ l = k)) v q → Q q) : wp (fR5 n (nI k) v) Q := by
  have hik : ib (nI k) 12 := ib_n hk (by decide)
  unfold fR5
  rw [show ix (nI k) = k from ix_n (by omega)]
  exact wpe (e380w h) (wpt hik (wpt hik (wpl (hQ _ (sx_pI sx_rfl (decide_eq_true ⟨rfl, rfl⟩))))))
theorem fR3_w {a : Int32} {Q : cS → Prop} (hk : k < 12) (h : v.1 174 13 = nI 1) (hQ : ∀ q, sx (fun A l => decide (A = 202 ∧ l = k)) v q → Q q) : wp (fR3 n (nI k) a v) Q := by
  unfold fR3
  exact wpe (e379w h) (wpj (wpt rfl (fR5_w hk h hQ)))
/-- what the reading of FIELD f of CLASS k may change -/
def qFdc (k f U A l : Nat) : Bool := decide ((A = 145 ∧ l = 7) ∨ (A = 14 ∧ l = k) ∨ ((A = 15 ∨ A = 16) ∧ l = k * 8 + f) ∨ (A = 133 ∧ (l = 11 ∨ l = 13)) ∨ ((A = 142 ∨ A = 143 ∨ A = 144) ∧ l = 100 * k + 1 + f) ∨ (134 ≤ A ∧ A ≤ 138 ∧ U ≤ l) ∨ (139 ≤ A ∧ A ≤ 141 ∧ U * 4 ≤ l))
def qFu (k f A l : Nat) : Bool := decide ((A = 174 ∧ (l = 67 ∨ l = 68)) ∨ (A = 202 ∧ l = k) ∨ ((A = 204 ∨ A = 205) ∧ l = 8 * k + f) ∨ (A = 222 ∧ l = 100 * k + 1 + f) ∨ (223 ≤ A ∧ A ≤ 225 ∧ (100 * k + 1 + f) * 20 ≤ l ∧ l < (100 * k + 1 + f) * 20 + 20) ∨ (226 ≤ A ∧ A ≤ 228 ∧ (100 * k + 1 + f) * 80 ≤ l ∧ l < (100 * k + 1 + f) * 80 + 80))
theorem qFc_c (h : sx (qFdc k f U) c d) : sx QRc c d := sx_wide h (fun A j z => by
  have := of_decide_eq_false z
  exact decide_eq_false (by omega))
theorem qFu_u (h : sx (qFu k f) u d) : sx QRu u d := sx_wide h (fun A j z => by
  have := of_decide_eq_false z
  exact decide_eq_false (by omega))
def FDP (K P : Nat → Nat) (V : Nat → Int64) (N : Nat) (c u : cS) (oc kc k f U i : Nat) (r : cS ⊕ cS) (q : cS) : Prop := (∃ d i' m, r = .inl d ∧ i + 2 * m + 1 ≤ i' ∧ f < 8 ∧ PSI K P V N d q i' ∧ d.2 15 (k * 8 + f) = q.2 204 (8 * k + f) ∧ d.1 16 (k * 8 + f) = q.1 205 (8 * k + f) ∧ d.1 14 k = nI (f + 1) ∧ q.1 202 k = nI (f + 1) ∧ RWR d q oc kc (100 * k + 1 + f) U m 1 ∧ d.1 133 11 = nI (U + m) ∧ d.1 133 12 = nM ∧ d.1 133 13 = nI (U + m) ∧ sx (qFdc k f U) c d ∧ sx (qFu k f) u q) ∨ (∃ z, r = .inr z ∧ FLR c u z q)
theorem FLR_202 {z q q' : cS} (h : FLR c u z q) (hs : sx (fun A l => decide (A = 202 ∧ l = k)) q q') : FLR c u z q' := FLR_sx h hs (fun A l z => by
  have := of_decide_eq_true z
  exact decide_eq_true (by omega)) (fun l z1 z2 => decide_eq_false (by omega))
theorem fld5 (hk : k < 12) (hf : f < 8) (hP : PSI K P V N w v j) (hj : j0 + 2 * m ≤ j) (h8 : w.1 145 8 = nI k) (h14 : w.1 14 k = nI f) (h202 : v.1 202 k = nI f) (hB : ENB v oc kc) (hn : w.2 15 (k * 8 + f) = v.2 204 (8 * k + f)) (hx : v.1 205 (8 * k + f) = x) (hR : RWR w v oc kc (100 * k + 1 + f) U m 1) (h11 : w.1 133 11 = nI (U + m)) (h12 : w.1 133 12 = nM) (h13 : w.1 133 13 = nI (U + m)) (sc : sx (qFdc k f U) c0 w) (su : sx (qFu k f) u0 v) : jw (fC5 n (nI f) (nI k) (x, w)) (fR5 n (nI k) v) (FDP K P V N c0 u0 oc kc k f U j0) := by
  have hik : ib (nI k) 12 := ib_n hk (by decide)
  have ek : ix (nI k) = k := ix_n (by omega)
  have e8 : nI k * 8 + nI f = nI (k * 8 + f) := by rw [show (8 : Int32) = nI 8 from rfl, pk_mul, nI_add]
  have hi8 : ib (nI (k * 8 + f)) 96 := ib_n (by omega) (by decide)
  have ei8 : ix (nI (k * 8 + f)) = k * 8 + f := ix_n (by omega)
  obtain ⟨w1, hw1⟩ : ∃ w1, w1 = pI w 16 (k * 8 + f) x := ⟨_, rfl⟩
  have hP1 : PSI K P V N w1 v j := by
    rw [hw1]
    exact PSI_sx hP (sx_pI (r := fun A _ => decide (A = 16)) sx_rfl rfl) (show sx (fun _ _ => false) _ _ from sx_rfl) (fun A l z => decide_eq_false (by omega)) (fun _ _ _ => rfl)
  have hC : ∀ {r : cS ⊕ cS} {Q : (cS ⊕ cS) → Prop}, d_257 n 59 w1 = some r → wp ((Sum.elim (fun r24 : cS =>
        if ib (r24.1 145 8) 12 then
        if ib (r24.1 145 8) 12 then
        lt (pI r24 14 (ix (r24.1 145 8)) ((r24.1 14 (ix (r24.1 145 8))) + 1)) (fun c28 =>
        some (.inl c28))
        else none
        else none)
        (fun z25 : cS => some (.inr z25)) r : Option (cS ⊕ cS))) Q → wp (fC5 n (nI f) (nI k) (x, w)) Q := fun {r Q} h1 h2 => by
    unfold fC5
    rw [e8, ei8]
    refine wpt hi8 (wpl ?_)
    dsimp only
    rw [← hw1]
    exact wpe h1 h2
  rcases exp_s (n := n) (b := 59) hP1 (by decide) (by decide) with ⟨y1, y2, y3⟩ | ⟨y1, y2⟩
  · have g8 : (atC w1 (j + 1)).1 145 8 = nI k := by
      unfold atC
      rw [rI, if_neg (by omega), hw1, rI, if_neg (by omega)]
      exact h8
    have g14 : (atC w1 (j + 1)).1 14 k = nI f := by
      unfold atC
      rw [rI, if_neg (by omega), hw1, rI, if_neg (by omega)]
      exact h14
    have hCe : fC5 n (nI f) (nI k) (x, w) = some (.inl (pI (atC w1 (j + 1)) 14 k (nI (f + 1)))) := by
      refine eq_wp (hC y1 (wpSl ?_))
      rw [g8, ek, g14, nI_1]
      exact wpt hik (wpt hik (wpl rfl))
    have hUe : fR5 n (nI k) v = some (pI (atR v (j + 1)) 202 k (nI (f + 1))) := by
      unfold fR5
      refine eq_wp (wpe y2 ?_)
      rw [ek, show (atR v (j + 1)).1 202 k = nI f by unfold atR; rw [rI, if_neg (by omega)]; exact h202, nI_1]
      exact wpt hik (wpt hik (wpl rfl))
    obtain ⟨d, hd⟩ : ∃ d, d = pI (atC w1 (j + 1)) 14 k (nI (f + 1)) := ⟨_, rfl⟩
    obtain ⟨q, hq⟩ : ∃ q, q = pI (atR v (j + 1)) 202 k (nI (f + 1)) := ⟨_, rfl⟩
    rw [← hd] at hCe
    rw [← hq] at hUe
    have df : ∀ A l, ¬ (A = 14 ∧ l = k) → ¬ (A = 16 ∧ l = k * 8 + f) → ¬ (A = 145 ∧ l = 7) → d.1 A l = w.1 A l := fun A l z1 z2 z3 => by
      rw [hd, rI, if_neg z1]
      unfold atC
      rw [rI, if_neg z3, hw1, rI, if_neg z2]
    have dl : ∀ A l, d.2 A l = w.2 A l := fun A l => by
      rw [hd]
      show w1.2 A l = _
      rw [hw1]
      rfl
    have qf : ∀ A l, ¬ (A = 174 ∧ l = 67) → ¬ (A = 202 ∧ l = k) → q.1 A l = v.1 A l := fun A l z z2 => by
      rw [hq, rI, if_neg z2]
      unfold atR
      rw [rI, if_neg z]
    have ql : ∀ A l, q.2 A l = v.2 A l := fun A l => by
      rw [hq]
      rfl
    refine jw_of hCe hUe (Or.inl ⟨d, j + 1, m, rfl, by omega, hf, ?_, ?_, ?_, ?_, ?_, ?_, ?_, ?_, ?_, ?_, ?_⟩)
    · rw [hd, hq]
      exact PSI_sx y3 (sx_pI (r := fun A _ => decide (A = 14)) sx_rfl rfl) (sx_pI (r := fun A _ => decide (A = 202)) sx_rfl rfl) (fun A l z => decide_eq_false (by omega)) (fun A l z => decide_eq_false (by omega))
    · rw [dl, ql]
      exact hn
    · rw [qf _ _ (by omega) (by omega), hx, hd, rI, if_neg (by omega)]
      unfold atC
      rw [rI, if_neg (by omega), hw1, rI, if_pos ⟨rfl, rfl⟩]
    · rw [hd, rI, if_pos ⟨rfl, rfl⟩]
    · rw [hq, rI, if_pos ⟨rfl, rfl⟩]
    · exact RWR_k hR hB (fun A l z => ⟨df _ _ (by unfold rcR at z; omega) (by unfold rcR at z; omega) (by unfold rcR at z; omega), dl _ _⟩) (fun A l z => ⟨qf _ _ (by unfold ruR at z; omega) (by unfold ruR at z; omega), ql _ _⟩) (fun A l z1 z2 z => ⟨qf _ _ (by omega) (by omega), ql _ _⟩)
    · rw [df _ _ (by omega) (by omega) (by omega)]
      exact h11
    · rw [df _ _ (by omega) (by omega) (by omega)]
      exact h12
    · rw [df _ _ (by omega) (by omega) (by omega)]
      exact h13
    · rw [hd, hw1]
      exact sx_pI (sx_pI (sx_pI sc (decide_eq_true (by omega))) (decide_eq_true (by omega))) (decide_eq_true (by omega))
    · rw [hq]
      exact sx_pI (sx_pI su (decide_eq_true (by omega))) (decide_eq_true (by omega))
  · refine hC y1 (wpSr (wp_of rfl ?_))
    unfold fR5
    rw [ek]
    refine wpe y2 (wpt hik (wpt hik (wpl (wp_of rfl (Or.inr ⟨_, rfl, FLR_202 (k := k) (FLR_of ?_ (qFu_u su)) (sx_pI sx_rfl (decide_eq_true ⟨rfl, rfl⟩))⟩)))))
    rw [hw1]
    exact qFc_c (k := k) (f := f) (U := U) (sx_pI sc (decide_eq_true (by omega)))
end FLD
