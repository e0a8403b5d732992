/-! READING a KIND: programs in pieces, steps that both take -/
section KDP6
variable {n i j N k p b : Nat} {c d u w v c' u' : cS} {K P : Nat → Nat} {V : Nat → Int64} {nm : Int64}
theorem nar_b {x : Bool} : vp_nar .boolean (bI x) = bI x := nar01
/-- a word that may stand here -/
theorem opt_w (h : PSI K P V N w v j) (hb : b < 31) : ∃ (B : Bool) (j1 : Nat) (w1 v1 : cS), d_258 n (nI (200 + b)) w = some (bI B, w1) ∧ d_102 n (nI b) v = some (bI B, v1) ∧ j ≤ j1 ∧ PSI K P V N w1 v1 j1 ∧ sx q145 w w1 ∧ sx q67 v v1 ∧ (B = false → w1 = w ∧ v1 = v ∧ j1 = j) ∧ (B = true → j1 = j + 1 ∧ w1 = atC w (j + 1) ∧ v1 = atR v (j + 1)) ∧ B = decide (K j = 200 + b) := by
  have h1 := e258 (n := n) (b := 200 + b) h (by omega)
  have h2 := e102 (n := n) (b := b) h hb
  by_cases e : K j = 200 + b
  · rw [if_pos e] at h1 h2
    exact ⟨true, j + 1, _, _, h1, h2, by omega, PSI_s h (by omega), sx_pI sx_rfl rfl, sx_pI sx_rfl rfl, (fun z => by cases z), fun _ => ⟨rfl, rfl, rfl⟩, (decide_eq_true e).symm⟩
  · rw [if_neg e] at h1 h2
    exact ⟨false, j, _, _, h1, h2, Nat.le_refl _, h, sx_rfl, sx_rfl, fun _ => ⟨rfl, rfl, rfl⟩, (fun z => by cases z), (decide_eq_false e).symm⟩
/-- a sign that may stand here -/
theorem opt_s (h : PSI K P V N w v j) (hb : 10 ≤ b) (hb2 : b < 128) : ∃ (B : Bool) (j1 : Nat) (w1 v1 : cS), d_258 n (nI b) w = some (bI B, w1) ∧ d_379 n (nI b) v = some (bI B, v1) ∧ j ≤ j1 ∧ PSI K P V N w1 v1 j1 ∧ sx q145 w w1 ∧ sx q67 v v1 ∧ (B = false → w1 = w ∧ v1 = v ∧ j1 = j) ∧ (B = true → j1 = j + 1 ∧ w1 = atC w (j + 1) ∧ v1 = atR v (j + 1)) ∧ B = decide (K j = b) := by
  have h1 := e258 (n := n) (b := b) h (by omega)
  have h2 := e379 (n := n) (b := b) h hb hb2
  by_cases e : K j = b
  · rw [if_pos e] at h1 h2
    exact ⟨true, j + 1, _, _, h1, h2, by omega, PSI_s h (by omega), sx_pI sx_rfl rfl, sx_pI sx_rfl rfl, (fun z => by cases z), fun _ => ⟨rfl, rfl, rfl⟩, (decide_eq_true e).symm⟩
  · rw [if_neg e] at h1 h2
    exact ⟨false, j, _, _, h1, h2, Nat.le_refl _, h, sx_rfl, sx_rfl, fun _ => ⟨rfl, rfl, rfl⟩, (fun z => by cases z), (decide_eq_false e).symm⟩
/-- a sign that must stand here -/
theorem exp_s (h : PSI K P V N w v j) (hb : 10 ≤ b) (hb2 : b < 128) : (d_257 n (nI b) w = some (.inl (atC w (j + 1))) ∧ d_380 n (nI b) v = some (atR v (j + 1)) ∧ PSI K P V N (atC w (j + 1)) (atR v (j + 1)) (j + 1)) ∨ (d_257 n (nI b) w = some (.inr (flC w 2 (nI (P j)))) ∧ d_380 n (nI b) v = some (flt v 2 (nI (P j)))) := by
  have h1 := e257 (n := n) (b := b) h (by omega)
  have h2 := e380 (n := n) (b := b) h hb hb2
  by_cases e : K j = b
  · rw [if_pos e] at h1 h2
    exact Or.inl ⟨h1, h2, PSI_s h (by omega)⟩
  · rw [if_neg e] at h1 h2
    exact Or.inr ⟨h1, h2⟩
def kr5 (n : Nat) (v4 : Int32) (nm : Int64) (p28 : cS) : Option cS :=
          Option.bind (d_380 n 59 p28) (fun r29 =>
          if ib v4 12 then
          lt (pL r29 189 (ix v4) nm) (fun c31 =>
          lt (pI c31 174 24 ((c31.1 174 24) + 1)) (fun c33 =>
          some c33))
          else none)
def kr4 (n : Nat) (v4 : Int32) (nm : Int64) (p15 : cS) : Option cS :=
        Option.bind (d_102 n 9 p15) (fun r16 =>
        if ib v4 12 then
        lt (pI r16.2 196 (ix v4) (vp_nar .boolean r16.1)) (fun c18 =>
        Option.bind (d_102 n 10 c18) (fun r20 =>
        if ib v4 12 then
        lt (pI r20.2 197 (ix v4) (vp_nar .boolean r20.1)) (fun c22 =>
        if ib (1200 + v4) 1219 then
        lt (pI c22 222 (ix (1200 + v4)) 0) (fun c25 =>
        Option.bind (d_379 n 61 c25) (fun r27 =>
        jn (kr5 n v4 nm)
        (fun j242 =>
        if r27.1 = 0 then
          j242 r27.2
        else
          Option.bind (d_396 n (1200 + v4) 15 0 1 r27.2) (fun r35 =>
          j242 r35))))
        else none)
        else none))
        else none)
def kr3 (n : Nat) (v4 : Int32) (nm : Int64) (p10 : cS) : Option cS :=
      if ib v4 12 then
      lt (pI p10 195 (ix v4) 15) (fun c12 =>
      Option.bind (d_102 n 8 c12) (fun r14 =>
      jn (kr4 n v4 nm)
      (fun j185 =>
      if r14.1 = 0 then
        j185 r14.2
      else
        if ib v4 12 then
        lt (pI r14.2 195 (ix v4) 0) (fun c37 =>
        Option.bind (whl (srR n v4) n c37)
        (fun x51 : cS =>
          if ib v4 12 then
          if (x51.1 195 (ix v4)) = 0 then
            Option.bind (d_103 n x51) (fun r53 =>
            j185 r53)
          else
            j185 x51
          else none))
        else none)))
      else none
theorem d400_s : d_400 n c = Option.bind (d_383 n (c.1 174 24) 12 c) (fun r1 =>
  if (r1.2.1 174 13) = 0 then
    lt ((r1.2.1 174 24) : Int32) (fun v4 =>
    if ib v4 12 then
    lt (pI r1.2 190 (ix v4) 0) (fun c7 =>
    Option.bind (d_379 n 40 c7) (fun r9 =>
    jn (kr3 n v4 r1.1)
    (fun j77 =>
    if r9.1 = 0 then
      j77 r9.2
    else
      Option.bind (whl (mlpR n v4) n (1, r9.2))
      (fun x59 : cS =>
        Option.bind (d_380 n 41 x59) (fun r60 =>
        j77 r60)))))
    else none)
  else
    some r1.2) := rfl
def kc5 (n : Nat) (p24 : cS) : Option (cS ⊕ cS) :=
          Option.bind (d_257 n 59 p24) (Sum.elim (fun r25 =>
          lt (pI r25 7 4 ((r25.1 7 4) + 1)) (fun c27 =>
          some (.inl c27)))
          (fun z26 => some (.inr z26)))
def kc4 (n k1 : Nat) (p14 : cS) : Option (cS ⊕ cS) :=
        Option.bind (d_258 n 209 p14) (fun r15 =>
        if nb r15.1 then
        lt (pI r15.2 (kA k1) 7 r15.1) (fun c17 =>
        Option.bind (d_258 n 210 c17) (fun r19 =>
        if nb r19.1 then
        lt (pI r19.2 (kA k1) 8 r19.1) (fun c21 =>
        Option.bind (d_258 n 61 c21) (fun r23 =>
        jn (kc5 n)
        (fun j149 =>
        if r23.1 = 0 then
          j149 r23.2
        else
          Option.bind (d_272 n (1200 + (r23.2.1 7 4)) 4 r23.2) (Sum.elim (fun r29 =>
          Option.bind (d_267 n k1 (1200 + (r29.1 7 4)) r29) (fun r31 =>
          j149 r31))
          (fun z30 => some (.inr z30))))))
        else none))
        else none)
def kc3 (n k1 : Nat) (p12 : cS) : Option (cS ⊕ cS) :=
      Option.bind (d_258 n 208 p12) (fun r13 =>
      jn (kc4 n k1)
      (fun j86 =>
      if r13.1 = 0 then
        j86 r13.2
      else
        Option.bind (d_266 n k1 r13.2) (Sum.elim (fun r32 =>
        j86 r32)
        (fun z33 => some (.inr z33)))))
def kc2 (n : Nat) (r5 : Int64 × cS) : Option (cS ⊕ cS) :=
    if ib (r5.2.1 7 4) 12 then
    Option.bind (d_217 n (ix (r5.2.1 7 4)) r5.1 r5.2) (fun r10 =>
    Option.bind (d_258 n 40 r10) (fun r11 =>
    jn (kc3 n (ix (r5.2.1 7 4)))
    (fun j71 =>
    if r11.1 = 0 then
      j71 r11.2
    else
      Option.bind (d_265 n (ix (r5.2.1 7 4)) r11.2) (Sum.elim (fun r34 =>
      j71 r34)
      (fun z35 => some (.inr z35))))))
    else none
theorem d264_s : d_264 n c = lt (pI c 145 7 ((c.1 145 7) + 1)) (fun c1 =>
  Option.bind (d_261 n c1) (fun v3 =>
  jn (fun p4 : Int32 =>
    Option.bind (d_260 n v3 p4 c1) (Sum.elim (kc2 n)
    (fun z6 => some (.inr z6))))
  (fun j32 =>
  if (c1.1 7 4) < 12 then
    j32 0
  else
    j32 1))) := rfl
/-- the reference goes on when something is wrong -/
def qKw (A l : Nat) : Bool := decide ((A = 174 ∧ l = 24) ∨ A = 189 ∨ (195 ≤ A ∧ A ≤ 197) ∨ A = 222)
theorem kr5_w {Q : cS → Prop} (hk : k < 12) (h : v.1 174 13 = nI 1) (hQ : ∀ q, sx qKw v q → Q q) : wp (kr5 n (nI k) nm v) Q := by
  unfold kr5
  rw [ix_n (show k < 2147483648 by omega)]
  exact wpe (e380w h) (wpt (ib_n hk (by decide)) (wpl (wpl (hQ _ (sx_pI (sx_pL sx_rfl rfl) rfl)))))
theorem kr4_w {Q : cS → Prop} (hk : k < 12) (h : v.1 174 13 = nI 1) (hQ : ∀ q, sx qKw v q → Q q) : wp (kr4 n (nI k) nm v) Q := by
  have hik : ib (nI k) 12 := ib_n hk (by decide)
  unfold kr4
  rw [ix_n (show k < 2147483648 by omega), show (1200 : Int32) + nI k = nI (1200 + k) by rw [show (1200 : Int32) = nI 1200 from rfl, nI_add]]
  refine wpe (e102w h) (wpt hik (wpl (wpe (e102w ?_) (wpt hik (wpl (wpt (ib_n (by omega) (by decide)) (wpl (wpe (e379w ?_) (wpj (wpt rfl (kr5_w hk ?_ (fun q hq => hQ q ?_))))))))))))
  · rw [rI, if_neg (by omega)]
    exact h
  · rw [rI, if_neg (by omega), rI, if_neg (by omega), rI, if_neg (by omega)]
    exact h
  · rw [rI, if_neg (by omega), rI, if_neg (by omega), rI, if_neg (by omega)]
    exact h
  · exact sx_trans (sx_pI (sx_pI (sx_pI sx_rfl rfl) rfl) rfl) hq
theorem kr3_w {Q : cS → Prop} (hk : k < 12) (h : v.1 174 13 = nI 1) (hQ : ∀ q, sx qKw v q → Q q) : wp (kr3 n (nI k) nm v) Q := by
  have hik : ib (nI k) 12 := ib_n hk (by decide)
  unfold kr3
  rw [ix_n (show k < 2147483648 by omega)]
  have h' : (pI v 195 k 15).1 174 13 = nI 1 := by
    rw [rI, if_neg (by omega)]
    exact h
  exact wpt hik (wpl (wpe (e102w h') (wpj (wpt rfl (kr4_w hk h' (fun q hq => hQ q (sx_trans (sx_pI sx_rfl rfl) hq)))))))
theorem qKw_F {z q q' : cS} (h : FLR c u z q) (hs : sx qKw q q') : FLR c u z q' := FLR_sx h hs (fun A l z => by
  have := of_decide_eq_true z
  exact decide_eq_true (by omega)) (fun l z1 z2 => decide_eq_false (by omega))
end KDP6
