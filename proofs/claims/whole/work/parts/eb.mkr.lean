/-! READING a MAKER -/
section MKR9
variable {n i j j0 N k p b m U t oc kc mc cc : Nat} {c d u w v w0 v0 : cS} {K P : Nat → Nat} {V : Nat → Int64} {nm nm2 : Int64}
def xC5 (n : Nat) (nm : Int64) (v12 : Int32) (r19 : cS) : Option (cS ⊕ cS) :=
      Option.bind (d_257 n 59 r19) (Sum.elim (fun r21 =>
      if ib (r21.1 7 7) 6 then
      lt (pL r21 10 (ix (r21.1 7 7)) nm) (fun c24 =>
      if ib (c24.1 7 7) 6 then
      lt (pI c24 11 (ix (c24.1 7 7)) v12) (fun c27 =>
      lt (pI c27 7 7 ((c27.1 7 7) + 1)) (fun c29 =>
      some (.inl c29)))
      else none)
      else none)
      (fun z22 => some (.inr z22)))
def xC4 (n : Nat) (nm : Int64) (v12 : Int32) (c15 : cS) : Option (cS ⊕ cS) :=
      Option.bind (d_257 n 207 c15) (Sum.elim (fun r17 =>
      Option.bind (d_272 n (1212 + (r17.1 7 7)) 5 r17) (Sum.elim (xC5 n nm v12)
      (fun z20 => some (.inr z20))))
      (fun z18 => some (.inr z18)))
def xC3 (n : Nat) (nm : Int64) (v12 : Int32) (p14 : cS) : Option (cS ⊕ cS) :=
      lt (pI p14 145 7 ((p14.1 145 7) + 1)) (xC4 n nm v12)
def xC2 (n : Nat) (r5 : Int64 × cS) : Option (cS ⊕ cS) :=
    Option.bind (d_257 n 58 r5.2) (Sum.elim (fun r8 =>
    Option.bind (d_259 n r8) (Sum.elim (fun r10 =>
    Option.bind (d_248 n r10.1 r10.2) (fun v12 =>
    jn (xC3 n r5.1 v12)
    (fun j67 =>
    if 0 ≤ v12 then
      j67 r10.2
    else
      Option.bind (d_42 n r10.2) (fun v31 =>
      Option.bind (d_41 n 5 v31 r10.2) (Sum.elim (fun r32 =>
      j67 r32)
      (fun z33 => some (.inr z33)))))))
    (fun z11 => some (.inr z11))))
    (fun z9 => some (.inr z9)))
theorem d268_s : d_268 n c = lt (pI c 145 7 ((c.1 145 7) + 1)) (fun c1 =>
  Option.bind (d_261 n c1) (fun v3 =>
  jn (fun p4 : Int32 =>
    Option.bind (d_260 n v3 p4 c1) (Sum.elim (xC2 n)
    (fun z6 => some (.inr z6))))
  (fun j32 =>
  if (c1.1 7 7) < 6 then
    j32 0
  else
    j32 1))) := rfl
def xR5 (n : Nat) (nm nm2 : Int64) (r11 : cS) : Option cS :=
          Option.bind (d_380 n 59 r11) (fun r12 =>
          if (r12.1 174 13) = 0 then
            if ib (r12.1 174 34) 6 then
            lt (pL r12 198 (ix (r12.1 174 34)) nm) (fun c14 =>
            Option.bind (d_373 n nm2 c14) (fun v16 =>
            if ib (c14.1 174 34) 6 then
            lt (pI c14 199 (ix (c14.1 174 34)) v16) (fun c18 =>
            lt (pI c18 174 34 ((c18.1 174 34) + 1)) (fun c20 =>
            some c20))
            else none))
            else none
          else
            some r12)
def xR4 (n : Nat) (nm nm2 : Int64) (p10 : cS) : Option cS :=
        if (p10.1 174 13) = 0 then
          Option.bind (d_396 n (1212 + (p10.1 174 34)) 1 0 1 p10) (xR5 n nm nm2)
        else
          some p10
def xR3 (n : Nat) (nm nm2 : Int64) (p9 : cS) : Option cS :=
      jn (xR4 n nm nm2)
      (fun j83 =>
      if (p9.1 174 13) = 0 then
        Option.bind (d_102 n 7 p9) (fun r22 =>
        if r22.1 = 0 then
          Option.bind (d_103 n r22.2) (fun r23 =>
          j83 r23)
        else
          j83 r22.2)
      else
        j83 p9)
def xR2 (n : Nat) (r1 : Int64 × cS) : Option cS :=
  Option.bind (d_380 n 58 r1.2) (fun r3 =>
  if (r3.1 174 13) = 0 then
    lt ((r3.1 174 67) : Int32) (fun v5 =>
    Option.bind (d_381 n r3) (fun r7 =>
    jn (xR3 n r1.1 r7.1)
    (fun j63 =>
    if (r7.2.1 174 13) = 0 then
      Option.bind (d_373 n r7.1 r7.2) (fun v24 =>
      if 0 ≤ v24 then
        j63 r7.2
      else
        if ib v5 4001 then
        Option.bind (d_97 n 5 (r7.2.1 179 (ix v5)) r7.2) (fun r26 =>
        j63 r26)
        else none)
    else
      j63 r7.2)))
  else
    some r3)
theorem d402_s : d_402 n c = Option.bind (d_383 n (c.1 174 34) 6 c) (xR2 n) := rfl
theorem ne13 (h : v.1 174 13 = nI 1) : ¬ v.1 174 13 = 0 := by
  rw [h]
  decide
theorem xR5_w (h : v.1 174 13 = nI 1) : xR5 n nm nm2 v = some v := by
  unfold xR5
  exact eq_wp (wpe (e380w h) (wpf (ne13 h) rfl))
theorem xR4_w (h : v.1 174 13 = nI 1) : xR4 n nm nm2 v = some v := by
  unfold xR4
  exact eq_wp (wpf (ne13 h) rfl)
theorem xR3_w (h : v.1 174 13 = nI 1) : xR3 n nm nm2 v = some v := by
  unfold xR3
  exact eq_wp (wpj (wpf (ne13 h) (wp_of (xR4_w h) rfl)))
theorem xR2_w (h : v.1 174 13 = nI 1) : xR2 n (nm, v) = some v := by
  unfold xR2
  exact eq_wp (wpe (e380w h) (wpf (ne13 h) rfl))
/-- what the reading of MAKER mc may change -/
def qMkc (mc U A l : Nat) : Bool := decide ((A = 145 ∧ l = 7) ∨ (A = 7 ∧ l = 7) ∨ ((A = 10 ∨ A = 11) ∧ l = mc) ∨ (A = 133 ∧ (l = 11 ∨ l = 13)) ∨ ((A = 142 ∨ A = 143 ∨ A = 144) ∧ l = 1212 + mc) ∨ (134 ≤ A ∧ A ≤ 138 ∧ U ≤ l) ∨ (139 ≤ A ∧ A ≤ 141 ∧ U * 4 ≤ l))
def qMku (mc A l : Nat) : Bool := decide ((A = 174 ∧ (l = 67 ∨ l = 68 ∨ l = 34)) ∨ ((A = 198 ∨ A = 199) ∧ l = mc) ∨ (A = 222 ∧ l = 1212 + mc) ∨ (223 ≤ A ∧ A ≤ 225 ∧ (1212 + mc) * 20 ≤ l ∧ l < (1212 + mc) * 20 + 20) ∨ (226 ≤ A ∧ A ≤ 228 ∧ (1212 + mc) * 80 ≤ l ∧ l < (1212 + mc) * 80 + 80))
theorem qMkc_c (h : sx (qMkc mc U) c d) : sx QRc c d := sx_wide h (fun A j z => by
  have := of_decide_eq_false z
  exact decide_eq_false (by omega))
theorem qMku_u (h : sx (qMku mc) u d) : sx QRu u d := sx_wide h (fun A j z => by
  have := of_decide_eq_false z
  exact decide_eq_false (by omega))
def MP4 (K P : Nat → Nat) (V : Nat → Int64) (N : Nat) (w v : cS) (oc kc mc U j : Nat) (nm : Int64) (r : cS ⊕ cS) (q : cS) : Prop := (∃ d j' m t, r = .inl d ∧ j + 2 * m + 1 ≤ j' ∧ PSI K P V N d q j' ∧ d.1 7 7 = nI (mc + 1) ∧ q.1 174 34 = nI (mc + 1) ∧ d.2 10 mc = nm ∧ q.2 198 mc = nm ∧ t < kc ∧ d.1 11 mc = nI t ∧ q.1 199 mc = nI t ∧ RWR d q oc kc (1212 + mc) U m 5 ∧ d.1 133 11 = nI (U + m) ∧ d.1 133 12 = nM ∧ d.1 133 13 = nI (U + m) ∧ sx (qMkc mc U) w d ∧ sx (qMku mc) v q) ∨ (∃ z, r = .inr z ∧ FLR w v z q)
theorem mk5 (hn : 100 ≤ n) (hm : mc < 6) (hP : PSI K P V N w v j) (h77 : w.1 7 7 = nI mc) (h34 : v.1 174 34 = nI mc) (hV : ENV w v oc kc mc cc) (ht : fK v kc nm2 = some t) (hj : j0 + 2 * m ≤ j) (hR : RWR w v oc kc (1212 + mc) U m 5) (h11 : w.1 133 11 = nI (U + m)) (h12 : w.1 133 12 = nM) (h13 : w.1 133 13 = nI (U + m)) (sc : sx (qMkc mc U) w0 w) (su : sx (qMku mc) v0 v) : jw (xC5 n nm (nI t) w) (xR5 n nm nm2 v) (MP4 K P V N w0 v0 oc kc mc U j0 nm) := by
  have him : ib (nI mc) 6 := ib_n hm (by decide)
  have em : ix (nI mc) = mc := ix_n (by omega)
  have htk := (ff_some ht).1
  rcases exp_s (n := n) (b := 59) hP (by decide) (by decide) with ⟨y1, y2, y3⟩ | ⟨y1, y2⟩
  · have hV1 : ENV (atC w (j + 1)) (pL (atR v (j + 1)) 198 mc nm) oc kc mc cc := ENV_k hV (fun A l z => ⟨by unfold kcR kA at z; unfold atC; have := hV.1.2.1; rw [rI, if_neg (by omega)], rfl⟩) (fun A l z => ⟨by unfold kuR at z; show (atR v (j + 1)).1 A l = _; unfold atR; rw [rI, if_neg (by omega)], by unfold kuR at z; rw [rL, if_neg (by omega)]; rfl⟩)
    have hf : fK (pL (atR v (j + 1)) 198 mc nm) kc nm2 = some t := by
      rw [← ht]
      exact ff_congr (fun l hl => by rw [rL, if_neg (by omega)]; rfl)
    have h373 := g373 (n := n) (nm := nm2) hn hV1.1
    rw [hf, oI_s] at h373
    have hC : xC5 n nm (nI t) w = some (.inl (pI (pI (pL (atC w (j + 1)) 10 mc nm) 11 mc (nI t)) 7 7 (nI (mc + 1)))) := by
      have e1 : (atC w (j + 1)).1 7 7 = nI mc := by
        unfold atC
        rw [rI, if_neg (by omega)]
        exact h77
      unfold xC5
      refine eq_wp (wpe y1 (wpSl ?_))
      rw [e1]
      refine wpt him ?_
      rw [em]
      refine wpl ?_
      rw [show (pL (atC w (j + 1)) 10 mc nm).1 7 7 = nI mc from e1]
      refine wpt him ?_
      rw [em]
      refine wpl ?_
      rw [show (pI (pL (atC w (j + 1)) 10 mc nm) 11 mc (nI t)).1 7 7 = nI mc by rw [rI, if_neg (by omega)]; exact e1, nI_1]
      exact wpl rfl
    have hU : xR5 n nm nm2 v = some (pI (pI (pL (atR v (j + 1)) 198 mc nm) 199 mc (nI t)) 174 34 (nI (mc + 1))) := by
      have e1 : (atR v (j + 1)).1 174 34 = nI mc := by
        unfold atR
        rw [rI, if_neg (by omega)]
        exact h34
      unfold xR5
      refine eq_wp (wpe y2 (wpt y3.2.2.2.2 ?_))
      rw [e1]
      refine wpt him ?_
      rw [em]
      refine wpl (wpe h373 ?_)
      rw [show (pL (atR v (j + 1)) 198 mc nm).1 174 34 = nI mc from e1]
      refine wpt him ?_
      rw [em]
      refine wpl ?_
      rw [show (pI (pL (atR v (j + 1)) 198 mc nm) 199 mc (nI t)).1 174 34 = nI mc by rw [rI, if_neg (by omega)]; exact e1, nI_1]
      exact wpl rfl
    obtain ⟨d, hd⟩ : ∃ d, d = pI (pI (pL (atC w (j + 1)) 10 mc nm) 11 mc (nI t)) 7 7 (nI (mc + 1)) := ⟨_, rfl⟩
    obtain ⟨q, hq⟩ : ∃ q, q = pI (pI (pL (atR v (j + 1)) 198 mc nm) 199 mc (nI t)) 174 34 (nI (mc + 1)) := ⟨_, rfl⟩
    rw [← hd] at hC
    rw [← hq] at hU
    have df : ∀ A l, ¬ (A = 7 ∧ l = 7) → ¬ (A = 11 ∧ l = mc) → ¬ (A = 145 ∧ l = 7) → d.1 A l = w.1 A l := fun A l z1 z2 z3 => by
      rw [hd, rI, if_neg z1, rI, if_neg z2]
      show (atC w (j + 1)).1 A l = _
      unfold atC
      rw [rI, if_neg z3]
    have dl : ∀ A l, ¬ (A = 10 ∧ l = mc) → d.2 A l = w.2 A l := fun A l z => by
      rw [hd]
      show (pL (atC w (j + 1)) 10 mc nm).2 A l = _
      rw [rL, if_neg z]
      rfl
    have qf : ∀ A l, ¬ (A = 174 ∧ (l = 34 ∨ l = 67)) → ¬ (A = 199 ∧ l = mc) → q.1 A l = v.1 A l := fun A l z z2 => by
      rw [hq, rI, if_neg (by omega), rI, if_neg z2]
      show (atR v (j + 1)).1 A l = _
      unfold atR
      rw [rI, if_neg (by omega)]
    have ql : ∀ A l, ¬ (A = 198 ∧ l = mc) → q.2 A l = v.2 A l := fun A l z => by
      rw [hq]
      show (pL (atR v (j + 1)) 198 mc nm).2 A l = _
      rw [rL, if_neg z]
      rfl
    refine jw_of hC hU (Or.inl ⟨d, j + 1, m, t, rfl, by omega, ?_, ?_, ?_, ?_, ?_, htk, ?_, ?_, ?_, ?_, ?_, ?_, ?_, ?_⟩)
    · rw [hd, hq]
      exact PSI_sx y3 (sx_pI (r := fun A _ => decide (A = 7 ∨ A = 10 ∨ A = 11)) (sx_pI (sx_pL sx_rfl rfl) rfl) rfl) (sx_pI (r := fun A l => decide (A = 198 ∨ A = 199 ∨ (A = 174 ∧ l = 34))) (sx_pI (sx_pL sx_rfl rfl) rfl) rfl) (fun A l z => decide_eq_false (by omega)) (fun A l z => decide_eq_false (by omega))
    · rw [hd, rI, if_pos ⟨rfl, rfl⟩]
    · rw [hq, rI, if_pos ⟨rfl, rfl⟩]
    · rw [hd]
      show (pL (atC w (j + 1)) 10 mc nm).2 10 mc = _
      rw [rL, if_pos ⟨rfl, rfl⟩]
    · rw [hq]
      show (pL (atR v (j + 1)) 198 mc nm).2 198 mc = _
      rw [rL, if_pos ⟨rfl, rfl⟩]
    · rw [hd, rI, if_neg (by omega), rI, if_pos ⟨rfl, rfl⟩]
    · rw [hq, rI, if_neg (by omega), rI, if_pos ⟨rfl, rfl⟩]
    · exact RWR_k hR (ENB_of hV) (fun A l z => ⟨df _ _ (by unfold rcR at z; omega) (by unfold rcR at z; omega) (by unfold rcR at z; omega), dl _ _ (by unfold rcR at z; omega)⟩) (fun A l z => ⟨qf _ _ (by unfold ruR at z; omega) (by unfold ruR at z; omega), ql _ _ (by unfold ruR at z; omega)⟩) (fun A l z1 z2 z => ⟨qf _ _ (by omega) (by omega), ql _ _ (by omega)⟩)
    · rw [df _ _ (by omega) (by omega) (by omega)]
      exact h11
    · rw [df _ _ (by omega) (by omega) (by omega)]
      exact h12
    · rw [df _ _ (by omega) (by omega) (by omega)]
      exact h13
    · rw [hd]
      exact sx_pI (sx_pI (sx_pL (sx_pI sc (decide_eq_true (by omega))) (decide_eq_true (by omega))) (decide_eq_true (by omega))) (decide_eq_true (by omega))
    · rw [hq]
      exact sx_pI (sx_pI (sx_pL (sx_pI su (decide_eq_true (by omega))) (decide_eq_true (by omega))) (decide_eq_true (by omega))) (decide_eq_true (by omega))
  · refine jw_of (a := .inr (flC w 2 (nI (P j)))) (b := flt v 2 (nI (P j))) ?_ ?_ (Or.inr ⟨_, rfl, FLR_of (qMkc_c sc) (qMku_u su)⟩)
    · unfold xC5
      exact eq_wp (wpe y1 (wpSr rfl))
    · unfold xR5
      exact eq_wp (wpe y2 (wpf (ne13 flt_at.1) rfl))
end MKR9
