/-! READING the parts of an ACT: MARKS that are told, both -/
section TLG
variable {n i j N k M a b r m L U oc kc mc : Nat} {c d u w v q s : cS} {K P : Nat → Nat} {V : Nat → Int64} {nm : Int64} {O E B : Nat → Nat}
theorem pig4 : ∀ x : Fin 5 → Fin 4, ¬ (x 0 ≠ x 1 ∧ x 0 ≠ x 2 ∧ x 0 ≠ x 3 ∧ x 0 ≠ x 4 ∧ x 1 ≠ x 2 ∧ x 1 ≠ x 3 ∧ x 1 ≠ x 4 ∧ x 2 ≠ x 3 ∧ x 2 ≠ x 4 ∧ x 3 ≠ x 4) := by
  intro x
  generalize x 0 = a
  generalize x 1 = b
  generalize x 2 = c
  generalize x 3 = d
  generalize x 4 = e
  revert a b c d e
  decide +kernel
theorem le4 (h1 : ∀ j, j < m → O j < 4) (h2 : ∀ l j, l < j → j < m → O l ≠ O j) : m ≤ 4 := by
  refine Nat.le_of_not_lt (fun h => ?_)
  have hne : ∀ l j (hl : l < j) (hj : j < 5), (⟨O l, h1 l (by omega)⟩ : Fin 4) ≠ ⟨O j, h1 j (by omega)⟩ := fun l j hl hj z => h2 l j hl (by omega) (Fin.mk.inj z)
  exact pig4 (fun t => ⟨O t.1, h1 t.1 (by omega)⟩) ⟨hne 0 1 (by omega) (by omega), hne 0 2 (by omega) (by omega), hne 0 3 (by omega) (by omega), hne 0 4 (by omega) (by omega), hne 1 2 (by omega) (by omega), hne 1 3 (by omega) (by omega), hne 1 4 (by omega) (by omega), hne 2 3 (by omega) (by omega), hne 2 4 (by omega) (by omega), hne 3 4 (by omega) (by omega)⟩
theorem ch_row (hU : U + m ≤ 4096) (h142 : 0 < m → c.1 142 r = nI U) (h138 : ∀ j, j + 1 < m → c.1 138 (U + j) = nI (U + j + 1)) : ∀ k, k < m → ch c r k = nI (U + k)
  | 0, h => h142 h
  | k + 1, h => by
    have := ch_row hU h142 h138 k (by omega)
    show c.1 138 (ix (ch c r k)) = _
    rw [this, ix_n (by omega)]
    exact h138 k h
theorem tlo_P (hB : ix (s.1 188 k) = B k) (hm : ∀ j, j < m → s.1 220 (4 * b + j) = nI (O j) ∧ s.1 221 (4 * b + j) = nI (E j)) (h1 : ∀ j, j < m → O j < 16 ∧ E j < 16) : ∀ l, l ≤ m → tlo s b k l = tlP B O E k l
  | 0, _ => hB
  | l + 1, h => by
    have e1 : toR s b l = O l := by
      unfold toR
      rw [(hm l (by omega)).1, ix_n (by have := (h1 l (by omega)).1; omega)]
    have e2 : teR s b l = E l := by
      unfold teR
      rw [(hm l (by omega)).2, ix_n (by have := (h1 l (by omega)).2; omega)]
    unfold tlo tlP
    rw [e1, e2, tlo_P hB hm h1 l (by omega)]
/-- what one MARK told is, in both -/
def TM1 (d s : cS) (oc x y o e : Nat) : Prop := o < oc ∧ e < eln s o ∧ d.2 134 x = s.2 223 y ∧ d.1 135 x = nI (100 + o) ∧ fO s oc (s.2 223 y) = some o ∧ d.1 136 x = nI 1 ∧ d.1 137 x = nI 1 ∧ s.1 224 y = nI 0 ∧ s.1 225 y = nI 1 ∧ d.2 139 (x * 4) = 24948 ∧ s.2 226 (y * 4) = 24948 ∧ d.1 140 (x * 4) = nI 3 ∧ s.1 227 (y * 4) = nI 3 ∧ d.2 141 (x * 4) = s.2 228 (y * 4) ∧ eOp s o (eln s o) (s.2 228 (y * 4)) = some e
theorem TM1_of {x l : Nat} (h : MIN d s oc kc 1218 x (1218 * 20 + l) 6 l) (h134 : d.2 134 x = s.2 223 (1218 * 20 + l)) (hk : kc ≤ 12) : ∃ o e, TM1 d s oc x (1218 * 20 + l) o e := by
  obtain ⟨t, bb, g1, g2, g3, g4, g5, g6, g7, g8⟩ := h
  have ht : 100 ≤ t := by
    unfold ftW at g8
    rw [if_neg (by decide), if_pos rfl] at g8
    exact of_decide_eq_true g8
  have hbb : bb = false := by
    cases bb with
    | false => rfl
    | true => exact absurd (g5 rfl) (by omega)
  subst hbb
  rcases tgt_t g2 with ⟨z, -⟩ | ⟨o, z1, z2, z3⟩
  · omega
  subst z2
  rcases g6 with ⟨y1, -⟩ | ⟨y1, y2, y3, y4, y5, y6, y7, y8, y9, e, y10⟩ | ⟨y1, y2, -⟩
  · cases y1
  · rw [show 100 + o - 100 = o by omega] at y10
    exact ⟨o, e, z1, (ff_some y10).1, h134, g1, z3, y3, g3, g4, y4, y5, y6, y7, y8, y9, y10⟩
  · omega
theorem TM1_231 {x y o e : Nat} (hn : 1000 ≤ n) (hx : x < 4096) (hoc : oc ≤ 4) (h15 : s.1 174 15 = nI oc) (hO : PO oc d s) (h : TM1 d s oc x y o e) : d_231 n (nI x) o d = some (nI e) := by
  obtain ⟨z1, z2, z3, z4, z5, z6, z7, z8, z9, z10, z11, z12, z13, z14, z15⟩ := h
  have eo : ocn s = oc := by
    unfold ocn
    rw [h15, ix_n (by omega)]
  have ep : prn s y = 1 := by
    unfold prn
    rw [z9]
    rfl
  have hoO : oOf s (s.2 223 y) = some o := by
    unfold oOf
    rw [eo]
    exact z5
  have hM : MKR d s x y := by
    refine ⟨hx, z3, ?_, ?_, by omega, ?_, fun z => ?_, ?_, fun q hq => ?_⟩
    · rw [z4]
      unfold tOf
      rw [hoO]
      rfl
    · rw [z8]
      exact bI_nb (x := false)
    · rw [ep]
      exact z9
    · rw [z8] at z
      exact absurd z (by decide)
    · rw [if_pos z8, ep]
      exact z6
    · have : q = 0 := by omega
      subst this
      rw [Nat.add_zero, Nat.add_zero, z10, z11, z12, z13, z14]
      exact ⟨rfl, rfl, ⟨3, by omega, by omega, rfl⟩, rfl, fun z => absurd z (by decide)⟩
  have h231 := e231 (n := n) hn (show o < ocn s by rw [eo]; exact z1) (show OOS d s by unfold OOS; rw [eo]; exact hO) hM z8
  rw [h231]
  have hp : pOf s y 24948 = some 0 := by
    unfold pOf
    rw [ep]
    exact ff_is (by omega) (decide_eq_true (by rw [Nat.add_zero]; exact z11)) (fun l hl => absurd hl (Nat.not_lt_zero _))
  have he : elI s y o = some e := by
    unfold elI
    rw [hp]
    show (if s.1 227 (y * 4 + 0) = nI 3 then eOf s o (s.2 228 (y * 4 + 0)) else none) = _
    rw [Nat.add_zero, if_pos z13]
    exact z15
  rw [he]
  rfl
/-- what the telling in ACT a may change -/
def qLc (a U A l : Nat) : Bool := decide ((A = 145 ∧ l = 7) ∨ (A = 123 ∧ l = a) ∨ (A = 133 ∧ (l = 11 ∨ l = 13)) ∨ ((A = 142 ∨ A = 143 ∨ A = 144) ∧ l = 1218 + a) ∨ (134 ≤ A ∧ A ≤ 138 ∧ U ≤ l) ∨ (139 ≤ A ∧ A ≤ 141 ∧ U * 4 ≤ l))
def qLu (b A l : Nat) : Bool := decide ((A = 174 ∧ (l = 67 ∨ l = 68)) ∨ (A = 219 ∧ l = b) ∨ ((A = 220 ∨ A = 221) ∧ 4 * b ≤ l ∧ l < 4 * b + 4) ∨ (A = 222 ∧ l = 1218) ∨ (223 ≤ A ∧ A ≤ 225 ∧ 1218 * 20 ≤ l) ∨ (226 ≤ A ∧ A ≤ 228 ∧ 1218 * 80 ≤ l))
theorem qLc_c (h : sx (qLc a U) c d) : sx QRc c d := sx_wide h (fun A j z => by
  have := of_decide_eq_false z
  exact decide_eq_false (by omega))
theorem qLu_u (h : sx (qLu b) u d) : sx QRu u d := sx_wide h (fun A j z => by
  have := of_decide_eq_false z
  exact decide_eq_false (by omega))
def TLZ (K P : Nat → Nat) (V : Nat → Int64) (N : Nat) (w v : cS) (a b U j : Nat) (r : cS ⊕ cS) (q : cS) : Prop := (∃ d j' m, r = .inl d ∧ j + 2 * m ≤ j' ∧ PSI K P V N d q j' ∧ TLR d q a b ∧ (∀ l, l < tdn q b → mi d (1218 + a) l < U + m) ∧ d.1 133 11 = nI (U + m) ∧ d.1 133 12 = nM ∧ d.1 133 13 = nI (U + m) ∧ sx (qLc a U) w d ∧ sx (qLu b) v q) ∨ (∃ z, r = .inr z ∧ FLR w v z q)
theorem tld_go (hn : 10000 ≤ n) (ha : a < 1024) (hb : b < 3840) (hP : PSI K P V N w v j) (hU : 2 * U ≤ j) (hV : ENV w v oc kc mc 0) (h11 : w.1 133 11 = nI U) (h12 : w.1 133 12 = nM) (h13 : w.1 133 13 = nI U) (h144 : w.1 144 (1218 + a) = nI 0) : jw (tlC n a w) (d_411 n (nI b) v) (TLZ K P V N w v a b U j) := by
  have hia : ib (nI a) 1024 := ib_n ha (by decide)
  have e12 : (1218 : Int32) + nI a = nI (1218 + a) := by rw [show (1218 : Int32) = nI 1218 from rfl, nI_add]
  have hkc := hV.1.2.1
  have hoc := hV.1.1.1
  obtain ⟨r, s, y1, y2, y3⟩ := jw_ex (marks_go (w := 6) (rc := 1218 + a) (rr := 1218) hn (by omega) (by omega) (by omega) hU hP hV h11 h12 h13 h144)
  have y1 : d_273 n (nI (1218 + a)) 6 w = some r := y1
  have y2 : d_396 n 1218 16 0 0 v = some s := y2
  rcases y3 with ⟨d, i, m, rfl, a1, a2, a3, a4, a5, a6, a7⟩ | ⟨z, rfl, hf⟩
  rotate_left
  · refine jw_of (a := .inr z) (b := s) ?_ ?_ (Or.inr ⟨z, rfl, hf⟩)
    · unfold tlC
      rw [e12]
      exact eq_wp (wpe y1 (wpSr rfl))
    · unfold d_411
      exact eq_wp (wpt hP.2.2.2.2 (wpe y2 (wpf (ne13 hf.2.2.1) rfl)))
  have hN := a3.1.1
  have hN2 := a3.2.1
  obtain ⟨⟨r1, r2, r3, r4, r5, r6, r7, r8, r9⟩, r10⟩ := a4
  have h15 : s.1 174 15 = nI oc := a5.1.1.2.2.1
  have hPO := a5.2.1
  have hT : ∀ l, l < m → ∃ o e, TM1 d s oc (U + l) (1218 * 20 + l) o e := fun l hl => TM1_of (r10 l hl) (r9 l hl) hkc
  let O : Nat → Nat := fun l => if h : l < m then Classical.choose (hT l h) else 0
  let E : Nat → Nat := fun l => if h : l < m then Classical.choose (Classical.choose_spec (hT l h)) else 0
  have hOE : ∀ l, l < m → TM1 d s oc (U + l) (1218 * 20 + l) (O l) (E l) := fun l hl => by
    have := Classical.choose_spec (Classical.choose_spec (hT l hl))
    show TM1 d s oc (U + l) (1218 * 20 + l) (if h : l < m then Classical.choose (hT l h) else 0) (if h : l < m then Classical.choose (Classical.choose_spec (hT l h)) else 0)
    rw [dif_pos hl, dif_pos hl]
    exact this
  clear_value O E
  have hEl : ∀ o, o < oc → eln s o ≤ 12 ∧ s.1 182 o = nI (eln s o) ∧ ix (s.1 188 o) < 16 ∧ d.1 (oA o) 3 = nI (ix (s.1 188 o)) := fun o ho => by
    obtain ⟨F, hr⟩ := hPO.2.2.2 o ho
    have hF := hr.1.1.2
    have e1 : eln s o = F := by
      unfold eln
      rw [hr.1.2.1, ix_n (by omega)]
    obtain ⟨t, ht1, ht2, -⟩ := hr.1.2.2.2.2.2.2.2.2.2
    have e2 : ix (s.1 188 o) = t := by
      rw [ht2, ix_n (by omega)]
    rw [e1, e2]
    exact ⟨hF, hr.1.2.1, by omega, by rw [hr.2.2.2.2.2.2.2.2.2]; exact ht2⟩
  have hdst : ∀ l l', l < l' → l' < m → O l ≠ O l' := fun l l' h1 h2 z => by
    have f1 := (ff_some (hOE l (by omega)).2.2.2.2.1).2.1
    have f2 := (ff_some (hOE l' h2).2.2.2.2.1).2.1
    rw [z] at f1
    have f3 := (of_decide_eq_true f1).symm.trans (of_decide_eq_true f2)
    obtain ⟨t, bb, g1, g2, g3, g4, g5, g6, g7, g8⟩ := r10 l' h2
    have ht : 100 ≤ t := by
      unfold ftW at g8
      rw [if_neg (by decide), if_pos rfl] at g8
      exact of_decide_eq_true g8
    unfold dpl mny at g7
    rw [decide_eq_false (show ¬ t < 100 by omega), Bool.false_and, Bool.not_false, Bool.and_true] at g7
    unfold hnm at g7
    have hno : ff (fun q => decide (s.2 223 (1218 * 20 + q) = s.2 223 (1218 * 20 + l'))) l' = none := Option.not_isSome_iff_eq_none.mp (by rw [g7]; decide)
    have := ff_none hno l h1
    rw [f3, decide_eq_true rfl] at this
    cases this
  have hm4 : m ≤ 4 := le4 (O := O) (fun l hl => by have := (hOE l hl).1; omega) hdst
  obtain ⟨x, x1, x2⟩ := e282 (n := n) (d := d) (r := 1218 + a) (m := m) (U := U) (oc := oc) (B := fun o => ix (s.1 188 o)) (O := O) (E := E) (by omega) (by omega) hoc a5.1.1.2.1 (fun o ho => ⟨(hEl o ho).2.2.1, (hEl o ho).2.2.2⟩) r4 (by omega) r5 (fun z => (r7 z).1) (fun l hl => by rw [r8 l (by omega), if_pos hl]) (fun l hl => by
    have h := hOE l hl
    have := (hEl _ h.1).1
    have := h.2.1
    exact ⟨h.1, by omega, h.2.2.2.1, TM1_231 (by omega) (by omega) hoc h15 hPO h⟩)
  obtain ⟨s', z0, z1, z2, z3⟩ := wp_ex (t411 (n := n) (b := b) (oc := oc) (kc := kc) (d := d) (q := s) (m := m) (O := O) (E := E) (by omega) hb hoc a5.1 a3.2.2.2.2 hm4 r6 (fun l hl => by
    have h := hOE l hl
    exact ⟨h.1, h.2.2.2.2.1, ⟨(hEl _ h.1).1, (hEl _ h.1).2.1⟩, h.2.2.2.2.2.2.2.2.2.2.2.2.2.2⟩))
  obtain ⟨d', hd'⟩ : ∃ d', d' = pI d 123 a x.toInt32 := ⟨_, rfl⟩
  have sd : sx (qLc a U) w d' := by
    rw [hd']
    exact sx_pI (sx_wide a6 (fun A l z => by
      have := of_decide_eq_false z
      exact decide_eq_false (by omega))) (decide_eq_true (by omega))
  have ss : sx (qLu b) v s' := sx_trans (sx_wide a7 (fun A l z => by
    have := of_decide_eq_false z
    exact decide_eq_false (by omega))) (sx_wide z1 (fun A l z => by
    have := of_decide_eq_false z
    exact decide_eq_false (by omega)))
  have df : ∀ A l, A ≠ 123 → d'.1 A l = d.1 A l := fun A l z => by
    rw [hd', rI, if_neg (by omega)]
  have S : ∀ A l, ¬ (A = 219 ∨ A = 220 ∨ A = 221) → s'.1 A l = s.1 A l ∧ s'.2 A l = s.2 A l := fun A l z => ⟨z1.1 _ _ (decide_eq_false (by omega)), z1.2 _ _ (decide_eq_false (by omega))⟩
  refine jw_of (a := .inl d') (b := s') ?_ ?_ (Or.inl ⟨d', i, m, rfl, a1, ?_, ?_, fun l hl => ?_, ?_, ?_, ?_, sd, ss⟩)
  · unfold tlC
    rw [e12]
    refine eq_wp (wpe y1 (wpSl (wpe x1 (wpt hia (wpl ?_)))))
    rw [hd']
    rfl
  · unfold d_411
    exact eq_wp (wpt hP.2.2.2.2 (wpe y2 (wp_of z0 rfl)))
  · rw [hd']
    exact PSI_sx a3 (sx_pI (r := fun A _ => decide (A = 123)) sx_rfl rfl) z1 (fun A l z => decide_eq_false (by omega)) (fun A l z => decide_eq_false (by omega))
  · have etd : tdn s' b = m := by
      unfold tdn
      rw [z2, ix_n (by omega)]
    have eoc : ocn s' = oc := by
      unfold ocn
      rw [(S _ _ (by omega)).1, h15, ix_n (by omega)]
    have hch : ∀ l, l < m → ch d' (1218 + a) l = nI (U + l) := ch_row (by omega) (fun z => by rw [df _ _ (by omega)]; exact (r7 z).1) (fun l hl => by rw [df _ _ (by omega), r8 l (by omega), if_pos hl])
    have hmi : ∀ l, l < m → mi d' (1218 + a) l = U + l := fun l hl => by
      unfold mi
      rw [hch l hl, ix_n (by omega)]
    unfold TLR
    rw [etd, eoc]
    refine ⟨hm4, z2, by rw [df _ _ (by omega)]; exact r5, fun l hl => ?_, fun o ho => ?_⟩
    · obtain ⟨c1, c2, c3, c4, c5, c6, c7, c8, c9, c10, c11, c12, c13, c14, c15⟩ := hOE l hl
      have := (hEl _ c1).1
      have eo : toR s' b l = O l := by
        unfold toR
        rw [(z3 l hl).1, ix_n (by omega)]
      have ee : teR s' b l = E l := by
        unfold teR
        rw [(z3 l hl).2, ix_n (by omega)]
      rw [eo, ee, hmi l hl, df _ _ (by omega), df _ _ (by omega), df _ _ (by omega), df _ _ (by omega)]
      refine ⟨c1, ?_, (z3 l hl).1, (z3 l hl).2, hch l hl, by omega, ?_, c4, c6, c7, ?_, c12, ?_⟩
      · unfold eln
        rw [(S _ _ (by omega)).1]
        exact c2
      · rw [(S _ _ (by omega)).2, hd']
        exact c3.trans (of_decide_eq_true (ff_some c5).2.1).symm
      · rw [hd']
        exact c10
      · rw [(S _ _ (by omega)).2, hd']
        exact c14.trans (of_decide_eq_true (ff_some c15).2.1).symm
    · rw [show d'.1 123 a = x.toInt32 by rw [hd', rI, if_pos ⟨rfl, rfl⟩], nbl_32 (by omega), x2 o ho]
      refine (tlo_P (B := fun o => ix (s.1 188 o)) (O := O) (E := E) (m := m) ?_ z3 (fun l hl => ?_) m (Nat.le_refl _)).symm
      · rw [(S _ _ (by omega)).1]
      · have h := hOE l hl
        have := (hEl _ h.1).1
        have := h.1
        have := h.2.1
        omega
  · have etd : tdn s' b = m := by
      unfold tdn
      rw [z2, ix_n (by omega)]
    rw [etd] at hl
    unfold mi
    rw [ch_row (U := U) (m := m) (by omega) (fun z => by rw [df _ _ (by omega)]; exact (r7 z).1) (fun l hl => by rw [df _ _ (by omega), r8 l (by omega), if_pos hl]) l hl, ix_n (by omega)]
    omega
  · rw [df _ _ (by omega)]
    exact r1
  · rw [df _ _ (by omega)]
    exact r2
  · rw [df _ _ (by omega)]
    exact r3
end TLG
