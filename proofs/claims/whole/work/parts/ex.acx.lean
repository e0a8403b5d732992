/-! READING an ACT: what is read stays -/
section ACXS
variable {n i j N k M a b a0 na op L L' U U' oc kc mc : Nat} {c d u w v q c' u' : cS} {K P : Nat → Nat} {V : Nat → Int64} {nm : Int64}
/-- cells of ACT a -/
def acR (a U A l : Nat) : Prop := (121 ≤ A ∧ A ≤ 132 ∧ l = a) ∨ ((A = 142 ∨ A = 144) ∧ l = 1218 + a) ∨ mkR1 U A l
def auR (b A l : Nat) : Prop := (211 ≤ A ∧ A ≤ 219 ∧ l = b) ∨ ((A = 220 ∨ A = 221) ∧ 4 * b ≤ l ∧ l < 4 * b + 4) ∨ (181 ≤ A ∧ A ≤ 188) ∨ (A = 174 ∧ l = 15)
theorem TLR_cg (h : TLR c u a b) (hU : ∀ l, l < tdn u b → mi c (1218 + a) l < U) (hc : ∀ A l, acR a U A l → c'.1 A l = c.1 A l ∧ c'.2 A l = c.2 A l) (hu : ∀ A l, auR b A l → u'.1 A l = u.1 A l ∧ u'.2 A l = u.2 A l) : TLR c' u' a b ∧ ∀ l, l < tdn u' b → mi c' (1218 + a) l < U := by
  unfold acR mkR1 at hc
  unfold auR at hu
  have etd : tdn u' b = tdn u b := by
    unfold tdn
    rw [(hu _ _ (by omega)).1]
  have eoc : ocn u' = ocn u := by
    unfold ocn
    rw [(hu _ _ (by omega)).1]
  have hch : ∀ l, l < tdn u b → ch c' (1218 + a) l = ch c (1218 + a) l := by
    intro l
    induction l with
    | zero =>
      intro hl
      exact (hc 142 (1218 + a) (by omega)).1
    | succ l ih =>
      intro hl
      show c'.1 138 (ix (ch c' (1218 + a) l)) = c.1 138 (ix (ch c (1218 + a) l))
      rw [ih (by omega)]
      have := hU l (by omega)
      unfold mi at this
      exact (hc _ _ (by omega)).1
  have hmi : ∀ l, l < tdn u b → mi c' (1218 + a) l = mi c (1218 + a) l := fun l hl => by
    unfold mi
    rw [hch l hl]
  obtain ⟨t1, t2, t3, t4, t5⟩ := h
  have h4 := t1
  refine ⟨?_, fun l hl => ?_⟩
  · unfold TLR
    rw [etd, eoc]
    have hR : ∀ l, l < tdn u b → toR u' b l = toR u b l ∧ teR u' b l = teR u b l := fun l hl => by
      unfold toR teR
      rw [(hu 220 _ (by omega)).1, (hu 221 _ (by omega)).1]
      exact ⟨rfl, rfl⟩
    refine ⟨t1, by rw [(hu _ _ (by omega)).1]; exact t2, by rw [(hc _ _ (by omega)).1]; exact t3, fun l hl => ?_, fun o ho => ?_⟩
    · obtain ⟨x1, x2, x3, x4, x5, x6, x7, x8, x9, x10, x11, x12, x13⟩ := t4 l hl
      have hm := hU l hl
      rw [(hR l hl).1, (hR l hl).2, hmi l hl, hch l hl, (hu 220 _ (by omega)).1, (hu 221 _ (by omega)).1, (hc 134 _ (by omega)).2, (hc 135 _ (by omega)).1, (hc 136 _ (by omega)).1, (hc 137 _ (by omega)).1, (hc 139 _ (by omega)).2, (hc 140 _ (by omega)).1, (hc 141 _ (by omega)).2, (hu 181 _ (by omega)).2, (hu 183 _ (by omega)).2]
      refine ⟨x1, ?_, x3, x4, x5, x6, x7, x8, x9, x10, x11, x12, x13⟩
      unfold eln
      rw [(hu 182 _ (by omega)).1]
      exact x2
    · rw [(hc 123 a (by omega)).1, t5 o ho]
      have hto : ∀ l, l ≤ tdn u b → tlo u b o l = tlo u' b o l := by
        intro l
        induction l with
        | zero =>
          intro _
          unfold tlo
          rw [(hu 188 _ (by omega)).1]
        | succ l ih =>
          intro hl
          unfold tlo
          rw [(hR l (by omega)).1, (hR l (by omega)).2, ih (by omega)]
      exact hto _ (Nat.le_refl _)
  · rw [etd] at hl
    rw [hmi l hl]
    exact hU l hl
theorem ARO_cg (h : ARO K P V N c u a b op L U oc) (hL : L ≤ L') (hU : U ≤ U') (hc : ∀ A l, acR a U A l → c'.1 A l = c.1 A l ∧ c'.2 A l = c.2 A l) (hu : ∀ A l, auR b A l → u'.1 A l = u.1 A l ∧ u'.2 A l = u.2 A l) : ARO K P V N c' u' a b op L' U' oc := by
  obtain ⟨h1, h2, h3, h4, h5, h6⟩ := h
  have C : ∀ A, 121 ≤ A → A ≤ 132 → c'.1 A a = c.1 A a ∧ c'.2 A a = c.2 A a := fun A z1 z2 => hc A a (Or.inl ⟨z1, z2, rfl⟩)
  have R : ∀ A, 211 ≤ A → A ≤ 219 → u'.1 A b = u.1 A b := fun A z1 z2 => (hu A b (Or.inl ⟨z1, z2, rfl⟩)).1
  refine ⟨fun z => ?_, fun z => ?_, fun z => ?_, fun z => ?_, fun z => ?_, fun z => ?_⟩
  · rw [(C 122 (by omega) (by omega)).1, R 214 (by omega) (by omega)]
    exact h1 z
  · obtain ⟨y1, y2⟩ := TLR_cg (h2 z).1 (h2 z).2 hc hu
    exact ⟨y1, fun l hl => Nat.lt_of_lt_of_le (y2 l hl) hU⟩
  · obtain ⟨x, y1, y2, y3⟩ := h3 z
    exact ⟨x, by omega, by rw [R 214 (by omega) (by omega)]; exact y2, by rw [(C 122 (by omega) (by omega)).1]; exact y3⟩
  · obtain ⟨t, y1, ⟨y2, y3, y4, y5⟩, ⟨y6, y7, y8, y9⟩⟩ := h4 z
    exact ⟨t, by rw [R 217 (by omega) (by omega)]; exact y1, ⟨y2, y3, by rw [(C 128 (by omega) (by omega)).2]; exact y4, by rw [(C 131 (by omega) (by omega)).1]; exact y5⟩, ⟨y6, y7, by rw [(C 129 (by omega) (by omega)).2]; exact y8, by rw [(C 132 (by omega) (by omega)).1]; exact y9⟩⟩
  · obtain ⟨t, y1, ⟨y2, y3, y4, y5⟩⟩ := h5 z
    exact ⟨t, by rw [R 218 (by omega) (by omega)]; exact y1, ⟨y2, y3, by rw [(C 128 (by omega) (by omega)).2]; exact y4, by rw [(C 131 (by omega) (by omega)).1]; exact y5⟩⟩
  · obtain ⟨x, y, y1, y2, y3, y4, y5, y6⟩ := h6 z
    refine ⟨x, y, y1, ?_, by rw [R 214 (by omega) (by omega)]; exact y3, by rw [R 215 (by omega) (by omega)]; exact y4, by rw [(C 123 (by omega) (by omega)).1]; exact y5, by rw [(C 122 (by omega) (by omega)).1]; exact y6⟩
    unfold eln at y2 ⊢
    rw [(hu 182 x (by unfold auR; omega)).1]
    exact y2
/-- an ACT as it is read -/
def ACX (K P : Nat → Nat) (V : Nat → Int64) (N : Nat) (c u : cS) (a b L U oc : Nat) : Prop := ∃ op, (14 ≤ op ∧ op ≤ 30) ∧ c.1 121 a = nI (200 + op) ∧ u.1 211 b = nI op ∧ c.2 127 a = u.2 212 b ∧ (c.1 124 a = nM ∧ u.1 216 b = nM ∧ c.1 125 a = nM ∧ c.1 126 a = nI 0) ∧ c.1 130 a = u.1 213 b ∧ ARO K P V N c u a b op L U oc
theorem ACX_cg (h : ACX K P V N c u a b L U oc) (hL : L ≤ L') (hU : U ≤ U') (hc : ∀ A l, acR a U A l → c'.1 A l = c.1 A l ∧ c'.2 A l = c.2 A l) (hu : ∀ A l, auR b A l → u'.1 A l = u.1 A l ∧ u'.2 A l = u.2 A l) : ACX K P V N c' u' a b L' U' oc := by
  obtain ⟨op, h1, h2, h3, h4, ⟨h5, h6, h7, h8⟩, h9, h10⟩ := h
  have C : ∀ A, 121 ≤ A → A ≤ 132 → c'.1 A a = c.1 A a ∧ c'.2 A a = c.2 A a := fun A z1 z2 => hc A a (Or.inl ⟨z1, z2, rfl⟩)
  have R : ∀ A, 211 ≤ A → A ≤ 219 → u'.1 A b = u.1 A b ∧ u'.2 A b = u.2 A b := fun A z1 z2 => hu A b (Or.inl ⟨z1, z2, rfl⟩)
  exact ⟨op, h1, by rw [(C 121 (by omega) (by omega)).1]; exact h2, by rw [(R 211 (by omega) (by omega)).1]; exact h3, by rw [(C 127 (by omega) (by omega)).2, (R 212 (by omega) (by omega)).2]; exact h4, ⟨by rw [(C 124 (by omega) (by omega)).1]; exact h5, by rw [(R 216 (by omega) (by omega)).1]; exact h6, by rw [(C 125 (by omega) (by omega)).1]; exact h7, by rw [(C 126 (by omega) (by omega)).1]; exact h8⟩, by rw [(C 130 (by omega) (by omega)).1, (R 213 (by omega) (by omega)).1]; exact h9, ARO_cg h10 hL hU hc hu⟩
/-- METHOD M with na ACTS read -/
def MAS (K P : Nat → Nat) (V : Nat → Int64) (N : Nat) (w v : cS) (k M a0 na L oc kc mc U : Nat) : Prop := (w.1 145 8 = nI k ∧ w.1 145 9 = nI M) ∧ (na ≤ 40 ∧ w.1 120 M = nI na ∧ v.1 210 M = nI na ∧ w.1 119 M = nI a0 ∧ w.1 114 7 = nI (a0 + na)) ∧ OPS w v M L U ∧ ENV w v oc kc mc 0 ∧ (∀ l, l < na → ACX K P V N w v (a0 + l) (40 * M + l) L U oc) ∧ ∀ a, a0 + na ≤ a → a < 1024 → w.1 144 (1218 + a) = nI 0
/-- what the reading of ACTS of METHOD M may change -/
def qAc (M a0 U A l : Nat) : Bool := decide ((A = 145 ∧ l = 7) ∨ (A = 114 ∧ l = 7) ∨ ((A = 117 ∨ A = 120) ∧ l = M) ∨ (A = 118 ∧ M * 8 ≤ l ∧ l < M * 8 + 8) ∨ (121 ≤ A ∧ A ≤ 132 ∧ a0 ≤ l) ∨ (A = 133 ∧ (l = 11 ∨ l = 13)) ∨ ((A = 142 ∨ A = 143 ∨ A = 144) ∧ 1218 + a0 ≤ l) ∨ (134 ≤ A ∧ A ≤ 138 ∧ U ≤ l) ∨ (139 ≤ A ∧ A ≤ 141 ∧ U * 4 ≤ l))
def qAu (M A l : Nat) : Bool := decide ((A = 174 ∧ (l = 67 ∨ l = 68)) ∨ ((A = 208 ∨ A = 210) ∧ l = M) ∨ (A = 209 ∧ 8 * M ≤ l ∧ l < 8 * M + 8) ∨ (211 ≤ A ∧ A ≤ 219 ∧ 40 * M ≤ l ∧ l < 40 * M + 40) ∨ ((A = 220 ∨ A = 221) ∧ 160 * M ≤ l ∧ l < 160 * M + 160) ∨ (A = 222 ∧ l = 1218) ∨ (223 ≤ A ∧ A ≤ 225 ∧ 1218 * 20 ≤ l) ∨ (226 ≤ A ∧ A ≤ 228 ∧ 1218 * 80 ≤ l))
theorem qAc_c (h : sx (qAc M a0 U) c d) : sx QRc c d := sx_wide h (fun A j z => by
  have := of_decide_eq_false z
  exact decide_eq_false (by omega))
theorem qAu_u (h : sx (qAu M) u d) : sx QRu u d := sx_wide h (fun A j z => by
  have := of_decide_eq_false z
  exact decide_eq_false (by omega))
/-- the parts of an ACT, whichever it is -/
theorem opn_all (hn : 10000 ≤ n) (ha : a < 1024) (hb : b < 3840) (hM : M < 96) (ho : 14 ≤ op ∧ op ≤ 30) (h1 : w.1 121 a = nI (200 + op)) (h2 : v.1 211 b = nI op) (h9 : w.1 145 9 = nI M) (hP : PSI K P V N w v j) (hU : 2 * U ≤ j) (hV : ENV w v oc kc mc 0) (hS : OPS w v M L U) (h144 : w.1 144 (1218 + a) = nI 0) : jw (d_281 n (nI a) w) (d_409 n (nI M) (nI b) v) (OPZ K P V N w v a b M U L oc op j) := by
  have tl : ∀ {w1 v1 : cS} {j1 : Nat}, op ≤ 15 → PSI K P V N w1 v1 j1 → j ≤ j1 → sx (fun A l => decide ((A = 145 ∧ l = 7) ∨ (A = 122 ∧ l = a))) w w1 → sx (fun A l => decide ((A = 174 ∧ (l = 67 ∨ l = 68)) ∨ (A = 214 ∧ l = b))) v v1 → (op = 14 → w1.1 122 a = v1.1 214 b) → jw (tlC n a w1) (d_411 n (nI b) v1) (OPZ K P V N w v a b M U L oc op j) := fun {w1 v1 j1} o1 p1 p2 p3 p4 p5 => by
    have hkc := hV.1.2.1
    have C : ∀ A l, ¬ ((A = 145 ∧ l = 7) ∨ (A = 122 ∧ l = a)) → w1.1 A l = w.1 A l ∧ w1.2 A l = w.2 A l := fun A l z => ⟨p3.1 _ _ (decide_eq_false z), p3.2 _ _ (decide_eq_false z)⟩
    have R : ∀ A l, ¬ ((A = 174 ∧ (l = 67 ∨ l = 68)) ∨ (A = 214 ∧ l = b)) → v1.1 A l = v.1 A l ∧ v1.2 A l = v.2 A l := fun A l z => ⟨p4.1 _ _ (decide_eq_false z), p4.2 _ _ (decide_eq_false z)⟩
    obtain ⟨s1, s2, s3, s4, s5, s6, s7⟩ := hS
    obtain ⟨r, q, y1, y2, y3⟩ := jw_ex (tld_go (n := n) (U := U) hn ha hb p1 (by omega) (ENV_k hV (fun A l z => C A l (by unfold kcR kA at z; omega)) (fun A l z => R A l (by unfold kuR at z; omega))) (by rw [(C _ _ (by omega)).1]; exact s5) (by rw [(C _ _ (by omega)).1]; exact s6) (by rw [(C _ _ (by omega)).1]; exact s7) (by rw [(C _ _ (by omega)).1]; exact h144))
    refine jw_of y1 y2 ?_
    rcases y3 with ⟨d, j', m, rfl, z1, z2, z3, z4, z5, z6, z7, z8, z9⟩ | ⟨z, rfl, hf⟩
    · refine Or.inl ⟨d, j', U + m, L, rfl, by omega, Nat.le_refl _, by omega, fun z => by omega, z2, ⟨fun z => ?_, fun _ => ⟨z3, z4⟩, fun z => by omega, fun z => by omega, fun z => by omega, fun z => by omega⟩, ⟨s1, ?_, ?_, fun l hl => ?_, z5, z6, z7⟩, ?_, ?_⟩
      · rw [z8.1 _ _ (decide_eq_false (by omega)), z9.1 _ _ (decide_eq_false (by omega))]
        exact p5 z
      · rw [z8.1 _ _ (decide_eq_false (by omega)), (C _ _ (by omega)).1]
        exact s2
      · rw [z9.1 _ _ (decide_eq_false (by omega)), (R _ _ (by omega)).1]
        exact s3
      · rw [z8.2 _ _ (decide_eq_false (by omega)), (C _ _ (by omega)).2, z9.2 _ _ (decide_eq_false (by omega)), (R _ _ (by omega)).2]
        exact s4 l hl
      · exact sx_trans (sx_wide p3 (fun A l z => by
          have := of_decide_eq_false z
          exact decide_eq_false (by omega))) (sx_wide z8 (fun A l z => by
          have := of_decide_eq_false z
          exact decide_eq_false (by omega)))
      · exact sx_trans (sx_wide p4 (fun A l z => by
          have := of_decide_eq_false z
          exact decide_eq_false (by omega))) (sx_wide z9 (fun A l z => by
          have := of_decide_eq_false z
          exact decide_eq_false (by omega)))
    · refine Or.inr ⟨z, rfl, FLR_tr hf (sx_wide p3 (fun A l z => ?_)) (sx_wide p4 (fun A l z => ?_))⟩
      · have := of_decide_eq_false z
        exact decide_eq_false (by omega)
      · have := of_decide_eq_false z
        exact decide_eq_false (by omega)
  by_cases e14 : op = 14
  · subst e14
    have hia : ib (nI a) 1024 := ib_n ha (by decide)
    obtain ⟨r, q, y1, y2, y3⟩ := jw_ex (val_go (n := n) (t := false) (x := 1) (y := 0) hP rfl rfl)
    rcases y3 with ⟨vv, j2, d, rfl, z1, z2, z3, z4, z5, z6⟩ | ⟨z, rfl, hf⟩
    · refine jw_up (tl (w1 := pI d 122 a vv.toInt32) (v1 := pI q 214 b ((q.2 174 68 : Int64).toInt32)) (j1 := j2) (by omega) ?_ (by omega) ?_ ?_ (fun _ => ?_)) (fun Q h => c281_p ha h1 (wpe y1 (wpSl (wpt hia (wpl h))))) (fun Q h => r409_p hb h2 (wpe y2 h))
      · exact PSI_sx z2 (sx_pI (r := fun A _ => decide (A = 122)) sx_rfl rfl) (sx_pI (r := fun A _ => decide (A = 214)) sx_rfl rfl) (fun A l z => decide_eq_false (by omega)) (fun A l z => decide_eq_false (by omega))
      · exact sx_pI (sx_wide z5 (fun A l z => by
          have := of_decide_eq_false z
          exact decide_eq_false (by omega))) (decide_eq_true (by omega))
      · exact sx_pI (sx_wide z6 (fun A l z => by
          have := of_decide_eq_false z
          exact decide_eq_false (by omega))) (decide_eq_true (by omega))
      · rw [rI, if_pos ⟨rfl, rfl⟩, rI, if_pos ⟨rfl, rfl⟩, z3]
    · have hw : (pI q 214 b ((q.2 174 68 : Int64).toInt32)).1 174 13 = nI 1 := by
        rw [rI, if_neg (by omega)]
        exact hf.2.2.1
      refine c281_p ha h1 (wpe y1 (wpSr (wp_of rfl (r409_p hb h2 (wpe y2 (wp_of (a := pI q 214 b ((q.2 174 68 : Int64).toInt32)) ?_ (Or.inr ⟨z, rfl, FLR_sx (r := fun A _ => decide (A = 214)) hf (sx_pI sx_rfl rfl) (fun A l z => ?_) (fun l z1 z2 => rfl)⟩)))))))
      · unfold d_411
        exact eq_wp (wpf (ne13 hw) rfl)
      · have := of_decide_eq_true z
        exact decide_eq_true (by omega)
  by_cases e15 : op = 15
  · subst e15
    exact jw_up (tl (by omega) hP (Nat.le_refl _) sx_rfl sx_rfl (fun z => by omega)) (fun Q h => c281_t ha h1 h) (fun Q h => r409_t hb h2 h)
  by_cases e17 : op ≤ 17
  · exact opn_l hn ha hb hM (by omega) h1 h2 h9 hP hS
  by_cases e20 : op ≤ 20
  · exact opn_d ha hb (by omega) h1 h2 hP hS
  by_cases e26 : op ≤ 26
  · exact c281_0 ha (by omega) e26 h1 (r409_0 hb (by omega) e26 h2 (op_0 (by omega) e26 hP hS))
  by_cases e28 : op ≤ 28
  · exact opn_j ha hb (by omega) h1 h2 hP hS
  by_cases e29 : op = 29
  · subst e29
    exact opn_e hn ha hb h1 h2 hP hV hS
  · have : op = 30 := by omega
    subst this
    exact opn_f hn ha hb h1 h2 hP hV hS
end ACXS
