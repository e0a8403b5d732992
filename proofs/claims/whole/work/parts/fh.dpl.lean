/-! DEPTHS: going over an ACT -/
section DPL
variable {n i j N k M a b a0 na op B X E t x b1 : Nat} {c d u v w q c0 u0 c' u' : cS}
def d9C (n : Nat) (a1 v2 v8 : Int32) (p17 : Int64 × cS) : Option ((Int64 × cS) ⊕ cS) :=
        if ib v2 1024 then
        jn (fun p20 : Int64 × cS =>
          some (.inl (p20.1, p20.2)))
        (fun j179 =>
        if 0 ≤ (p17.2.1 124 (ix v2)) then
          if ib v2 1024 then
          Option.bind (d_291 n a1 (p17.2.1 124 (ix v2)) v8 p17.2) (Sum.elim (fun r22 =>
          j179 ((p17.1 ||| r22.1), r22.2))
          (fun z23 => some (.inr z23)))
          else none
        else
          j179 (p17.1, p17.2))
        else none
def d8C (n : Nat) (a1 a3 v2 v8 : Int32) (p15 : cS) : Option ((Int64 × cS) ⊕ cS) :=
      Option.bind (d_167 n v2 p15) (fun v16 =>
      jn (d9C n a1 v2 v8)
      (fun j139 =>
      if v16 = 0 then
        j139 (0, p15)
      else
        Option.bind (d_291 n a1 (a3 + 1) v8 p15) (Sum.elim (fun r24 =>
        j139 (r24.1, r24.2))
        (fun z25 => some (.inr z25)))))
theorem d290_s {a1 a2 a3 : Int32} : d_290 n a1 a2 a3 c = lt ((a1 + a3) : Int32) (fun v2 =>
  if ib v2 1024 then
  Option.bind (d_165 n v2 c) (fun v5 =>
  Option.bind (d_166 n v2 c) (fun v6 =>
  lt ((((c.1 125 (ix v2)) - v5) + v6) : Int32) (fun v8 =>
  Option.bind (d_167 n v2 c) (fun v10 =>
  jn (fun p11 : Int32 =>
    Option.bind (d_165 n v2 c) (fun v13 =>
    if ib v2 1024 then
    jn (d8C n a1 a3 v2 v8)
    (fun j113 =>
    jn (fun p26 : Unit =>
      if ib v2 1024 then
      Option.bind (d_41 n 8 (c.1 130 (ix v2)) c) (Sum.elim (fun r28 =>
      j113 r28)
      (fun z29 => some (.inr z29)))
      else none)
    (fun j97 =>
    if (c.1 125 (ix v2)) < v13 then
      j97 ()
    else
      if 8 < v8 then
        j97 ()
      else
        if p11 = 0 then
          j113 c
        else
          j97 ()))
    else none))
  (fun j61 =>
  jn (fun p30 : Unit =>
    j61 0)
  (fun j60 =>
  if v10 = 0 then
    j60 ()
  else
    if (a3 + 1) < a2 then
      j60 ()
    else
      j61 1))))))
  else none) := rfl
def d4R (n : Nat) (v3 v38 v48 : Int32) (p51 : cS) : Option (cS ⊕ (cS ⊕ (cS ⊕ (Int32 × cS)))) :=
                  if ib v38 3840 then
                  jn (fun p53 : cS =>
                    some (.inl p53))
                  (fun j263 =>
                  if (p51.1 216 (ix v38)) < 0 then
                    j263 p51
                  else
                    if ib v38 3840 then
                    Option.bind (d_420 n (v3 + (p51.1 216 (ix v38))) v48 p51) (fun r55 =>
                    j263 r55)
                    else none)
                  else none
def d3R (n : Nat) (v3 v7 x33 v38 v48 : Int32) (c35 : cS) : Option (cS ⊕ (cS ⊕ (cS ⊕ (Int32 × cS)))) :=
                if ib v38 3840 then
                jn (d4R n v3 v38 v48)
                (fun j238 =>
                if (c35.1 211 (ix v38)) = 21 then
                  j238 c35
                else
                  if ib v38 3840 then
                  if (c35.1 211 (ix v38)) = 27 then
                    j238 c35
                  else
                    if (x33 + 1) = v7 then
                      if ib v38 3840 then
                      Option.bind (d_97 n 8 (c35.1 213 (ix v38)) c35) (fun r59 =>
                      j238 r59)
                      else none
                    else
                      Option.bind (d_420 n ((v3 + x33) + 1) v48 c35) (fun r57 =>
                      j238 r57)
                  else none)
                else none
theorem lN_or0 {y : Nat} : lN (y ||| 0) = lN y := by rw [Nat.or_zero]
/-- the LABEL of an ACT is come to -/
theorem gq2 (h : DPI c0 u0 M a0 na X B k c u) (hx : x < na) (ha0 : a0 + na ≤ 1024) (hM : M < 96) (hna : na ≤ 40) (hE : E ≤ 8) (h13 : u.1 174 13 = nI 0) (g : u.1 216 (40 * M + x) = nM ∨ ∃ t, t < na ∧ u.1 216 (40 * M + x) = nI t) (h124 : c.1 124 (a0 + x) = u.1 216 (40 * M + x)) (h130 : ∀ t, t < na → c.1 130 (a0 + t) = u.1 213 (40 * M + t)) (hb1 : b1 < 2 ^ 40) :
    (∃ b2 c2 v2, d9C n (nI a0) (nI (a0 + x)) (nI E) (lN b1, c) = some (.inl (lN (b1 ||| b2), c2)) ∧ d4R n (nI (40 * M)) (nI (40 * M + x)) (nI E) u = some (.inl v2) ∧ b2 < 2 ^ 40 ∧ DPI c0 u0 M a0 na X (B ||| b2) k c2 v2 ∧ (∀ l, u.1 230 l ≠ nM → v2.1 230 l = u.1 230 l) ∧ (∀ t, u.1 216 (40 * M + x) = nI t → t < na → v2.1 230 (40 * M + t) = nI E)) ∨
    (∃ z q, d9C n (nI a0) (nI (a0 + x)) (nI E) (lN b1, c) = some (.inr z) ∧ d4R n (nI (40 * M)) (nI (40 * M + x)) (nI E) u = some (.inl q) ∧ FLR c u z q) := by
  have hia : ib (nI (a0 + x)) 1024 := ib_n (by omega) (by decide)
  have ea : ix (nI (a0 + x)) = a0 + x := ix_n (by omega)
  have hib : ib (nI (40 * M + x)) 3840 := ib_n (by omega) (by decide)
  have eb : ix (nI (40 * M + x)) = 40 * M + x := ix_n (by omega)
  rcases g with g | ⟨t, ht, g⟩
  · refine Or.inl ⟨0, c, u, ?_, ?_, by decide, by rw [Nat.or_zero]; exact h, fun _ _ => rfl, fun t z1 z2 => ?_⟩
    · unfold d9C
      dsimp only
      rw [ea, h124, g, lN_or0]
      exact eq_wp (wpt hia (wpj (wpf (by decide) rfl)))
    · unfold d4R
      rw [eb, g]
      exact eq_wp (wpt hib (wpj (wpt (by decide) rfl)))
    · rw [g] at z1
      exact absurd z1.symm (fun z => (nM_eqF (k := t) (by omega)).mp z)
  · have ht0 : (0 : Int32) ≤ nI t := nI_le (a := 0) (by omega) (by omega)
    have ht1 : ¬ nI t < 0 := nI_pos (by omega)
    have hC : ∀ {Q : (Int64 × cS) ⊕ cS → Prop}, wp (Option.bind (d_291 n (nI a0) (nI t) (nI E) c) (Sum.elim (fun r22 : Int64 × cS =>
          some (.inl ((lN b1 ||| r22.1), r22.2)))
          (fun z23 => some (.inr z23)))) Q → wp (d9C n (nI a0) (nI (a0 + x)) (nI E) (lN b1, c)) Q := fun {Q} h => by
      unfold d9C
      dsimp only
      rw [ea, h124, g]
      exact wpt hia (wpj (wpt ht0 (wpt hia h)))
    have hR : ∀ {s : cS}, d_420 n (nI (40 * M + t)) (nI E) u = some s → d4R n (nI (40 * M)) (nI (40 * M + x)) (nI E) u = some (.inl s) := fun {s} h => by
      unfold d4R
      rw [eb, g, nI_add]
      exact eq_wp (wpt hib (wpj (wpf ht1 (wpt hib (wpe h rfl)))))
    have fin : ∀ {bit : Nat} {c' u' : cS}, bit < 2 ^ 40 → CMR M a0 t E c u bit c' u' → d_291 n (nI a0) (nI t) (nI E) c = some (.inl (lN bit, c')) → d_420 n (nI (40 * M + t)) (nI E) u = some u' → (∃ b2 c2 v2, d9C n (nI a0) (nI (a0 + x)) (nI E) (lN b1, c) = some (.inl (lN (b1 ||| b2), c2)) ∧ d4R n (nI (40 * M)) (nI (40 * M + x)) (nI E) u = some (.inl v2) ∧ b2 < 2 ^ 40 ∧ DPI c0 u0 M a0 na X (B ||| b2) k c2 v2 ∧ (∀ l, u.1 230 l ≠ nM → v2.1 230 l = u.1 230 l) ∧ (∀ t, u.1 216 (40 * M + x) = nI t → t < na → v2.1 230 (40 * M + t) = nI E)) := fun {bit c' u'} hbt hr y1 y2 => by
      obtain ⟨k1, k2, k3⟩ := CM_keep h ht hna hE hr
      refine ⟨bit, c', u', eq_wp (hC (wpe y1 ?_)), hR y2, hbt, k1, k3, fun t' z1 z2 => ?_⟩
      · rw [← lN_or _ _ (by omega) (by omega)]
        exact wpSl rfl
      · rw [g] at z1
        rw [← (nI_eq (by omega) (by omega)).mp z1]
        exact k2
    rcases cm_go (n := n) (e := E) ht ha0 hM hna hE h13 (h.2.2.1 t ht).1 (h.2.2.1 t ht).2 (h130 t ht) with ⟨r1, r2, r3⟩ | ⟨r1, r2, r3⟩ | ⟨z, r1, r2, r3⟩
    · exact Or.inl (fin (Nat.pow_lt_pow_right (by decide) (by omega)) (Or.inl ⟨r1, rfl, rfl, rfl⟩) r2 r3)
    · exact Or.inl (fin (by decide) (Or.inr ⟨r1, rfl, rfl, rfl⟩) r2 r3)
    · exact Or.inr ⟨z, _, eq_wp (hC (wpe r1 (wpSr rfl))), hR r2, r3⟩
theorem d4R_w {y : Int32} (hM : M < 96) (hx : x < 40) (h13 : u.1 174 13 = nI 1) (g : u.1 216 (40 * M + x) = nM ∨ ∃ t, t < 40 ∧ u.1 216 (40 * M + x) = nI t) : ∃ q, d4R n (nI (40 * M)) (nI (40 * M + x)) y u = some (.inl q) ∧ sx (fun A _ => decide (A = 230)) u q := by
  have hib : ib (nI (40 * M + x)) 3840 := ib_n (by omega) (by decide)
  have eb : ix (nI (40 * M + x)) = 40 * M + x := ix_n (by omega)
  rcases g with g | ⟨t, ht, g⟩
  · refine ⟨u, ?_, sx_rfl⟩
    unfold d4R
    rw [eb, g]
    exact eq_wp (wpt hib (wpj (wpt (by decide) rfl)))
  · obtain ⟨q, h1, h2⟩ := d420_w (n := n) (y := y) (b := 40 * M + t) (by omega) h13
    refine ⟨q, ?_, h2⟩
    unfold d4R
    rw [eb, g, nI_add]
    exact eq_wp (wpt hib (wpj (wpf (nI_pos (by omega)) (wpt hib (wpe h1 rfl)))))
theorem FLR_230 {z s : cS} (h : FLR c u z q) (hs : sx (fun A _ => decide (A = 230)) q s) : FLR c u z s := FLR_sx h hs (fun A l z => by
  have := of_decide_eq_true z
  exact decide_eq_true (by omega)) (fun l z1 z2 => decide_eq_false (by omega))
/-- the next ACT and the LABEL -/
theorem gq1 (h : DPI c0 u0 M a0 na X B k c u) (hx : x < na) (ha0 : a0 + na ≤ 1024) (hM : M < 96) (hna : na ≤ 40) (hE : E ≤ 8) (h13 : u.1 174 13 = nI 0) (g : u0.1 216 (40 * M + x) = nM ∨ ∃ t, t < na ∧ u0.1 216 (40 * M + x) = nI t) (h124 : c0.1 124 (a0 + x) = u0.1 216 (40 * M + x)) (h130 : ∀ t, t < na → c0.1 130 (a0 + t) = u0.1 213 (40 * M + t)) (ho : op ≤ 30) (h211 : u0.1 211 (40 * M + x) = nI op) (h167 : d_167 n (nI (a0 + x)) c = some (if op ≠ 21 ∧ op ≠ 27 then nI 1 else nI 0)) (hl : op ≠ 21 ∧ op ≠ 27 → x + 1 < na) :
    (∃ b2 c2 v2, d8C n (nI a0) (nI x) (nI (a0 + x)) (nI E) c = some (.inl (lN b2, c2)) ∧ d3R n (nI (40 * M)) (nI na) (nI x) (nI (40 * M + x)) (nI E) u = some (.inl v2) ∧ b2 < 2 ^ 40 ∧ DPI c0 u0 M a0 na X (B ||| b2) k c2 v2 ∧ (∀ l, u.1 230 l ≠ nM → v2.1 230 l = u.1 230 l) ∧ (op ≠ 21 ∧ op ≠ 27 → v2.1 230 (40 * M + (x + 1)) = nI E) ∧ (∀ t, u0.1 216 (40 * M + x) = nI t → t < na → v2.1 230 (40 * M + t) = nI E)) ∨
    (∃ z q, d8C n (nI a0) (nI x) (nI (a0 + x)) (nI E) c = some (.inr z) ∧ d3R n (nI (40 * M)) (nI na) (nI x) (nI (40 * M + x)) (nI E) u = some (.inl q) ∧ FLR c u z q) := by
  have hib : ib (nI (40 * M + x)) 3840 := ib_n (by omega) (by decide)
  have eb : ix (nI (40 * M + x)) = 40 * M + x := ix_n (by omega)
  have kC : ∀ {w : cS}, sx (qDc a0 na) c0 w → w.1 124 (a0 + x) = u0.1 216 (40 * M + x) ∧ ∀ t, t < na → w.1 130 (a0 + t) = u0.1 213 (40 * M + t) := fun {w} z => ⟨by rw [z.1 _ _ (decide_eq_false (by omega))]; exact h124, fun t ht => by rw [z.1 _ _ (decide_eq_false (by omega))]; exact h130 t ht⟩
  have kU : ∀ {w : cS}, sx (qDu M) u0 w → w.1 216 (40 * M + x) = u0.1 216 (40 * M + x) ∧ (∀ t, w.1 213 (40 * M + t) = u0.1 213 (40 * M + t)) ∧ w.1 174 13 = u0.1 174 13 ∧ w.1 211 (40 * M + x) = nI op := fun {w} z => ⟨z.1 _ _ (decide_eq_false (by omega)), fun t => z.1 _ _ (decide_eq_false (by omega)), z.1 _ _ (decide_eq_false (by omega)), by rw [z.1 _ _ (decide_eq_false (by omega))]; exact h211⟩
  have f13 : u0.1 174 13 = nI 0 := by
    rw [← (kU h.2.1).2.2.1]
    exact h13
  have u211 := (kU h.2.1).2.2.2
  have G2 : ∀ {b1 B1 : Nat} {w v : cS}, b1 < 2 ^ 40 → DPI c0 u0 M a0 na X B1 k w v → _ := fun {b1 B1 w v} hb hd => gq2 (n := n) (b1 := b1) (x := x) (E := E) hd hx ha0 hM hna hE (by rw [(kU hd.2.1).2.2.1]; exact f13) (by rw [(kU hd.2.1).1]; exact g) (by rw [(kC hd.1).1, (kU hd.2.1).1]) (fun t ht => by rw [(kC hd.1).2 t ht, (kU hd.2.1).2.1 t]) hb
  by_cases hg : op ≠ 21 ∧ op ≠ 27
  rotate_left
  · rw [if_neg hg] at h167
    have hC : ∀ {Q : (Int64 × cS) ⊕ cS → Prop}, wp (d9C n (nI a0) (nI (a0 + x)) (nI E) (lN 0, c)) Q → wp (d8C n (nI a0) (nI x) (nI (a0 + x)) (nI E) c) Q := fun {Q} y => by
      unfold d8C
      exact wpe h167 (wpj (wpt rfl y))
    have hR : ∀ {s : cS}, d4R n (nI (40 * M)) (nI (40 * M + x)) (nI E) u = some (.inl s) → d3R n (nI (40 * M)) (nI na) (nI x) (nI (40 * M + x)) (nI E) u = some (.inl s) := fun {s} y => by
      unfold d3R
      rw [eb, u211]
      refine eq_wp (wpt hib (wpj ?_))
      by_cases e1 : op = 21
      · exact wpt (by rw [e1]; rfl) (wp_of y rfl)
      · exact wpf (by simp (disch := first | omega | decide) only [↓neg1, nlit, rI, rL, rI2, rL1, nI_add, pk_mul, sbT, dvT, nmd, ixT, ↓ibT, ltT, ltF, leT, leF, eqT, eqF, nM_ltT, nM_ltF, nM_leT, nM_leF, nM_eqF, nM_eqF', nbT0, nbT1, oI_s, oI_n, natF, natT, nltT, nltF, nleT, nleF, ↓reduceIte, lgc, not_true_eq_false, not_false_eq_true, or_false, false_or, or_true, true_or, and_true, true_and, and_false, false_and, ne_eq, eq_self, or_self, and_self]) (wpt hib (wpt (by rw [show op = 27 by omega]; rfl) (wp_of y rfl)))
    rcases G2 (b1 := 0) (by decide) h with ⟨b2, c2, v2, p1, p2, p3, p4, p5, p6⟩ | ⟨z, q, p1, p2, p3⟩
    · refine Or.inl ⟨b2, c2, v2, eq_wp (hC (wp_of p1 ?_)), hR p2, p3, p4, p5, fun z => absurd z hg, fun t y1 y2 => p6 t (by rw [(kU h.2.1).1]; exact y1) y2⟩
      rw [Nat.zero_or]
    · exact Or.inr ⟨z, q, eq_wp (hC (wp_of p1 rfl)), hR p2, p3⟩
  rw [if_pos hg] at h167
  have hx1 := hl hg
  have e1 : nI x + 1 = nI (x + 1) := nI_1 x
  have e2 : nI (40 * M) + nI x + 1 = nI (40 * M + (x + 1)) := by rw [nI_add, nI_1]; rfl
  have hC : ∀ {r : (Int64 × cS) ⊕ cS} {Q : (Int64 × cS) ⊕ cS → Prop}, d_291 n (nI a0) (nI (x + 1)) (nI E) c = some r → wp ((Sum.elim (fun r24 : Int64 × cS =>
        d9C n (nI a0) (nI (a0 + x)) (nI E) (r24.1, r24.2))
        (fun z25 : cS => some (.inr z25)) r : Option ((Int64 × cS) ⊕ cS))) Q → wp (d8C n (nI a0) (nI x) (nI (a0 + x)) (nI E) c) Q := fun {r Q} y1 y2 => by
    unfold d8C
    rw [e1]
    exact wpe h167 (wpj (wpf (by decide) (wpe y1 y2)))
  have hR : ∀ {s s' : cS}, d_420 n (nI (40 * M + (x + 1))) (nI E) u = some s → d4R n (nI (40 * M)) (nI (40 * M + x)) (nI E) s = some (.inl s') → d3R n (nI (40 * M)) (nI na) (nI x) (nI (40 * M + x)) (nI E) u = some (.inl s') := fun {s s'} y1 y2 => by
    unfold d3R
    rw [eb, u211, e2, e1]
    exact eq_wp (wpt hib (wpj (wpf (by simp (disch := first | omega | decide) only [↓neg1, nlit, rI, rL, rI2, rL1, nI_add, pk_mul, sbT, dvT, nmd, ixT, ↓ibT, ltT, ltF, leT, leF, eqT, eqF, nM_ltT, nM_ltF, nM_leT, nM_leF, nM_eqF, nM_eqF', nbT0, nbT1, oI_s, oI_n, natF, natT, nltT, nltF, nleT, nleF, ↓reduceIte, lgc, not_true_eq_false, not_false_eq_true, or_false, false_or, or_true, true_or, and_true, true_and, and_false, false_and, ne_eq, eq_self, or_self, and_self]) (wpt hib (wpf (by simp (disch := first | omega | decide) only [↓neg1, nlit, rI, rL, rI2, rL1, nI_add, pk_mul, sbT, dvT, nmd, ixT, ↓ibT, ltT, ltF, leT, leF, eqT, eqF, nM_ltT, nM_ltF, nM_leT, nM_leF, nM_eqF, nM_eqF', nbT0, nbT1, oI_s, oI_n, natF, natT, nltT, nltF, nleT, nleF, ↓reduceIte, lgc, not_true_eq_false, not_false_eq_true, or_false, false_or, or_true, true_or, and_true, true_and, and_false, false_and, ne_eq, eq_self, or_self, and_self]) (wpf (by simp (disch := first | omega | decide) only [↓neg1, nlit, rI, rL, rI2, rL1, nI_add, pk_mul, sbT, dvT, nmd, ixT, ↓ibT, ltT, ltF, leT, leF, eqT, eqF, nM_ltT, nM_ltF, nM_leT, nM_leF, nM_eqF, nM_eqF', nbT0, nbT1, oI_s, oI_n, natF, natT, nltT, nltF, nleT, nleF, ↓reduceIte, lgc, not_true_eq_false, not_false_eq_true, or_false, false_or, or_true, true_or, and_true, true_and, and_false, false_and, ne_eq, eq_self, or_self, and_self]) (wpe y1 (wp_of y2 rfl))))))))
  have fin : ∀ {bit : Nat} {c' u' : cS}, bit < 2 ^ 40 → CMR M a0 (x + 1) E c u bit c' u' → sx QRc c c' → sx QRu u u' → d_291 n (nI a0) (nI (x + 1)) (nI E) c = some (.inl (lN bit, c')) → d_420 n (nI (40 * M + (x + 1))) (nI E) u = some u' → (∃ b2 c2 v2, d8C n (nI a0) (nI x) (nI (a0 + x)) (nI E) c = some (.inl (lN b2, c2)) ∧ d3R n (nI (40 * M)) (nI na) (nI x) (nI (40 * M + x)) (nI E) u = some (.inl v2) ∧ b2 < 2 ^ 40 ∧ DPI c0 u0 M a0 na X (B ||| b2) k c2 v2 ∧ (∀ l, u.1 230 l ≠ nM → v2.1 230 l = u.1 230 l) ∧ (op ≠ 21 ∧ op ≠ 27 → v2.1 230 (40 * M + (x + 1)) = nI E) ∧ (∀ t, u0.1 216 (40 * M + x) = nI t → t < na → v2.1 230 (40 * M + t) = nI E)) ∨
    (∃ z q, d8C n (nI a0) (nI x) (nI (a0 + x)) (nI E) c = some (.inr z) ∧ d3R n (nI (40 * M)) (nI na) (nI x) (nI (40 * M + x)) (nI E) u = some (.inl q) ∧ FLR c u z q) := fun {bit c' u'} hbt hr sc su y1 y2 => by
    obtain ⟨k1, k2, k3⟩ := CM_keep h hx1 hna hE hr
    rcases G2 (b1 := bit) hbt k1 with ⟨b2, c2, v2, p1, p2, p3, p4, p5, p6⟩ | ⟨z, q, p1, p2, p3⟩
    · rw [Nat.or_assoc] at p4
      refine Or.inl ⟨bit ||| b2, c2, v2, eq_wp (hC y1 (wpSl (wp_of p1 rfl))), hR y2 p2, Nat.or_lt_two_pow hbt p3, p4, fun l z => ?_, fun _ => ?_, fun t z1 z2 => p6 t (by rw [(kU k1.2.1).1]; exact z1) z2⟩
      · rw [p5 l (by rw [k3 l z]; exact z), k3 l z]
      · rw [p5 _ (by rw [k2]; exact nI_nM hE)]
        exact k2
    · exact Or.inr ⟨z, q, eq_wp (hC y1 (wpSl (wp_of p1 rfl))), hR y2 p2, FLR_tr p3 sc su⟩
  rcases cm_go (n := n) (e := E) hx1 ha0 hM hna hE h13 (h.2.2.1 _ hx1).1 (h.2.2.1 _ hx1).2 (by rw [(kC h.1).2 _ hx1, (kU h.2.1).2.1]) with ⟨r1, r2, r3⟩ | ⟨r1, r2, r3⟩ | ⟨z, r1, r2, r3⟩
  · exact fin (Nat.pow_lt_pow_right (by decide) (by omega)) (Or.inl ⟨r1, rfl, rfl, rfl⟩) (sx_pI sx_rfl (decide_eq_true (by omega))) (sx_pI sx_rfl (decide_eq_true (by omega))) r2 r3
  · exact fin (by decide) (Or.inr ⟨r1, rfl, rfl, rfl⟩) sx_rfl sx_rfl r2 r3
  · have q216 : (flt u 8 (u.1 213 (40 * M + (x + 1)))).1 216 (40 * M + x) = nM ∨ ∃ t, t < 40 ∧ (flt u 8 (u.1 213 (40 * M + (x + 1)))).1 216 (40 * M + x) = nI t := by
      rw [flt_at.2.2.2 216 (40 * M + x) (by omega), (kU h.2.1).1]
      rcases g with y | ⟨t, y1, y2⟩
      · exact Or.inl y
      · exact Or.inr ⟨t, by omega, y2⟩
    obtain ⟨q', s1, s2⟩ := d4R_w (n := n) (y := nI E) (x := x) hM (by omega) r3.2.2.1 q216
    exact Or.inr ⟨z, q', eq_wp (hC r1 (wpSr rfl)), hR r2 s1, FLR_230 r3 s2⟩
end DPL
