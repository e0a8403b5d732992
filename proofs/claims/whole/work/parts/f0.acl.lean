/-! READING the ACTS of a METHOD -/
section ACL
variable {n i j N k M a0 na L L0 U U0 W0 oc kc mc : Nat} {c d u w v q c0 u0 : cS} {K P : Nat → Nat} {V : Nat → Int64}
/-- how many wishes the first ACTS of a METHOD may have -/
def wgI (u : cS) (M : Nat) : Nat → Nat
  | 0 => 0
  | l + 1 => wgI u M l + (if opn u (40 * M + l) = 20 then 4 else 1)
theorem wgI_cg (h : ∀ l, l < na → v.1 211 (40 * M + l) = u.1 211 (40 * M + l)) : ∀ l, l ≤ na → wgI v M l = wgI u M l
  | 0, _ => rfl
  | l + 1, hl => by
    unfold wgI
    rw [wgI_cg h l (by omega)]
    unfold opn
    rw [h l (by omega)]
/-- LABELS stand once -/
def LBU (v : cS) (M na : Nat) : Prop := ∀ l, l < na → v.2 212 (40 * M + l) = 0 ∨ lbX v M na (v.2 212 (40 * M + l)) = some l
theorem LBU_s (h : LBU v M na) (h1 : ∀ l, l < na → q.2 212 (40 * M + l) = v.2 212 (40 * M + l)) (h2 : q.2 212 (40 * M + na) = 0 ∨ lbX v M na (q.2 212 (40 * M + na)) = none) : LBU q M (na + 1) := by
  intro l hl
  by_cases e : l = na
  · rw [e]
    rcases h2 with z | z
    · exact Or.inl z
    · refine Or.inr (ff_new (fun i hi => ?_) (decide_eq_true rfl))
      rw [h1 i hi]
      exact ff_none z i hi
  · rw [h1 l (by omega)]
    rcases h l (by omega) with z | z
    · exact Or.inl z
    · exact Or.inr (ff_add z (fun i hi => by rw [h1 i hi]))
def alC (n : Nat) (s18 : Int32 × cS) : Option ((Int32 × cS) ⊕ (cS ⊕ (cS ⊕ cS))) :=
                  if 40 < s18.1 then
                    some (.inr (.inl s18.2))
                  else
                    jn (fun p19 : Unit =>
                      Option.bind (d_279 n s18.2) (Sum.elim (fun r20 =>
                      lt (s18.1 + 1 : Int32) (fun v23 =>
                      some (.inl (v23, r20))))
                      (fun z21 => some (.inr (.inr (.inr z21))))))
                    (fun j94 =>
                    if s18.1 = 0 then
                      j94 ()
                    else
                      Option.bind (d_43 n s18.2) (fun v25 =>
                      if v25 = 125 then
                        some (.inr (.inl s18.2))
                      else
                        j94 ()))
/-- a METHOD as far as its ACTS are read -/
def MAB (K P : Nat → Nat) (V : Nat → Int64) (N : Nat) (c0 u0 : cS) (k M a0 L0 U0 W0 oc kc mc i na : Nat) (d v : cS) : Prop := ∃ L U, L0 ≤ L ∧ LBU v M na ∧ PSI K P V N d v i ∧ 2 * U ≤ i ∧ U0 ≤ U ∧ 4 * (a0 + na) ≤ P i ∧ 2 * (W0 + wgI v M na) ≤ P i ∧ MAS K P V N d v k M a0 na L oc kc mc U ∧ sx (qAc M a0 U0) c0 d ∧ sx (qAu M) u0 v
def ALX (K P : Nat → Nat) (V : Nat → Int64) (N : Nat) (c0 u0 : cS) (k M a0 L0 U0 W0 oc kc mc i0 : Nat) (r : cS ⊕ (cS ⊕ cS)) (q : cS) : Prop := (∃ d v i na, r = .inl d ∧ q = atR v (i + 1) ∧ i0 ≤ i ∧ K i = 125 ∧ 1 ≤ na ∧ MAB K P V N c0 u0 k M a0 L0 U0 W0 oc kc mc i na d v) ∨ (∃ z, r = .inr (.inr z) ∧ FLR c0 u0 z q)
theorem act_lp (hn : 10000 ≤ n) (hM : M < 96) (h : MAB K P V N c0 u0 k M a0 L0 U0 W0 oc kc mc i 0 w v) : jw (whl (alC n) n (0, w)) (whl (aLR n (nI M)) n (1, v)) (ALX K P V N c0 u0 k M a0 L0 U0 W0 oc kc mc i) := by
  obtain ⟨-, -, -, -, hP0, -⟩ := id h
  have hN := hP0.1.1
  refine jw_whf (fun m (s : Int32 × cS) (t : Int32 × cS) => ∃ i' na vv, s.1 = nI na ∧ i ≤ i' ∧ m = N - i' ∧ MAB K P V N c0 u0 k M a0 L0 U0 W0 oc kc mc i' na s.2 vv ∧ ((t = (1, vv) ∧ (na = 0 ∨ ¬ K i' = 125)) ∨ (t = (0, atR vv (i' + 1)) ∧ 1 ≤ na ∧ K i' = 125))) ?_ n n (N - i) _ _ (by omega) (by omega) ⟨i, 0, v, rfl, Nat.le_refl _, rfl, h, Or.inl ⟨rfl, Or.inl rfl⟩⟩
  rintro m ⟨s1, w'⟩ t ⟨i', na, vv, g1, g2, g3, g4, g5⟩
  dsimp only at g1 g4
  subst g1
  obtain ⟨L, U, p0, pb, p1, p2, p3, p4, p5, p6, p7, p8⟩ := id g4
  have hkK := PSI_K p1
  have hna := p6.2.1.1
  have h43 := e43 (n := n) p1
  rcases g5 with ⟨rfl, g5⟩ | ⟨rfl, g5, g6⟩
  rotate_left
  · refine jw_of (a := .inr (.inl w')) (b := .inr (atR vv (i' + 1))) ?_ rfl (Or.inr (Or.inl ⟨_, _, rfl, rfl, Or.inl ⟨w', vv, i', na, rfl, rfl, g2, g6, g5, g4⟩⟩))
    unfold alC
    dsimp only
    refine eq_wp (wpf (by simp (disch := first | omega | decide) only [↓neg1, nlit, rI, rL, rI2, rL1, nI_add, pk_mul, sbT, dvT, nmd, ixT, ↓ibT, ltT, ltF, leT, leF, eqT, eqF, nM_ltT, nM_ltF, nM_leT, nM_leF, nM_eqF, nM_eqF', nbT0, nbT1, oI_s, oI_n, natF, natT, nltT, nltF, nleT, nleF, ↓reduceIte, lgc, not_true_eq_false, not_false_eq_true, or_false, false_or, or_true, true_or, and_true, true_and, and_false, false_and, ne_eq, eq_self, or_self, and_self]) (wpj (wpf (fun z => by
      have := (nI_eq (by omega) (by decide)).mp (show _ = nI 0 from z)
      omega) (wpe h43 (wpt (by rw [g6]; rfl) rfl)))))
  have hC : ∀ {r : cS ⊕ cS} {Q : ((Int32 × cS) ⊕ (cS ⊕ (cS ⊕ cS))) → Prop}, d_279 n w' = some r → wp ((Sum.elim (fun r20 : cS =>
                      lt (nI na + 1 : Int32) (fun v23 =>
                      some (.inl (v23, r20))))
                      (fun z21 : cS => some (.inr (.inr (.inr z21)))) r : Option ((Int32 × cS) ⊕ (cS ⊕ (cS ⊕ cS))))) Q → wp (alC n (nI na, w')) Q := fun {r Q} h1 h2 => by
    unfold alC
    dsimp only
    refine wpf (by simp (disch := first | omega | decide) only [↓neg1, nlit, rI, rL, rI2, rL1, nI_add, pk_mul, sbT, dvT, nmd, ixT, ↓ibT, ltT, ltF, leT, leF, eqT, eqF, nM_ltT, nM_ltF, nM_leT, nM_leF, nM_eqF, nM_eqF', nbT0, nbT1, oI_s, oI_n, natF, natT, nltT, nltF, nleT, nleF, ↓reduceIte, lgc, not_true_eq_false, not_false_eq_true, or_false, false_or, or_true, true_or, and_true, true_and, and_false, false_and, ne_eq, eq_self, or_self, and_self]) (wpj ?_)
    by_cases e0 : na = 0
    · exact wpt (by rw [e0]; rfl) (wpe h1 h2)
    · refine wpf (fun z => e0 ((nI_eq (by omega) (by decide)).mp (show _ = nI 0 from z))) (wpe h43 (wpf (fun z => ?_) (wpe h1 h2)))
      have := (nI_eq (by omega) (by decide)).mp (show _ = nI 125 from z)
      omega
  have hR : ∀ {s : cS} {Q : ((Int32 × cS) ⊕ cS) → Prop}, d_408 n (nI M) vv = some s → wp (if (s.1 174 13) = 0 then
                      Option.bind (d_379 n 125 s) (fun r55 =>
                      if r55.1 = 0 then
                        some (.inl ((1 : Int32), r55.2))
                      else
                        some (.inl ((0 : Int32), r55.2)))
                    else
                      some (.inl ((0 : Int32), s)) : Option ((Int32 × cS) ⊕ cS)) Q → wp (aLR n (nI M) (1, vv)) Q := fun {s Q} h1 h2 => by
    unfold aLR
    exact wpf (show ¬ (1 : Int32) = 0 by decide) (wpt p1.2.2.2.2 (wpe h1 (wpj (wpj h2))))
  have hP4 := hkK.2.1
  obtain ⟨r, s, y1, y2, y3⟩ := jw_ex (act_go (n := n) hn hM (by omega) p1 p2 p3 p6 p7 p8)
  rcases y3 with ⟨d, j', U', L', rfl, z1, z2, z3, z4, z5, z6, z7, z8, z8b, z9, z10⟩ | ⟨z, rfl, hf⟩
  rotate_left
  · exact hC y1 (wpSr (wp_of rfl (hR y2 (wpf (ne13 hf.2.2.1) (wp_of rfl (Or.inr (Or.inr ⟨_, _, s, rfl, rfl, rfl, Or.inr ⟨z, rfl, hf⟩⟩)))))))
  have hjN := z4.2.1
  have hw : wgI s M (na + 1) = wgI vv M na + (if opn s (40 * M + na) = 20 then 4 else 1) := by
    show wgI s M na + _ = _
    rw [wgI_cg (fun l hl => (z8 l hl).1) na (Nat.le_refl _)]
  have hB : MAB K P V N c0 u0 k M a0 L0 U0 W0 oc kc mc j' (na + 1) d s := ⟨L', U', by omega, LBU_s pb (fun l hl => (z8 l hl).2) z8b, z4, by omega, by omega, by omega, by rw [hw]; omega, z5, z9, z10⟩
  have h379 := e379 (n := n) (b := 125) z4 (by decide) (by decide)
  refine hC y1 (wpSl (wpl ?_))
  dsimp only
  rw [nI_1]
  refine wp_of rfl (hR y2 (wpt z4.2.2.2.2 (wpe h379 ?_)))
  by_cases e : K j' = 125
  · rw [if_pos e]
    exact wpf (show ¬ (1 : Int32) = 0 by decide) (wp_of rfl (Or.inl ⟨_, _, N - j', rfl, rfl, by omega, j', na + 1, s, rfl, by omega, rfl, hB, Or.inr ⟨rfl, by omega, e⟩⟩))
  · rw [if_neg e]
    exact wpt rfl (wp_of rfl (Or.inl ⟨_, _, N - j', rfl, rfl, by omega, j', na + 1, s, rfl, by omega, rfl, hB, Or.inl ⟨rfl, Or.inr e⟩⟩))
end ACL
