/-! READING a KIND: where it may stand -/
section SOR
variable {n i j N k p m : Nat} {c d u w v c' u' : cS} {K P : Nat → Nat} {V : Nat → Int64} {nm : Int64}
def srR (n : Nat) (v4 : Int32) (s39 : cS) : Option (cS ⊕ cS) :=
          if (s39.1 174 13) = 0 then
            if ib (s39.1 174 67) 4001 then
            if (s39.1 178 (ix (s39.1 174 67))) = 4 then
              if ib (s39.1 174 67) 4001 then
              Option.bind (d_399 n (((s39.2 180 (ix (s39.1 174 67))) : Int64).toInt32)) (fun v42 =>
              if v42 ≤ 0 then
                some (.inr s39)
              else
                if ib v4 12 then
                if ib (s39.1 174 67) 4001 then
                Option.bind (d_399 n (((s39.2 180 (ix (s39.1 174 67))) : Int64).toInt32)) (fun v45 =>
                if ib v4 12 then
                lt (pI s39 195 (ix v4) ((s39.1 195 (ix v4)) ||| v45)) (fun c47 =>
                lt (pI c47 174 67 ((c47.1 174 67) + 1)) (fun c49 =>
                some (.inl c49)))
                else none)
                else none
                else none)
              else none
            else
              some (.inr s39)
            else none
          else
            some (.inr s39)
def srC (n k1 : Nat) (s4 : Int32 × cS) : Option ((Int32 × cS) ⊕ cS) :=
    if 4000 ≤ s4.1 then
      some (.inr s4.2)
    else
      Option.bind (d_43 n s4.2) (fun v5 =>
      if v5 < 202 then
        some (.inr s4.2)
      else
        Option.bind (d_43 n s4.2) (fun v6 =>
        if 205 < v6 then
          some (.inr s4.2)
        else
          Option.bind (d_43 n s4.2) (fun v7 =>
          lt (pI s4.2 (kA k1) 6 ((s4.2.1 (kA k1) 6) ||| (1 <<< ((v7 - 202) &&& 31)))) (fun c8 =>
          lt (pI c8 145 7 ((c8.1 145 7) + 1)) (fun c10 =>
          lt (s4.1 + 1 : Int32) (fun v13 =>
          some (.inl (v13, c10))))))))
theorem d266_s : d_266 n k c = lt (pI c (kA k) 6 0) (fun c1 =>
  Option.bind (whl (srC n k) n (0, c1))
  (fun x15 : cS =>
    jn (fun p16 : cS =>
      some (.inl p16))
    (fun j85 =>
    if (x15.1 (kA k) 6) = 0 then
      Option.bind (d_42 n x15) (fun v17 =>
      Option.bind (d_41 n 2 v17 x15) (Sum.elim (fun r18 =>
      j85 r18)
      (fun z19 => some (.inr z19))))
    else
      j85 x15))) := rfl
def srB (k : Nat) : Nat := 2 ^ (k - 202)
theorem srb_c : ∀ b : Fin 4, (1 : Int32) <<< ((nI (202 + b.1) - 202) &&& 31) = nI (2 ^ b.1) := by decide
theorem srb_o : ∀ (m : Fin 16) (b : Fin 4), nI m.1 ||| nI (2 ^ b.1) = nI (m.1 ||| 2 ^ b.1) ∧ (m.1 ||| 2 ^ b.1) < 16 ∧ (m.1 ||| 2 ^ b.1) ≠ 0 := by decide
theorem e399_y {b : Nat} (hb : b < 4) : d_399 n (nI (2 + b)) = some (nI (2 ^ b)) := by
  match b, hb with
  | 0, _ => exact eq_wp (wpj (wpt rfl rfl))
  | 1, _ => exact eq_wp (wpj (wpf (show ¬ nI 3 = 2 by decide) (wpt rfl rfl)))
  | 2, _ => exact eq_wp (wpj (wpf (show ¬ nI 4 = 2 by decide) (wpf (show ¬ nI 4 = 3 by decide) (wpt rfl rfl))))
  | 3, _ => exact eq_wp (wpj (wpf (show ¬ nI 5 = 2 by decide) (wpf (show ¬ nI 5 = 3 by decide) (wpf (show ¬ nI 5 = 4 by decide) (wpt rfl rfl)))))
theorem e399_n {b : Nat} (hb : b < 31) (h : b < 2 ∨ 5 < b) : d_399 n (nI b) = some 0 := by
  have hne : ∀ x, x < 31 → b ≠ x → ¬ nI b = nI x := fun x hx z h => z ((nI_eq (by omega) (by omega)).mp h)
  exact eq_wp (wpj (wpf (show ¬ nI b = nI 2 from hne 2 (by omega) (by omega)) (wpf (show ¬ nI b = nI 3 from hne 3 (by omega) (by omega)) (wpf (show ¬ nI b = nI 4 from hne 4 (by omega) (by omega)) (wpf (show ¬ nI b = nI 5 from hne 5 (by omega) (by omega)) rfl)))))
def qSRc (k A l : Nat) : Bool := decide ((A = 145 ∧ l = 7) ∨ (A = kA k ∧ l = 6))
def qSRu (k A l : Nat) : Bool := decide ((A = 174 ∧ l = 67) ∨ (A = 195 ∧ l = k))
def SRI (K P : Nat → Nat) (V : Nat → Int64) (N : Nat) (c u : cS) (k i0 m : Nat) (s : Int32 × cS) (t : cS) : Prop := ∃ i b, s.1 = nI (i - i0) ∧ i0 ≤ i ∧ m = N - i ∧ PSI K P V N s.2 t i ∧ b < 16 ∧ s.2.1 (kA k) 6 = nI b ∧ t.1 195 k = nI b ∧ sx (qSRc k) c s.2 ∧ sx (qSRu k) u t
def SRX (K P : Nat → Nat) (V : Nat → Int64) (N : Nat) (c u : cS) (k i0 : Nat) (d q : cS) : Prop := ∃ i b, i0 ≤ i ∧ PSI K P V N d q i ∧ b < 16 ∧ d.1 (kA k) 6 = nI b ∧ q.1 195 k = nI b ∧ sx (qSRc k) c d ∧ sx (qSRu k) u q
theorem sor_lp (hn : 10000 ≤ n) (hk : k < 12) (h : PSI K P V N c u i) (h1 : c.1 (kA k) 6 = nI 0) (h2 : u.1 195 k = nI 0) : jw (whl (srC n k) n (0, c)) (whl (srR n (nI k)) n u) (SRX K P V N c u k i) := by
  have hN := h.1.1
  refine jw_whl (SRI K P V N c u k i) ?_ n n (N - i) _ _ (by omega) (by omega) ⟨i, 0, by rw [Nat.sub_self]; rfl, Nat.le_refl _, rfl, h, by omega, h1, h2, sx_rfl, sx_rfl⟩
  rintro m ⟨s1, w⟩ v ⟨i', b, g1, g2, g3, g4, g5, g6, g7, g8, g9⟩
  dsimp only at g1 g4 g6 g8
  subst g1
  have hkK := PSI_K g4
  have hlN := g4.2.1
  have hik : ib (nI k) 12 := ib_n hk (by decide)
  have ek : ix (nI k) = k := ix_n (by omega)
  have ei : ix (nI i') = i' := ix_n (by omega)
  have hii : ib (nI i') 4001 := ib_n (by omega) (by decide)
  have h43 := e43 (n := n) g4
  have out : srC n k (nI (i' - i), w) = some (.inr w) → srR n (nI k) v = some (.inr v) → jw (srC n k (nI (i' - i), w)) (srR n (nI k) v) (fun a b => (∃ s' t' m', a = .inl s' ∧ b = .inl t' ∧ m' < m ∧ SRI K P V N c u k i m' s' t') ∨ (∃ r q, a = .inr r ∧ b = .inr q ∧ SRX K P V N c u k i r q)) := fun y1 y2 => jw_of y1 y2 (Or.inr ⟨w, v, rfl, rfl, i', b, g2, g4, g5, g6, g7, g8, g9⟩)
  have ht := (g4.1.2.2.1 i' g4.2.1).2.2.2.2
  by_cases e : 202 ≤ K i' ∧ K i' ≤ 205
  · have hlt := PSI_lt g4 (by omega)
    obtain ⟨q, hq, hK⟩ : ∃ q, q < 4 ∧ K i' = 202 + q := ⟨K i' - 202, by omega, by omega⟩
    have hw : v.1 178 i' = nI 4 ∧ v.2 180 i' = (nI (2 + q)).toInt64 := by
      unfold TKO at ht
      rcases ht with ⟨t1, -⟩ | ⟨t1, -⟩ | ⟨t1, -⟩ | ⟨t1, -⟩ | ⟨t1, t3, -⟩ | ⟨t1, t3, t2, t4⟩
      · omega
      · omega
      · omega
      · omega
      · omega
      · rw [show K i' - 200 = 2 + q by omega] at t4
        exact ⟨t2, t4⟩
    have h399 := e399_y (n := n) hq
    have hb := srb_o ⟨b, g5⟩ ⟨q, hq⟩
    refine jw_of (a := .inl (nI (i' + 1 - i), atC (pI w (kA k) 6 (nI (b ||| 2 ^ q))) (i' + 1))) (b := .inl (atR (pI v 195 k (nI (b ||| 2 ^ q))) (i' + 1))) ?_ ?_ (Or.inl ⟨_, _, N - (i' + 1), rfl, rfl, by omega, i' + 1, b ||| 2 ^ q, rfl, by omega, rfl, ?_, hb.2.1, ?_, ?_, sx_pI (sx_pI g8 (decide_eq_true (by omega))) (decide_eq_true (by omega)), sx_pI (sx_pI g9 (decide_eq_true (by omega))) (decide_eq_true (by omega))⟩)
    · unfold srC
      dsimp only
      refine eq_wp (wpf (by simp (disch := first | omega | decide) only [↓neg1, nlit, rI, rL, rI2, rL1, nI_add, pk_mul, sbT, dvT, nmd, ixT, ↓ibT, ltT, ltF, leT, leF, eqT, eqF, nM_ltT, nM_ltF, nM_leT, nM_leF, nM_eqF, nM_eqF', nbT0, nbT1, oI_s, oI_n, natF, natT, nltT, nltF, nleT, nleF, ↓reduceIte, lgc, not_true_eq_false, not_false_eq_true, or_false, false_or, or_true, true_or, and_true, true_and, and_false, false_and, ne_eq, eq_self, or_self, and_self]) (wpe h43 (wpf (by simp (disch := first | omega | decide) only [↓neg1, nlit, rI, rL, rI2, rL1, nI_add, pk_mul, sbT, dvT, nmd, ixT, ↓ibT, ltT, ltF, leT, leF, eqT, eqF, nM_ltT, nM_ltF, nM_leT, nM_leF, nM_eqF, nM_eqF', nbT0, nbT1, oI_s, oI_n, natF, natT, nltT, nltF, nleT, nleF, ↓reduceIte, lgc, not_true_eq_false, not_false_eq_true, or_false, false_or, or_true, true_or, and_true, true_and, and_false, false_and, ne_eq, eq_self, or_self, and_self]) (wpe h43 (wpf (by simp (disch := first | omega | decide) only [↓neg1, nlit, rI, rL, rI2, rL1, nI_add, pk_mul, sbT, dvT, nmd, ixT, ↓ibT, ltT, ltF, leT, leF, eqT, eqF, nM_ltT, nM_ltF, nM_leT, nM_leF, nM_eqF, nM_eqF', nbT0, nbT1, oI_s, oI_n, natF, natT, nltT, nltF, nleT, nleF, ↓reduceIte, lgc, not_true_eq_false, not_false_eq_true, or_false, false_or, or_true, true_or, and_true, true_and, and_false, false_and, ne_eq, eq_self, or_self, and_self]) (wpe h43 ?_))))))
      rw [g6, hK, srb_c ⟨q, hq⟩, hb.1]
      refine wpl ?_
      rw [show (pI w (kA k) 6 (nI (b ||| 2 ^ q))).1 145 7 = nI i' by rw [rI, if_neg (by unfold kA; omega)]; exact g4.2.2.1, nI_1]
      refine wpl ?_
      rw [nI_1, show i' - i + 1 = i' + 1 - i by omega]
      exact wpl rfl
    · unfold srR
      rw [g4.2.2.2.1, ei, hw.1, hw.2, ek, g7, Int32.toInt32_toInt64]
      refine eq_wp (wpt g4.2.2.2.2 (wpt hii (wpt rfl (wpt hii (wpe h399 (wpf ?_ (wpt hik (wpt hii (wpe h399 (wpt hik ?_)))))))))) 
      · exact (show ∀ q : Fin 4, ¬ nI (2 ^ q.1) ≤ 0 by decide) ⟨q, hq⟩
      · rw [hb.1]
        refine wpl ?_
        rw [show (pI v 195 k (nI (b ||| 2 ^ q))).1 174 67 = nI i' by rw [rI, if_neg (by omega)]; exact g4.2.2.2.1, nI_1]
        exact wpl rfl
    · exact PSI_s (PSI_sx g4 (sx_pI (r := fun A _ => decide (A = kA k)) sx_rfl (decide_eq_true rfl)) (sx_pI (r := fun A _ => decide (A = 195)) sx_rfl rfl) (fun A l z => decide_eq_false (by unfold kA; omega)) (fun A l z => decide_eq_false (by omega))) (by omega)
    · show (atC (pI w (kA k) 6 (nI (b ||| 2 ^ q))) (i' + 1)).1 (kA k) 6 = _
      unfold atC
      rw [rI, if_neg (by unfold kA; omega), rI, if_pos ⟨rfl, rfl⟩]
    · unfold atR
      rw [rI, if_neg (by omega), rI, if_pos ⟨rfl, rfl⟩]
  · refine out ?_ ?_
    · unfold srC
      dsimp only
      by_cases e2 : K i' < 202
      · by_cases e4 : (4000 : Int32) ≤ nI (i' - i)
        · exact eq_wp (wpt e4 rfl)
        · exact eq_wp (wpf e4 (wpe h43 (wpt (by simp (disch := first | omega | decide) only [↓neg1, nlit, rI, rL, rI2, rL1, nI_add, pk_mul, sbT, dvT, nmd, ixT, ↓ibT, ltT, ltF, leT, leF, eqT, eqF, nM_ltT, nM_ltF, nM_leT, nM_leF, nM_eqF, nM_eqF', nbT0, nbT1, oI_s, oI_n, natF, natT, nltT, nltF, nleT, nleF, ↓reduceIte, lgc, not_true_eq_false, not_false_eq_true, or_false, false_or, or_true, true_or, and_true, true_and, and_false, false_and, ne_eq, eq_self, or_self, and_self]) rfl)))
      · by_cases e4 : (4000 : Int32) ≤ nI (i' - i)
        · exact eq_wp (wpt e4 rfl)
        · exact eq_wp (wpf e4 (wpe h43 (wpf (by simp (disch := first | omega | decide) only [↓neg1, nlit, rI, rL, rI2, rL1, nI_add, pk_mul, sbT, dvT, nmd, ixT, ↓ibT, ltT, ltF, leT, leF, eqT, eqF, nM_ltT, nM_ltF, nM_leT, nM_leF, nM_eqF, nM_eqF', nbT0, nbT1, oI_s, oI_n, natF, natT, nltT, nltF, nleT, nleF, ↓reduceIte, lgc, not_true_eq_false, not_false_eq_true, or_false, false_or, or_true, true_or, and_true, true_and, and_false, false_and, ne_eq, eq_self, or_self, and_self]) (wpe h43 (wpt (by simp (disch := first | omega | decide) only [↓neg1, nlit, rI, rL, rI2, rL1, nI_add, pk_mul, sbT, dvT, nmd, ixT, ↓ibT, ltT, ltF, leT, leF, eqT, eqF, nM_ltT, nM_ltF, nM_leT, nM_leF, nM_eqF, nM_eqF', nbT0, nbT1, oI_s, oI_n, natF, natT, nltT, nltF, nleT, nleF, ↓reduceIte, lgc, not_true_eq_false, not_false_eq_true, or_false, false_or, or_true, true_or, and_true, true_and, and_false, false_and, ne_eq, eq_self, or_self, and_self]) rfl)))))
    · unfold srR
      rw [g4.2.2.2.1, ei]
      have hno : ∀ {x : Int32}, v.1 178 i' = x → ¬ x = 4 → wp (if (v.1 174 13) = 0 then
            if ib (nI i') 4001 then
            if (v.1 178 i') = 4 then
              if ib (nI i') 4001 then
              Option.bind (d_399 n (((v.2 180 i') : Int64).toInt32)) (fun v42 =>
              if v42 ≤ 0 then
                some (.inr v)
              else
                if ib (nI k) 12 then
                if ib (nI i') 4001 then
                Option.bind (d_399 n (((v.2 180 i') : Int64).toInt32)) (fun v45 =>
                if ib (nI k) 12 then
                lt (pI v 195 (ix (nI k)) ((v.1 195 (ix (nI k))) ||| v45)) (fun c47 =>
                lt (pI c47 174 67 ((c47.1 174 67) + 1)) (fun c49 =>
                some (.inl c49)))
                else none)
                else none
                else none)
              else none
            else
              some (.inr v)
            else none
          else
            some (.inr v) : Option (cS ⊕ cS)) (fun r => r = .inr v) := fun {x} y1 y2 => wpt g4.2.2.2.2 (wpt hii (wpf (by rw [y1]; exact y2) rfl))
      unfold TKO at ht
      rcases ht with ⟨t1, -, t2⟩ | ⟨t1, t2, -⟩ | ⟨t1, t2, -⟩ | ⟨t1, t2, -⟩ | ⟨t1, t3, t2, -⟩ | ⟨t1, t3, t2, t4⟩
      · exact eq_wp (hno t2 (by decide))
      · exact eq_wp (hno t2 (by decide))
      · exact eq_wp (hno t2 (by decide))
      · exact eq_wp (hno t2 (by decide))
      · exact eq_wp (hno t2 (by decide))
      · obtain ⟨x, hx⟩ : ∃ x, x = K i' - 200 := ⟨_, rfl⟩
        rw [← hx] at t4
        have h399 := e399_n (n := n) (b := x) (by omega) (by omega)
        rw [t2, t4, Int32.toInt32_toInt64]
        exact eq_wp (wpt g4.2.2.2.2 (wpt hii (wpt rfl (wpt hii (wpe h399 (wpt (show (0 : Int32) ≤ 0 by decide) rfl))))))
end SOR
