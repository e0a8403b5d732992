/-! READING: the whole text -/
section RDG
variable {n i N U tot oc kc mc cc : Nat} {c d u v q w : cS} {K P : Nat → Nat} {V : Nat → Int64}
def zrL (n : Nat) (s12 : Int32 × cS) : Option ((Int32 × cS) ⊕ cS) :=
    if 1218 ≤ s12.1 then
      some (.inr s12.2)
    else
      if ib s12.1 1219 then
      lt (pI s12.2 222 (ix s12.1) 0) (fun c14 =>
      lt (s12.1 + 1 : Int32) (fun v17 =>
      some (.inl (v17, c14))))
      else none
def u0R (u : cS) : cS := pI (pI (pI (pI (pI u 174 67 0) 174 15 0) 174 24 0) 174 34 0) 174 37 0
theorem d104_s : d_104 n u = Option.bind (whl (zrL n) n (0, u0R u)) (fun x19 =>
    Option.bind (whl (lpR n 0 (d_386 n)) n x19) (fun x23 =>
    Option.bind (whl (lpR n 1 (d_400 n)) n x23) (fun x27 =>
    Option.bind (whl (lpR n 6 (d_402 n)) n x27) (clR n)))) := rfl
theorem d104_t : d_104 n u = Option.bind (whl (zrL n) n (0, u0R u)) (fun x19 => Option.bind (frR n x19) (clR n)) := by
  rw [d104_s]
  congr 1
  funext x19
  unfold frR
  rw [Option.bind_assoc]
  congr 1
  funext x23
  rw [Option.bind_assoc]
theorem zr_go (hn : 10000 ≤ n) : wp (whl (zrL n) n (0, v)) (fun q => (∀ r, r < 1218 → q.1 222 r = nI 0) ∧ sx (fun A _ => decide (A = 222)) v q) := by
  refine whl_cnt (fun k (s : Int32 × cS) => s.1 = nI k ∧ (∀ r, r < k → s.2.1 222 r = nI 0) ∧ sx (fun A _ => decide (A = 222)) v s.2) 1218 ?_ ?_ (by omega) ⟨rfl, fun r hr => absurd hr (Nat.not_lt_zero _), sx_rfl⟩
  · rintro k ⟨p, s⟩ hk ⟨g1, g2, g3⟩
    dsimp only at g1 g2 g3
    subst g1
    unfold zrL
    dsimp only
    rw [show ix (nI k) = k from ix_n (by omega)]
    refine wpf (by simp (disch := first | omega | decide) only [↓neg1, nlit, rI, rL, rI2, rL1, nI_add, pk_mul, sbT, dvT, nmd, ixT, ↓ibT, ltT, ltF, leT, leF, eqT, eqF, nM_ltT, nM_ltF, nM_leT, nM_leF, nM_eqF, nM_eqF', nbT0, nbT1, oI_s, oI_n, natF, natT, nltT, nltF, nleT, nleF, ↓reduceIte, lgc, not_true_eq_false, not_false_eq_true, or_false, false_or, or_true, true_or, and_true, true_and, and_false, false_and, ne_eq, eq_self, or_self, and_self]) (wpt (ib_n (by omega) (by decide)) (wpl (wpl ⟨nI_1 k, fun r hr => ?_, sx_pI g3 rfl⟩)))
    show (pI s 222 k 0).1 222 r = _
    rw [rI]
    by_cases e : r = k
    · rw [if_pos ⟨rfl, e⟩]
      rfl
    · rw [if_neg (fun z => e z.2)]
      exact g2 r (by omega)
  · rintro ⟨p, s⟩ ⟨g1, g2, g3⟩
    dsimp only at g1 g2 g3
    subst g1
    unfold zrL
    dsimp only
    exact wpt (by decide) (wp_of rfl ⟨g2, g3⟩)
/-- what reading needs: a text cut, nothing read -/
def RD0 (K P : Nat → Nat) (V : Nat → Int64) (N : Nat) (c u : cS) : Prop := TKR c u K P V N ∧ u.1 174 13 = nI 0 ∧ c.1 145 7 = nI 0 ∧ (c.1 7 2 = nI 0 ∧ c.1 7 4 = nI 0 ∧ c.1 7 7 = nI 0 ∧ c.1 7 10 = nI 0) ∧ (c.1 133 11 = nI 0 ∧ c.1 133 12 = nM ∧ c.1 133 13 = nI 0 ∧ c.1 114 7 = nI 0) ∧ ∀ r, r < 2242 → c.1 144 r = nI 0
def RDX (K P : Nat → Nat) (V : Nat → Int64) (N : Nat) (c u : cS) (r : cS ⊕ cS) (q : cS) : Prop := (∃ d i oc kc mc cc U tot, r = .inl d ∧ K i = 0 ∧ 1 ≤ cc ∧ CLV K P V N d q oc kc mc cc U tot i ∧ sx QRc c d ∧ sx QRu u q) ∨ (∃ z, r = .inr z ∧ FLR c u z q)
theorem rd_go (hn : 10000 ≤ n) (h : RD0 K P V N c u) : jw (Option.bind (d_44 n c) (Sum.elim (d_45 n) (fun z => some (.inr z)))) (d_104 n u) (RDX K P V N c u) := by
  obtain ⟨h1, h2, h3, ⟨h4, h5, h6, h7⟩, ⟨h8, h9, h10, h11⟩, h12⟩ := h
  obtain ⟨x, hx, x1, x2⟩ := wp_ex (zr_go (n := n) (v := u0R u) hn)
  have s0 : sx QRu u (u0R u) := sx_pI (sx_pI (sx_pI (sx_pI (sx_pI sx_rfl (by decide)) (by decide)) (by decide)) (by decide)) (by decide)
  have sx0 : sx QRu u x := sx_trans s0 (sx_wide x2 (fun A l z => by
    have := of_decide_eq_false z
    exact decide_eq_false (by omega)))
  have X : ∀ l, x.1 174 l = (u0R u).1 174 l := fun l => x2.1 _ _ rfl
  have f67 : x.1 174 67 = nI 0 := by
    rw [X]
    unfold u0R
    rw [rI, if_neg (by omega), rI, if_neg (by omega), rI, if_neg (by omega), rI, if_neg (by omega), rI, if_pos ⟨rfl, rfl⟩]
    rfl
  have f15 : x.1 174 15 = nI 0 := by
    rw [X]
    unfold u0R
    rw [rI, if_neg (by omega), rI, if_neg (by omega), rI, if_neg (by omega), rI, if_pos ⟨rfl, rfl⟩]
    rfl
  have f24 : x.1 174 24 = nI 0 := by
    rw [X]
    unfold u0R
    rw [rI, if_neg (by omega), rI, if_neg (by omega), rI, if_pos ⟨rfl, rfl⟩]
    rfl
  have f34 : x.1 174 34 = nI 0 := by
    rw [X]
    unfold u0R
    rw [rI, if_neg (by omega), rI, if_pos ⟨rfl, rfl⟩]
    rfl
  have f37 : x.1 174 37 = nI 0 := by
    rw [X]
    unfold u0R
    rw [rI, if_pos ⟨rfl, rfl⟩]
    rfl
  have f13 : x.1 174 13 = nI 0 := by
    rw [X]
    unfold u0R
    rw [rI, if_neg (by omega), rI, if_neg (by omega), rI, if_neg (by omega), rI, if_neg (by omega), rI, if_neg (by omega)]
    exact h2
  have no : ∀ {p : Nat → Prop}, ∀ k, k < 0 → p k := fun k hk => absurd hk (Nat.not_lt_zero _)
  have hT : TKR c x K P V N := TKR_sx h1 (show sx (fun _ _ => false) _ _ from sx_rfl) sx0 (fun _ _ _ _ => rfl) (fun A l z1 z2 => decide_eq_false (by omega))
  have hR : RDF K P V N c u 0 0 0 0 c x 0 := ⟨⟨hT, Nat.zero_le _, h3, f67, f13⟩, ⟨⟨by omega, h4, f15, no⟩, ⟨by omega, h5, f24, no⟩, ⟨by omega, h6, f34, no⟩, ⟨by omega, h7, f37, no⟩⟩, ⟨⟨by omega, h4, f15, no⟩, no, ⟨by omega, no⟩, no, ⟨by omega, no⟩⟩, ⟨h8, h9, h10, h11⟩, by omega, fun r hr _ _ => ⟨h12 r hr, fun z => x1 r z⟩, sx_rfl, sx0⟩
  obtain ⟨r, s, y1, y2, y3⟩ := jw_ex (frt_go hn hR)
  have hY : ∀ {Q : cS → Prop}, wp (clR n s) Q → wp (d_104 n u) Q := fun {Q} h => by
    rw [d104_t]
    exact wpe hx (wpe y2 h)
  rcases y3 with ⟨d, i, oc, kc, mc, U, rfl, z1, z2⟩ | ⟨z, rfl, hf⟩
  · obtain ⟨r2, s2, t1, t2, t3⟩ := jw_ex (cll_go (c0 := c) (u0 := u) hn (CLV_0 z2) z2.2.2.2.2.2.2.1 z2.2.2.2.2.2.2.2)
    refine wpe y1 (wpSl (wp_of t1 (hY (wp_of t2 ?_))))
    rcases t3 with ⟨d2, i2, cc, U2, tot2, a1, a2⟩ | hz
    · exact Or.inl ⟨d2, i2, oc, kc, mc, cc, U2, tot2, a1, a2⟩
    · exact Or.inr hz
  · refine wpe y1 (wpSr (wp_of rfl (hY (wp_of (a := s) ?_ (Or.inr ⟨z, rfl, hf⟩)))))
    have f1 := hf.2.2.1
    unfold clR
    exact eq_wp (wpj (wpf (ne13 f1) (wpe (lpR_ww (by omega) f1) (wpj (wpf (ne13 f1) rfl)))))
end RDG
