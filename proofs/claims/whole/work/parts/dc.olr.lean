/-! READING an ORDER: the reference settles it -/
section OLR
variable {n m a b k o N : Nat} {c d u w : cS} {R W : Nat → Nat → Bool}
def bI (x : Bool) : Int32 := if x = true then nI 1 else nI 0
theorem bI_t : bI true = nI 1 := rfl
theorem bI_f : bI false = nI 0 := rfl
theorem bI_0 {x : Bool} : bI x = 0 ↔ x = false := by
  cases x
  · exact ⟨fun _ => rfl, fun _ => rfl⟩
  · exact ⟨fun z => absurd z (by decide), fun z => by cases z⟩
theorem bI_nb {x : Bool} : nb (bI x) := by
  cases x
  · show nb (0 : Int32)
    decide
  · show nb (1 : Int32)
    decide
def ci (o a b : Nat) : Nat := (12 * o + a) * 12 + b
def BLW (u : cS) (o N : Nat) (W : Nat → Nat → Bool) : Prop := ∀ a b, a < N → b < N → u.1 184 (ci o a b) = bI (W a b)
theorem e387w (ho : o < 4) (hN : N ≤ 12) (ha : a < N) (hb : b < N) (h : BLW u o N W) : d_387 n (nI o) (nI a) (nI b) u = some (bI (W a b)) := by
  have h1 := h a b ha hb
  unfold ci at h1
  rw [e387 ho (by omega) (by omega) (by rw [h1]; exact bI_nb), h1]
def qOL (o A j : Nat) : Bool := decide ((184 ≤ A ∧ A ≤ 186 ∧ 144 * o ≤ j ∧ j < 144 * o + 144) ∨ ((A = 187 ∨ A = 188) ∧ j = o))
def q184 (o A j : Nat) : Bool := decide (A = 184 ∧ 144 * o ≤ j ∧ j < 144 * o + 144)
def q186 (o A j : Nat) : Bool := decide ((A = 185 ∨ A = 186) ∧ 144 * o ≤ j ∧ j < 144 * o + 144)
def q188 (o A j : Nat) : Bool := decide ((A = 187 ∨ A = 188) ∧ j = o)
theorem BLW_sx {r : Nat → Nat → Bool} (h : BLW u o N W) (hs : sx r u d) (hr : ∀ j, r 184 j = false) : BLW d o N W := fun a b ha hb => by
  rw [hs.1 184 _ (hr _)]
  exact h a b ha hb
theorem e388 {t : Int32} (hn : 100 ≤ n) (ho : o < 4) (hN : N ≤ 12) (h2 : u.1 182 o = nI N) (ha : a < N) (hb : b < N) (hT : (t = 0 ∧ ∀ x y, x < N → y < N → d_387 n (nI o) (nI x) (nI y) u = some (bI (W x y))) ∨ (¬ t = 0 ∧ ∀ x y, x < N → y < N → d_387 n (nI o) (nI y) (nI x) u = some (bI (W x y)))) : d_388 n (nI o) (nI a) (nI b) t u = some (oI (lbO W N a b)) := by
  unfold d_388
  refine eq_wp (wpt (by simp (disch := first | omega | decide) only [↓neg1, nlit, rI, rL, rI2, rL1, nI_add, pk_mul, sbT, dvT, nmd, ixT, ↓ibT, ltT, ltF, leT, leF, eqT, eqF, nM_ltT, nM_ltF, nM_leT, nM_leF, nM_eqF, nM_eqF', nbT0, nbT1, oI_s, oI_n, natF, natT, nltT, nltF, nleT, nleF, ↓reduceIte, lgc, not_true_eq_false, not_false_eq_true, or_false, false_or, or_true, true_or, and_true, true_and, and_false, false_and, ne_eq, eq_self, or_self, and_self]) ?_)
  rw [ix_n (by omega), h2]
  refine wpl ?_
  refine wpe (a := (lbO W N a b).elim (Sum.inl ()) (fun k => Sum.inr (nI k))) (whl_ff (fun k => nI k) (Sum.inl ()) (fun k => Sum.inr (nI k)) (lbB W N a b) (by omega) ?_ (fun j hj => ?_)) ?_
  · exact eq_wp (wpt (by simp (disch := first | omega | decide) only [↓neg1, nlit, rI, rL, rI2, rL1, nI_add, pk_mul, sbT, dvT, nmd, ixT, ↓ibT, ltT, ltF, leT, leF, eqT, eqF, nM_ltT, nM_ltF, nM_leT, nM_leF, nM_eqF, nM_eqF', nbT0, nbT1, oI_s, oI_n, natF, natT, nltT, nltF, nleT, nleF, ↓reduceIte, lgc, not_true_eq_false, not_false_eq_true, or_false, false_or, or_true, true_or, and_true, true_and, and_false, false_and, ne_eq, eq_self, or_self, and_self]) rfl)
  · refine eq_wp (wpf (by simp (disch := first | omega | decide) only [↓neg1, nlit, rI, rL, rI2, rL1, nI_add, pk_mul, sbT, dvT, nmd, ixT, ↓ibT, ltT, ltF, leT, leF, eqT, eqF, nM_ltT, nM_ltF, nM_leT, nM_leF, nM_eqF, nM_eqF', nbT0, nbT1, oI_s, oI_n, natF, natT, nltT, nltF, nleT, nleF, ↓reduceIte, lgc, not_true_eq_false, not_false_eq_true, or_false, false_or, or_true, true_or, and_true, true_and, and_false, false_and, ne_eq, eq_self, or_self, and_self]) ?_)
    refine wpjQ (fun p : Int32 => p = bI (W a j && W b j)) ?_ ?_
    · rintro p rfl
      refine wpc (K' := fun x : Int32 => x = bI (lbB W N a b j)) (whl_cnt (fun i (st : Int32 × Int32) => st = (bI (W a j && W b j && allN (fun d => !(W a d && W b d) || W j d) i), nI i) ∨ (st.1 = nI 0 ∧ lbB W N a b j = false)) N ?_ ?_ (by omega) (Or.inl (by rw [show allN (fun d => !(W a d && W b d) || W j d) 0 = true from rfl, Bool.and_true]; rfl))) (fun x hx => ?_)
      · rintro i st hi h
        rcases h with rfl | ⟨g1, g2⟩
        · dsimp only
          refine wpf (by simp (disch := first | omega | decide) only [↓neg1, nlit, rI, rL, rI2, rL1, nI_add, pk_mul, sbT, dvT, nmd, ixT, ↓ibT, ltT, ltF, leT, leF, eqT, eqF, nM_ltT, nM_ltF, nM_leT, nM_leF, nM_eqF, nM_eqF', nbT0, nbT1, oI_s, oI_n, natF, natT, nltT, nltF, nleT, nleF, ↓reduceIte, lgc, not_true_eq_false, not_false_eq_true, or_false, false_or, or_true, true_or, and_true, true_and, and_false, false_and, ne_eq, eq_self, or_self, and_self]) ?_
          by_cases e : (W a j && W b j && allN (fun d => !(W a d && W b d) || W j d) i) = true
          · rw [e]
            refine wpf (by decide) ?_
            have hnx : ∀ z : Bool, z = (!(W a i && W b i) || W j i) → (W a j && W b j && allN (fun d => !(W a d && W b d) || W j d) (i + 1)) = z := fun z hz => by
              show (W a j && W b j && (allN (fun d => !(W a d && W b d) || W j d) i && (!(W a i && W b i) || W j i))) = z
              rw [← Bool.and_assoc, e, Bool.true_and, hz]
            refine wpjQ (fun p : Int32 => p = bI (W a i && W b i)) ?_ ?_
            · rintro p rfl
              refine wpjQ (fun p : Int32 => p = bI (!(W a i && W b i) || W j i)) ?_ ?_
              · rintro p rfl
                refine wpl (Or.inl ?_)
                rw [hnx _ rfl, nI_1]
              · intro Q' k' hk'
                by_cases e2 : (W a i && W b i) = true
                · rw [e2]
                  refine wpf (by decide) (wpj ?_)
                  have hk2 : wp (k' (bI (W j i))) Q' := hk' _ (by rw [e2]; rfl)
                  rcases hT with ⟨t1, t2⟩ | ⟨t1, t2⟩
                  · exact wpt t1 (wpe (t2 j i hj hi) hk2)
                  · exact wpf t1 (wpe (t2 j i hj hi) hk2)
                · have e2' : (W a i && W b i) = false := by simpa using e2
                  rw [e2']
                  exact wpt rfl (hk' _ (by rw [e2']; rfl))
            · intro Q' k' hk'
              have h0 : W a i = false ∨ W b i = false → wp (k' 0) Q' := fun z => hk' 0 (by rcases z with z | z <;> rw [z] <;> simp [bI] <;> rfl)
              have h1 : W a i = true → W b i = true → wp (k' 1) Q' := fun z1 z2 => hk' 1 (by rw [z1, z2]; rfl)
              rcases hT with ⟨t1, t2⟩ | ⟨t1, t2⟩
              · refine wpt t1 (wpe (t2 a i ha hi) (wpj ?_))
                cases ea : W a i with
                | false => exact wpt rfl (h0 (Or.inl ea))
                | true =>
                  refine wpf (by decide) (wpe (t2 b i hb hi) ?_)
                  cases eb : W b i with
                  | false => exact wpt rfl (h0 (Or.inr eb))
                  | true => exact wpf (by decide) (h1 ea eb)
              · refine wpf t1 (wpe (t2 a i ha hi) (wpj ?_))
                cases ea : W a i with
                | false => exact wpt rfl (h0 (Or.inl ea))
                | true =>
                  refine wpf (by decide) (wpe (t2 b i hb hi) ?_)
                  cases eb : W b i with
                  | false => exact wpt rfl (h0 (Or.inr eb))
                  | true => exact wpf (by decide) (h1 ea eb)
          · have e' : (W a j && W b j && allN (fun d => !(W a d && W b d) || W j d) i) = false := by simpa using e
            rw [e']
            refine wpt rfl ?_
            have hl : lbB W N a b j = false := by
              cases hq : lbB W N a b j with
              | false => rfl
              | true =>
                obtain ⟨l1, l2, l3⟩ := lbB_iff.mp hq
                rw [l1, l2] at e'
                have : allN (fun d => !(W a d && W b d) || W j d) i = true := allN_iff.mpr (fun d hd => by
                  cases z1 : W a d with
                  | false => rfl
                  | true =>
                    cases z2 : W b d with
                    | false => rfl
                    | true => exact l3 d (by omega) z1 z2)
                rw [this] at e'
                cases e'
            rw [hl]
            exact rfl
        · obtain ⟨s1, s2⟩ := st
          dsimp only at g1
          subst g1
          dsimp only
          by_cases z : nI N ≤ s2
          · exact wpt z (by rw [g2]; rfl)
          · exact wpf z (wpt rfl (by rw [g2]; rfl))
      · rintro st h
        rcases h with rfl | ⟨g1, g2⟩
        · exact wpt (by simp (disch := first | omega | decide) only [↓neg1, nlit, rI, rL, rI2, rL1, nI_add, pk_mul, sbT, dvT, nmd, ixT, ↓ibT, ltT, ltF, leT, leF, eqT, eqF, nM_ltT, nM_ltF, nM_leT, nM_leF, nM_eqF, nM_eqF', nbT0, nbT1, oI_s, oI_n, natF, natT, nltT, nltF, nleT, nleF, ↓reduceIte, lgc, not_true_eq_false, not_false_eq_true, or_false, false_or, or_true, true_or, and_true, true_and, and_false, false_and, ne_eq, eq_self, or_self, and_self]) rfl
        · obtain ⟨s1, s2⟩ := st
          dsimp only at g1
          subst g1
          dsimp only
          by_cases z : nI N ≤ s2
          · exact wpt z (by rw [g2]; rfl)
          · exact wpf z (wpt rfl (by rw [g2]; rfl))
      · subst hx
        cases e : lbB W N a b j with
        | false =>
          refine wpt rfl (wpl ?_)
          rw [nI_1]
          exact rfl
        | true => exact wpf (by decide) rfl
    · intro Q' k' hk'
      have h0 : W a j = false ∨ W b j = false → wp (k' 0) Q' := fun z => hk' 0 (by rcases z with z | z <;> rw [z] <;> simp [bI] <;> rfl)
      have h1 : W a j = true → W b j = true → wp (k' 1) Q' := fun z1 z2 => hk' 1 (by rw [z1, z2]; rfl)
      rcases hT with ⟨t1, t2⟩ | ⟨t1, t2⟩
      · refine wpt t1 (wpe (t2 a j ha hj) (wpj ?_))
        cases ea : W a j with
        | false => exact wpt rfl (h0 (Or.inl ea))
        | true =>
          refine wpf (by decide) (wpe (t2 b j hb hj) ?_)
          cases eb : W b j with
          | false => exact wpt rfl (h0 (Or.inr eb))
          | true => exact wpf (by decide) (h1 ea eb)
      · refine wpf t1 (wpe (t2 a j ha hj) (wpj ?_))
        cases ea : W a j with
        | false => exact wpt rfl (h0 (Or.inl ea))
        | true =>
          refine wpf (by decide) (wpe (t2 b j hb hj) ?_)
          cases eb : W b j with
          | false => exact wpt rfl (h0 (Or.inr eb))
          | true => exact wpf (by decide) (h1 ea eb)
  · unfold lbO
    cases ff (lbB W N a b) N <;> rfl
end OLR
