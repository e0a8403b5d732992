/-! NUMBERS written -/
def dgk (N : Nat) : Nat → List Nat
  | 0 => []
  | k + 1 => (48 + N / 10 ^ k % 10) :: dgk N k
def nd (N : Nat) : Nat := 1 + (ff (fun k => decide (N < 10 ^ (k + 1))) 9).getD 9
theorem nd_ok {N : Nat} (h : N < 10 ^ 10) : 1 ≤ nd N ∧ nd N ≤ 10 ∧ N < 10 ^ nd N ∧ (1 < nd N → 10 ^ (nd N - 1) ≤ N) := by
  unfold nd
  cases hf : ff (fun k => decide (N < 10 ^ (k + 1))) 9 with
  | none =>
    have := of_decide_eq_false (ff_none hf 8 (by omega))
    show 1 ≤ 1 + 9 ∧ 1 + 9 ≤ 10 ∧ N < 10 ^ (1 + 9) ∧ (1 < 1 + 9 → 10 ^ (1 + 9 - 1) ≤ N)
    refine ⟨by omega, by omega, h, fun _ => ?_⟩
    exact Nat.le_of_not_lt this
  | some k =>
    obtain ⟨h1, h2, h3⟩ := ff_some hf
    show 1 ≤ 1 + k ∧ 1 + k ≤ 10 ∧ N < 10 ^ (1 + k) ∧ (1 < 1 + k → 10 ^ (1 + k - 1) ≤ N)
    refine ⟨by omega, by omega, ?_, fun hk => ?_⟩
    · rw [Nat.add_comm]
      exact of_decide_eq_true h2
    · have h4 := of_decide_eq_false (h3 (k - 1) (by omega))
      rw [show k - 1 + 1 = k by omega] at h4
      rw [show 1 + k - 1 = k by omega]
      exact Nat.le_of_not_lt h4
theorem p10 {k : Nat} (h : k ≤ 9) : 0 < 10 ^ k ∧ 10 ^ k ≤ 10 ^ 9 := ⟨Nat.pow_pos (by decide), Nat.pow_le_pow_right (by decide) h⟩
theorem lgl {x y : Int64} : (lg_cmp x y < nI 0) = (x < y) := by
  unfold lg_cmp
  by_cases h1 : x > y
  · rw [if_pos h1]
    exact (eq_false (by decide)).trans (eq_false (fun z => Int64.lt_irrefl (Int64.lt_trans h1 z))).symm
  · rw [if_neg h1]
    by_cases h2 : x = y
    · rw [if_pos h2]
      exact (eq_false (by decide)).trans (eq_false (fun z => by rw [h2] at z; exact Int64.lt_irrefl z)).symm
    · rw [if_neg h2]
      refine (eq_true (by decide)).trans (eq_true ?_).symm
      exact Int64.lt_of_le_of_ne (Int64.not_lt.mp h1) h2
theorem lgl0 {x y : Int64} : lg_cmp x y < 0 ↔ x < y := by
  have := lgl (x := x) (y := y)
  exact Iff.of_eq this
theorem lgle {x y : Int64} : (lg_cmp x y ≤ nI 0) = (x ≤ y) := by
  unfold lg_cmp
  by_cases h1 : x > y
  · rw [if_pos h1]
    exact (eq_false (by decide)).trans (eq_false (fun z => Int64.lt_irrefl (Int64.lt_of_lt_of_le h1 z))).symm
  · rw [if_neg h1]
    have h2 : x ≤ y := Int64.not_lt.mp h1
    refine Eq.trans ?_ (eq_true h2).symm
    split
    · exact eq_true (by decide)
    · exact eq_true (by decide)
theorem lgge {x y : Int64} : (nI 0 ≤ lg_cmp x y) = (y ≤ x) := by
  unfold lg_cmp
  by_cases h1 : x > y
  · rw [if_pos h1]
    exact (eq_true (by decide)).trans (eq_true (Int64.le_of_lt h1)).symm
  · rw [if_neg h1]
    by_cases h2 : x = y
    · rw [if_pos h2]
      exact (eq_true (by decide)).trans (eq_true (by rw [h2]; exact Int64.le_refl _)).symm
    · rw [if_neg h2]
      refine (eq_false (by decide)).trans (eq_false (fun z => h2 ?_)).symm
      exact Int64.le_antisymm (Int64.not_lt.mp h1) z
theorem dg32 {d : Nat} (h : d < 10) : ((48 : Int64) + lN d).toInt32 = nI (48 + d) ∧ (lN d).toInt32 = nI d := by
  have : ∀ q : Fin 10, ((48 : Int64) + lN q.1).toInt32 = nI (48 + q.1) ∧ (lN q.1).toInt32 = nI q.1 := by decide +kernel
  exact this ⟨d, h⟩
theorem lNne {a : Nat} (h0 : 0 < a) (h : a < 2 ^ 63) : lN a ≠ 0 := fun z => by
  have := (pk_lEQ (a := a) (b := 0) h (by decide)).mp z
  omega
theorem dig {N k : Nat} (hN : N < 10 ^ 10) (hk : k ≤ 9) : lN N / lN (10 ^ k) - lN N / lN (10 ^ k) / 10 * 10 = lN (N / 10 ^ k % 10) := by
  have hp := p10 hk
  have h63 : (10 : Nat) ^ 10 < 2 ^ 63 := by decide
  have h9 : (10 : Nat) ^ 9 < 2 ^ 63 := by decide
  rw [pk_lDiv (by omega) hp.1 (by omega), show (10 : Int64) = lN 10 from rfl, pk_lRem (Nat.lt_of_le_of_lt (Nat.div_le_self _ _) (by omega)) (by decide) (by decide)]
theorem u10 {k : Nat} (hk : k + 1 ≤ 9) : lN (10 ^ (k + 1)) / 10 = lN (10 ^ k) := by
  have hp := p10 hk
  have h9 : (10 : Nat) ^ 9 < 2 ^ 63 := by decide
  rw [show (10 : Int64) = lN 10 from rfl, pk_lDiv (by omega) (by decide) (by decide), Nat.pow_succ, Nat.mul_div_cancel _ (by decide)]
theorem dgk_split {N : Nat} : ∀ {k j : Nat}, j ≤ k → ∃ P, P ++ dgk N j = dgk N k
  | 0, j, h => by
    have : j = 0 := by omega
    subst this
    exact ⟨[], rfl⟩
  | k + 1, j, h => by
    by_cases e : j = k + 1
    · subst e
      exact ⟨[], rfl⟩
    · obtain ⟨P, hP⟩ := dgk_split (N := N) (k := k) (j := j) (by omega)
      exact ⟨(48 + N / 10 ^ k % 10) :: P, by rw [List.cons_append, hP]; rfl⟩
theorem e360 {n N : Nat} {u : cS} {L : List Nat} (hn : 1000 ≤ n) (hN : N < 10 ^ 10) (h : OM u L) : wp (d_360 n (lN N) u) (fun d => OM d (L ++ dgk N (nd N)) ∧ sx pO u d) := by
  obtain ⟨d1, d2, d3, d4⟩ := nd_ok hN
  have h63 : (10 : Nat) ^ 10 < 2 ^ 63 := by decide
  have h9 : (10 : Nat) ^ 9 < 2 ^ 63 := by decide
  unfold d_360
  refine wbf (fun k => lN (10 ^ k)) (lN (10 ^ 9)) (fun k => lN (10 ^ k)) (fun k => decide (N < 10 ^ (k + 1))) (cnt := 9) (by omega) rfl ?_ (fun k hk => ?_) ?_
  · have hp := p10 (k := 9) (by omega)
    have h1 : lN N / lN (10 ^ 9) < 10 := by
      rw [pk_lDiv (by omega) hp.1 (by omega)]
      exact (pk_lLT (b := 10) (Nat.lt_of_le_of_lt (Nat.div_le_self _ _) (by omega)) (by decide)).mpr (Nat.div_lt_of_lt_mul hN)
    rw [if_pos (lNne hp.1 (by omega)), if_pos (lgl0.mpr h1)]
  · have hp := p10 (k := k) (by omega)
    have hdl : N / 10 ^ k < 2 ^ 63 := Nat.lt_of_le_of_lt (Nat.div_le_self _ _) (by omega)
    rw [if_pos (lNne hp.1 (by omega))]
    by_cases hc : N < 10 ^ (k + 1)
    · have h1 : lN N / lN (10 ^ k) < 10 := by
        rw [pk_lDiv (by omega) hp.1 (by omega)]
        exact (pk_lLT (b := 10) hdl (by decide)).mpr (Nat.div_lt_of_lt_mul (by rw [← Nat.pow_succ]; exact hc))
      rw [if_pos (lgl0.mpr h1), if_pos (decide_eq_true hc)]
    · have h1 : ¬ lN N / lN (10 ^ k) < 10 := by
        rw [pk_lDiv (by omega) hp.1 (by omega)]
        intro z
        have := (pk_lLT (b := 10) hdl (by decide)).mp z
        have h2 := (Nat.div_lt_iff_lt_mul hp.1).mp this
        rw [Nat.mul_comm, ← Nat.pow_succ] at h2
        exact hc h2
      rw [if_neg (fun z => h1 (lgl0.mp z)), if_neg (by rw [decide_eq_false hc]; decide)]
      show some (Sum.inl (lN (10 ^ k) * 10)) = _
      rw [Nat.pow_succ, show (10 : Int64) = lN 10 from rfl]
      exact congrArg (fun z => some (Sum.inl z)) (Int64.ofNat_mul _ _).symm
  · have hx : (ff (fun k => decide (N < 10 ^ (k + 1))) 9).elim (lN (10 ^ 9)) (fun k => lN (10 ^ k)) = lN (10 ^ (nd N - 1)) := by
      unfold nd
      cases ff (fun k => decide (N < 10 ^ (k + 1))) 9 with
      | none => rfl
      | some k => exact congrArg (fun z => lN (10 ^ z)) (by show k = 1 + k - 1; omega)
    rw [hx]
    refine wpc (K' := fun d : cS => OM d (L ++ dgk N (nd N)) ∧ sx pO u d) (whl_cnt (fun j (st : Int64 × cS) => st.1 = (if j < nd N then lN (10 ^ (nd N - 1 - j)) else 0) ∧ (∃ P, P ++ dgk N (nd N - j) = dgk N (nd N) ∧ OM st.2 (L ++ P)) ∧ sx pO u st.2) (nd N) ?_ ?_ (by omega) ⟨by rw [if_pos (by omega)]; rfl, ⟨[], rfl, by rw [List.append_nil]; exact h⟩, sx_rfl⟩) (fun d hd => hd)
    · rintro j ⟨a, w⟩ hj ⟨g1, ⟨P, g2, g3⟩, g4⟩
      dsimp only at g1 g2 g3 g4
      rw [if_pos hj] at g1
      subst g1
      have hp := p10 (k := nd N - 1 - j) (by omega)
      have hd10 : N / 10 ^ (nd N - 1 - j) % 10 < 10 := Nat.mod_lt _ (by decide)
      refine wpf (show ¬ lg_cmp (lN (10 ^ (nd N - 1 - j))) 0 ≤ nI 0 by
        rw [lgle]
        intro z
        have := (pk_lLE (b := 0) (by omega) (by decide)).mp z
        omega) ?_
      refine wpt (lNne hp.1 (by omega)) ?_
      dsimp only
      rw [dig hN (by omega), (dg32 hd10).1]
      refine wpc (e357 (by omega) g3) (fun d hd => ?_)
      refine wpl ⟨?_, ⟨P ++ [48 + N / 10 ^ (nd N - 1 - j) % 10], ?_, ?_⟩, sx_trans g4 hd.2⟩
      · by_cases hl : j + 1 < nd N
        · rw [if_pos hl, show nd N - 1 - j = (nd N - 1 - (j + 1)) + 1 by omega, u10 (by omega)]
        · rw [if_neg hl, show nd N - 1 - j = 0 by omega]
          show lN (10 ^ 0) / 10 = 0
          decide
      · rw [← g2, show nd N - j = (nd N - 1 - j) + 1 by omega, show nd N - (j + 1) = nd N - 1 - j by omega, List.append_assoc]
        rfl
      · rw [← List.append_assoc]
        exact hd.1
    · rintro ⟨a, w⟩ ⟨g1, ⟨P, g2, g3⟩, g4⟩
      dsimp only at g1 g2 g3 g4
      rw [if_neg (by omega)] at g1
      subst g1
      refine wpt (show lg_cmp (0 : Int64) 0 ≤ nI 0 by decide) ⟨?_, g4⟩
      rw [Nat.sub_self] at g2
      have : P = dgk N (nd N) := by rw [← g2]; exact (List.append_nil P).symm
      rw [← this]
      exact g3
theorem e319 {n N : Nat} {c : cS} {L : List Nat} (hn : 1000 ≤ n) (hN : N < 10 ^ 10) (h : OC c L) : wp (d_319 n (lN N) c) (fun d => OC d (L ++ dgk N (nd N)) ∧ sx qO c d) := by
  obtain ⟨d1, d2, d3, d4⟩ := nd_ok hN
  have h63 : (10 : Nat) ^ 10 < 2 ^ 63 := by decide
  have h9 : (10 : Nat) ^ 9 < 2 ^ 63 := by decide
  unfold d_319
  refine wpc (K' := fun d : cS => OC d (L ++ dgk N (nd N)) ∧ sx qO c d) (whl_cnt (fun j (st : Int32 × Int64 × cS) => st.1 = (if 10 - j < nd N then nI 1 else nI 0) ∧ st.2.1 = (if j < 10 then lN (10 ^ (9 - j)) else 0) ∧ (∃ P, P ++ dgk N (min (nd N) (10 - j)) = dgk N (nd N) ∧ OC st.2.2 (L ++ P)) ∧ sx qO c st.2.2) 10 ?_ ?_ (by omega) ⟨by rw [if_neg (by omega)]; rfl, rfl, ⟨[], by rw [Nat.min_eq_left (by omega)]; rfl, by rw [List.append_nil]; exact h⟩, sx_rfl⟩) (fun d hd => hd)
  · rintro j ⟨b, a, w⟩ hj ⟨g0, g1, ⟨P, g2, g3⟩, g4⟩
    dsimp only at g0 g1 g2 g3 g4
    rw [if_pos hj] at g1
    subst g1
    have hp := p10 (k := 9 - j) (by omega)
    have hd10 : N / 10 ^ (9 - j) % 10 < 10 := Nat.mod_lt _ (by decide)
    have hnext : lN (10 ^ (9 - j)) / 10 = if j + 1 < 10 then lN (10 ^ (9 - (j + 1))) else 0 := by
      by_cases hl : j + 1 < 10
      · rw [if_pos hl, show 9 - j = (9 - (j + 1)) + 1 by omega, u10 (by omega)]
      · rw [if_neg hl, show 9 - j = 0 by omega]
        decide
    refine wpf (show ¬ lg_cmp (lN (10 ^ (9 - j))) 1 < nI 0 by
      rw [lgl]
      intro z
      have := (pk_lLT (b := 1) (by omega) (by decide)).mp z
      omega) ?_
    refine wpt (lNne hp.1 (by omega)) ?_
    dsimp only
    refine wpl ?_
    rw [dig hN (by omega), (dg32 hd10).2]
    by_cases hk : 10 - (j + 1) < nd N
    · -- it is written
      have hb : ∀ {K : (Int32 × Int64 × cS) ⊕ cS → Prop} {f : Int32 → Option ((Int32 × Int64 × cS) ⊕ cS)}, wp (f 1) K → wp (jn (fun p8 : Int32 => lt ((b ||| p8) : Int32) f) (fun j43 => jn (fun p17 : Unit => j43 1) (fun j38 => if nI (N / 10 ^ (9 - j) % 10) = 0 then if (lg_cmp (lN (10 ^ (9 - j))) 1) = 0 then j38 () else j43 0 else j38 ()))) K := by
        intro K f hf
        have hor : b ||| 1 = 1 := by
          rw [g0]
          split <;> decide
        refine wpj (wpj ?_)
        by_cases hz : N / 10 ^ (9 - j) % 10 = 0
        · refine wpt (by rw [hz]; rfl) ?_
          by_cases h1 : 9 - j = 0
          · refine wpt (by rw [h1]; decide) ?_
            refine wpl ?_
            rw [hor]
            exact hf
          · refine wpf ?_ ?_
            · show ¬ lg_cmp _ 1 = nI 0
              rw [lgc]
              intro z
              have h2 := (pk_lEQ (b := 1) (by omega) (by decide)).mp z
              have h3 : 10 ^ 1 ≤ 10 ^ (9 - j) := Nat.pow_le_pow_right (by decide) (by omega)
              omega
            · refine wpl ?_
              have hbeg : 10 - j < nd N := by
                by_cases hl : 10 - j < nd N
                · exact hl
                · exfalso
                  have h4 := d4 (by omega)
                  rw [show nd N - 1 = 9 - j by omega] at h4
                  have h5 : N < 10 ^ (9 - j) * 10 := by
                    rw [← Nat.pow_succ, show (9 - j).succ = nd N by omega]
                    exact d3
                  have h6 : N / 10 ^ (9 - j) < 10 := Nat.div_lt_of_lt_mul h5
                  have h7 : 1 ≤ N / 10 ^ (9 - j) := (Nat.le_div_iff_mul_le hp.1).mpr (by omega)
                  omega
              rw [g0, if_pos hbeg]
              exact hf
        · refine wpf (nI_ne0 (by omega) (by omega)) ?_
          refine wpl ?_
          rw [hor]
          exact hf
      refine hb ?_
      refine wpj (wpf (by decide) ?_)
      rw [show (48 : Int32) + nI (N / 10 ^ (9 - j) % 10) = nI (48 + N / 10 ^ (9 - j) % 10) from nI_add 48 _]
      refine wpc (e317 (by omega) g3) (fun d hd => ?_)
      refine wpl ⟨by rw [if_pos hk]; rfl, hnext, ⟨P ++ [48 + N / 10 ^ (9 - j) % 10], ?_, ?_⟩, sx_trans g4 hd.2⟩
      · rw [← g2, Nat.min_eq_right (by omega), Nat.min_eq_right (by omega), show 10 - j = (9 - j) + 1 by omega, show 10 - (j + 1) = 9 - j by omega, List.append_assoc]
        rfl
      · rw [← List.append_assoc]
        exact hd.1
    · -- it is not
      have hz : N / 10 ^ (9 - j) = 0 := Nat.div_eq_of_lt (Nat.lt_of_lt_of_le d3 (Nat.pow_le_pow_right (by decide) (by omega)))
      rw [if_neg (show ¬ 10 - j < nd N by omega)] at g0
      subst g0
      rw [hz]
      refine wpj (wpj (wpt rfl (wpf ?_ ?_)))
      · show ¬ lg_cmp _ 1 = nI 0
        rw [lgc]
        intro z
        have h2 := (pk_lEQ (b := 1) (by omega) (by decide)).mp z
        have h3 : 10 ^ 1 ≤ 10 ^ (9 - j) := Nat.pow_le_pow_right (by decide) (by omega)
        omega
      · refine wpl (wpj (wpt (by decide) (wpl ⟨by rw [if_neg hk]; rfl, hnext, ⟨P, ?_, g3⟩, g4⟩)))
        rw [← g2, Nat.min_eq_left (by omega), Nat.min_eq_left (by omega)]
  · rintro ⟨b, a, w⟩ ⟨g0, g1, ⟨P, g2, g3⟩, g4⟩
    dsimp only at g0 g1 g2 g3 g4
    rw [if_neg (by omega)] at g1
    subst g1
    refine wpt (show lg_cmp (0 : Int64) 1 < nI 0 by decide) ⟨?_, g4⟩
    rw [Nat.min_eq_right (by omega)] at g2
    have : P = dgk N (nd N) := by rw [← g2]; exact (List.append_nil P).symm
    rw [← this]
    exact g3
