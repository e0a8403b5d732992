/-! FLOW: the class's STATE behind an ACT is the STATE behind it -/
theorem WF_set {E l d d' k e : Nat} {s : Int64} (hs : WFs E l d s) (hk : k < 16) (he : e < 16) (h1 : k < l ∨ (8 ≤ k ∧ k < 8 + d') → e < E) (h2 : ¬ (k < l ∨ (8 ≤ k ∧ k < 8 + d')) → e = 0) (h3 : ∀ j, j < 16 → j ≠ k → ((j < l ∨ (8 ≤ j ∧ j < 8 + d)) ↔ (j < l ∨ (8 ≤ j ∧ j < 8 + d')))) : WFs E l d' (wn s k e) := by
  intro j hj
  rw [nbl_wn hk he hj]
  by_cases ej : j = k
  · rw [if_pos ej, ej]
    by_cases hc : k < l ∨ (8 ≤ k ∧ k < 8 + d')
    · rw [if_pos hc]
      exact h1 hc
    · rw [if_neg hc]
      exact h2 hc
  · rw [if_neg ej]
    have h4 := h3 j hj ej
    have h5 := hs j hj
    by_cases hc : j < l ∨ (8 ≤ j ∧ j < 8 + d')
    · rw [if_pos hc]
      rwa [if_pos (h4.mpr hc)] at h5
    · rw [if_neg hc]
      rwa [if_neg (fun z => hc (h4.mp z))] at h5
theorem WF_clr {E l d f k : Nat} {s : Int64} (hs : WFs E l d s) (hf : f + k = 8 + d) (h8 : 8 ≤ f) (hd : d ≤ 8) (hl : l ≤ 8) : WFs E l (d - k) (clr s f k) := by
  intro j hj
  rw [nbl_clr k (by omega) hj]
  have h5 := hs j hj
  by_cases e : f ≤ j ∧ j < f + k
  · rw [if_pos e, if_neg (by omega)]
  · rw [if_neg e]
    by_cases hc : j < l ∨ (8 ≤ j ∧ j < 8 + (d - k))
    · rw [if_pos hc]
      rwa [if_pos (by omega)] at h5
    · rw [if_neg hc]
      rwa [if_neg (by omega)] at h5
theorem av_wn {l bt k e j : Nat} {s : Int64} (hk : k < 16) (he : e < 16) (hj : j < 16) (hkl : k < l ∨ 8 ≤ k) : av l bt (wn s k e) j = if j = k then e else av l bt s j := by
  unfold av
  rw [nbl_wn hk he hj]
  by_cases h1 : l ≤ j ∧ j < 8
  · rw [if_pos h1, if_neg (by omega), if_pos h1]
  · rw [if_neg h1, if_neg h1]
theorem av_clr {l bt f k j : Nat} {s : Int64} (hf : f + k ≤ 16) (hj : j < 16) (h8 : 8 ≤ f) : av l bt (clr s f k) j = if f ≤ j ∧ j < f + k then 0 else av l bt s j := by
  unfold av
  rw [nbl_clr k hf hj]
  by_cases h1 : l ≤ j ∧ j < 8
  · rw [if_pos h1, if_neg (by omega), if_pos h1]
  · rw [if_neg h1, if_neg h1]
theorem av_nbl {l bt j : Nat} {s : Int64} (h : j < l ∨ 8 ≤ j) : nbl s j = av l bt s j := by
  unfold av
  rw [if_neg (by omega)]
theorem bhS_ok {c m : cS} {o M i a bt : Nat} {K : Nat → Nat} {s : Int64} (hO : OOS c m) (hC : CCS c m) (ho : o < ocn m) (hop : 14 ≤ opn m (40 * M + i) ∧ opn m (40 * M + i) ≤ 30) (hR : OPR c m M a (40 * M + i)) (hl : lcn m M ≤ 8) (h21 : opn m (40 * M + i) ≠ 21) (hr : RCH m M i) (hK : okK m o K) (hs : WFs (eln m o) (lcn m M) (dpn m (40 * M + i)) s) :
    WFs (eln m o) (lcn m M) (dpb m (40 * M + i)) (bhS m o K (40 * M + i) s) ∧ ∀ j, j < 8 + dpb m (40 * M + i) → av (lcn m M) bt (bhS m o K (40 * M + i) s) j = trN m o K (40 * M + i) (av (lcn m M) bt s) j := by
  have hLA := (OOS_at hO ho).1
  have hel := OOS_el hO ho
  generalize hb : 40 * M + i = b at *
  obtain ⟨r1, r2, r3, r4⟩ := hr
  rw [hb] at r1 r2 r3 r4
  unfold dpb at r4 ⊢
  generalize hE : eln m o = E at *
  generalize hL : lcn m M = l at *
  rcases op17 hop with e | e | e | e | e | e | e | e | e | e | e | e | e | e | e | e | e
  · have hgv := gv_of e
    rw [show GT 14 = 1 from rfl] at hgv
    have htk := tk_of e (by omega)
    rw [show TK 14 = 0 from rfl] at htk
    have hv := tlo_lt hO ho (hR.2.1 (by omega)) (tdn m b) (Nat.le_refl _)
    rw [hE] at hv
    have hbv : bhS m o K b s = wn s (8 + dpn m b) (tlo m b o (tdn m b)) := by
      unfold bhS
      simp (disch := first | omega | decide) only [↓neg1, nlit, rI, rL, rI2, rL1, nI_add, pk_mul, sbT, dvT, nmd, ixT, ↓ibT, ltT, ltF, leT, leF, eqT, eqF, nM_ltT, nM_ltF, nM_leT, nM_leF, nM_eqF, nM_eqF', nbT0, nbT1, oI_s, oI_n, natF, natT, nltT, nltF, nleT, nleF, ↓reduceIte, lgc, not_true_eq_false, not_false_eq_true, or_false, false_or, or_true, true_or, and_true, true_and, and_false, false_and, ne_eq, eq_self, or_self, and_self, obs, ↓jn, ↓lt, ↓reduceIte, decide_true, decide_false, Bool.false_eq_true, Bool.and_true, Bool.and_false, Bool.true_and, Bool.false_and, Bool.or_false, Bool.false_or, Bool.or_true, Bool.true_or, e]
    rw [hbv]
    refine ⟨WF_set hs (by omega) (by omega) (fun _ => by omega) (fun z => by omega) (fun j hj hne => by omega), fun j hj => ?_⟩
    rw [av_wn (by omega) (by omega) (by omega) (by omega)]
    have ht : trN m o K b (av l bt s) j = if j = 8 + dpn m b then tlo m b o (tdn m b) else av l bt s j := by
      unfold trN
      simp (disch := first | omega | decide) only [↓neg1, nlit, rI, rL, rI2, rL1, nI_add, pk_mul, sbT, dvT, nmd, ixT, ↓ibT, ltT, ltF, leT, leF, eqT, eqF, nM_ltT, nM_ltF, nM_leT, nM_leF, nM_eqF, nM_eqF', nbT0, nbT1, oI_s, oI_n, natF, natT, nltT, nltF, nleT, nleF, ↓reduceIte, lgc, not_true_eq_false, not_false_eq_true, or_false, false_or, or_true, true_or, and_true, true_and, and_false, false_and, ne_eq, eq_self, or_self, and_self, obs, ↓jn, ↓lt, ↓reduceIte, decide_true, decide_false, Bool.false_eq_true, Bool.and_true, Bool.and_false, Bool.true_and, Bool.false_and, Bool.or_false, Bool.false_or, Bool.or_true, Bool.true_or, e]
    rw [ht]
  · have hgv := gv_of e
    rw [show GT 15 = 1 from rfl] at hgv
    have htk := tk_of e (by omega)
    rw [show TK 15 = 0 from rfl] at htk
    have hv := tlo_lt hO ho (hR.2.1 (by omega)) (tdn m b) (Nat.le_refl _)
    rw [hE] at hv
    have hbv : bhS m o K b s = wn s (8 + dpn m b) (tlo m b o (tdn m b)) := by
      unfold bhS
      simp (disch := first | omega | decide) only [↓neg1, nlit, rI, rL, rI2, rL1, nI_add, pk_mul, sbT, dvT, nmd, ixT, ↓ibT, ltT, ltF, leT, leF, eqT, eqF, nM_ltT, nM_ltF, nM_leT, nM_leF, nM_eqF, nM_eqF', nbT0, nbT1, oI_s, oI_n, natF, natT, nltT, nltF, nleT, nleF, ↓reduceIte, lgc, not_true_eq_false, not_false_eq_true, or_false, false_or, or_true, true_or, and_true, true_and, and_false, false_and, ne_eq, eq_self, or_self, and_self, obs, ↓jn, ↓lt, ↓reduceIte, decide_true, decide_false, Bool.false_eq_true, Bool.and_true, Bool.and_false, Bool.true_and, Bool.false_and, Bool.or_false, Bool.false_or, Bool.or_true, Bool.true_or, e]
    rw [hbv]
    refine ⟨WF_set hs (by omega) (by omega) (fun _ => by omega) (fun z => by omega) (fun j hj hne => by omega), fun j hj => ?_⟩
    rw [av_wn (by omega) (by omega) (by omega) (by omega)]
    have ht : trN m o K b (av l bt s) j = if j = 8 + dpn m b then tlo m b o (tdn m b) else av l bt s j := by
      unfold trN
      simp (disch := first | omega | decide) only [↓neg1, nlit, rI, rL, rI2, rL1, nI_add, pk_mul, sbT, dvT, nmd, ixT, ↓ibT, ltT, ltF, leT, leF, eqT, eqF, nM_ltT, nM_ltF, nM_leT, nM_leF, nM_eqF, nM_eqF', nbT0, nbT1, oI_s, oI_n, natF, natT, nltT, nltF, nleT, nleF, ↓reduceIte, lgc, not_true_eq_false, not_false_eq_true, or_false, false_or, or_true, true_or, and_true, true_and, and_false, false_and, ne_eq, eq_self, or_self, and_self, obs, ↓jn, ↓lt, ↓reduceIte, decide_true, decide_false, Bool.false_eq_true, Bool.and_true, Bool.and_false, Bool.true_and, Bool.false_and, Bool.or_false, Bool.false_or, Bool.or_true, Bool.true_or, e]
    rw [ht]
  · have hgv := gv_of e
    rw [show GT 16 = 1 from rfl] at hgv
    have htk := tk_of e (by omega)
    rw [show TK 16 = 0 from rfl] at htk
    have hx := (hR.2.2.1 (by omega)).1
    rw [hL] at hx
    have hv := hs (xN m b) (by omega)
    rw [if_pos (by omega)] at hv
    have hbv : bhS m o K b s = wn s (8 + dpn m b) (nbl s (xN m b)) := by
      unfold bhS
      simp (disch := first | omega | decide) only [↓neg1, nlit, rI, rL, rI2, rL1, nI_add, pk_mul, sbT, dvT, nmd, ixT, ↓ibT, ltT, ltF, leT, leF, eqT, eqF, nM_ltT, nM_ltF, nM_leT, nM_leF, nM_eqF, nM_eqF', nbT0, nbT1, oI_s, oI_n, natF, natT, nltT, nltF, nleT, nleF, ↓reduceIte, lgc, not_true_eq_false, not_false_eq_true, or_false, false_or, or_true, true_or, and_true, true_and, and_false, false_and, ne_eq, eq_self, or_self, and_self, obs, ↓jn, ↓lt, ↓reduceIte, decide_true, decide_false, Bool.false_eq_true, Bool.and_true, Bool.and_false, Bool.true_and, Bool.false_and, Bool.or_false, Bool.false_or, Bool.or_true, Bool.true_or, e]
    rw [hbv]
    refine ⟨WF_set hs (by omega) (by omega) (fun _ => by omega) (fun z => by omega) (fun j hj hne => by omega), fun j hj => ?_⟩
    rw [av_wn (by omega) (by omega) (by omega) (by omega)]
    have ht : trN m o K b (av l bt s) j = if j = 8 + dpn m b then av l bt s (xN m b) else av l bt s j := by
      unfold trN
      simp (disch := first | omega | decide) only [↓neg1, nlit, rI, rL, rI2, rL1, nI_add, pk_mul, sbT, dvT, nmd, ixT, ↓ibT, ltT, ltF, leT, leF, eqT, eqF, nM_ltT, nM_ltF, nM_leT, nM_leF, nM_eqF, nM_eqF', nbT0, nbT1, oI_s, oI_n, natF, natT, nltT, nltF, nleT, nleF, ↓reduceIte, lgc, not_true_eq_false, not_false_eq_true, or_false, false_or, or_true, true_or, and_true, true_and, and_false, false_and, ne_eq, eq_self, or_self, and_self, obs, ↓jn, ↓lt, ↓reduceIte, decide_true, decide_false, Bool.false_eq_true, Bool.and_true, Bool.and_false, Bool.true_and, Bool.false_and, Bool.or_false, Bool.false_or, Bool.or_true, Bool.true_or, e]
    rw [ht]
    rw [av_nbl (bt := bt) (Or.inl hx)]
  · have hgv := gv_of e
    rw [show GT 17 = 0 from rfl] at hgv
    have htk := tk_of e (by omega)
    rw [show TK 17 = 1 from rfl] at htk
    have hx := (hR.2.2.1 (by omega)).1
    rw [hL] at hx
    have hv := hs (8 + dpn m b - 1) (by omega)
    rw [if_pos (by omega)] at hv
    have hbv : bhS m o K b s = wn (wn s (xN m b) (nbl s (8 + dpn m b - 1))) (8 + dpn m b - 1) 0 := by
      unfold bhS
      simp (disch := first | omega | decide) only [↓neg1, nlit, rI, rL, rI2, rL1, nI_add, pk_mul, sbT, dvT, nmd, ixT, ↓ibT, ltT, ltF, leT, leF, eqT, eqF, nM_ltT, nM_ltF, nM_leT, nM_leF, nM_eqF, nM_eqF', nbT0, nbT1, oI_s, oI_n, natF, natT, nltT, nltF, nleT, nleF, ↓reduceIte, lgc, not_true_eq_false, not_false_eq_true, or_false, false_or, or_true, true_or, and_true, true_and, and_false, false_and, ne_eq, eq_self, or_self, and_self, obs, ↓jn, ↓lt, ↓reduceIte, decide_true, decide_false, Bool.false_eq_true, Bool.and_true, Bool.and_false, Bool.true_and, Bool.false_and, Bool.or_false, Bool.false_or, Bool.or_true, Bool.true_or, e]
    rw [hbv]
    have hs1 : WFs E l (dpn m b) (wn s (xN m b) (nbl s (8 + dpn m b - 1))) := WF_set hs (by omega) (by omega) (fun _ => by omega) (fun z => by omega) (fun j hj hne => by omega)
    refine ⟨WF_set hs1 (by omega) (by omega) (fun z => by omega) (fun z => rfl) (fun j hj hne => by omega), fun j hj => ?_⟩
    rw [av_wn (by omega) (by omega) (by omega) (by omega), if_neg (by omega), av_wn (by omega) (by omega) (by omega) (by omega)]
    have ht : trN m o K b (av l bt s) j = if j = xN m b then av l bt s (8 + dpn m b - 1) else av l bt s j := by
      unfold trN
      simp (disch := first | omega | decide) only [↓neg1, nlit, rI, rL, rI2, rL1, nI_add, pk_mul, sbT, dvT, nmd, ixT, ↓ibT, ltT, ltF, leT, leF, eqT, eqF, nM_ltT, nM_ltF, nM_leT, nM_leF, nM_eqF, nM_eqF', nbT0, nbT1, oI_s, oI_n, natF, natT, nltT, nltF, nleT, nleF, ↓reduceIte, lgc, not_true_eq_false, not_false_eq_true, or_false, false_or, or_true, true_or, and_true, true_and, and_false, false_and, ne_eq, eq_self, or_self, and_self, obs, ↓jn, ↓lt, ↓reduceIte, decide_true, decide_false, Bool.false_eq_true, Bool.and_true, Bool.and_false, Bool.true_and, Bool.false_and, Bool.or_false, Bool.false_or, Bool.or_true, Bool.true_or, e]
    rw [ht, av_nbl (l := l) (bt := bt) (j := 8 + dpn m b - 1) (by omega)]
  · have hgv := gv_of e
    rw [show GT 18 = 1 from rfl] at hgv
    have htk := tk_of e (by omega)
    rw [show TK 18 = 0 from rfl] at htk
    have hv := hK _ _ (place_f hC (hR.2.2.2.1 (by omega)).1 (hR.2.2.2.1 (by omega)).2.1) (by omega)
    rw [hE] at hv
    have hbv : bhS m o K b s = wn s (8 + dpn m b) (K (100 * xN m b + 1 + yN m b)) := by
      unfold bhS
      simp (disch := first | omega | decide) only [↓neg1, nlit, rI, rL, rI2, rL1, nI_add, pk_mul, sbT, dvT, nmd, ixT, ↓ibT, ltT, ltF, leT, leF, eqT, eqF, nM_ltT, nM_ltF, nM_leT, nM_leF, nM_eqF, nM_eqF', nbT0, nbT1, oI_s, oI_n, natF, natT, nltT, nltF, nleT, nleF, ↓reduceIte, lgc, not_true_eq_false, not_false_eq_true, or_false, false_or, or_true, true_or, and_true, true_and, and_false, false_and, ne_eq, eq_self, or_self, and_self, obs, ↓jn, ↓lt, ↓reduceIte, decide_true, decide_false, Bool.false_eq_true, Bool.and_true, Bool.and_false, Bool.true_and, Bool.false_and, Bool.or_false, Bool.false_or, Bool.or_true, Bool.true_or, e]
    rw [hbv]
    refine ⟨WF_set hs (by omega) (by omega) (fun _ => by omega) (fun z => by omega) (fun j hj hne => by omega), fun j hj => ?_⟩
    rw [av_wn (by omega) (by omega) (by omega) (by omega)]
    have ht : trN m o K b (av l bt s) j = if j = 8 + dpn m b then K (100 * xN m b + 1 + yN m b) else av l bt s j := by
      unfold trN
      simp (disch := first | omega | decide) only [↓neg1, nlit, rI, rL, rI2, rL1, nI_add, pk_mul, sbT, dvT, nmd, ixT, ↓ibT, ltT, ltF, leT, leF, eqT, eqF, nM_ltT, nM_ltF, nM_leT, nM_leF, nM_eqF, nM_eqF', nbT0, nbT1, oI_s, oI_n, natF, natT, nltT, nltF, nleT, nleF, ↓reduceIte, lgc, not_true_eq_false, not_false_eq_true, or_false, false_or, or_true, true_or, and_true, true_and, and_false, false_and, ne_eq, eq_self, or_self, and_self, obs, ↓jn, ↓lt, ↓reduceIte, decide_true, decide_false, Bool.false_eq_true, Bool.and_true, Bool.and_false, Bool.true_and, Bool.false_and, Bool.or_false, Bool.false_or, Bool.or_true, Bool.true_or, e]
    rw [ht]
  · have hgv := gv_of e
    rw [show GT 19 = 0 from rfl] at hgv
    have htk := tk_of e (by omega)
    rw [show TK 19 = 1 from rfl] at htk
    have hbv : bhS m o K b s = wn s (8 + dpn m b - 1) 0 := by
      unfold bhS
      simp (disch := first | omega | decide) only [↓neg1, nlit, rI, rL, rI2, rL1, nI_add, pk_mul, sbT, dvT, nmd, ixT, ↓ibT, ltT, ltF, leT, leF, eqT, eqF, nM_ltT, nM_ltF, nM_leT, nM_leF, nM_eqF, nM_eqF', nbT0, nbT1, oI_s, oI_n, natF, natT, nltT, nltF, nleT, nleF, ↓reduceIte, lgc, not_true_eq_false, not_false_eq_true, or_false, false_or, or_true, true_or, and_true, true_and, and_false, false_and, ne_eq, eq_self, or_self, and_self, obs, ↓jn, ↓lt, ↓reduceIte, decide_true, decide_false, Bool.false_eq_true, Bool.and_true, Bool.and_false, Bool.true_and, Bool.false_and, Bool.or_false, Bool.false_or, Bool.or_true, Bool.true_or, e]
    rw [hbv]
    refine ⟨WF_set hs (by omega) (by omega) (fun z => by omega) (fun z => rfl) (fun j hj hne => by omega), fun j hj => ?_⟩
    rw [av_wn (by omega) (by omega) (by omega) (by omega), if_neg (by omega)]
    have ht : trN m o K b (av l bt s) j = av l bt s j := by
      unfold trN
      simp (disch := first | omega | decide) only [↓neg1, nlit, rI, rL, rI2, rL1, nI_add, pk_mul, sbT, dvT, nmd, ixT, ↓ibT, ltT, ltF, leT, leF, eqT, eqF, nM_ltT, nM_ltF, nM_leT, nM_leF, nM_eqF, nM_eqF', nbT0, nbT1, oI_s, oI_n, natF, natT, nltT, nltF, nleT, nleF, ↓reduceIte, lgc, not_true_eq_false, not_false_eq_true, or_false, false_or, or_true, true_or, and_true, true_and, and_false, false_and, ne_eq, eq_self, or_self, and_self, obs, ↓jn, ↓lt, ↓reduceIte, decide_true, decide_false, Bool.false_eq_true, Bool.and_true, Bool.and_false, Bool.true_and, Bool.false_and, Bool.or_false, Bool.false_or, Bool.or_true, Bool.true_or, e]
    rw [ht]
  · have hgv := gv_of e
    rw [show GT 20 = 1 from rfl] at hgv
    have htk := tk_20 e
    have hv := hK _ _ (place_m hC (hR.2.2.2.2.1 e).1 (hR.2.2.2.2.1 e).2.1) (by omega)
    rw [hE] at hv
    have hbv : bhS m o K b s = wn (clr s (8 + dpn m b - pM m (8 * xN m b + yN m b)) (pM m (8 * xN m b + yN m b))) (8 + dpn m b - pM m (8 * xN m b + yN m b)) (K (100 * xN m b + 20 + 10 * yN m b)) := by
      unfold bhS
      simp (disch := first | omega | decide) only [↓neg1, nlit, rI, rL, rI2, rL1, nI_add, pk_mul, sbT, dvT, nmd, ixT, ↓ibT, ltT, ltF, leT, leF, eqT, eqF, nM_ltT, nM_ltF, nM_leT, nM_leF, nM_eqF, nM_eqF', nbT0, nbT1, oI_s, oI_n, natF, natT, nltT, nltF, nleT, nleF, ↓reduceIte, lgc, not_true_eq_false, not_false_eq_true, or_false, false_or, or_true, true_or, and_true, true_and, and_false, false_and, ne_eq, eq_self, or_self, and_self, obs, ↓jn, ↓lt, ↓reduceIte, decide_true, decide_false, Bool.false_eq_true, Bool.and_true, Bool.and_false, Bool.true_and, Bool.false_and, Bool.or_false, Bool.false_or, Bool.or_true, Bool.true_or, e]
    rw [hbv]
    have hs1 := WF_clr (f := 8 + dpn m b - pM m (8 * xN m b + yN m b)) (k := pM m (8 * xN m b + yN m b)) hs (by omega) (by omega) (by omega) hl
    refine ⟨WF_set hs1 (by omega) (by omega) (fun z => by omega) (fun z => by omega) (fun j hj hne => by omega), fun j hj => ?_⟩
    rw [av_wn (by omega) (by omega) (by omega) (by omega)]
    have ht : trN m o K b (av l bt s) j = if j = 8 + dpn m b - pM m (8 * xN m b + yN m b) then K (100 * xN m b + 20 + 10 * yN m b) else av l bt s j := by
      unfold trN
      simp (disch := first | omega | decide) only [↓neg1, nlit, rI, rL, rI2, rL1, nI_add, pk_mul, sbT, dvT, nmd, ixT, ↓ibT, ltT, ltF, leT, leF, eqT, eqF, nM_ltT, nM_ltF, nM_leT, nM_leF, nM_eqF, nM_eqF', nbT0, nbT1, oI_s, oI_n, natF, natT, nltT, nltF, nleT, nleF, ↓reduceIte, lgc, not_true_eq_false, not_false_eq_true, or_false, false_or, or_true, true_or, and_true, true_and, and_false, false_and, ne_eq, eq_self, or_self, and_self, obs, ↓jn, ↓lt, ↓reduceIte, decide_true, decide_false, Bool.false_eq_true, Bool.and_true, Bool.and_false, Bool.true_and, Bool.false_and, Bool.or_false, Bool.false_or, Bool.or_true, Bool.true_or, e]
    rw [ht]
    by_cases hj2 : j = 8 + dpn m b - pM m (8 * xN m b + yN m b)
    · rw [if_pos hj2, if_pos hj2]
    · rw [if_neg hj2, if_neg hj2, av_clr (by omega) (by omega) (by omega), if_neg (by omega)]
  · exact absurd e h21
  · have hgv := gv_of e
    rw [show GT 22 = 1 from rfl] at hgv
    have htk := tk_of e (by omega)
    rw [show TK 22 = 2 from rfl] at htk
    have u1 := hs (8 + dpn m b - 2) (by omega)
    rw [if_pos (by omega)] at u1
    have u2 := hs (8 + dpn m b - 1) (by omega)
    rw [if_pos (by omega)] at u2
    have hv := (LA_J hLA u1 u2).1
    have hbv : bhS m o K b s = wn (wn s (8 + dpn m b - 2) (Jo m o (nbl s (8 + dpn m b - 2)) (nbl s (8 + dpn m b - 1)))) (8 + dpn m b - 1) 0 := by
      unfold bhS
      simp (disch := first | omega | decide) only [↓neg1, nlit, rI, rL, rI2, rL1, nI_add, pk_mul, sbT, dvT, nmd, ixT, ↓ibT, ltT, ltF, leT, leF, eqT, eqF, nM_ltT, nM_ltF, nM_leT, nM_leF, nM_eqF, nM_eqF', nbT0, nbT1, oI_s, oI_n, natF, natT, nltT, nltF, nleT, nleF, ↓reduceIte, lgc, not_true_eq_false, not_false_eq_true, or_false, false_or, or_true, true_or, and_true, true_and, and_false, false_and, ne_eq, eq_self, or_self, and_self, obs, ↓jn, ↓lt, ↓reduceIte, decide_true, decide_false, Bool.false_eq_true, Bool.and_true, Bool.and_false, Bool.true_and, Bool.false_and, Bool.or_false, Bool.false_or, Bool.or_true, Bool.true_or, e]
    rw [hbv]
    have hs1 : WFs E l (dpn m b) (wn s (8 + dpn m b - 2) (Jo m o (nbl s (8 + dpn m b - 2)) (nbl s (8 + dpn m b - 1)))) := WF_set hs (by omega) (by omega) (fun _ => by omega) (fun z => by omega) (fun j hj hne => by omega)
    refine ⟨WF_set hs1 (by omega) (by omega) (fun z => by omega) (fun z => rfl) (fun j hj hne => by omega), fun j hj => ?_⟩
    rw [av_wn (by omega) (by omega) (by omega) (by omega), if_neg (by omega), av_wn (by omega) (by omega) (by omega) (by omega)]
    have ht : trN m o K b (av l bt s) j = if j = 8 + dpn m b - 2 then Jo m o (av l bt s (8 + dpn m b - 2)) (av l bt s (8 + dpn m b - 1)) else av l bt s j := by
      unfold trN
      simp (disch := first | omega | decide) only [↓neg1, nlit, rI, rL, rI2, rL1, nI_add, pk_mul, sbT, dvT, nmd, ixT, ↓ibT, ltT, ltF, leT, leF, eqT, eqF, nM_ltT, nM_ltF, nM_leT, nM_leF, nM_eqF, nM_eqF', nbT0, nbT1, oI_s, oI_n, natF, natT, nltT, nltF, nleT, nleF, ↓reduceIte, lgc, not_true_eq_false, not_false_eq_true, or_false, false_or, or_true, true_or, and_true, true_and, and_false, false_and, ne_eq, eq_self, or_self, and_self, obs, ↓jn, ↓lt, ↓reduceIte, decide_true, decide_false, Bool.false_eq_true, Bool.and_true, Bool.and_false, Bool.true_and, Bool.false_and, Bool.or_false, Bool.false_or, Bool.or_true, Bool.true_or, e]
    rw [ht, av_nbl (l := l) (bt := bt) (j := 8 + dpn m b - 1) (by omega), av_nbl (l := l) (bt := bt) (j := 8 + dpn m b - 2) (by omega)]
  · have hgv := gv_of e
    rw [show GT 23 = 1 from rfl] at hgv
    have htk := tk_of e (by omega)
    rw [show TK 23 = 2 from rfl] at htk
    have u1 := hs (8 + dpn m b - 2) (by omega)
    rw [if_pos (by omega)] at u1
    have u2 := hs (8 + dpn m b - 1) (by omega)
    rw [if_pos (by omega)] at u2
    have hv := (LA_J hLA u1 u2).1
    have hbv : bhS m o K b s = wn (wn s (8 + dpn m b - 2) (Jo m o (nbl s (8 + dpn m b - 2)) (nbl s (8 + dpn m b - 1)))) (8 + dpn m b - 1) 0 := by
      unfold bhS
      simp (disch := first | omega | decide) only [↓neg1, nlit, rI, rL, rI2, rL1, nI_add, pk_mul, sbT, dvT, nmd, ixT, ↓ibT, ltT, ltF, leT, leF, eqT, eqF, nM_ltT, nM_ltF, nM_leT, nM_leF, nM_eqF, nM_eqF', nbT0, nbT1, oI_s, oI_n, natF, natT, nltT, nltF, nleT, nleF, ↓reduceIte, lgc, not_true_eq_false, not_false_eq_true, or_false, false_or, or_true, true_or, and_true, true_and, and_false, false_and, ne_eq, eq_self, or_self, and_self, obs, ↓jn, ↓lt, ↓reduceIte, decide_true, decide_false, Bool.false_eq_true, Bool.and_true, Bool.and_false, Bool.true_and, Bool.false_and, Bool.or_false, Bool.false_or, Bool.or_true, Bool.true_or, e]
    rw [hbv]
    have hs1 : WFs E l (dpn m b) (wn s (8 + dpn m b - 2) (Jo m o (nbl s (8 + dpn m b - 2)) (nbl s (8 + dpn m b - 1)))) := WF_set hs (by omega) (by omega) (fun _ => by omega) (fun z => by omega) (fun j hj hne => by omega)
    refine ⟨WF_set hs1 (by omega) (by omega) (fun z => by omega) (fun z => rfl) (fun j hj hne => by omega), fun j hj => ?_⟩
    rw [av_wn (by omega) (by omega) (by omega) (by omega), if_neg (by omega), av_wn (by omega) (by omega) (by omega) (by omega)]
    have ht : trN m o K b (av l bt s) j = if j = 8 + dpn m b - 2 then Jo m o (av l bt s (8 + dpn m b - 2)) (av l bt s (8 + dpn m b - 1)) else av l bt s j := by
      unfold trN
      simp (disch := first | omega | decide) only [↓neg1, nlit, rI, rL, rI2, rL1, nI_add, pk_mul, sbT, dvT, nmd, ixT, ↓ibT, ltT, ltF, leT, leF, eqT, eqF, nM_ltT, nM_ltF, nM_leT, nM_leF, nM_eqF, nM_eqF', nbT0, nbT1, oI_s, oI_n, natF, natT, nltT, nltF, nleT, nleF, ↓reduceIte, lgc, not_true_eq_false, not_false_eq_true, or_false, false_or, or_true, true_or, and_true, true_and, and_false, false_and, ne_eq, eq_self, or_self, and_self, obs, ↓jn, ↓lt, ↓reduceIte, decide_true, decide_false, Bool.false_eq_true, Bool.and_true, Bool.and_false, Bool.true_and, Bool.false_and, Bool.or_false, Bool.false_or, Bool.or_true, Bool.true_or, e]
    rw [ht, av_nbl (l := l) (bt := bt) (j := 8 + dpn m b - 1) (by omega), av_nbl (l := l) (bt := bt) (j := 8 + dpn m b - 2) (by omega)]
  · have hgv := gv_of e
    rw [show GT 24 = 1 from rfl] at hgv
    have htk := tk_of e (by omega)
    rw [show TK 24 = 2 from rfl] at htk
    have u1 := hs (8 + dpn m b - 2) (by omega)
    rw [if_pos (by omega)] at u1
    have u2 := hs (8 + dpn m b - 1) (by omega)
    rw [if_pos (by omega)] at u2
    have hv := (LA_J hLA u1 u2).1
    have hbv : bhS m o K b s = wn (wn s (8 + dpn m b - 2) (Jo m o (nbl s (8 + dpn m b - 2)) (nbl s (8 + dpn m b - 1)))) (8 + dpn m b - 1) 0 := by
      unfold bhS
      simp (disch := first | omega | decide) only [↓neg1, nlit, rI, rL, rI2, rL1, nI_add, pk_mul, sbT, dvT, nmd, ixT, ↓ibT, ltT, ltF, leT, leF, eqT, eqF, nM_ltT, nM_ltF, nM_leT, nM_leF, nM_eqF, nM_eqF', nbT0, nbT1, oI_s, oI_n, natF, natT, nltT, nltF, nleT, nleF, ↓reduceIte, lgc, not_true_eq_false, not_false_eq_true, or_false, false_or, or_true, true_or, and_true, true_and, and_false, false_and, ne_eq, eq_self, or_self, and_self, obs, ↓jn, ↓lt, ↓reduceIte, decide_true, decide_false, Bool.false_eq_true, Bool.and_true, Bool.and_false, Bool.true_and, Bool.false_and, Bool.or_false, Bool.false_or, Bool.or_true, Bool.true_or, e]
    rw [hbv]
    have hs1 : WFs E l (dpn m b) (wn s (8 + dpn m b - 2) (Jo m o (nbl s (8 + dpn m b - 2)) (nbl s (8 + dpn m b - 1)))) := WF_set hs (by omega) (by omega) (fun _ => by omega) (fun z => by omega) (fun j hj hne => by omega)
    refine ⟨WF_set hs1 (by omega) (by omega) (fun z => by omega) (fun z => rfl) (fun j hj hne => by omega), fun j hj => ?_⟩
    rw [av_wn (by omega) (by omega) (by omega) (by omega), if_neg (by omega), av_wn (by omega) (by omega) (by omega) (by omega)]
    have ht : trN m o K b (av l bt s) j = if j = 8 + dpn m b - 2 then Jo m o (av l bt s (8 + dpn m b - 2)) (av l bt s (8 + dpn m b - 1)) else av l bt s j := by
      unfold trN
      simp (disch := first | omega | decide) only [↓neg1, nlit, rI, rL, rI2, rL1, nI_add, pk_mul, sbT, dvT, nmd, ixT, ↓ibT, ltT, ltF, leT, leF, eqT, eqF, nM_ltT, nM_ltF, nM_leT, nM_leF, nM_eqF, nM_eqF', nbT0, nbT1, oI_s, oI_n, natF, natT, nltT, nltF, nleT, nleF, ↓reduceIte, lgc, not_true_eq_false, not_false_eq_true, or_false, false_or, or_true, true_or, and_true, true_and, and_false, false_and, ne_eq, eq_self, or_self, and_self, obs, ↓jn, ↓lt, ↓reduceIte, decide_true, decide_false, Bool.false_eq_true, Bool.and_true, Bool.and_false, Bool.true_and, Bool.false_and, Bool.or_false, Bool.false_or, Bool.or_true, Bool.true_or, e]
    rw [ht, av_nbl (l := l) (bt := bt) (j := 8 + dpn m b - 1) (by omega), av_nbl (l := l) (bt := bt) (j := 8 + dpn m b - 2) (by omega)]
  · have hgv := gv_of e
    rw [show GT 25 = 2 from rfl] at hgv
    have htk := tk_of e (by omega)
    rw [show TK 25 = 1 from rfl] at htk
    have hv := hs (8 + dpn m b - 1) (by omega)
    rw [if_pos (by omega)] at hv
    have hbv : bhS m o K b s = wn s (8 + dpn m b) (nbl s (8 + dpn m b - 1)) := by
      unfold bhS
      simp (disch := first | omega | decide) only [↓neg1, nlit, rI, rL, rI2, rL1, nI_add, pk_mul, sbT, dvT, nmd, ixT, ↓ibT, ltT, ltF, leT, leF, eqT, eqF, nM_ltT, nM_ltF, nM_leT, nM_leF, nM_eqF, nM_eqF', nbT0, nbT1, oI_s, oI_n, natF, natT, nltT, nltF, nleT, nleF, ↓reduceIte, lgc, not_true_eq_false, not_false_eq_true, or_false, false_or, or_true, true_or, and_true, true_and, and_false, false_and, ne_eq, eq_self, or_self, and_self, obs, ↓jn, ↓lt, ↓reduceIte, decide_true, decide_false, Bool.false_eq_true, Bool.and_true, Bool.and_false, Bool.true_and, Bool.false_and, Bool.or_false, Bool.false_or, Bool.or_true, Bool.true_or, e]
    rw [hbv]
    refine ⟨WF_set hs (by omega) (by omega) (fun _ => by omega) (fun z => by omega) (fun j hj hne => by omega), fun j hj => ?_⟩
    rw [av_wn (by omega) (by omega) (by omega) (by omega)]
    have ht : trN m o K b (av l bt s) j = if j = 8 + dpn m b then av l bt s (8 + dpn m b - 1) else av l bt s j := by
      unfold trN
      simp (disch := first | omega | decide) only [↓neg1, nlit, rI, rL, rI2, rL1, nI_add, pk_mul, sbT, dvT, nmd, ixT, ↓ibT, ltT, ltF, leT, leF, eqT, eqF, nM_ltT, nM_ltF, nM_leT, nM_leF, nM_eqF, nM_eqF', nbT0, nbT1, oI_s, oI_n, natF, natT, nltT, nltF, nleT, nleF, ↓reduceIte, lgc, not_true_eq_false, not_false_eq_true, or_false, false_or, or_true, true_or, and_true, true_and, and_false, false_and, ne_eq, eq_self, or_self, and_self, obs, ↓jn, ↓lt, ↓reduceIte, decide_true, decide_false, Bool.false_eq_true, Bool.and_true, Bool.and_false, Bool.true_and, Bool.false_and, Bool.or_false, Bool.false_or, Bool.or_true, Bool.true_or, e]
    rw [ht]
    rw [av_nbl (l := l) (bt := bt) (j := 8 + dpn m b - 1) (by omega)]
  · have hgv := gv_of e
    rw [show GT 26 = 0 from rfl] at hgv
    have htk := tk_of e (by omega)
    rw [show TK 26 = 1 from rfl] at htk
    have hbv : bhS m o K b s = wn s (8 + dpn m b - 1) 0 := by
      unfold bhS
      simp (disch := first | omega | decide) only [↓neg1, nlit, rI, rL, rI2, rL1, nI_add, pk_mul, sbT, dvT, nmd, ixT, ↓ibT, ltT, ltF, leT, leF, eqT, eqF, nM_ltT, nM_ltF, nM_leT, nM_leF, nM_eqF, nM_eqF', nbT0, nbT1, oI_s, oI_n, natF, natT, nltT, nltF, nleT, nleF, ↓reduceIte, lgc, not_true_eq_false, not_false_eq_true, or_false, false_or, or_true, true_or, and_true, true_and, and_false, false_and, ne_eq, eq_self, or_self, and_self, obs, ↓jn, ↓lt, ↓reduceIte, decide_true, decide_false, Bool.false_eq_true, Bool.and_true, Bool.and_false, Bool.true_and, Bool.false_and, Bool.or_false, Bool.false_or, Bool.or_true, Bool.true_or, e]
    rw [hbv]
    refine ⟨WF_set hs (by omega) (by omega) (fun z => by omega) (fun z => rfl) (fun j hj hne => by omega), fun j hj => ?_⟩
    rw [av_wn (by omega) (by omega) (by omega) (by omega), if_neg (by omega)]
    have ht : trN m o K b (av l bt s) j = av l bt s j := by
      unfold trN
      simp (disch := first | omega | decide) only [↓neg1, nlit, rI, rL, rI2, rL1, nI_add, pk_mul, sbT, dvT, nmd, ixT, ↓ibT, ltT, ltF, leT, leF, eqT, eqF, nM_ltT, nM_ltF, nM_leT, nM_leF, nM_eqF, nM_eqF', nbT0, nbT1, oI_s, oI_n, natF, natT, nltT, nltF, nleT, nleF, ↓reduceIte, lgc, not_true_eq_false, not_false_eq_true, or_false, false_or, or_true, true_or, and_true, true_and, and_false, false_and, ne_eq, eq_self, or_self, and_self, obs, ↓jn, ↓lt, ↓reduceIte, decide_true, decide_false, Bool.false_eq_true, Bool.and_true, Bool.and_false, Bool.true_and, Bool.false_and, Bool.or_false, Bool.false_or, Bool.or_true, Bool.true_or, e]
    rw [ht]
  · have hgv := gv_of e
    rw [show GT 27 = 0 from rfl] at hgv
    have htk := tk_of e (by omega)
    rw [show TK 27 = 0 from rfl] at htk
    have hbv : bhS m o K b s = s := by
      unfold bhS
      simp (disch := first | omega | decide) only [↓neg1, nlit, rI, rL, rI2, rL1, nI_add, pk_mul, sbT, dvT, nmd, ixT, ↓ibT, ltT, ltF, leT, leF, eqT, eqF, nM_ltT, nM_ltF, nM_leT, nM_leF, nM_eqF, nM_eqF', nbT0, nbT1, oI_s, oI_n, natF, natT, nltT, nltF, nleT, nleF, ↓reduceIte, lgc, not_true_eq_false, not_false_eq_true, or_false, false_or, or_true, true_or, and_true, true_and, and_false, false_and, ne_eq, eq_self, or_self, and_self, obs, ↓jn, ↓lt, ↓reduceIte, decide_true, decide_false, Bool.false_eq_true, Bool.and_true, Bool.and_false, Bool.true_and, Bool.false_and, Bool.or_false, Bool.false_or, Bool.or_true, Bool.true_or, e]
    rw [hbv]
    have ht : ∀ j, trN m o K b (av l bt s) j = av l bt s j := by
      intro j
      unfold trN
      simp (disch := first | omega | decide) only [↓neg1, nlit, rI, rL, rI2, rL1, nI_add, pk_mul, sbT, dvT, nmd, ixT, ↓ibT, ltT, ltF, leT, leF, eqT, eqF, nM_ltT, nM_ltF, nM_leT, nM_leF, nM_eqF, nM_eqF', nbT0, nbT1, oI_s, oI_n, natF, natT, nltT, nltF, nleT, nleF, ↓reduceIte, lgc, not_true_eq_false, not_false_eq_true, or_false, false_or, or_true, true_or, and_true, true_and, and_false, false_and, ne_eq, eq_self, or_self, and_self, obs, ↓jn, ↓lt, ↓reduceIte, decide_true, decide_false, Bool.false_eq_true, Bool.and_true, Bool.and_false, Bool.true_and, Bool.false_and, Bool.or_false, Bool.false_or, Bool.or_true, Bool.true_or, e]
    refine ⟨?_, fun j hj => (ht j).symm⟩
    rw [show dpn m b - tkn m b + gvn m b = dpn m b by omega]
    exact hs
  · have hgv := gv_of e
    rw [show GT 28 = 0 from rfl] at hgv
    have htk := tk_of e (by omega)
    rw [show TK 28 = 1 from rfl] at htk
    have hbv : bhS m o K b s = wn s (8 + dpn m b - 1) 0 := by
      unfold bhS
      simp (disch := first | omega | decide) only [↓neg1, nlit, rI, rL, rI2, rL1, nI_add, pk_mul, sbT, dvT, nmd, ixT, ↓ibT, ltT, ltF, leT, leF, eqT, eqF, nM_ltT, nM_ltF, nM_leT, nM_leF, nM_eqF, nM_eqF', nbT0, nbT1, oI_s, oI_n, natF, natT, nltT, nltF, nleT, nleF, ↓reduceIte, lgc, not_true_eq_false, not_false_eq_true, or_false, false_or, or_true, true_or, and_true, true_and, and_false, false_and, ne_eq, eq_self, or_self, and_self, obs, ↓jn, ↓lt, ↓reduceIte, decide_true, decide_false, Bool.false_eq_true, Bool.and_true, Bool.and_false, Bool.true_and, Bool.false_and, Bool.or_false, Bool.false_or, Bool.or_true, Bool.true_or, e]
    rw [hbv]
    refine ⟨WF_set hs (by omega) (by omega) (fun z => by omega) (fun z => rfl) (fun j hj hne => by omega), fun j hj => ?_⟩
    rw [av_wn (by omega) (by omega) (by omega) (by omega), if_neg (by omega)]
    have ht : trN m o K b (av l bt s) j = av l bt s j := by
      unfold trN
      simp (disch := first | omega | decide) only [↓neg1, nlit, rI, rL, rI2, rL1, nI_add, pk_mul, sbT, dvT, nmd, ixT, ↓ibT, ltT, ltF, leT, leF, eqT, eqF, nM_ltT, nM_ltF, nM_leT, nM_leF, nM_eqF, nM_eqF', nbT0, nbT1, oI_s, oI_n, natF, natT, nltT, nltF, nleT, nleF, ↓reduceIte, lgc, not_true_eq_false, not_false_eq_true, or_false, false_or, or_true, true_or, and_true, true_and, and_false, false_and, ne_eq, eq_self, or_self, and_self, obs, ↓jn, ↓lt, ↓reduceIte, decide_true, decide_false, Bool.false_eq_true, Bool.and_true, Bool.and_false, Bool.true_and, Bool.false_and, Bool.or_false, Bool.false_or, Bool.or_true, Bool.true_or, e]
    rw [ht]
  · have hgv := gv_of e
    rw [show GT 29 = 1 from rfl] at hgv
    have htk := tk_of e (by omega)
    rw [show TK 29 = 1 from rfl] at htk
    have hbv : bhS m o K b s = s := by
      unfold bhS
      simp (disch := first | omega | decide) only [↓neg1, nlit, rI, rL, rI2, rL1, nI_add, pk_mul, sbT, dvT, nmd, ixT, ↓ibT, ltT, ltF, leT, leF, eqT, eqF, nM_ltT, nM_ltF, nM_leT, nM_leF, nM_eqF, nM_eqF', nbT0, nbT1, oI_s, oI_n, natF, natT, nltT, nltF, nleT, nleF, ↓reduceIte, lgc, not_true_eq_false, not_false_eq_true, or_false, false_or, or_true, true_or, and_true, true_and, and_false, false_and, ne_eq, eq_self, or_self, and_self, obs, ↓jn, ↓lt, ↓reduceIte, decide_true, decide_false, Bool.false_eq_true, Bool.and_true, Bool.and_false, Bool.true_and, Bool.false_and, Bool.or_false, Bool.false_or, Bool.or_true, Bool.true_or, e]
    rw [hbv]
    have ht : ∀ j, trN m o K b (av l bt s) j = av l bt s j := by
      intro j
      unfold trN
      simp (disch := first | omega | decide) only [↓neg1, nlit, rI, rL, rI2, rL1, nI_add, pk_mul, sbT, dvT, nmd, ixT, ↓ibT, ltT, ltF, leT, leF, eqT, eqF, nM_ltT, nM_ltF, nM_leT, nM_leF, nM_eqF, nM_eqF', nbT0, nbT1, oI_s, oI_n, natF, natT, nltT, nltF, nleT, nleF, ↓reduceIte, lgc, not_true_eq_false, not_false_eq_true, or_false, false_or, or_true, true_or, and_true, true_and, and_false, false_and, ne_eq, eq_self, or_self, and_self, obs, ↓jn, ↓lt, ↓reduceIte, decide_true, decide_false, Bool.false_eq_true, Bool.and_true, Bool.and_false, Bool.true_and, Bool.false_and, Bool.or_false, Bool.false_or, Bool.or_true, Bool.true_or, e]
    refine ⟨?_, fun j hj => (ht j).symm⟩
    rw [show dpn m b - tkn m b + gvn m b = dpn m b by omega]
    exact hs
  · have hgv := gv_of e
    rw [show GT 30 = 1 from rfl] at hgv
    have htk := tk_of e (by omega)
    rw [show TK 30 = 1 from rfl] at htk
    have x2 := (hR.2.2.2.2.2.1 (by omega)).2.1
    by_cases hx : xN m b = o
    · rw [hx, hE] at x2
      have hbv : bhS m o K b s = wn s (8 + dpn m b - 1) (yN m b) := by
        unfold bhS
        simp (disch := first | omega | decide) only [↓neg1, nlit, rI, rL, rI2, rL1, nI_add, pk_mul, sbT, dvT, nmd, ixT, ↓ibT, ltT, ltF, leT, leF, eqT, eqF, nM_ltT, nM_ltF, nM_leT, nM_leF, nM_eqF, nM_eqF', nbT0, nbT1, oI_s, oI_n, natF, natT, nltT, nltF, nleT, nleF, ↓reduceIte, lgc, not_true_eq_false, not_false_eq_true, or_false, false_or, or_true, true_or, and_true, true_and, and_false, false_and, ne_eq, eq_self, or_self, and_self, obs, ↓jn, ↓lt, ↓reduceIte, decide_true, decide_false, Bool.false_eq_true, Bool.and_true, Bool.and_false, Bool.true_and, Bool.false_and, Bool.or_false, Bool.false_or, Bool.or_true, Bool.true_or, e, hx]
      rw [hbv]
      refine ⟨WF_set hs (by omega) (by omega) (fun _ => by omega) (fun z => by omega) (fun j hj hne => by omega), fun j hj => ?_⟩
      rw [av_wn (by omega) (by omega) (by omega) (by omega)]
      have ht : trN m o K b (av l bt s) j = if j = 8 + dpn m b - 1 then yN m b else av l bt s j := by
        unfold trN
        simp (disch := first | omega | decide) only [↓neg1, nlit, rI, rL, rI2, rL1, nI_add, pk_mul, sbT, dvT, nmd, ixT, ↓ibT, ltT, ltF, leT, leF, eqT, eqF, nM_ltT, nM_ltF, nM_leT, nM_leF, nM_eqF, nM_eqF', nbT0, nbT1, oI_s, oI_n, natF, natT, nltT, nltF, nleT, nleF, ↓reduceIte, lgc, not_true_eq_false, not_false_eq_true, or_false, false_or, or_true, true_or, and_true, true_and, and_false, false_and, ne_eq, eq_self, or_self, and_self, obs, ↓jn, ↓lt, ↓reduceIte, decide_true, decide_false, Bool.false_eq_true, Bool.and_true, Bool.and_false, Bool.true_and, Bool.false_and, Bool.or_false, Bool.false_or, Bool.or_true, Bool.true_or, e, hx]
      rw [ht]
    · have hbv : bhS m o K b s = s := by
        unfold bhS
        simp (disch := first | omega | decide) only [↓neg1, nlit, rI, rL, rI2, rL1, nI_add, pk_mul, sbT, dvT, nmd, ixT, ↓ibT, ltT, ltF, leT, leF, eqT, eqF, nM_ltT, nM_ltF, nM_leT, nM_leF, nM_eqF, nM_eqF', nbT0, nbT1, oI_s, oI_n, natF, natT, nltT, nltF, nleT, nleF, ↓reduceIte, lgc, not_true_eq_false, not_false_eq_true, or_false, false_or, or_true, true_or, and_true, true_and, and_false, false_and, ne_eq, eq_self, or_self, and_self, obs, ↓jn, ↓lt, ↓reduceIte, decide_true, decide_false, Bool.false_eq_true, Bool.and_true, Bool.and_false, Bool.true_and, Bool.false_and, Bool.or_false, Bool.false_or, Bool.or_true, Bool.true_or, e, hx]
      rw [hbv]
      have ht : ∀ j, trN m o K b (av l bt s) j = av l bt s j := by
        intro j
        unfold trN
        simp (disch := first | omega | decide) only [↓neg1, nlit, rI, rL, rI2, rL1, nI_add, pk_mul, sbT, dvT, nmd, ixT, ↓ibT, ltT, ltF, leT, leF, eqT, eqF, nM_ltT, nM_ltF, nM_leT, nM_leF, nM_eqF, nM_eqF', nbT0, nbT1, oI_s, oI_n, natF, natT, nltT, nltF, nleT, nleF, ↓reduceIte, lgc, not_true_eq_false, not_false_eq_true, or_false, false_or, or_true, true_or, and_true, true_and, and_false, false_and, ne_eq, eq_self, or_self, and_self, obs, ↓jn, ↓lt, ↓reduceIte, decide_true, decide_false, Bool.false_eq_true, Bool.and_true, Bool.and_false, Bool.true_and, Bool.false_and, Bool.or_false, Bool.false_or, Bool.or_true, Bool.true_or, e, hx]
      refine ⟨?_, fun j hj => (ht j).symm⟩
      rw [show dpn m b - tkn m b + gvn m b = dpn m b by omega]
      exact hs
