/-! FIND: the class, whole -/
def fpB (m : cS) (o p : Nat) : Bool := (match srt (ccn m) m p with | some s => decide (1 ≤ s) | none => false) && decide (tld m p o = none)
theorem fpB_t {m : cS} {o p : Nat} : fpB m o p = true ↔ (∃ s, isP m p s ∧ 1 ≤ s) ∧ tld m p o = none := by
  unfold fpB isP
  rw [Bool.and_eq_true, decide_eq_true_iff]
  refine and_congr ?_ Iff.rfl
  cases srt (ccn m) m p with
  | none => exact ⟨(fun z => by cases z), (fun ⟨s, z, _⟩ => by cases z)⟩
  | some s => exact ⟨fun z => ⟨s, rfl, of_decide_eq_true z⟩, fun ⟨t, z, h⟩ => by cases z; exact decide_eq_true h⟩
theorem srt_4 {cc p s : Nat} {m : cS} (h : srt cc m p = some s) : s < 4 := by
  unfold srt at h
  repeat' split at h
  all_goals first | (cases h; omega) | cases h
theorem e191 {n o : Nat} {c m : cS} (hn : 2000 ≤ n) (h0 : c.1 7 0 = nI 1) (hG : PG c m) (hT : TLS c m) (h8 : c.1 146 8 = nI 0) (hF : FDc m c) (ho : o < ocn m) : wp (d_191 n (nI o) c) (fun r => r.1 = nI (cntN (fpB m o) (100 * ccn m)) ∧ sx (q48 o) c r.2 ∧ ∀ p, r.2.1 148 (p * 4 + o) = if p < 100 * ccn m ∧ fpB m o p = true then nI (ix (m.1 188 o)) else c.1 148 (p * 4 + o)) := by
  have hC := hG.1.2.2.1
  have hcc := (CCS_p hC).1
  have ho4 := hG.1.1.1
  unfold d_191
  refine wpc (K' := fun r : Int32 × cS => r.1 = nI (cntN (fpB m o) (100 * ccn m)) ∧ sx (q48 o) c r.2 ∧ ∀ p, r.2.1 148 (p * 4 + o) = if p < 100 * ccn m ∧ fpB m o p = true then nI (ix (m.1 188 o)) else c.1 148 (p * 4 + o)) (whl_cnt (fun k (st : Int32 × Int32 × cS) => st.1 = nI (cntN (fpB m o) k) ∧ st.2.1 = nI k ∧ sx (q48 o) c st.2.2 ∧ ∀ p, st.2.2.1 148 (p * 4 + o) = if p < k ∧ fpB m o p = true then nI (ix (m.1 188 o)) else c.1 148 (p * 4 + o)) (100 * ccn m) ?_ ?_ (by omega) ⟨rfl, rfl, sx_rfl, fun p => by rw [if_neg (by omega)]⟩) (fun r hr => hr)
  · rintro k ⟨a, k0, w⟩ hk ⟨g1, g2, g3, g4⟩
    dsimp only at g1 g2 g3 g4
    subst g1 g2
    dsimp only
    have CA' : CA c w := CA_sx g3 ⟨fun a i h1 h2 h3 => decide_eq_false (by omega), fun i h => decide_eq_false (by omega)⟩
    have h710 : w.1 7 10 = nI (ccn m) := (g3.1 7 10 (decide_eq_false (by omega))).trans hC.1.2.1
    rw [h710, show (100 : Int32) * nI (ccn m) = nI (100 * ccn m) by rw [show (100 : Int32) = nI 100 from rfl, pk_mul]]
    refine wpf (by simp (disch := first | omega | decide) only [↓neg1, nlit, rI, rL, rI2, rL1, nI_add, pk_mul, sbT, dvT, nmd, ixT, ↓ibT, ltT, ltF, leT, leF, eqT, eqF, nM_ltT, nM_ltF, nM_leT, nM_leF, nM_eqF, nM_eqF', nbT0, nbT1, oI_s, oI_n, natF, natT, nltT, nltF, nleT, nleF, ↓reduceIte, lgc, not_true_eq_false, not_false_eq_true, or_false, false_or, or_true, true_or, and_true, true_and, and_false, false_and, ne_eq, eq_self, or_self, and_self]) ?_
    have h21 := e21 (n := n) (p := k) (by omega) ((g3.1 7 0 (decide_eq_false (by omega))).trans h0) (CCS_CA CA' hC).1
    refine wpe h21 ?_
    have hcn : cntN (fpB m o) (k + 1) = cntN (fpB m o) k + (if fpB m o k = true then 1 else 0) := rfl
    have hle := cntN_le (p := fpB m o) k
    refine wpjQ (fun z : Int32 × cS => z.1 = nI (cntN (fpB m o) (k + 1)) ∧ sx (q48 o) c z.2 ∧ ∀ p, z.2.1 148 (p * 4 + o) = if p < k + 1 ∧ fpB m o p = true then nI (ix (m.1 188 o)) else c.1 148 (p * 4 + o)) (fun z hz => wpl ⟨hz.1, nI_1 _, hz.2.1, hz.2.2⟩) ?_
    intro Q' k' hk'
    have skip : fpB m o k = false → wp (k' (nI (cntN (fpB m o) k), w)) Q' := by
      intro hf
      refine hk' _ ⟨?_, g3, fun p => ?_⟩
      · dsimp only
        rw [hcn, hf]
        rfl
      · dsimp only
        rw [g4]
        by_cases e : p = k
        · rw [if_neg (by omega), if_neg (fun z => by rw [e, hf] at z; cases z.2)]
        · by_cases e2 : p < k ∧ fpB m o p = true
          · rw [if_pos e2, if_pos ⟨by omega, e2.2⟩]
          · rw [if_neg e2, if_neg (fun z => e2 ⟨by omega, z.2⟩)]
    cases hs : srt (ccn m) m k with
    | none =>
      refine wpt (show nM ≤ 0 by decide) (skip ?_)
      unfold fpB
      rw [hs]
      rfl
    | some s =>
      have hs4 := srt_4 hs
      by_cases h1 : 1 ≤ s
      · refine wpf (show ¬ nI s ≤ 0 from fun z => by
          have := Int32.le_iff_toInt_le.mp z
          rw [nI_toInt (by omega), show (0 : Int32).toInt = 0 by decide] at this
          omega) ?_
        have h147 := hT.2 h8 k s o hs h1 ho
        rw [show nI k * 4 + nI o = nI (k * 4 + o) by rw [show (4 : Int32) = nI 4 from rfl, pk_mul, nI_add]]
        refine wpt (by simp (disch := first | omega | decide) only [↓neg1, nlit, rI, rL, rI2, rL1, nI_add, pk_mul, sbT, dvT, nmd, ixT, ↓ibT, ltT, ltF, leT, leF, eqT, eqF, nM_ltT, nM_ltF, nM_leT, nM_leF, nM_eqF, nM_eqF', nbT0, nbT1, oI_s, oI_n, natF, natT, nltT, nltF, nleT, nleF, ↓reduceIte, lgc, not_true_eq_false, not_false_eq_true, or_false, false_or, or_true, true_or, and_true, true_and, and_false, false_and, ne_eq, eq_self, or_self, and_self]) ?_
        rw [ix_n (by omega), g3.1 147 _ (decide_eq_false (by omega)), h147]
        cases ht : tld m k o with
        | some e =>
          have he := tld_lt hG.1.1 ho ht
          have hel := OOS_el hG.1.1 ho
          refine wpt (nI_pos' (by omega)) (skip ?_)
          unfold fpB
          rw [ht, decide_eq_false (fun z => by cases z), Bool.and_false]
        | none =>
          refine wpf (by decide) (wpt (by simp (disch := first | omega | decide) only [↓neg1, nlit, rI, rL, rI2, rL1, nI_add, pk_mul, sbT, dvT, nmd, ixT, ↓ibT, ltT, ltF, leT, leF, eqT, eqF, nM_ltT, nM_ltF, nM_leT, nM_leF, nM_eqF, nM_eqF', nbT0, nbT1, oI_s, oI_n, natF, natT, nltT, nltF, nleT, nleF, ↓reduceIte, lgc, not_true_eq_false, not_false_eq_true, or_false, false_or, or_true, true_or, and_true, true_and, and_false, false_and, ne_eq, eq_self, or_self, and_self]) (wpt (by simp (disch := first | omega | decide) only [↓neg1, nlit, rI, rL, rI2, rL1, nI_add, pk_mul, sbT, dvT, nmd, ixT, ↓ibT, ltT, ltF, leT, leF, eqT, eqF, nM_ltT, nM_ltF, nM_leT, nM_leF, nM_eqF, nM_eqF', nbT0, nbT1, oI_s, oI_n, natF, natT, nltT, nltF, nleT, nleF, ↓reduceIte, lgc, not_true_eq_false, not_false_eq_true, or_false, false_or, or_true, true_or, and_true, true_and, and_false, false_and, ne_eq, eq_self, or_self, and_self]) ?_))
          have hb := (bot_lt (OOS_CA CA' hG.1.1) ho).2.2
          rw [ix_n (by omega), hb]
          have hf : fpB m o k = true := fpB_t.mpr ⟨⟨s, hs, h1⟩, ht⟩
          refine wpl (wpl (hk' _ ⟨?_, sx_pI g3 (decide_eq_true ⟨rfl, by omega⟩), fun p => ?_⟩))
          · dsimp only
            rw [hcn, hf, nI_1]
            rfl
          · dsimp only
            rw [rI]
            by_cases e : p = k
            · rw [if_pos ⟨rfl, by omega⟩, if_pos ⟨by omega, by rw [e]; exact hf⟩]
            · rw [if_neg (by omega), g4]
              by_cases e2 : p < k ∧ fpB m o p = true
              · rw [if_pos e2, if_pos ⟨by omega, e2.2⟩]
              · rw [if_neg e2, if_neg (fun z => e2 ⟨by omega, z.2⟩)]
      · have : s = 0 := by omega
        subst this
        refine wpt (show nI 0 ≤ 0 by decide) (skip ?_)
        unfold fpB
        rw [hs]
        rfl
  · rintro ⟨a, k0, w⟩ ⟨g1, g2, g3, g4⟩
    dsimp only at g1 g2 g3 g4
    subst g1 g2
    dsimp only
    have h710 : w.1 7 10 = nI (ccn m) := (g3.1 7 10 (decide_eq_false (by omega))).trans hC.1.2.1
    rw [h710, show (100 : Int32) * nI (ccn m) = nI (100 * ccn m) by rw [show (100 : Int32) = nI 100 from rfl, pk_mul]]
    exact wpt (by simp (disch := first | omega | decide) only [↓neg1, nlit, rI, rL, rI2, rL1, nI_add, pk_mul, sbT, dvT, nmd, ixT, ↓ibT, ltT, ltF, leT, leF, eqT, eqF, nM_ltT, nM_ltF, nM_leT, nM_leF, nM_eqF, nM_eqF', nbT0, nbT1, oI_s, oI_n, natF, natT, nltT, nltF, nleT, nleF, ↓reduceIte, lgc, not_true_eq_false, not_false_eq_true, or_false, false_or, or_true, true_or, and_true, true_and, and_false, false_and, ne_eq, eq_self, or_self, and_self]) ⟨rfl, g3, g4⟩
def qFn (o : Nat) (a i : Nat) : Bool := decide ((a = 148 ∧ i % 4 = o) ∨ a = 151 ∨ (a = 150 ∧ i = 3))
theorem e209 {n o : Nat} {Fb : Nat → Nat} {c m : cS} (hn : 1100000 ≤ n) (h : STc m o (pI c 150 3 (nI o))) (hl : LWT m o Fb (Fc o c)) : wp (d_209 n (nI o) c) (fun d => STc m o d ∧ FLS m o (Fc o d) ∧ TKp m o Fb (Fc o d) ∧ sx (qFn o) c d) := by
  have hFc : Fc o (pI c 150 3 (nI o)) = Fc o c := rfl
  unfold d_209
  refine wpl ?_
  have s1 : sx (qFn o) c (pI c 150 3 (nI o)) := sx_pI sx_rfl (decide_eq_true (by omega))
  have okc : ∀ {d : cS}, STc m o d → okD m o (Fc o d) := fun hd p s hp hs => (hd.2.2.2.1 p s o hp hs hd.2.2.2.2.2).1
  have ho := h.2.2.2.2.2
  refine wpc (K' := fun d : cS => STc m o d ∧ FLS m o (Fc o d) ∧ TKp m o Fb (Fc o d) ∧ sx (qFn o) c d) (whl_run (fun μ (st : Int32 × Int32 × cS) => ∃ t, st.2.1 = nI t ∧ STc m o st.2.2 ∧ LWT m o Fb (Fc o st.2.2) ∧ sx (qFn o) c st.2.2 ∧ ((st.1 = nI 0 ∧ CLF m o (Fc o st.2.2) ∧ t ≤ 24001) ∨ (st.1 = nI 1 ∧ t + ptF m o (Fc o st.2.2) ≤ 24000 ∧ μ = ptF m o (Fc o st.2.2) + 1))) ?_ n (ptF m o (Fc o c) + 1) _ (by have := ptF_le (m := m) (o := o) (F := Fc o c); omega) ⟨0, rfl, h, hl, s1, Or.inr ⟨rfl, ?_, rfl⟩⟩) (fun d hd => hd)
  · rintro μ ⟨fl, t0, x⟩ ⟨t, g1, g2, g3, g4, g5⟩
    dsimp only at g1 g2 g3 g4 g5
    subst g1
    dsimp only
    have ht : t ≤ 24001 := by
      rcases g5 with g5 | g5
      · exact g5.2.2
      · omega
    refine wpf (by simp (disch := first | omega | decide) only [↓neg1, nlit, rI, rL, rI2, rL1, nI_add, pk_mul, sbT, dvT, nmd, ixT, ↓ibT, ltT, ltF, leT, leF, eqT, eqF, nM_ltT, nM_ltF, nM_leT, nM_leF, nM_eqF, nM_eqF', nbT0, nbT1, oI_s, oI_n, natF, natT, nltT, nltF, nleT, nleF, ↓reduceIte, lgc, not_true_eq_false, not_false_eq_true, or_false, false_or, or_true, true_or, and_true, true_and, and_false, false_and, ne_eq, eq_self, or_self, and_self]) ?_
    rcases g5 with ⟨rfl, g5, -⟩ | ⟨rfl, g5, g6⟩
    · exact wpt rfl ⟨g2, ⟨okc g2, g5, g3.1⟩, g3.2, g4⟩
    refine wpf (by decide) ?_
    have hC := g2.1.1.2.2.1
    have hcc := (CCS_p hC).1
    refine wpc (K' := fun r : Int32 × cS => SWP m o (Fc o x) (CLF m o (Fc o x)) r.1 (Fc o r.2) ∧ LWT m o Fb (Fc o r.2) ∧ STc m o r.2 ∧ sx (qFn o) c r.2) (whl_cnt (fun M (st : Int32 × Int32 × cS) => st.2.1 = nI M ∧ SWP m o (Fc o x) (∀ M', M' < M → isMt m M' → ∃ X, CLM m o M' (Fc o x) X) st.1 (Fc o st.2.2) ∧ LWT m o Fb (Fc o st.2.2) ∧ STc m o st.2.2 ∧ sx (qFn o) c st.2.2) (8 * ccn m) ?_ ?_ (by omega) ⟨rfl, Or.inl ⟨rfl, rfl, fun M' hM' => by omega⟩, g3, g2, g4⟩) ?_
    · rintro M ⟨f0, M0, y⟩ hM ⟨q1, q2, q3, q4, q5⟩
      dsimp only at q1 q2 q3 q4 q5
      subst q1
      dsimp only
      have hCy := q4.1.1.2.2.1
      have h158 : d_158 n y = some (nI (8 * ccn m)) := by
        unfold d_158
        rw [hCy.1.2.1, show (8 : Int32) = nI 8 from rfl, pk_mul]
        congr 2
        omega
      refine wpe h158 (wpf (by simp (disch := first | omega | decide) only [↓neg1, nlit, rI, rL, rI2, rL1, nI_add, pk_mul, sbT, dvT, nmd, ixT, ↓ibT, ltT, ltF, leT, leF, eqT, eqF, nM_ltT, nM_ltF, nM_leT, nM_leF, nM_eqF, nM_eqF', nbT0, nbT1, oI_s, oI_n, natF, natT, nltT, nltF, nleT, nleF, ↓reduceIte, lgc, not_true_eq_false, not_false_eq_true, or_false, false_or, or_true, true_or, and_true, true_and, and_false, false_and, ne_eq, eq_self, or_self, and_self]) (wpe (e157 hCy hM) ?_))
      have f01 : f0 = nI 0 ∨ f0 = nI 1 := by
        rcases q2 with q2 | q2
        · exact Or.inl q2.1
        · exact Or.inr q2.1
      refine wpjP (fun z : Int32 × cS => SWP m o (Fc o x) (∀ M', M' < M + 1 → isMt m M' → ∃ X, CLM m o M' (Fc o x) X) (f0 ||| z.1) (Fc o z.2) ∧ LWT m o Fb (Fc o z.2) ∧ STc m o z.2 ∧ sx (qFn o) c z.2) (fun z hz => wpl (wpl ⟨nI_1 _, hz.1, hz.2.1, hz.2.2.1, hz.2.2.2⟩)) ?_
      intro k' hk'
      have o0 : f0 ||| nI 0 = f0 := by
        rcases f01 with z | z <;> rw [z] <;> rfl
      have o1 : f0 ||| nI 1 = nI 1 := by
        rcases f01 with z | z <;> rw [z] <;> rfl
      by_cases hm : isMt m M
      · rw [if_pos (mtb_t.mpr hm)]
        refine wpj (wpf (by decide) (wpc (e210 hn q4 hm q3) (fun r hr => ?_)))
        obtain ⟨r1, r2, r3, r4⟩ := hr
        have sr : sx (qFn o) c r.2 := sx_trans q5 (sx_wide r4 (fun a i z => by
          have := of_decide_eq_false z
          exact decide_eq_false (by omega)))
        rcases r1 with ⟨e1, e2, e3⟩ | ⟨e1, e2⟩
        · refine wpt e1 (hk' _ ⟨?_, r2, r3, sr⟩)
          dsimp only
          rw [show f0 ||| (0 : Int32) = f0 from o0]
          rcases q2 with ⟨a1, a2, a3⟩ | ⟨a1, a2⟩
          · refine Or.inl ⟨a1, e2.trans a2, fun M' hM' hmt => ?_⟩
            by_cases eM : M' = M
            · rw [eM, ← a2]
              exact e3
            · exact a3 M' (by omega) hmt
          · refine Or.inr ⟨a1, ?_⟩
            rw [e2]
            exact a2
        · refine wpf (by rw [e1]; decide) (hk' _ ⟨?_, r2, r3, sr⟩)
          dsimp only
          rw [show f0 ||| (1 : Int32) = nI 1 from o1]
          rcases q2 with ⟨a1, a2, a3⟩ | ⟨a1, a2⟩
          · refine Or.inr ⟨rfl, ?_⟩
            rw [← a2]
            exact e2
          · exact Or.inr ⟨rfl, Nat.lt_trans e2 a2⟩
      · rw [if_neg (fun z => hm (mtb_t.mp z))]
        refine wpj (wpt rfl (hk' _ ⟨?_, q3, q4, q5⟩))
        dsimp only
        rw [show f0 ||| (0 : Int32) = f0 from o0]
        rcases q2 with ⟨a1, a2, a3⟩ | q2
        · refine Or.inl ⟨a1, a2, fun M' hM' hmt => ?_⟩
          by_cases eM : M' = M
          · rw [eM] at hmt
            exact absurd hmt hm
          · exact a3 M' (by omega) hmt
        · exact Or.inr q2
    · rintro ⟨f0, M0, y⟩ ⟨q1, q2, q3, q4, q5⟩
      dsimp only at q1 q2 q3 q4 q5
      subst q1
      dsimp only
      have hCy := q4.1.1.2.2.1
      have h158 : d_158 n y = some (nI (8 * ccn m)) := by
        unfold d_158
        rw [hCy.1.2.1, show (8 : Int32) = nI 8 from rfl, pk_mul]
        congr 2
        omega
      refine wpe h158 (wpt (by simp (disch := first | omega | decide) only [↓neg1, nlit, rI, rL, rI2, rL1, nI_add, pk_mul, sbT, dvT, nmd, ixT, ↓ibT, ltT, ltF, leT, leF, eqT, eqF, nM_ltT, nM_ltF, nM_leT, nM_leF, nM_eqF, nM_eqF', nbT0, nbT1, oI_s, oI_n, natF, natT, nltT, nltF, nleT, nleF, ↓reduceIte, lgc, not_true_eq_false, not_false_eq_true, or_false, false_or, or_true, true_or, and_true, true_and, and_false, false_and, ne_eq, eq_self, or_self, and_self]) ⟨?_, q3, q4, q5⟩)
      rcases q2 with ⟨a1, a2, a3⟩ | q2
      · refine Or.inl ⟨a1, a2, fun M hM => a3 M ?_ hM⟩
        have h1 := hM.1
        have h2 := (hC.1.2.2.2.2.1 _ h1).1
        have h3 := hM.2
        omega
      · exact Or.inr q2
    · rintro ⟨f0, y⟩ ⟨q1, q2, q3, q4⟩
      dsimp only at q1 q2 q3 q4
      rcases q1 with ⟨a1, a2, a3⟩ | ⟨a1, a2⟩
      · refine wpl ⟨0, by omega, t + 1, nI_1 _, q3, q2, q4, Or.inl ⟨a1, ?_, by omega⟩⟩
        dsimp only
        rw [a2]
        exact a3
      · refine wpl ⟨ptF m o (Fc o y) + 1, by omega, t + 1, nI_1 _, q3, q2, q4, Or.inr ⟨a1, ?_, rfl⟩⟩
        dsimp only
        omega
  · have := ptF_le (m := m) (o := o) (F := Fc o c)
    show 0 + ptF m o (Fc o c) ≤ 24000
    omega
