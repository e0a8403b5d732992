/-! RUN: one step -/
section STQ
variable {n fr L : Nat} {c m u : cS} {Mf If : Nat → Nat} {j : Int32}
def p2c (n : Nat) (v2 v8 : Int32) (p10 : cS) : Option cS :=
    if ib v8 1024 then
    jn (fun p12 : Unit =>
      p3c n v2 v8 p10)
    (fun j85 =>
    if (p10.1 121 (ix v8)) = 220 then
      if (p10.1 159 10) < 12 then
        j85 ()
      else
        if ib 0 12 then
        lt (pI p10 162 (ix 0) 3) (fun c38 =>
        some c38)
        else none
    else
      j85 ())
    else none
def p2r (n : Nat) (v7 v12 j : Int32) (p15 : cS) : Option ((Int32 × cS) ⊕ (Int32 × cS)) :=
              if ib v12 3840 then
              jn (fun p17 : Unit =>
                Option.bind (d_469 n v7 v12 p15) (fun r18 =>
                lt (pI r18 174 123 ((r18.1 174 123) + 1)) (fun c19 =>
                lt (j + 1 : Int32) (fun v22 =>
                Option.bind (d_470 n v7 v12 c19) (fun r24 =>
                some (.inl (v22, r24)))))))
              (fun j143 =>
              if (p15.1 211 (ix v12)) = 20 then
                if (p15.1 174 113) = 12 then
                  lt (pI p15 174 111 3) (fun c25 =>
                  some (.inl (j, c25)))
                else
                  j143 ()
              else
                j143 ())
              else none
/-- a step that ends the run -/
def STQ (m c u : cS) (d w : cS) : Prop := (∃ st fr Mf If, RN m d w st fr Mf If ∧ st ≠ 1) ∧ JI d w ∧ d.1 162 2 = c.1 162 2 ∧ sx qGc c d ∧ sx qGr u w ∧ d.1 162 6 = c.1 162 6
def STR (m c u : cS) (L : Nat) (j : Int32) (d : cS) (p : (Int32 × cS) ⊕ (Int32 × cS)) : Prop := ∃ w, (p = .inl (j + 1, w) ∧ SND m c u L d w) ∨ (p = .inl (j, w) ∧ STQ m c u d w)
theorem RN_st {st : Nat} (h : RN m c u 1 fr Mf If) (hJ : JI c u) (h1 : 3 ≤ st ∧ st ≤ 4) : STQ m c u (pI c 162 0 (nI st)) (pI u 174 111 (nI st)) := by
  obtain ⟨y1, y2, y3, y4, y5, y6, y7, y8⟩ := id h.2.2.2.2.2.2.2.1
  have kc : ∀ j, j ≠ 0 → (pI c 162 0 (nI st)).1 162 j = c.1 162 j := fun j z => by rw [rI, if_neg (fun x => z x.2)]
  have kr : ∀ j, j ≠ 111 → (pI u 174 111 (nI st)).1 174 j = u.1 174 j := fun j z => by rw [rI, if_neg (fun x => z x.2)]
  have s1 : sx q162 c (pI c 162 0 (nI st)) := sx_pI sx_rfl rfl
  have s2 : sx q174 u (pI u 174 111 (nI st)) := sx_pI sx_rfl rfl
  refine ⟨⟨st, fr, Mf, If, RN_mv h s1 s2 (by omega) (by omega) (by rw [rI, if_pos ⟨rfl, rfl⟩]) (by rw [rI, if_pos ⟨rfl, rfl⟩]) ⟨?_, ?_, ?_, ?_, ?_, ?_, ?_, ?_⟩, by omega⟩, JI_mv hJ s1 s2, kc 2 (by omega), q162_G s1, q174_G s2, kc 6 (by omega)⟩
  · rw [kc 1 (by omega), y1, if_neg (by decide), if_neg (by omega)]
  · rw [kc 2 (by omega), kr 123 (by omega)]
    exact y2
  · rw [kc 6 (by omega), kr 124 (by omega)]
    exact y3
  · rw [kc 7 (by omega), kr 125 (by omega)]
    exact y4
  · rw [kc 8 (by omega), kr 126 (by omega)]
    exact y5
  · rw [kc 9 (by omega), kr 127 (by omega)]
    exact y6
  · rw [kc 10 (by omega), kr 128 (by omega)]
    exact y7
  · rw [kc 11 (by omega), kr 129 (by omega)]
    exact y8
theorem go2 (hn : 10000 ≤ n) (hT : TST m c) (hA : AG m u) (hF : FD m c u) (hJ : JI c u) (h : RN m c u 1 fr Mf If) (hL : c.1 162 6 = nI L) (hL2 : L < 2147482000) : jw (p2c n (nI (fr - 1)) (nI (fa c (Mf (fr - 1)) + If (fr - 1))) c) (p2r n (nI (fr - 1)) (nI (40 * Mf (fr - 1) + If (fr - 1))) j u) (STR m c u L j) := by
  have hG := hT.1
  have hC := hG.1.2.2.1
  have hTp := RN_TOP hG hA hJ h
  obtain ⟨t1, t2, hM, hi, hr, hf, h255, h254, hV⟩ := id hTp
  have hfr := h.2.1
  have hM96 := isMt_lt hC hM
  have hac := MTS_ac hG.2.2 hM hi
  have hop := hac.1
  have hn40 := ((hG.2.2.2.1 _ hM).1).1.2
  obtain ⟨tot, ht1, -, ht3⟩ := hG.2.2.1
  have hfa := ht3 _ hM
  have h10 := h.2.2.2.2.1
  have h13 := h.2.2.2.2.2.1
  have i0 : ix (0 : Int32) = 0 := by decide
  have main : (opn m (40 * Mf (fr - 1) + If (fr - 1)) = 20 → fr < 12) → jw (p2c n (nI (fr - 1)) (nI (fa c (Mf (fr - 1)) + If (fr - 1))) c) (p2r n (nI (fr - 1)) (nI (40 * Mf (fr - 1) + If (fr - 1))) j u) (STR m c u L j) := by
    intro h20
    have h3 := go3 hn hT hA hF hJ h hL hL2 h20
    obtain ⟨d, hd1, hd2⟩ := wp_ex h3
    obtain ⟨r, hr1, hr2⟩ := wp_ex hd2
    obtain ⟨w, hw1, hw2⟩ := wp_ex hr2
    have hc : p2c n (nI (fr - 1)) (nI (fa c (Mf (fr - 1)) + If (fr - 1))) c = some d := by
      unfold p2c
      refine eq_wp (wpt (by simp (disch := first | omega | decide) only [↓neg1, nlit, rI, rL, rI2, rL1, nI_add, pk_mul, sbT, dvT, nmd, ixT, ↓ibT, ltT, ltF, leT, leF, eqT, eqF, nM_ltT, nM_ltF, nM_leT, nM_leF, nM_eqF, nM_eqF', nbT0, nbT1, oI_s, oI_n, natF, natT, nltT, nltF, nleT, nleF, ↓reduceIte, lgc, not_true_eq_false, not_false_eq_true, or_false, false_or, or_true, true_or, and_true, true_and, and_false, false_and, ne_eq, eq_self, or_self, and_self]) (wpj ?_))
      rw [ix_n (by omega), hac.2.2.1]
      by_cases e : opn m (40 * Mf (fr - 1) + If (fr - 1)) = 20
      · refine wpt (by rw [e]; decide) ?_
        rw [h10]
        have := h20 e
        exact wpt (by simp (disch := first | omega | decide) only [↓neg1, nlit, rI, rL, rI2, rL1, nI_add, pk_mul, sbT, dvT, nmd, ixT, ↓ibT, ltT, ltF, leT, leF, eqT, eqF, nM_ltT, nM_ltF, nM_leT, nM_leF, nM_eqF, nM_eqF', nbT0, nbT1, oI_s, oI_n, natF, natT, nltT, nltF, nleT, nleF, ↓reduceIte, lgc, not_true_eq_false, not_false_eq_true, or_false, false_or, or_true, true_or, and_true, true_and, and_false, false_and, ne_eq, eq_self, or_self, and_self]) (wp_of hd1 rfl)
      · exact wpf (fun z => e (by have := (nI_eq (by omega) (by decide)).mp (show _ = nI 220 from z); omega)) (wp_of hd1 rfl)
    have hu : p2r n (nI (fr - 1)) (nI (40 * Mf (fr - 1) + If (fr - 1))) j u = some (.inl (j + 1, w)) := by
      unfold p2r
      have tl : wp (Option.bind (d_469 n (nI (fr - 1)) (nI (40 * Mf (fr - 1) + If (fr - 1))) u) (fun r18 =>
                lt (pI r18 174 123 ((r18.1 174 123) + 1)) (fun c19 =>
                lt (j + 1 : Int32) (fun v22 =>
                Option.bind (d_470 n (nI (fr - 1)) (nI (40 * Mf (fr - 1) + If (fr - 1))) c19) (fun r24 =>
                some ((.inl (v22, r24) : (Int32 × cS) ⊕ (Int32 × cS)))))))) (fun z => z = .inl (j + 1, w)) := wpe hr1 (wpl (wpl (wpe hw1 rfl)))
      refine eq_wp (wpt (by simp (disch := first | omega | decide) only [↓neg1, nlit, rI, rL, rI2, rL1, nI_add, pk_mul, sbT, dvT, nmd, ixT, ↓ibT, ltT, ltF, leT, leF, eqT, eqF, nM_ltT, nM_ltF, nM_leT, nM_leF, nM_eqF, nM_eqF', nbT0, nbT1, oI_s, oI_n, natF, natT, nltT, nltF, nleT, nleF, ↓reduceIte, lgc, not_true_eq_false, not_false_eq_true, or_false, false_or, or_true, true_or, and_true, true_and, and_false, false_and, ne_eq, eq_self, or_self, and_self]) (wpj ?_))
      rw [ix_n (by omega), hA.1 211 _ rfl, hac.2.1]
      by_cases e : opn m (40 * Mf (fr - 1) + If (fr - 1)) = 20
      · refine wpt (by rw [e]; decide) ?_
        rw [h13]
        have := h20 e
        exact wpf (fun z => by have := (nI_eq (by omega) (by decide)).mp (show _ = nI 12 from z); omega) tl
      · exact wpf (fun z => e ((nI_eq (by omega) (by decide)).mp (show _ = nI 20 from z))) tl
    exact jw_of hc hu ⟨w, Or.inl ⟨rfl, hw2⟩⟩
  by_cases e20 : opn m (40 * Mf (fr - 1) + If (fr - 1)) = 20
  · by_cases e12 : fr < 12
    · exact main (fun _ => e12)
    · have e12' : fr = 12 := by omega
      have hc : p2c n (nI (fr - 1)) (nI (fa c (Mf (fr - 1)) + If (fr - 1))) c = some (pI c 162 0 (nI 3)) := by
        unfold p2c
        refine eq_wp (wpt (by simp (disch := first | omega | decide) only [↓neg1, nlit, rI, rL, rI2, rL1, nI_add, pk_mul, sbT, dvT, nmd, ixT, ↓ibT, ltT, ltF, leT, leF, eqT, eqF, nM_ltT, nM_ltF, nM_leT, nM_leF, nM_eqF, nM_eqF', nbT0, nbT1, oI_s, oI_n, natF, natT, nltT, nltF, nleT, nleF, ↓reduceIte, lgc, not_true_eq_false, not_false_eq_true, or_false, false_or, or_true, true_or, and_true, true_and, and_false, false_and, ne_eq, eq_self, or_self, and_self]) (wpj ?_))
        rw [ix_n (by omega), hac.2.2.1]
        refine wpt (by rw [e20]; decide) ?_
        rw [h10, i0]
        exact wpf (by rw [e12']; decide) (wpt (by decide) (wpl rfl))
      have hu : p2r n (nI (fr - 1)) (nI (40 * Mf (fr - 1) + If (fr - 1))) j u = some (.inl (j, pI u 174 111 (nI 3))) := by
        unfold p2r
        refine eq_wp (wpt (by simp (disch := first | omega | decide) only [↓neg1, nlit, rI, rL, rI2, rL1, nI_add, pk_mul, sbT, dvT, nmd, ixT, ↓ibT, ltT, ltF, leT, leF, eqT, eqF, nM_ltT, nM_ltF, nM_leT, nM_leF, nM_eqF, nM_eqF', nbT0, nbT1, oI_s, oI_n, natF, natT, nltT, nltF, nleT, nleF, ↓reduceIte, lgc, not_true_eq_false, not_false_eq_true, or_false, false_or, or_true, true_or, and_true, true_and, and_false, false_and, ne_eq, eq_self, or_self, and_self]) (wpj ?_))
        rw [ix_n (by omega), hA.1 211 _ rfl, hac.2.1]
        refine wpt (by rw [e20]; decide) ?_
        rw [h13]
        exact wpt (by rw [e12']; decide) (wpl rfl)
      exact jw_of hc hu ⟨_, Or.inr ⟨rfl, RN_st h hJ (by omega)⟩⟩
  · exact main (fun z => absurd z e20)
def bdR (n : Nat) (j : Int32) (u : cS) : Option ((Int32 × cS) ⊕ (Int32 × cS)) :=
            lt (((u.1 174 113) - 1) : Int32) (fun v7 =>
            if ib v7 12 then
            if ib v7 12 then
            lt (((40 * (u.1 253 (ix v7))) + (u.1 254 (ix v7))) : Int32) (fun v12 =>
            jn (fun p15 : cS => p2r n v7 v12 j p15)
            (fun j114 =>
            if (u.1 174 112) = 0 then
              j114 u
            else
              if (u.1 174 106) = 0 then
                j114 u
              else
                Option.bind (d_468 n v7 v12 u) (fun r27 =>
                if r27.1 = 0 then
                  lt (pI r27.2 174 111 4) (fun c28 =>
                  some (.inl (j, c28)))
                else
                  j114 r27.2)))
            else none
            else none)
theorem STR_mv {x v : cS} {j : Int32} {d : cS} {p : (Int32 × cS) ⊕ (Int32 × cS)} (sc : sx q162 c x) (su : sx q174 u v) (h2 : x.1 162 2 = c.1 162 2) (h6 : x.1 162 6 = c.1 162 6) (h : STR m x v L j d p) : STR m c u L j d p := by
  obtain ⟨w, ⟨h1, a1, a2, a3, a4, a5, a6⟩ | ⟨h1, a1, a2, a3, a4, a5, a6⟩⟩ := h
  · exact ⟨w, Or.inl ⟨h1, a1, a2, by rw [a3, h2], sx_trans (q162_G sc) a4, sx_trans (q174_G su) a5, a6⟩⟩
  · exact ⟨w, Or.inr ⟨h1, a1, a2, a3.trans h2, sx_trans (q162_G sc) a4, sx_trans (q174_G su) a5, a6.trans h6⟩⟩
theorem FD_162 {x v : cS} (h : FD m c u) (sc : sx q162 c x) (su : sx q174 u v) : FD m x v := fun p s o hp hs ho => by
  obtain ⟨b1, b2, b3⟩ := h p s o hp hs ho
  have e148 : x.1 148 (p * 4 + o) = c.1 148 (p * 4 + o) := sc.1 148 _ (decide_eq_false (by omega))
  have ef : fdv x p o = fdv c p o := congrArg ix e148
  rw [ef]
  exact ⟨b1, e148.trans b2, (su.1 235 _ (decide_eq_false (by omega))).trans b3⟩
/-- checks are made in both -/
theorem RN_ck {x v : cS} (h : RN m c u 1 fr Mf If) (sc : sx q11 c x) (su : sx q29 u v) (h11 : x.1 162 11 = v.1 174 129) : RN m x v 1 fr Mf If ∧ sx q162 c x ∧ sx q174 u v := by
  obtain ⟨y1, y2, y3, y4, y5, y6, y7, y8⟩ := id h.2.2.2.2.2.2.2.1
  have kc : ∀ j, j ≠ 11 → x.1 162 j = c.1 162 j := fun j z => sc.1 162 j (decide_eq_false (fun y => z y.2))
  have kr : ∀ j, j ≠ 129 → v.1 174 j = u.1 174 j := fun j z => su.1 174 j (decide_eq_false (fun y => z y.2))
  have s1 : sx q162 c x := sx_wide sc (fun a i z => by
    have := of_decide_eq_false z
    exact decide_eq_false (by omega))
  have s2 : sx q174 u v := sx_wide su (fun a i z => by
    have := of_decide_eq_false z
    exact decide_eq_false (by omega))
  refine ⟨RN_mv h s1 s2 (by omega) (by omega) ((kc 0 (by omega)).trans h.2.2.1) ((kr 111 (by omega)).trans h.2.2.2.1) ⟨?_, ?_, ?_, ?_, ?_, ?_, ?_, h11⟩, s1, s2⟩
  · rw [kc 1 (by omega)]
    exact y1
  · rw [kc 2 (by omega), kr 123 (by omega)]
    exact y2
  · rw [kc 6 (by omega), kr 124 (by omega)]
    exact y3
  · rw [kc 7 (by omega), kr 125 (by omega)]
    exact y4
  · rw [kc 8 (by omega), kr 126 (by omega)]
    exact y5
  · rw [kc 9 (by omega), kr 127 (by omega)]
    exact y6
  · rw [kc 10 (by omega), kr 128 (by omega)]
    exact y7
theorem step_go {B : Nat} (hn : 10000 ≤ n) (hT : TST m c) (hA : AG m u) (hF : FD m c u) (hJ : JI c u) (h : RN m c u 1 fr Mf If) (hL : c.1 162 6 = nI L) (hL2 : L < 2147482000) (h6 : u.1 174 106 = nI 0 ∨ u.1 174 106 = nI 1) (hB : CKA m c u (Mf (fr - 1)) (If (fr - 1)) B) : jw (d_303 n c) (bdR n j u) (STR m c u L j) := by
  have hG := hT.1
  have hC := hG.1.2.2.1
  have hTp := RN_TOP hG hA hJ h
  obtain ⟨t1, t2, hM, hi, hr, hf, h255, h254, hV⟩ := id hTp
  have hfr := h.2.1
  have hM96 := isMt_lt hC hM
  have hac := MTS_ac hG.2.2 hM hi
  have hop := hac.1
  have hn40 := ((hG.2.2.2.1 _ hM).1).1.2
  obtain ⟨tot, ht1, -, ht3⟩ := hG.2.2.1
  have hfa := ht3 _ hM
  have hmr := ((hG.2.2.2.1 _ hM).1)
  have h10 := h.2.2.2.2.1
  have h13 := h.2.2.2.2.2.1
  have h12 := h.2.2.2.2.2.2.1
  obtain ⟨-, -, -, c163, u253, c164, -⟩ := h.2.2.2.2.2.2.2.2.1 (fr - 1) (by omega)
  have y8 := h.2.2.2.2.2.2.2.1.2.2.2.2.2.2.2
  have i0 : ix (0 : Int32) = 0 := by decide
  have c119 : c.1 119 (Mf (fr - 1)) = nI (fa c (Mf (fr - 1))) := hmr.2.2.2.2.2.2.2.1
  -- both go on behind the checks
  have on : ∀ {x v : cS}, sx q11 c x → sx q29 u v → x.1 162 11 = v.1 174 129 → jw (p2c n (nI (fr - 1)) (nI (fa c (Mf (fr - 1)) + If (fr - 1))) x) (p2r n (nI (fr - 1)) (nI (40 * Mf (fr - 1) + If (fr - 1))) j v) (STR m c u L j) := by
    intro x v sc su h11
    obtain ⟨hR, s1, s2⟩ := RN_ck h sc su h11
    obtain ⟨hTx, -⟩ := TST_sx hT s1 nC_162 (fun i => rfl) (fun i => rfl) (fun i => rfl)
    have x2 : x.1 162 2 = c.1 162 2 := sc.1 162 2 rfl
    have x6 : x.1 162 6 = c.1 162 6 := sc.1 162 6 rfl
    have hg := go2 (j := j) hn hTx (AG_sx hA (q174_G s2) nP_Gr) (FD_162 hF s1 s2) (JI_mv hJ s1 s2) hR (x6.trans hL) hL2
    rw [FC_fa s1 nC_162] at hg
    exact jw_mono hg (fun a b hab => STR_mv s1 s2 x2 x6 hab)
  -- the class up to the checks
  have hcl : ∀ {K : cS → Prop}, (c.1 159 12 = 0 → wp (p2c n (nI (fr - 1)) (nI (fa c (Mf (fr - 1)) + If (fr - 1))) c) K) → (c.1 159 12 ≠ 0 → wp (d_307 n (nI (fr - 1)) (nI (fa c (Mf (fr - 1)) + If (fr - 1))) c) (fun r => if r.1 = 0 then K (pI r.2 162 0 4) else wp (p2c n (nI (fr - 1)) (nI (fa c (Mf (fr - 1)) + If (fr - 1))) r.2) K)) → wp (d_303 n c) K := by
    intro K k1 k2
    have h303 : d_303 n c = lt (((c.1 159 10) - 1) : Int32) (fun v2 =>
      if ib v2 12 then
      if ib (c.1 163 (ix v2)) 96 then
      if ib v2 12 then
      lt (((c.1 119 (ix (c.1 163 (ix v2)))) + (c.1 164 (ix v2))) : Int32) (fun v8 =>
      jn (fun p10 : cS => p2c n v2 v8 p10)
      (fun j53 =>
      if (c.1 159 12) = 0 then
        j53 c
      else
        Option.bind (d_307 n v2 v8 c) (fun r40 =>
        if r40.1 = 0 then
          if ib 0 12 then
          lt (pI r40.2 162 (ix 0) 4) (fun c42 =>
          some c42)
          else none
        else
          j53 r40.2)))
      else none
      else none
      else none) := rfl
    rw [h303, h10, show nI fr - 1 = nI (fr - 1) from pk_sub (b := 1) (by omega)]
    refine wpl (wpt (by simp (disch := first | omega | decide) only [↓neg1, nlit, rI, rL, rI2, rL1, nI_add, pk_mul, sbT, dvT, nmd, ixT, ↓ibT, ltT, ltF, leT, leF, eqT, eqF, nM_ltT, nM_ltF, nM_leT, nM_leF, nM_eqF, nM_eqF', nbT0, nbT1, oI_s, oI_n, natF, natT, nltT, nltF, nleT, nleF, ↓reduceIte, lgc, not_true_eq_false, not_false_eq_true, or_false, false_or, or_true, true_or, and_true, true_and, and_false, false_and, ne_eq, eq_self, or_self, and_self]) ?_)
    rw [ix_n (by omega), c163]
    refine wpt (by simp (disch := first | omega | decide) only [↓neg1, nlit, rI, rL, rI2, rL1, nI_add, pk_mul, sbT, dvT, nmd, ixT, ↓ibT, ltT, ltF, leT, leF, eqT, eqF, nM_ltT, nM_ltF, nM_leT, nM_leF, nM_eqF, nM_eqF', nbT0, nbT1, oI_s, oI_n, natF, natT, nltT, nltF, nleT, nleF, ↓reduceIte, lgc, not_true_eq_false, not_false_eq_true, or_false, false_or, or_true, true_or, and_true, true_and, and_false, false_and, ne_eq, eq_self, or_self, and_self]) (wpt (by simp (disch := first | omega | decide) only [↓neg1, nlit, rI, rL, rI2, rL1, nI_add, pk_mul, sbT, dvT, nmd, ixT, ↓ibT, ltT, ltF, leT, leF, eqT, eqF, nM_ltT, nM_ltF, nM_leT, nM_leF, nM_eqF, nM_eqF', nbT0, nbT1, oI_s, oI_n, natF, natT, nltT, nltF, nleT, nleF, ↓reduceIte, lgc, not_true_eq_false, not_false_eq_true, or_false, false_or, or_true, true_or, and_true, true_and, and_false, false_and, ne_eq, eq_self, or_self, and_self]) ?_)
    rw [ix_n (by omega), c119, c164, nI_add]
    refine wpl (wpj ?_)
    by_cases e : c.1 159 12 = 0
    · exact wpt e (k1 e)
    · refine wpf e (wpc (k2 e) (fun r hr' => ?_))
      by_cases e0 : r.1 = 0
      · rw [if_pos e0] at hr'
        refine wpt e0 (wpt (by decide) ?_)
        rw [i0]
        exact wpl hr'
      · rw [if_neg e0] at hr'
        exact wpf e0 hr'
  have hrf : ∀ {K : (Int32 × cS) ⊕ (Int32 × cS) → Prop}, (u.1 174 112 = 0 ∨ u.1 174 106 = 0 → wp (p2r n (nI (fr - 1)) (nI (40 * Mf (fr - 1) + If (fr - 1))) j u) K) → (u.1 174 112 ≠ 0 → u.1 174 106 ≠ 0 → wp (d_468 n (nI (fr - 1)) (nI (40 * Mf (fr - 1) + If (fr - 1))) u) (fun r => if r.1 = 0 then K (.inl (j, pI r.2 174 111 4)) else wp (p2r n (nI (fr - 1)) (nI (40 * Mf (fr - 1) + If (fr - 1))) j r.2) K)) → wp (bdR n j u) K := by
    intro K k1 k2
    unfold bdR
    rw [h13, show nI fr - 1 = nI (fr - 1) from pk_sub (b := 1) (by omega)]
    refine wpl (wpt (by simp (disch := first | omega | decide) only [↓neg1, nlit, rI, rL, rI2, rL1, nI_add, pk_mul, sbT, dvT, nmd, ixT, ↓ibT, ltT, ltF, leT, leF, eqT, eqF, nM_ltT, nM_ltF, nM_leT, nM_leF, nM_eqF, nM_eqF', nbT0, nbT1, oI_s, oI_n, natF, natT, nltT, nltF, nleT, nleF, ↓reduceIte, lgc, not_true_eq_false, not_false_eq_true, or_false, false_or, or_true, true_or, and_true, true_and, and_false, false_and, ne_eq, eq_self, or_self, and_self]) (wpt (by simp (disch := first | omega | decide) only [↓neg1, nlit, rI, rL, rI2, rL1, nI_add, pk_mul, sbT, dvT, nmd, ixT, ↓ibT, ltT, ltF, leT, leF, eqT, eqF, nM_ltT, nM_ltF, nM_leT, nM_leF, nM_eqF, nM_eqF', nbT0, nbT1, oI_s, oI_n, natF, natT, nltT, nltF, nleT, nleF, ↓reduceIte, lgc, not_true_eq_false, not_false_eq_true, or_false, false_or, or_true, true_or, and_true, true_and, and_false, false_and, ne_eq, eq_self, or_self, and_self]) ?_))
    rw [ix_n (by omega), u253, h254, show (40 : Int32) * nI (Mf (fr - 1)) + nI (If (fr - 1)) = nI (40 * Mf (fr - 1) + If (fr - 1)) by rw [show (40 : Int32) = nI 40 from rfl, pk_mul, nI_add]]
    refine wpl (wpj ?_)
    by_cases e : u.1 174 112 = 0
    · exact wpt e (k1 (Or.inl e))
    · refine wpf e ?_
      by_cases e6 : u.1 174 106 = 0
      · exact wpt e6 (k1 (Or.inr e6))
      · refine wpf e6 (wpc (k2 e e6) (fun r hr' => ?_))
        by_cases e0 : r.1 = 0
        · rw [if_pos e0] at hr'
          exact wpt e0 (wpl hr')
        · rw [if_neg e0] at hr'
          exact wpf e0 hr'
  by_cases e12 : c.1 159 12 = 0
  · refine hcl (fun _ => ?_) (fun z => absurd e12 z)
    have ho := on (x := c) (v := u) sx_rfl sx_rfl y8
    obtain ⟨a, b, ha, hb, hab⟩ := jw_ex ho
    exact wp_of ha (hrf (fun _ => wp_of hb hab) (fun z => absurd (h12 ▸ e12) z))
  · refine hcl (fun z => absurd z e12) (fun _ => ?_)
    obtain ⟨r, hr1, r1, r2, r3⟩ := wp_ex (e307 (n := n) (by omega) hT hM hi hr hf c163 (fun q o hq ho => ((hV.1 q hq).2 o ho).1) hB)
    refine wp_of hr1 ?_
    rcases h6 with z6 | z6
    · have hoff := ckS_off (B := B) (bad := ckB m c (fr - 1) (Mf (fr - 1)) (If (fr - 1))) (x := c.1 162 11) (t := 0) 16 (fun t _ ht => by
        have hb := hB.2.2 (t / 4) (t % 4) (by omega) (by omega)
        rw [show 4 * (t / 4) + t % 4 = t by omega] at hb
        by_cases e : B.testBit t = true
        · rw [if_pos e] at hb
          have := hb.2.2.1
          rw [z6] at this
          exact absurd this (by decide)
        · simpa using e)
      rw [show 0 + 16 = 16 from rfl] at hoff
      rw [hoff] at r1 r2
      have e0 : ¬ r.1 = 0 := fun z => by
        have := r2.mp z
        exact absurd (show false = true from this) (by decide)
      rw [if_neg e0]
      have ho := on (x := r.2) (v := u) r3 sx_rfl (r1.trans y8)
      obtain ⟨a, b, ha, hb, hab⟩ := jw_ex ho
      exact wp_of ha (hrf (fun _ => wp_of hb hab) (fun _ z => absurd z6 z))
    · obtain ⟨s, hs1, s1, s2, s3⟩ := wp_ex (e468 (n := n) (by omega) hT hA hM hi hr hf h255 hV.1 z6 hB)
      rw [← y8] at s1 s2
      have n12 : ¬ u.1 174 112 = 0 := fun z => e12 (h12.trans z)
      have n6 : ¬ u.1 174 106 = 0 := by rw [z6]; decide
      have h11 : r.2.1 162 11 = s.2.1 174 129 := r1.trans s1.symm
      by_cases e0 : (ckS B (ckB m c (fr - 1) (Mf (fr - 1)) (If (fr - 1))) (c.1 162 11) 16).2 = true
      · rw [if_pos (r2.mpr e0)]
        refine hrf (fun z => absurd z (by rintro (z | z); exact n12 z; exact n6 z)) (fun _ _ => wp_of hs1 ?_)
        rw [if_pos (s2.mpr e0)]
        obtain ⟨hR, q1, q2⟩ := RN_ck h r3 s3 h11
        exact STR_mv q1 q2 (r3.1 162 2 rfl) (r3.1 162 6 rfl) ⟨_, Or.inr ⟨rfl, RN_st hR (JI_mv hJ q1 q2) (st := 4) (by omega)⟩⟩
      · rw [if_neg (fun z => e0 (r2.mp z))]
        have ho := on r3 s3 h11
        obtain ⟨a, b, ha, hb, hab⟩ := jw_ex ho
        refine wp_of ha (hrf (fun z => absurd z (by rintro (z | z); exact n12 z; exact n6 z)) (fun _ _ => wp_of hs1 ?_))
        rw [if_neg (fun z => e0 (s2.mp z))]
        exact wp_of hb hab
end STQ
