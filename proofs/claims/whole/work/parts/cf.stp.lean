/-! RUN: one step behind the checks -/
section STP
variable {n fr L : Nat} {c m u : cS} {Mf If : Nat → Nat}
def q162 (a _i : Nat) : Bool := decide (a = 162)
def q174 (a i : Nat) : Bool := decide ((a = 174 ∧ (i = 111 ∨ (73 ≤ i ∧ i ≤ 79) ∨ (123 ≤ i ∧ i ≤ 129))) ∨ a = 232 ∨ a = 233)
def qGc (a i : Nat) : Bool := decide ((161 ≤ a ∧ a ≤ 166) ∨ (a = 159 ∧ (i = 5 ∨ i = 10 ∨ i = 13)))
def qGr (a i : Nat) : Bool := decide ((252 ≤ a ∧ a ≤ 260) ∨ (a = 174 ∧ ((73 ≤ i ∧ i ≤ 79) ∨ (110 ≤ i ∧ i ≤ 129))) ∨ a = 232 ∨ a = 233)
theorem nC_Gc : nC qGc := ⟨fun a i h1 h2 h3 => decide_eq_false (by omega), fun i h => decide_eq_false (by omega)⟩
theorem nC_162 : nC q162 := ⟨fun a i h1 h2 h3 => decide_eq_false (by omega), fun i h => decide_eq_false (by omega)⟩
theorem nP_Gr : nP qGr := by
  refine ⟨fun a i h => ?_, fun i h => ?_, fun i h => ?_, fun a i h1 h2 h3 => ?_, fun a i h1 h2 h3 => ?_⟩
  · have := PA_of h
    exact decide_eq_false (by omega)
  · have := PF_of h
    exact decide_eq_false (by omega)
  · exact decide_eq_false (by omega)
  · exact decide_eq_false (by omega)
  · exact decide_eq_false (by omega)
theorem q162_G {x y : cS} (h : sx q162 x y) : sx qGc x y := sx_wide h (fun a i z => by
  have := of_decide_eq_false z
  exact decide_eq_false (by omega))
theorem q174_G {x y : cS} (h : sx q174 x y) : sx qGr x y := sx_wide h (fun a i z => by
  have := of_decide_eq_false z
  exact decide_eq_false (by omega))
/-- notes alone change -/
theorem RN_mv {d w : cS} {st : Nat} (h : RN m c u 1 fr Mf If) (hd : sx q162 c d) (hw : sx q174 u w) (h1 : 1 ≤ st ∧ st ≤ 4) (h2 : st ≠ 2) (h3 : d.1 162 0 = nI st) (h4 : w.1 174 111 = nI st) (hT : TLY d w st) : RN m d w st fr Mf If := by
  obtain ⟨a1, a2, a3, a4, a5, a6, a7, t, hF, hS, hfl, a12, a13⟩ := h
  have C1 : ∀ A i, A ≠ 162 → d.1 A i = c.1 A i := fun A i z => hd.1 A i (decide_eq_false z)
  have C2 : ∀ A i, A ≠ 162 → d.2 A i = c.2 A i := fun A i z => hd.2 A i (decide_eq_false z)
  have U1 : ∀ A i, ¬ ((A = 174 ∧ (i = 111 ∨ (73 ≤ i ∧ i ≤ 79) ∨ (123 ≤ i ∧ i ≤ 129))) ∨ A = 232 ∨ A = 233) → w.1 A i = u.1 A i := fun A i z => hw.1 A i (decide_eq_false z)
  refine ⟨h1, a2, h3, h4, (C1 159 10 (by omega)).trans a5, (U1 174 113 (by omega)).trans a6, ?_, hT, fun j hj => ?_, fun q hq => ?_, fun x y hx hy => ?_, fun z => absurd z h2, ?_⟩
  · rw [C1 159 12 (by omega), U1 174 112 (by omega)]
    exact a7
  · obtain ⟨m1, m2, m3, m4, m5, m6, m7, m8, m9⟩ := hF j hj
    exact ⟨m1, m2, m3, (C1 163 _ (by omega)).trans m4, (U1 253 _ (by omega)).trans m5, (C1 164 _ (by omega)).trans m6, (U1 254 _ (by omega)).trans m7, (U1 255 _ (by omega)).trans m8, m9⟩
  · exact SL_cg (hS q hq) (C2 165 q (by omega)) (U1 256 q (by omega)) (fun o _ => U1 257 _ (by omega))
  · exact SL_cg (hfl x y hx hy) (C2 166 _ (by omega)) (U1 258 _ (by omega)) (fun o _ => U1 259 _ (by omega))
  · unfold BLK
    rw [C2 159 14 (by omega)]
    exact a13
theorem JI_mv {d w : cS} (h : JI c u) (hd : sx q162 c d) (hw : sx q174 u w) : JI d w := JI_sx h hd hw rfl (fun i => rfl) rfl (fun i => decide_eq_false (by omega))
theorem e304 {o : Nat} (ho : o ≤ 30) : d_304 n (nI (200 + o)) = some (if o = 27 ∨ o = 28 ∨ o = 29 then nI 1 else nI 0) := by
  have : ∀ o : Fin 31, d_304 0 (nI (200 + o.1)) = some (if o.1 = 27 ∨ o.1 = 28 ∨ o.1 = 29 then nI 1 else nI 0) := by decide +kernel
  exact this ⟨o, by omega⟩
def p3c (n : Nat) (v2 v8 : Int32) (p10 : cS) : Option cS :=
      Option.bind (d_308 n v2 v8 p10) (fun r13 =>
      if ib 2 12 then
      if ib 2 12 then
      lt (pI r13 162 (ix 2) ((r13.1 162 (ix 2)) + 1)) (fun c16 =>
      if ib v8 1024 then
      jn (fun p19 : cS =>
        some p19)
      (fun j221 =>
      if (c16.1 121 (ix v8)) = 220 then
        Option.bind (d_310 n v2 v8 c16) (fun r36 =>
        j221 r36)
      else
        if ib v8 1024 then
        if (c16.1 121 (ix v8)) = 221 then
          Option.bind (d_311 n v2 v8 c16) (fun r35 =>
          j221 r35)
        else
          if ib v8 1024 then
          Option.bind (d_304 n (c16.1 121 (ix v8))) (fun v22 =>
          if v22 = 0 then
            Option.bind (d_313 n (v2 * 16) v8 c16) (fun r23 =>
            if ib v2 12 then
            if ib v2 12 then
            lt (pI r23 164 (ix v2) ((r23.1 164 (ix v2)) + 1)) (fun c26 =>
            j221 c26)
            else none
            else none)
          else
            Option.bind (d_312 n v2 v8 c16) (fun v28 =>
            jn (fun p29 : Int32 =>
              if ib v2 12 then
              lt (pI c16 164 (ix v2) p29) (fun c31 =>
              j221 c31)
              else none)
            (fun j198 =>
            if v28 = 0 then
              if ib v2 12 then
              j198 ((c16.1 164 (ix v2)) + 1)
              else none
            else
              if ib v8 1024 then
              j198 (c16.1 124 (ix v8))
              else none)))
          else none
        else none)
      else none)
      else none
      else none)
/-- what a step ends with -/
def SND (m c u : cS) (L : Nat) (d w : cS) : Prop := (∃ st fr Mf If, RN m d w st fr Mf If) ∧ JI d w ∧ d.1 162 2 = c.1 162 2 + 1 ∧ sx qGc c d ∧ sx qGr u w ∧ ∃ L', L' ≤ L + 16 ∧ d.1 162 6 = nI L'
theorem go3 (hn : 10000 ≤ n) (hT : TST m c) (hA : AG m u) (hF : FD m c u) (hJ : JI c u) (h : RN m c u 1 fr Mf If) (hL : c.1 162 6 = nI L) (hL2 : L < 2147482000) (h20 : opn m (40 * Mf (fr - 1) + If (fr - 1)) = 20 → fr < 12) : wp (p3c n (nI (fr - 1)) (nI (fa c (Mf (fr - 1)) + If (fr - 1))) c) (fun d => wp (d_469 n (nI (fr - 1)) (nI (40 * Mf (fr - 1) + If (fr - 1))) u) (fun r => wp (d_470 n (nI (fr - 1)) (nI (40 * Mf (fr - 1) + If (fr - 1))) (pI r 174 123 (r.1 174 123 + 1))) (fun w => SND m c u L d w))) := by
  have hG := hT.1
  have hC := hG.1.2.2.1
  have ho4 := hG.1.1.1
  have hTp := RN_TOP hG hA hJ h
  obtain ⟨t1, t2, hM, hi, hr, hf, h255, h254, hV⟩ := id hTp
  have hfr := h.2.1
  have hFR := h.2.2.2.2.2.2.2.2.1 (fr - 1) (by omega)
  have hM96 := isMt_lt hC hM
  have hac := MTS_ac hG.2.2 hM hi
  obtain ⟨tot, ht1, -, ht3⟩ := hG.2.2.1
  have hfa := ht3 _ hM
  obtain ⟨y1, y2, y3, y4, y5, y6, y7, y8⟩ := id h.2.2.2.2.2.2.2.1
  have i2 : ix (2 : Int32) = 2 := by decide
  obtain ⟨-, -, -, c163, u253, c164, -⟩ := hFR
  generalize hMe : Mf (fr - 1) = M at *
  generalize hIe : If (fr - 1) = i at *
  have hzc : HLc c (L, c.1 162 7, c.1 162 8, c.1 162 9) := ⟨hL, rfl, rfl, rfl⟩
  have hzr : HLr u (L, c.1 162 7, c.1 162 8, c.1 162 9) := ⟨y3 ▸ hL, y4.symm, y5.symm, y6.symm⟩
  have hlo := lfO_le (b := lfB m c (fr - 1) M i) (pl := plI M) (i := i) (W := wnt m (40 * M + i)) (z := (L, c.1 162 7, c.1 162 8, c.1 162 9)) (ocn m)
  have hmul : wnt m (40 * M + i) * ocn m ≤ 16 := Nat.le_trans (Nat.mul_le_mul (wnt_le hC hac.2.2.2.2.2.2.1) ho4) (by omega)
  obtain ⟨d1, hd1, g1, g2⟩ := wp_ex (e308 (n := n) (by omega) hT hM hi hr hf c163 c164 (fun q o hq ho => ((hV.1 q hq).2 o ho).1) hzc hL2)
  obtain ⟨r, hr1, g3, g4⟩ := wp_ex (e469 (n := n) (by omega) hT hA hF hM hi hr hf u253 h254 h255 hV.1 hzr hL2)
  generalize hZ : lfO (lfB m c (fr - 1) M i) (plI M) i (wnt m (40 * M + i)) (L, c.1 162 7, c.1 162 8, c.1 162 9) (ocn m) = Z at *
  rw [hr1]
  unfold p3c
  refine wpe hd1 (wpt (by decide) (wpt (by decide) (wpl ?_)))
  rw [i2]
  show wp _ (fun d => wp (d_470 n (nI (fr - 1)) (nI (40 * M + i)) (pI r 174 123 (r.1 174 123 + 1))) (fun w => SND m c u L d w))
  have sc : sx q162 c (pI d1 162 2 (d1.1 162 2 + 1)) := sx_pI (sx_wide g2 (fun a i z => by
    have := of_decide_eq_false z
    exact decide_eq_false (by omega))) rfl
  have su : sx q174 u (pI r 174 123 (r.1 174 123 + 1)) := sx_pI (sx_wide g4 (fun a i z => by
    have := of_decide_eq_false z
    exact decide_eq_false (by omega))) rfl
  have k2 : (pI d1 162 2 (d1.1 162 2 + 1)).1 162 2 = c.1 162 2 + 1 := by
    rw [rI, if_pos ⟨rfl, rfl⟩, g2.1 162 2 rfl]
  have kc : ∀ j, j ≠ 2 → (pI d1 162 2 (d1.1 162 2 + 1)).1 162 j = d1.1 162 j := fun j z => by rw [rI, if_neg (fun x => z x.2)]
  have kr : ∀ j, j ≠ 123 → (pI r 174 123 (r.1 174 123 + 1)).1 174 j = r.1 174 j := fun j z => by rw [rI, if_neg (fun x => z x.2)]
  have kc6 : (pI d1 162 2 (d1.1 162 2 + 1)).1 162 6 = nI Z.1 := (kc 6 (by omega)).trans g1.1
  have hR : RN m (pI d1 162 2 (d1.1 162 2 + 1)) (pI r 174 123 (r.1 174 123 + 1)) 1 fr Mf If := by
    refine RN_mv h sc su (by omega) (by omega) ((kc 0 (by omega)).trans ((g2.1 162 0 rfl).trans h.2.2.1)) ((kr 111 (by omega)).trans ((g4.1 174 111 rfl).trans h.2.2.2.1)) ⟨?_, ?_, ?_, ?_, ?_, ?_, ?_, ?_⟩
    · rw [kc 1 (by omega), g2.1 162 1 rfl, y1, if_neg (by decide), if_neg (by decide)]
    · rw [k2, rI, if_pos ⟨rfl, rfl⟩, g4.1 174 123 rfl, y2]
    · rw [kc6, kr 124 (by omega)]
      exact g3.1.symm
    · rw [kc 7 (by omega), kr 125 (by omega), g1.2.1]
      exact g3.2.1.symm
    · rw [kc 8 (by omega), kr 126 (by omega), g1.2.2.1]
      exact g3.2.2.1.symm
    · rw [kc 9 (by omega), kr 127 (by omega), g1.2.2.2]
      exact g3.2.2.2.symm
    · rw [kc 10 (by omega), kr 128 (by omega), g2.1 162 10 rfl, g4.1 174 128 rfl]
      exact y7
    · rw [kc 11 (by omega), kr 129 (by omega), g2.1 162 11 rfl, g4.1 174 129 rfl]
      exact y8
  have hJ1 := JI_mv hJ sc su
  generalize pI d1 162 2 (d1.1 162 2 + 1) = x at *
  generalize pI r 174 123 (r.1 174 123 + 1) = v at *
  have hGx := PG_CA (CA_sx sc nC_162) hG
  have hAv := AG_sx hA (q174_G su) nP_Gr
  have hTx := RN_TOP hGx hAv hJ1 hR
  rw [hMe, hIe] at hTx
  have hfx : fa x M = fa c M := FC_fa sc nC_162
  have c121 : x.1 121 (fa c M + i) = nI (200 + opn m (40 * M + i)) := (sc.1 121 _ (decide_eq_false (by omega))).trans hac.2.2.1
  have c124 : x.1 124 (fa c M + i) = m.1 216 (40 * M + i) := (sc.1 124 _ (decide_eq_false (by omega))).trans hac.2.2.2.2.1
  have hop := hac.1
  have x164 : x.1 164 (fr - 1) = nI i := (sc.1 164 _ (decide_eq_false (by omega))).trans c164
  have fin : ∀ {d w : cS} {st fr' : Nat} {Mf' If' : Nat → Nat}, RN m d w st fr' Mf' If' → JI d w → sx qGc x d → sx qGr v w → d.1 162 2 = x.1 162 2 → d.1 162 6 = x.1 162 6 → SND m c u L d w := fun {d w st fr' Mf' If'} b1 b2 b3 b4 b5 b6 => ⟨⟨st, fr', Mf', If', b1⟩, b2, b5.trans k2, sx_trans (q162_G sc) b3, sx_trans (q174_G su) b4, Z.1, by have := hlo.2; dsimp only at this; omega, b6.trans kc6⟩
  refine wpt (by simp (disch := first | omega | decide) only [↓neg1, nlit, rI, rL, rI2, rL1, nI_add, pk_mul, sbT, dvT, nmd, ixT, ↓ibT, ltT, ltF, leT, leF, eqT, eqF, nM_ltT, nM_ltF, nM_leT, nM_leF, nM_eqF, nM_eqF', nbT0, nbT1, oI_s, oI_n, natF, natT, nltT, nltF, nleT, nleF, ↓reduceIte, lgc, not_true_eq_false, not_false_eq_true, or_false, false_or, or_true, true_or, and_true, true_and, and_false, false_and, ne_eq, eq_self, or_self, and_self]) (wpj ?_)
  rw [ix_n (by omega), c121]
  by_cases e20 : opn m (40 * M + i) = 20
  · refine wpt (by rw [e20]; decide) ?_
    have hc := call_go hn hGx hAv hJ1 hR (h20 e20) (by rw [hMe, hIe]; exact e20)
    rw [hMe, hIe, hfx] at hc
    refine wpc hc (fun d hd => wp_of (a := d) rfl (wp_mono hd (fun w hw => ?_)))
    obtain ⟨w1, w2, w3, w4⟩ := hw
    exact fin w1 w2 (sx_wide w3 (fun a i z => by
      have := of_decide_eq_false z
      exact decide_eq_false (by omega))) (sx_wide w4 (fun a i z => by
      have := of_decide_eq_false z
      exact decide_eq_false (by omega))) (w3.1 162 2 (decide_eq_false (by omega))) (w3.1 162 6 (decide_eq_false (by omega)))
  refine wpf (fun z => e20 (by have := (nI_eq (by omega) (by decide)).mp (show _ = nI 220 from z); omega)) (wpt (by simp (disch := first | omega | decide) only [↓neg1, nlit, rI, rL, rI2, rL1, nI_add, pk_mul, sbT, dvT, nmd, ixT, ↓ibT, ltT, ltF, leT, leF, eqT, eqF, nM_ltT, nM_ltF, nM_leT, nM_leF, nM_eqF, nM_eqF', nbT0, nbT1, oI_s, oI_n, natF, natT, nltT, nltF, nleT, nleF, ↓reduceIte, lgc, not_true_eq_false, not_false_eq_true, or_false, false_or, or_true, true_or, and_true, true_and, and_false, false_and, ne_eq, eq_self, or_self, and_self]) ?_)
  by_cases e21 : opn m (40 * M + i) = 21
  · refine wpt (by rw [e21]; decide) ?_
    by_cases e1 : fr = 1
    · subst e1
      have hc := ret_0 (n := n) hGx hAv hJ1 (by omega) hR (by rw [show Mf 0 = M from hMe, show If 0 = i from hIe]; exact e21)
      rw [show Mf 0 = M from hMe, show If 0 = i from hIe, hfx] at hc
      refine wpc hc (fun d hd => wp_of (a := d) rfl (wp_mono hd (fun w hw => ?_)))
      obtain ⟨w1, w2, w3, w4⟩ := hw
      exact fin w1 w2 (sx_wide w3 (fun a i z => by
        have := of_decide_eq_false z
        exact decide_eq_false (by omega))) (sx_wide w4 (fun a i z => by
        have := of_decide_eq_false z
        exact decide_eq_false (by omega))) (w3.1 162 2 (decide_eq_false (by omega))) (w3.1 162 6 (decide_eq_false (by omega)))
    · have hc := ret_1 (n := n) hGx hAv hJ1 (by omega) hR (by omega) (by rw [hMe, hIe]; exact e21)
      rw [hMe, hIe, hfx] at hc
      refine wpc hc (fun d hd => wp_of (a := d) rfl (wp_mono hd (fun w hw => ?_)))
      obtain ⟨w1, w2, w3, w4⟩ := hw
      exact fin w1 w2 (sx_wide w3 (fun a i z => by
        have := of_decide_eq_false z
        exact decide_eq_false (by omega))) (sx_wide w4 (fun a i z => by
        have := of_decide_eq_false z
        exact decide_eq_false (by omega))) (w3.1 162 2 (decide_eq_false (by omega))) (w3.1 162 6 (decide_eq_false (by omega)))
  refine wpf (fun z => e21 (by have := (nI_eq (by omega) (by decide)).mp (show _ = nI 221 from z); omega)) (wpt (by simp (disch := first | omega | decide) only [↓neg1, nlit, rI, rL, rI2, rL1, nI_add, pk_mul, sbT, dvT, nmd, ixT, ↓ibT, ltT, ltF, leT, leF, eqT, eqF, nM_ltT, nM_ltF, nM_leT, nM_leF, nM_eqF, nM_eqF', nbT0, nbT1, oI_s, oI_n, natF, natT, nltT, nltF, nleT, nleF, ↓reduceIte, lgc, not_true_eq_false, not_false_eq_true, or_false, false_or, or_true, true_or, and_true, true_and, and_false, false_and, ne_eq, eq_self, or_self, and_self]) (wpe (e304 hop.2) ?_))
  have nx : ∀ {d w : cS} {i' : Nat}, PST m x v d w (fr - 1) M i i' → i' < acn m M → RCH m M i' → dpn m (40 * M + i') = dpb m (40 * M + i) → SND m c u L (pI d 164 (fr - 1) (nI i')) w := fun {d w i'} b1 b2 b3 b4 => by
    have hq := RN_next (d := d) (w := w) (i' := i') hGx hR (by rw [hMe, hIe]; exact b1) (by rw [hMe]; exact b2) (by rw [hMe]; exact b3) (by rw [hMe, hIe]; exact b4)
    obtain ⟨v1, v2, v3, v4, v5⟩ := b1
    refine fin hq.1 hq.2 (sx_pI (sx_wide v2 (fun a i z => by
      have := of_decide_eq_false z
      exact decide_eq_false (by omega))) rfl) (sx_wide v3 (fun a i z => by
      have := of_decide_eq_false z
      exact decide_eq_false (by omega))) ?_ ?_
    · rw [rI, if_neg (by omega)]
      exact v2.1 162 2 (decide_eq_false (by omega))
    · rw [rI, if_neg (by omega)]
      exact v2.1 162 6 (decide_eq_false (by omega))
  by_cases eb : opn m (40 * M + i) = 27 ∨ opn m (40 * M + i) = 28 ∨ opn m (40 * M + i) = 29
  · rw [if_pos eb]
    refine wpf (by decide) ?_
    have h312 := e312 (n := n) hTx eb
    rw [hfx] at h312
    refine wpe h312 ?_
    have hbr := bra_r (n := n) hTx eb
    obtain ⟨w0, hw0, hw1⟩ := wp_ex hbr
    obtain ⟨l1, l2⟩ := lbT_lt hG hM hi (decide_eq_true eb)
    refine wpjQ (fun y : Int32 => y = nI (if tkB m x v (fr - 1) M i = true then lbT m (40 * M + i) else i + 1)) ?_ ?_
    · rintro y rfl
      refine wpt (by simp (disch := first | omega | decide) only [↓neg1, nlit, rI, rL, rI2, rL1, nI_add, pk_mul, sbT, dvT, nmd, ixT, ↓ibT, ltT, ltF, leT, leF, eqT, eqF, nM_ltT, nM_ltF, nM_leT, nM_leF, nM_eqF, nM_eqF', nbT0, nbT1, oI_s, oI_n, natF, natT, nltT, nltF, nleT, nleF, ↓reduceIte, lgc, not_true_eq_false, not_false_eq_true, or_false, false_or, or_true, true_or, and_true, true_and, and_false, false_and, ne_eq, eq_self, or_self, and_self]) ?_
      rw [ix_n (by omega)]
      refine wpl (wp_of rfl (wp_of hw0 ?_))
      by_cases et : tkB m x v (fr - 1) M i = true
      · rw [if_pos et] at hw1 ⊢
        obtain ⟨n1, n2⟩ := RCH_lb hG.2.2 hM hi hr l1 l2
        exact nx hw1 l2 n1 n2
      · rw [if_neg et] at hw1 ⊢
        obtain ⟨n1, n2, n3⟩ := RCH_nx hG.2.2 hM hi hr ⟨e21, fun z => et (by unfold tkB; rw [if_pos z])⟩
        exact nx hw1 n1 n2 n3
    · intro Q' k' hk'
      by_cases et : tkB m x v (fr - 1) M i = true
      · rw [if_pos et] at hk' ⊢
        refine wpf (by decide) (wpt (by simp (disch := first | omega | decide) only [↓neg1, nlit, rI, rL, rI2, rL1, nI_add, pk_mul, sbT, dvT, nmd, ixT, ↓ibT, ltT, ltF, leT, leF, eqT, eqF, nM_ltT, nM_ltF, nM_leT, nM_leF, nM_eqF, nM_eqF', nbT0, nbT1, oI_s, oI_n, natF, natT, nltT, nltF, nleT, nleF, ↓reduceIte, lgc, not_true_eq_false, not_false_eq_true, or_false, false_or, or_true, true_or, and_true, true_and, and_false, false_and, ne_eq, eq_self, or_self, and_self]) ?_)
        rw [c124]
        exact hk' _ l1
      · rw [if_neg et] at hk' ⊢
        refine wpt rfl (wpt (by simp (disch := first | omega | decide) only [↓neg1, nlit, rI, rL, rI2, rL1, nI_add, pk_mul, sbT, dvT, nmd, ixT, ↓ibT, ltT, ltF, leT, leF, eqT, eqF, nM_ltT, nM_ltF, nM_leT, nM_leF, nM_eqF, nM_eqF', nbT0, nbT1, oI_s, oI_n, natF, natT, nltT, nltF, nleT, nleF, ↓reduceIte, lgc, not_true_eq_false, not_false_eq_true, or_false, false_or, or_true, true_or, and_true, true_and, and_false, false_and, ne_eq, eq_self, or_self, and_self]) ?_)
        rw [ix_n (by omega), x164]
        exact hk' _ (nI_1 _)
  · rw [if_neg eb]
    refine wpt rfl ?_
    have hc := plain_go (n := n) (by omega) hTx ⟨e20, e21, fun z => eb (Or.inl z), fun z => eb (Or.inr (Or.inl z)), fun z => eb (Or.inr (Or.inr z))⟩
    rw [hfx] at hc
    rw [show nI (fr - 1) * 16 = nI (16 * (fr - 1)) by
      rw [show (16 : Int32) = nI 16 from rfl, pk_mul]
      exact congrArg nI (by omega)]
    refine wpc hc (fun d hd => wpt (by simp (disch := first | omega | decide) only [↓neg1, nlit, rI, rL, rI2, rL1, nI_add, pk_mul, sbT, dvT, nmd, ixT, ↓ibT, ltT, ltF, leT, leF, eqT, eqF, nM_ltT, nM_ltF, nM_leT, nM_leF, nM_eqF, nM_eqF', nbT0, nbT1, oI_s, oI_n, natF, natT, nltT, nltF, nleT, nleF, ↓reduceIte, lgc, not_true_eq_false, not_false_eq_true, or_false, false_or, or_true, true_or, and_true, true_and, and_false, false_and, ne_eq, eq_self, or_self, and_self]) (wpt (by simp (disch := first | omega | decide) only [↓neg1, nlit, rI, rL, rI2, rL1, nI_add, pk_mul, sbT, dvT, nmd, ixT, ↓ibT, ltT, ltF, leT, leF, eqT, eqF, nM_ltT, nM_ltF, nM_leT, nM_leF, nM_eqF, nM_eqF', nbT0, nbT1, oI_s, oI_n, natF, natT, nltT, nltF, nleT, nleF, ↓reduceIte, lgc, not_true_eq_false, not_false_eq_true, or_false, false_or, or_true, true_or, and_true, true_and, and_false, false_and, ne_eq, eq_self, or_self, and_self]) ?_))
    rw [ix_n (by omega)]
    obtain ⟨w0, hw0, hw1⟩ := wp_ex hd
    rw [hw1.2.1.1 164 _ (decide_eq_false (by omega)), x164, show nI i + 1 = nI (i + 1) from nI_1 _]
    refine wpl (wp_of rfl (wp_of hw0 ?_))
    obtain ⟨n1, n2, n3⟩ := RCH_nx hG.2.2 hM hi hr ⟨e21, fun z => eb (Or.inl z)⟩
    exact nx hw1 n1 n2 n3
end STP
