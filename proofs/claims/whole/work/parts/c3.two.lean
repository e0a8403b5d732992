/-! RUN: the reference's ACT, in two halves -/
def tl470 (n f b q : Nat) (p10 : Int32 × cS) : Option (cS) :=
    if ib (nI b) 3840 then
    if (p10.2.1 211 b) = 20 then
      Option.bind (d_472 n (nI f) (nI b) p10.2) (fun r25 =>
      some r25)
    else
      if ib (nI b) 3840 then
      if (p10.2.1 211 b) = 21 then
        Option.bind (d_473 n (nI f) ((nI q) - 1) p10.2) (fun r24 =>
        some r24)
      else
        if ib (nI f) 12 then
        Option.bind (d_418 n (nI b) p10.2) (fun v14 =>
        Option.bind (d_417 n (nI b) p10.2) (fun v15 =>
        if ib (nI f) 12 then
        lt (pI p10.2 255 f ((p10.2.1 255 f) + (v14 - v15))) (fun c17 =>
        jn (fun p19 : Int32 =>
          if ib (nI f) 12 then
          lt (pI c17 254 f p19) (fun c21 =>
          some c21)
          else none)
        (fun j801 =>
        if p10.1 < 0 then
          if ib (nI f) 12 then
          j801 ((c17.1 254 f) + 1)
          else none
        else
          j801 p10.1))
        else none))
        else none
      else none
    else none
def op470 (n f b q : Nat) (u : cS) (k' : Int32 × cS → Option (cS)) : Option (cS) :=
  jn (fun p26 : Unit =>
    if ib (nI b) 3840 then
    jn (fun p28 : Int32 × cS =>
      Option.bind (d_138 n (nI q) p28.1 p28.2) (fun r29 =>
      Option.bind (whl (R := (cS)) (fun s31 : Int32 × cS =>
        if ib (nI b) 3840 then
        if (s31.2.1 219 b) ≤ s31.1 then
          some (.inr s31.2)
        else
          if ib ((4 * (nI b)) + s31.1) 15360 then
          if ib ((4 * (nI b)) + s31.1) 15360 then
          if ib ((4 * (nI q)) + (s31.2.1 220 (ix ((4 * (nI b)) + s31.1)))) 768 then
          lt (pI s31.2 257 (ix ((4 * (nI q)) + (s31.2.1 220 (ix ((4 * (nI b)) + s31.1))))) (s31.2.1 221 (ix ((4 * (nI b)) + s31.1)))) (fun c36 =>
          lt (s31.1 + 1 : Int32) (fun v39 =>
          some (.inl (v39, c36))))
          else none
          else none
          else none
        else none) n (0, r29))
      (fun x41 : cS =>
        k' ((-1), x41))))
    (fun j135 =>
    if (u.1 211 b) = 14 then
      if ib (nI b) 3840 then
      j135 ((u.1 214 b), u)
      else none
    else
      Option.bind (d_471 n u) (fun r42 =>
      j135 (r42.1, r42.2)))
    else none)
  (fun j108 =>
  jn (fun p44 : Unit =>
    if ib ((nI q) - 2) 192 then
    lt ((u.1 256 (ix ((nI q) - 2))) : Int32) (fun v47 =>
    if ib ((nI q) - 1) 192 then
    lt ((u.1 256 (ix ((nI q) - 1))) : Int32) (fun v51 =>
    if ib (nI b) 3840 then
    jn (fun p54 : Int32 =>
      if ib ((nI q) - 2) 192 then
      lt (pI u 256 (ix ((nI q) - 2)) p54) (fun c56 =>
      Option.bind (whl (R := (cS)) (fun s59 : Int32 × cS =>
        if (s59.2.1 174 15) ≤ s59.1 then
          some (.inr s59.2)
        else
          if ib ((4 * ((nI q) - 2)) + s59.1) 768 then
          if ib ((4 * ((nI q) - 1)) + s59.1) 768 then
          Option.bind (d_390 n s59.1 (s59.2.1 257 (ix ((4 * ((nI q) - 2)) + s59.1))) (s59.2.1 257 (ix ((4 * ((nI q) - 1)) + s59.1))) s59.2) (fun v62 =>
          if ib ((4 * ((nI q) - 2)) + s59.1) 768 then
          lt (pI s59.2 257 (ix ((4 * ((nI q) - 2)) + s59.1)) v62) (fun c64 =>
          lt (s59.1 + 1 : Int32) (fun v67 =>
          some (.inl (v67, c64))))
          else none)
          else none
          else none) n (0, c56))
      (fun x69 : cS =>
        k' ((-1), x69)))
      else none)
    (fun j480 =>
    if (u.1 211 b) = 22 then
      j480 (v47 + v51)
    else
      if ib (nI b) 3840 then
      if (u.1 211 b) = 23 then
        j480 (v47 - v51)
      else
        j480 (v47 * v51)
      else none)
    else none)
    else none)
    else none)
  (fun j407 =>
  if (u.1 211 b) = 14 then
    j108 ()
  else
  if (u.1 211 b) = 15 then
    j108 ()
  else
  if (u.1 211 b) = 16 then
    if ib (nI b) 3840 then
    Option.bind (d_467 n (nI q) ((nI (16 * f)) + (u.1 214 b)) u) (fun r75 =>
    k' ((-1), r75))
    else none
  else
  if (u.1 211 b) = 17 then
    if ib (nI b) 3840 then
    Option.bind (d_467 n ((nI (16 * f)) + (u.1 214 b)) ((nI q) - 1) u) (fun r78 =>
    k' ((-1), r78))
    else none
  else
  if (u.1 211 b) = 18 then
    if ib (nI b) 3840 then
    if ib (nI b) 3840 then
    if ib ((8 * (u.1 214 b)) + (u.1 215 b)) 96 then
    if ib (nI q) 192 then
    lt (pI u 256 (ix (nI q)) (u.1 258 (ix ((8 * (u.1 214 b)) + (u.1 215 b))))) (fun c84 =>
    Option.bind (whl (R := (cS)) (fun s87 : Int32 × cS =>
      if (s87.2.1 174 15) ≤ s87.1 then
        some (.inr s87.2)
      else
        if ib (nI b) 3840 then
        if ib (nI b) 3840 then
        if ib ((4 * ((8 * (s87.2.1 214 b)) + (s87.2.1 215 b))) + s87.1) 384 then
        if ib ((4 * (nI q)) + s87.1) 768 then
        lt (pI s87.2 257 (ix ((4 * (nI q)) + s87.1)) (s87.2.1 259 (ix ((4 * ((8 * (s87.2.1 214 b)) + (s87.2.1 215 b))) + s87.1)))) (fun c92 =>
        lt (s87.1 + 1 : Int32) (fun v95 =>
        some (.inl (v95, c92))))
        else none
        else none
        else none
        else none) n (0, c84))
    (fun x97 : cS =>
      k' ((-1), x97)))
    else none
    else none
    else none
    else none
  else
  if (u.1 211 b) = 19 then
    if ib (nI b) 3840 then
    if ib (nI b) 3840 then
    if ib ((nI q) - 1) 192 then
    if ib ((8 * (u.1 214 b)) + (u.1 215 b)) 96 then
    lt (pI u 258 (ix ((8 * (u.1 214 b)) + (u.1 215 b))) (u.1 256 (ix ((nI q) - 1)))) (fun c103 =>
    Option.bind (whl (R := (cS)) (fun s106 : Int32 × cS =>
      if (s106.2.1 174 15) ≤ s106.1 then
        some (.inr s106.2)
      else
        if ib (nI b) 3840 then
        if ib (nI b) 3840 then
        if ib ((4 * ((nI q) - 1)) + s106.1) 768 then
        if ib ((4 * ((8 * (s106.2.1 214 b)) + (s106.2.1 215 b))) + s106.1) 384 then
        lt (pI s106.2 259 (ix ((4 * ((8 * (s106.2.1 214 b)) + (s106.2.1 215 b))) + s106.1)) (s106.2.1 257 (ix ((4 * ((nI q) - 1)) + s106.1)))) (fun c111 =>
        lt (s106.1 + 1 : Int32) (fun v114 =>
        some (.inl (v114, c111))))
        else none
        else none
        else none
        else none) n (0, c103))
    (fun x116 : cS =>
      k' ((-1), x116)))
    else none
    else none
    else none
    else none
  else
  if (u.1 211 b) = 20 then
    k' ((-1), u)
  else
  if (u.1 211 b) = 21 then
    k' ((-1), u)
  else
  if (u.1 211 b) = 22 then
    j407 ()
  else
  if (u.1 211 b) = 23 then
    j407 ()
  else
  if (u.1 211 b) = 24 then
    j407 ()
  else
  if (u.1 211 b) = 25 then
    Option.bind (d_467 n (nI q) ((nI q) - 1) u) (fun r123 =>
    k' ((-1), r123))
  else
  if (u.1 211 b) = 26 then
    k' ((-1), u)
  else
  if (u.1 211 b) = 27 then
    if ib (nI b) 3840 then
    lt ((u.1 216 b) : Int32) (fun v128 =>
    k' (v128, u))
    else none
  else
  if (u.1 211 b) = 28 then
    if ib ((nI q) - 1) 192 then
    if (u.1 256 (ix ((nI q) - 1))) = 0 then
      if ib (nI b) 3840 then
      lt ((u.1 216 b) : Int32) (fun v134 =>
      k' (v134, u))
      else none
    else
      k' ((-1), u)
    else none
  else
  if (u.1 211 b) = 29 then
    if ib (nI b) 3840 then
    if ib (nI b) 3840 then
    if ib ((4 * ((nI q) - 1)) + (u.1 214 b)) 768 then
    if ib (nI b) 3840 then
    Option.bind (d_387 n (u.1 214 b) (u.1 257 (ix ((4 * ((nI q) - 1)) + (u.1 214 b)))) (u.1 215 b) u) (fun v141 =>
    if v141 = 0 then
      k' ((-1), u)
    else
      if ib (nI b) 3840 then
      lt ((u.1 216 b) : Int32) (fun v144 =>
      k' (v144, u))
      else none)
    else none
    else none
    else none
    else none
  else
  if (u.1 211 b) = 30 then
    if ib (nI b) 3840 then
    if ib (nI b) 3840 then
    if ib ((4 * ((nI q) - 1)) + (u.1 214 b)) 768 then
    if ib (nI b) 3840 then
    Option.bind (d_387 n (u.1 214 b) (u.1 257 (ix ((4 * ((nI q) - 1)) + (u.1 214 b)))) (u.1 215 b) u) (fun v151 =>
    jn (fun p152 : cS =>
      if ib (nI b) 3840 then
      if ib (nI b) 3840 then
      if ib ((4 * ((nI q) - 1)) + (p152.1 214 b)) 768 then
      lt (pI p152 257 (ix ((4 * ((nI q) - 1)) + (p152.1 214 b))) (p152.1 215 b)) (fun c156 =>
      k' ((-1), c156))
      else none
      else none
      else none)
    (fun j692 =>
    if v151 = 0 then
      lt (pI u 174 128 ((u.1 174 128) + 1)) (fun c158 =>
      j692 c158)
    else
      j692 u))
    else none
    else none
    else none
    else none
  else
  k' ((-1), u)))
section P7
variable {n f M i : Nat} {c m u : cS}
def PST (m c u d w : cS) (f M i i' : Nat) : Prop := VAL m d w (16 * (f + 1)) ∧ sx qPc c d ∧ sx (qPr2 f) u w ∧ w.1 254 f = nI i' ∧ w.1 255 f = nI (8 + dpb m (40 * M + i))
theorem tail_r {z : cS} {t : Option Nat} {q : Nat} (hA : AG m u) (hG : PG c m) (hM : isMt m M) (hi : i < acn m M) (hr : RCH m M i) (hf : f < 12) (h255 : u.1 255 f = nI (8 + dpn m (40 * M + i))) (h254 : u.1 254 f = nI i) (sz : sx qPo u z) (h20 : opn m (40 * M + i) ≠ 20) (h21 : opn m (40 * M + i) ≠ 21) (ht : ∀ k, t = some k → k < 1000) : wp (tl470 n f (40 * M + i) q (oI t, z)) (fun w => sx (fun a j => decide ((a = 254 ∨ a = 255) ∧ j = f)) z w ∧ w.1 254 f = nI (t.getD (i + 1)) ∧ w.1 255 f = nI (8 + dpb m (40 * M + i))) := by
  have hC := hG.1.2.2.1
  have hM96 := isMt_lt hC hM
  have hn40 := ((hG.2.2.2.1 M hM).1).1.2
  have hac := MTS_ac hG.2.2 hM hi
  have hb : 40 * M + i < 3840 := by omega
  have hAz := AG_sx hA sz nP_Po
  have z211 : z.1 211 (40 * M + i) = nI (opn m (40 * M + i)) := (hAz.1 211 _ rfl).trans hac.2.1
  have z255 : z.1 255 f = nI (8 + dpn m (40 * M + i)) := (sz.1 255 f (decide_eq_false (by omega))).trans h255
  have z254 : z.1 254 f = nI i := (sz.1 254 f (decide_eq_false (by omega))).trans h254
  obtain ⟨r1, r2, r3, r4⟩ := id hr
  have hop := hac.1
  unfold tl470
  dsimp only
  refine wpt (by simp (disch := first | omega | decide) only [↓neg1, nlit, rI, rL, rI2, rL1, nI_add, pk_mul, sbT, dvT, nmd, ixT, ↓ibT, ltT, ltF, leT, leF, eqT, eqF, nM_ltT, nM_ltF, nM_leT, nM_leF, nM_eqF, nM_eqF', nbT0, nbT1, oI_s, oI_n, natF, natT, nltT, nltF, nleT, nleF, ↓reduceIte, lgc, not_true_eq_false, not_false_eq_true, or_false, false_or, or_true, true_or, and_true, true_and, and_false, false_and, ne_eq, eq_self, or_self, and_self]) (wpf (by rw [z211]; exact fun x => h20 ((nI_eq (by omega) (by decide)).mp x)) (wpt (by simp (disch := first | omega | decide) only [↓neg1, nlit, rI, rL, rI2, rL1, nI_add, pk_mul, sbT, dvT, nmd, ixT, ↓ibT, ltT, ltF, leT, leF, eqT, eqF, nM_ltT, nM_ltF, nM_leT, nM_leF, nM_eqF, nM_eqF', nbT0, nbT1, oI_s, oI_n, natF, natT, nltT, nltF, nleT, nleF, ↓reduceIte, lgc, not_true_eq_false, not_false_eq_true, or_false, false_or, or_true, true_or, and_true, true_and, and_false, false_and, ne_eq, eq_self, or_self, and_self]) (wpf (by rw [z211]; exact fun x => h21 ((nI_eq (by omega) (by decide)).mp x)) (wpt (by simp (disch := first | omega | decide) only [↓neg1, nlit, rI, rL, rI2, rL1, nI_add, pk_mul, sbT, dvT, nmd, ixT, ↓ibT, ltT, ltF, leT, leF, eqT, eqF, nM_ltT, nM_ltF, nM_leT, nM_leF, nM_eqF, nM_eqF', nbT0, nbT1, oI_s, oI_n, natF, natT, nltT, nltF, nleT, nleF, ↓reduceIte, lgc, not_true_eq_false, not_false_eq_true, or_false, false_or, or_true, true_or, and_true, true_and, and_false, false_and, ne_eq, eq_self, or_self, and_self]) ?_))))
  refine wpe (e418 hAz hac.2.1 hop hb) (wpe (e417 hAz hac.2.1 hop hb h20) (wpt (by simp (disch := first | omega | decide) only [↓neg1, nlit, rI, rL, rI2, rL1, nI_add, pk_mul, sbT, dvT, nmd, ixT, ↓ibT, ltT, ltF, leT, leF, eqT, eqF, nM_ltT, nM_ltF, nM_leT, nM_leF, nM_eqF, nM_eqF', nbT0, nbT1, oI_s, oI_n, natF, natT, nltT, nltF, nleT, nleF, ↓reduceIte, lgc, not_true_eq_false, not_false_eq_true, or_false, false_or, or_true, true_or, and_true, true_and, and_false, false_and, ne_eq, eq_self, or_self, and_self]) (wpl ?_)))
  have hsum : nI (8 + dpn m (40 * M + i)) + (nI (gvn m (40 * M + i)) - nI (tkn m (40 * M + i))) = nI (8 + dpb m (40 * M + i)) := by
    have h1 : ∀ x y z : Int32, x + (y - z) = x - z + y := by
      intro x y z
      rw [Int32.sub_eq_add_neg, Int32.sub_eq_add_neg, Int32.add_assoc, Int32.add_comm (-z) y]
    rw [h1, pk_sub (by omega), nI_add]
    refine congrArg nI ?_
    unfold dpb
    omega
  rw [z255, hsum]
  have hx254 : (pI z 255 f (nI (8 + dpb m (40 * M + i)))).1 254 f = nI i := by
    rw [rI, if_neg (by omega)]
    exact z254
  have hx255 : (pI z 255 f (nI (8 + dpb m (40 * M + i)))).1 255 f = nI (8 + dpb m (40 * M + i)) := by
    rw [rI, if_pos ⟨rfl, rfl⟩]
  have hsx : sx (fun a j => decide ((a = 254 ∨ a = 255) ∧ j = f)) z (pI z 255 f (nI (8 + dpb m (40 * M + i)))) := sx_pI sx_rfl (decide_eq_true (by omega))
  generalize pI z 255 f (nI (8 + dpb m (40 * M + i))) = y at *
  refine wpjQ (fun p : Int32 => p = nI (t.getD (i + 1))) ?_ ?_
  · rintro p rfl
    refine wpt (by simp (disch := first | omega | decide) only [↓neg1, nlit, rI, rL, rI2, rL1, nI_add, pk_mul, sbT, dvT, nmd, ixT, ↓ibT, ltT, ltF, leT, leF, eqT, eqF, nM_ltT, nM_ltF, nM_leT, nM_leF, nM_eqF, nM_eqF', nbT0, nbT1, oI_s, oI_n, natF, natT, nltT, nltF, nleT, nleF, ↓reduceIte, lgc, not_true_eq_false, not_false_eq_true, or_false, false_or, or_true, true_or, and_true, true_and, and_false, false_and, ne_eq, eq_self, or_self, and_self]) (wpl ⟨sx_pI hsx (decide_eq_true (by omega)), ?_, ?_⟩)
    · rw [rI, if_pos ⟨rfl, rfl⟩]
    · rw [rI, if_neg (by omega)]
      exact hx255
  · intro Q' k' hk'
    cases t with
    | none =>
      refine wpt (show nM < 0 by decide) (wpt (by simp (disch := first | omega | decide) only [↓neg1, nlit, rI, rL, rI2, rL1, nI_add, pk_mul, sbT, dvT, nmd, ixT, ↓ibT, ltT, ltF, leT, leF, eqT, eqF, nM_ltT, nM_ltF, nM_leT, nM_leF, nM_eqF, nM_eqF', nbT0, nbT1, oI_s, oI_n, natF, natT, nltT, nltF, nleT, nleF, ↓reduceIte, lgc, not_true_eq_false, not_false_eq_true, or_false, false_or, or_true, true_or, and_true, true_and, and_false, false_and, ne_eq, eq_self, or_self, and_self]) (hk' _ ?_))
      rw [hx254, nI_1]
      rfl
    | some k =>
      have := ht k rfl
      exact wpf (show ¬ nI k < 0 by simp (disch := first | omega | decide) only [↓neg1, nlit, rI, rL, rI2, rL1, nI_add, pk_mul, sbT, dvT, nmd, ixT, ↓ibT, ltT, ltF, leT, leF, eqT, eqF, nM_ltT, nM_ltF, nM_leT, nM_leF, nM_eqF, nM_eqF', nbT0, nbT1, oI_s, oI_n, natF, natT, nltT, nltF, nleT, nleF, ↓reduceIte, lgc, not_true_eq_false, not_false_eq_true, or_false, false_or, or_true, true_or, and_true, true_and, and_false, false_and, ne_eq, eq_self, or_self, and_self]) (hk' _ rfl)
theorem ref_pl {d : cS} {t : Option Nat} (hT : TOP m c u f M i) (h20 : opn m (40 * M + i) ≠ 20) (h21 : opn m (40 * M + i) ≠ 21) (ht : ∀ k, t = some k → k < 1000) (hcd : sx qPc c d) (hz : ∀ (Q' : cS → Prop) (k' : Int32 × cS → Option cS), (∀ y : Int32 × cS, (y.1 = oI t ∧ sx qPo u y.2 ∧ VAL m d y.2 (16 * (f + 1))) → wp (k' y) Q') → wp (op470 n f (40 * M + i) (16 * f + (8 + dpn m (40 * M + i))) u k') Q') : wp (d_470 n (nI f) (nI (40 * M + i)) u) (fun w => PST m c u d w f M i (t.getD (i + 1))) := by
  obtain ⟨hG, hA, hM, hi, hr, hf, h255, h254, hV⟩ := hT
  have hC := hG.1.2.2.1
  have hM96 := isMt_lt hC hM
  have hn40 := ((hG.2.2.2.1 M hM).1).1.2
  unfold d_470
  rw [show (16 : Int32) * nI f = nI (16 * f) by rw [show (16 : Int32) = nI 16 from rfl, pk_mul]]
  refine wpl (wpt (by simp (disch := first | omega | decide) only [↓neg1, nlit, rI, rL, rI2, rL1, nI_add, pk_mul, sbT, dvT, nmd, ixT, ↓ibT, ltT, ltF, leT, leF, eqT, eqF, nM_ltT, nM_ltF, nM_leT, nM_leF, nM_eqF, nM_eqF', nbT0, nbT1, oI_s, oI_n, natF, natT, nltT, nltF, nleT, nleF, ↓reduceIte, lgc, not_true_eq_false, not_false_eq_true, or_false, false_or, or_true, true_or, and_true, true_and, and_false, false_and, ne_eq, eq_self, or_self, and_self]) ?_)
  rw [ix_n (by omega), h255, nI_add]
  refine wpl (wpt (by simp (disch := first | omega | decide) only [↓neg1, nlit, rI, rL, rI2, rL1, nI_add, pk_mul, sbT, dvT, nmd, ixT, ↓ibT, ltT, ltF, leT, leF, eqT, eqF, nM_ltT, nM_ltF, nM_leT, nM_leF, nM_eqF, nM_eqF', nbT0, nbT1, oI_s, oI_n, natF, natT, nltT, nltF, nleT, nleF, ↓reduceIte, lgc, not_true_eq_false, not_false_eq_true, or_false, false_or, or_true, true_or, and_true, true_and, and_false, false_and, ne_eq, eq_self, or_self, and_self]) ?_)
  rw [ix_n (by omega)]
  refine wpjQ (fun y : Int32 × cS => y.1 = oI t ∧ sx qPo u y.2 ∧ VAL m d y.2 (16 * (f + 1))) ?_ ?_
  · rintro ⟨y1, y⟩ ⟨e1, e2, e3⟩
    dsimp only at e1 e2 e3
    subst e1
    refine wp_mono (show wp (tl470 n f (40 * M + i) (16 * f + (8 + dpn m (40 * M + i))) (oI t, y)) _ from tail_r hA hG hM hi hr hf h255 h254 e2 h20 h21 ht) (fun w hw => ⟨?_, hcd, ?_, hw.2.1, hw.2.2⟩)
    · obtain ⟨v1, v2, v3, v4⟩ := e3
      refine ⟨fun q hq => SL_cg (v1 q hq) rfl (hw.1.1 256 q (decide_eq_false (by omega))) (fun o ho => hw.1.1 257 _ (decide_eq_false (by omega))), fun x y hx hy => SL_cg (v2 x y hx hy) rfl (hw.1.1 258 _ (decide_eq_false (by omega))) (fun o ho => hw.1.1 259 _ (decide_eq_false (by omega))), v3.trans (hw.1.1 174 128 (decide_eq_false (by omega))).symm, JI_sx (r := fun _ _ => false) v4 sx_rfl hw.1 rfl (fun i => rfl) (decide_eq_false (by omega)) (fun i => decide_eq_false (by omega))⟩
    · exact sx_trans (sx_wide e2 (fun a i z => by
        have := of_decide_eq_false z
        exact decide_eq_false (by omega))) (sx_wide hw.1 (fun a i z => by
        have := of_decide_eq_false z
        exact decide_eq_false (by omega)))
  · exact hz
end P7
