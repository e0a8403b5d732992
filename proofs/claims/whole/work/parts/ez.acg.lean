/-! READING an ACT: whole -/
section ACG
variable {n i j N k M a b a0 na op L U U0 oc kc mc : Nat} {c d u w v q c0 u0 : cS} {K P : Nat → Nat} {V : Nat → Int64} {nm lb : Int64}
def aC5 (n : Nat) (v1 : Int32) (lb : Int64) (p12 : cS) : Option (cS ⊕ cS) :=
              Option.bind (d_43 n p12) (fun v13 =>
              Option.bind (d_280 n v13) (fun v14 =>
              jn (aC6 n v1 lb)
              (fun j161 =>
              if v14 = 0 then
                Option.bind (d_42 n p12) (fun v28 =>
                Option.bind (d_41 n 2 v28 p12) (Sum.elim (fun r29 =>
                j161 r29)
                (fun z30 => some (.inr z30))))
              else
                j161 p12)))
def aC4 (n : Nat) (v1 p4 : Int32) (lb : Int64) (p11 : cS) : Option (cS ⊕ cS) :=
            jn (aC5 n v1 lb)
            (fun j142 =>
            if p4 = 0 then
              j142 p11
            else
              lt (pI p11 145 7 ((p11.1 145 7) + 1)) (fun c31 =>
              Option.bind (d_257 n 58 c31) (Sum.elim (fun r33 =>
              j142 r33)
              (fun z34 => some (.inr z34)))))
def aC3 (n : Nat) (v1 p4 : Int32) (lb : Int64) (p9 : cS) : Option (cS ⊕ cS) :=
          if ib (p9.1 145 9) 96 then
          jn (aC4 n v1 p4 lb)
          (fun j122 =>
          jn (fun p35 : Unit =>
            Option.bind (d_41 n 6 v1 p9) (Sum.elim (fun r36 =>
            j122 r36)
            (fun z37 => some (.inr z37))))
          (fun j115 =>
          if 40 ≤ (p9.1 120 (ix (p9.1 145 9))) then
            j115 ()
          else
            if (p9.1 114 7) < 1024 then
              j122 p9
            else
              j115 ()))
          else none
def aC2 (n : Nat) (v1 p4 : Int32) (p6 : cS) (lb : Int64) : Option (cS ⊕ cS) :=
        jn (aC3 n v1 p4 lb)
        (fun j85 =>
        if p4 = 0 then
          j85 p6
        else
          Option.bind (d_163 n (p6.1 145 9) lb p6) (fun v38 =>
          if v38 < 0 then
            j85 p6
          else
            Option.bind (d_41 n 3 v1 p6) (Sum.elim (fun r39 =>
            j85 r39)
            (fun z40 => some (.inr z40)))))
theorem d279_s : d_279 n c = Option.bind (d_42 n c) (fun v1 =>
  Option.bind (d_43 n c) (fun v3 =>
  jn (fun p4 : Int32 =>
    jn (fun p6 : cS =>
      jn (aC2 n v1 p4 p6)
      (fun j59 =>
      if p4 = 0 then
        j59 0
      else
        if ib (p6.1 145 7) 4001 then
        j59 (p6.2 5 (ix (p6.1 145 7)))
        else none))
    (fun j39 =>
    if p4 = 0 then
      Option.bind (d_43 n c) (fun v42 =>
      Option.bind (d_280 n v42) (fun v43 =>
      if v43 = 0 then
        Option.bind (d_41 n 2 v1 c) (Sum.elim (fun r44 =>
        j39 r44)
        (fun z45 => some (.inr z45)))
      else
        j39 c))
    else
      j39 c))
  (fun j18 =>
  if v3 = 1 then
    j18 1
  else
    j18 0))) := rfl
def aR5 (n : Nat) (a1 v6 v9 p12 : Int32) (p16 : Int64 × cS) : Option cS :=
          jn (aR6 n a1 v6 v9 p16.1)
          (fun j264 =>
          if p12 = 0 then
            j264 p16.2
          else
            if ib v9 4001 then
            Option.bind (d_97 n 6 (p16.2.1 179 (ix v9)) p16.2) (fun r44 =>
            j264 r44)
            else none)
def aR3 (n : Nat) (v47 : Int64) (j246 : Int64 × cS → Option cS) (p60 : cS) : Option cS :=
              lt (pI p60 174 67 ((p60.1 174 67) + 1)) (fun c61 =>
              Option.bind (d_380 n 58 c61) (fun r63 =>
              if (r63.1 174 13) = 0 then
                if ib (r63.1 174 67) 4001 then
                jn (fun p65 : Unit =>
                  Option.bind (d_103 n r63) (fun r66 =>
                  j246 (v47, r66)))
                (fun j242 =>
                if (r63.1 178 (ix (r63.1 174 67))) = 4 then
                  if ib (r63.1 174 67) 4001 then
                  if 0 ≤ (lg_cmp (r63.2 180 (ix (r63.1 174 67))) 14) then
                    j246 (v47, r63)
                  else
                    j242 ()
                  else none
                else
                  j242 ())
                else none
              else
                j246 (v47, r63)))
def aR4 (n : Nat) (a1 : Int32) (c : cS) (v6 v9 p12 : Int32) : Option cS :=
        if ib (c.1 174 67) 4001 then
        jn (aR5 n a1 v6 v9 p12)
        (fun j246 =>
        if (c.1 178 (ix (c.1 174 67))) = 0 then
          if ib (c.1 174 67) 4001 then
          lt ((c.2 180 (ix (c.1 174 67))) : Int64) (fun v47 =>
          Option.bind (whl (lbL n a1 v47) n (0, c))
          (fun x59 : cS =>
            jn (aR3 n v47 j246)
            (fun j190 =>
            if p12 = 0 then
              j190 x59
            else
              if ib (x59.1 174 67) 4001 then
              Option.bind (d_97 n 6 (x59.1 179 (ix (x59.1 174 67))) x59) (fun r69 =>
              j190 r69)
              else none)))
          else none
        else
          j246 (0, c))
        else none
theorem d408_s {a1 : Int32} : d_408 n a1 c = if ib (c.1 174 67) 4001 then
  jn (fun p2 : Int32 =>
    if p2 = 0 then
      Option.bind (d_103 n c) (fun r70 =>
      some r70)
    else
      if ib a1 96 then
      lt (((40 * a1) + (c.1 210 (ix a1))) : Int32) (fun v6 =>
      lt ((c.1 174 67) : Int32) (fun v9 =>
      if ib a1 96 then
      jn (aR4 n a1 c v6 v9)
      (fun j90 =>
      if (c.1 210 (ix a1)) = 40 then
        j90 1
      else
        j90 0)
      else none))
      else none)
  (fun j46 =>
  jn (fun p71 : Unit =>
    j46 1)
  (fun j41 =>
  if (c.1 178 (ix (c.1 174 67))) = 0 then
    j41 ()
  else
    if ib (c.1 174 67) 4001 then
    jn (fun p73 : Unit =>
      j46 0)
    (fun j45 =>
    if (c.1 178 (ix (c.1 174 67))) = 4 then
      if ib (c.1 174 67) 4001 then
      if (lg_cmp (c.2 180 (ix (c.1 174 67))) 14) < 0 then
        j45 ()
      else
        j41 ()
      else none
    else
      j45 ())
    else none))
  else none := rfl
theorem lgw : ∀ x : Fin 31, (lg_cmp (nI x.1).toInt64 14 < 0 ↔ x.1 < 14) ∧ (0 ≤ lg_cmp (nI x.1).toInt64 14 ↔ 14 ≤ x.1) := by decide
theorem lgx {x : Nat} (h : x < 31) : (lg_cmp (nI x).toInt64 14 < 0 ↔ x < 14) ∧ (0 ≤ lg_cmp (nI x).toInt64 14 ↔ 14 ≤ x) := lgw ⟨x, h⟩
/-- what the reference sees of a LEXEME -/
theorem see (h : PSI K P V N w v i) : (v.1 178 i = 0 ↔ K i = 1) ∧ (v.1 178 i = 4 ↔ 200 ≤ K i) ∧ (∀ x, K i = 200 + x → v.2 180 i = (nI x).toInt64) ∧ (K i = 1 → v.2 180 i = V i) := by
  have ht := (h.1.2.2.1 i h.2.1).2.2.2.2
  unfold TKO at ht
  rcases ht with ⟨t1, -, t2⟩ | ⟨t1, t2, -, t4, -⟩ | ⟨t1, t2, -⟩ | ⟨t1, t2, -⟩ | ⟨t1, t3, t2, -⟩ | ⟨t1, t3, t2, t4⟩
  · rw [t2]; exact ⟨⟨fun z => absurd z (by decide), fun z => by omega⟩, ⟨fun z => absurd z (by decide), fun z => by omega⟩, fun x z => by omega, fun z => by omega⟩
  · rw [t2]; exact ⟨⟨fun _ => t1, fun _ => rfl⟩, ⟨fun z => absurd z (by decide), fun z => by omega⟩, fun x z => by omega, fun _ => t4⟩
  · rw [t2]; exact ⟨⟨fun z => absurd z (by decide), fun z => by omega⟩, ⟨fun z => absurd z (by decide), fun z => by omega⟩, fun x z => by omega, fun z => by omega⟩
  · rw [t2]; exact ⟨⟨fun z => absurd z (by decide), fun z => by omega⟩, ⟨fun z => absurd z (by decide), fun z => by omega⟩, fun x z => by omega, fun z => by omega⟩
  · rw [t2]; exact ⟨⟨fun z => absurd z (by decide), fun z => by omega⟩, ⟨fun z => absurd z (by decide), fun z => by omega⟩, fun x z => by omega, fun z => by omega⟩
  · rw [t2]; exact ⟨⟨fun z => absurd z (by decide), fun z => by omega⟩, ⟨fun _ => t1, fun _ => rfl⟩, fun x hx => by rw [t4, show K i - 200 = x by omega], fun z => by omega⟩
theorem aR5_w {a1 v6 v9 p12 : Int32} (h9 : ib v9 4001) (h : v.1 174 13 = nI 1) : aR5 n a1 v6 v9 p12 (lb, v) = some v := by
  unfold aR5
  refine eq_wp (wpj ?_)
  by_cases e : p12 = 0
  · exact wpt e (wp_of (aR6_w h) rfl)
  · exact wpf e (wpt h9 (wpe (e97w h) (wp_of (aR6_w h) rfl)))
theorem aR3_w {a1 v6 v9 p12 : Int32} {Q : cS → Prop} (h9 : ib v9 4001) (h : v.1 174 13 = nI 1) (hQ : ∀ q, sx q67 v q → Q q) : wp (aR3 n nm (aR5 n a1 v6 v9 p12) v) Q := by
  have h' : (pI v 174 67 (v.1 174 67 + 1)).1 174 13 = nI 1 := by
    rw [rI, if_neg (by omega)]
    exact h
  unfold aR3
  exact wpl (wpe (e380w h') (wpf (ne13 h') (wp_of (aR5_w h9 h') (hQ _ (sx_pI sx_rfl (by decide))))))
theorem MAS_at {x y : Nat} (h : MAS K P V N w v k M a0 na L oc kc mc U) : MAS K P V N (atC w x) (atR v y) k M a0 na L oc kc mc U := by
  have C : ∀ A l, ¬ (A = 145 ∧ l = 7) → (atC w x).1 A l = w.1 A l := fun A l z => by
    unfold atC
    rw [rI, if_neg z]
  have R : ∀ A l, ¬ (A = 174 ∧ l = 67) → (atR v y).1 A l = v.1 A l := fun A l z => by
    unfold atR
    rw [rI, if_neg z]
  obtain ⟨⟨a1, a2⟩, ⟨b1, b2, b3, b4, b5⟩, s1, e1, x1, x2⟩ := h
  have hkc := e1.1.2.1
  exact ⟨⟨by rw [C _ _ (by omega)]; exact a1, by rw [C _ _ (by omega)]; exact a2⟩, ⟨b1, by rw [C _ _ (by omega)]; exact b2, by rw [R _ _ (by omega)]; exact b3, by rw [C _ _ (by omega)]; exact b4, by rw [C _ _ (by omega)]; exact b5⟩, OPS_cg s1 (fun A l z => ⟨C _ _ (by omega), rfl⟩) (fun A l z => ⟨R _ _ (by omega), rfl⟩), ENV_k e1 (fun A l z => ⟨C _ _ (by unfold kcR kA at z; omega), rfl⟩) (fun A l z => ⟨R _ _ (by unfold kuR at z; omega), rfl⟩), fun l hl => ACX_cg (x1 l hl) (Nat.le_refl _) (Nat.le_refl _) (fun A l' z => ⟨C _ _ (by unfold acR mkR1 at z; omega), rfl⟩) (fun A l' z => ⟨R _ _ (by unfold auR at z; omega), rfl⟩), fun a z1 z2 => by rw [C _ _ (by omega)]; exact x2 a z1 z2⟩
theorem act_go (hn : 10000 ≤ n) (hM : M < 96) (ha : a0 + na ≤ 1000) (hP : PSI K P V N w v i) (hU : 2 * U ≤ i) (hUU : U0 ≤ U) (hS : MAS K P V N w v k M a0 na L oc kc mc U) (sc : sx (qAc M a0 U0) c0 w) (su : sx (qAu M) u0 v) : jw (d_279 n w) (d_408 n (nI M) v) (ACZ K P V N c0 u0 v k M a0 na L oc kc mc U U0 i) := by
  have hkK := PSI_K hP
  have hiM : ib (nI M) 96 := ib_n hM (by decide)
  have eM : ix (nI M) = M := ix_n (by omega)
  have hii : ib (nI i) 4001 := ib_n (by omega) (by decide)
  have ei : ix (nI i) = i := ix_n (by omega)
  obtain ⟨⟨a1, a2⟩, ⟨b1, b2, b3, b4, b5⟩, s1, e1, x1, x2⟩ := id hS
  obtain ⟨k1, k2, k3, k4⟩ := see hP
  have v67 := hP.2.2.2.1
  have w7 := hP.2.2.1
  have h42 := e42 (n := n) hP
  have h43 := e43 (n := n) hP
  have e40 : (40 : Int32) * nI M + nI na = nI (40 * M + na) := by rw [show (40 : Int32) = nI 40 from rfl, pk_mul, nI_add]
  -- the reference, where an ACT may begin
  have hR : ∀ {p : Int32} {Q : cS → Prop}, (K i = 1 ∨ 214 ≤ K i) → p = bI (decide (na = 40)) → wp (aR4 n (nI M) v (nI (40 * M + na)) (nI i) p) Q → wp (d_408 n (nI M) v) Q := fun {p Q} hk hp h => by
    have h2 : ∀ {Q : cS → Prop}, wp (aR4 n (nI M) v (nI (40 * M + na)) (nI i) p) Q → wp (if (1 : Int32) = 0 then
      Option.bind (d_103 n v) (fun r70 =>
      some r70)
    else
      if ib (nI M) 96 then
      lt (nI (40 * M + na)) (fun v6 =>
      lt (nI i) (fun v9 =>
      if ib (nI M) 96 then
      jn (aR4 n (nI M) v v6 v9)
      (fun j90 =>
      if nI na = 40 then
        j90 1
      else
        j90 0)
      else none))
      else none) Q := fun {Q} h => by
      refine wpf (show ¬ (1 : Int32) = 0 by decide) (wpt hiM (wpl (wpl (wpt hiM (wpj ?_)))))
      by_cases e : na = 40
      · rw [hp, decide_eq_true e] at h
        exact wpt (by rw [e]; rfl) h
      · rw [hp, decide_eq_false e] at h
        exact wpf (fun z => e ((nI_eq (by omega) (by decide)).mp (show _ = nI 40 from z))) h
    rw [d408_s, v67, ei, eM, b3, e40]
    refine wpt hii (wpj (wpj ?_))
    by_cases e : K i = 1
    · exact wpt (k1.mpr e) (h2 h)
    · refine wpf (fun z => e (k1.mp z)) (wpt hii (wpj (wpt (k2.mpr (by omega)) (wpt hii ?_))))
      obtain ⟨x, hx⟩ : ∃ x, K i = 200 + x := ⟨K i - 200, by omega⟩
      rw [k3 x hx]
      exact wpf (fun z => by
        have := (lgx (x := x) (by omega)).1.mp z
        omega) (h2 h)
  by_cases e0 : K i = 1 ∨ 214 ≤ K i
  rotate_left
  · -- nothing that begins an ACT
    refine jw_of (a := .inr (flC w 2 (nI (P i)))) (b := flt v 2 (nI (P i))) ?_ ?_ (Or.inr ⟨_, rfl, FLR_of (qAc_c sc) (qAu_u su)⟩)
    · rw [d279_s]
      refine eq_wp (wpe h42 (wpe h43 (wpj (wpf (fun z => by
        have := (nI_eq (by omega) (by decide)).mp (show _ = nI 1 from z)
        omega) (wpj (wpt rfl (wpe h43 (wpe (e280 (by omega)) ?_))))))))
      rw [decide_eq_false (by omega)]
      exact wpt rfl (wpe e41 (wpSr rfl))
    · rw [d408_s, v67, ei]
      refine eq_wp (wpt hii (wpj (wpj (wpf (fun z => e0 (Or.inl (k1.mp z))) (wpt hii (wpj ?_))))))
      have fin : wp (if (0 : Int32) = 0 then Option.bind (d_103 n v) (fun r70 => some r70) else (none : Option cS)) (fun r => r = flt v 2 (nI (P i))) := wpt rfl (wpe (e103 hP) rfl)
      by_cases e : 200 ≤ K i
      · refine wpt (k2.mpr e) (wpt hii ?_)
        obtain ⟨x, hx⟩ : ∃ x, K i = 200 + x := ⟨K i - 200, by omega⟩
        rw [k3 x hx]
        refine wpt ((lgx (x := x) (by omega)).1.mpr (by omega)) (wpt rfl (wpe (e103 hP) rfl))
      · exact wpf (fun z => e (k2.mp z)) (wpt rfl (wpe (e103 hP) rfl))
  by_cases eL : K i = 1
  rotate_left
  · -- no LABEL
    have e2 : 214 ≤ K i := by omega
    have hC : ∀ {Q : cS ⊕ cS → Prop}, wp (aC3 n (nI (P i)) 0 0 w) Q → wp (d_279 n w) Q := fun {Q} h => by
      rw [d279_s]
      refine wpe h42 (wpe h43 (wpj (wpf (fun z => eL ((nI_eq (by omega) (by decide)).mp (show _ = nI 1 from z))) (wpj (wpt rfl (wpe h43 (wpe (e280 (by omega)) ?_)))))))
      rw [decide_eq_true e2]
      refine wpf (show ¬ bI true = 0 by decide) (wpj (wpt rfl ?_))
      unfold aC2
      exact wpj (wpt rfl h)
    have hRR : ∀ {p : Int32} {Q : cS → Prop}, p = bI (decide (na = 40)) → wp (aR5 n (nI M) (nI (40 * M + na)) (nI i) p (0, v)) Q → wp (d_408 n (nI M) v) Q := fun {p Q} hp h => by
      refine hR e0 hp ?_
      unfold aR4
      rw [v67, ei]
      exact wpt hii (wpj (wpf (fun z => eL (k1.mp z)) h))
    by_cases e40' : na = 40
    · refine jw_of (a := .inr (flC w 6 (nI (P i)))) (b := flt v 6 (nI (P i))) ?_ ?_ (Or.inr ⟨_, rfl, FLR_of (qAc_c sc) (qAu_u su)⟩)
      · refine eq_wp (hC ?_)
        unfold aC3
        rw [a2, eM, b2, e40']
        exact wpt hiM (wpj (wpj (wpt (by decide) (wpe e41 (wpSr rfl)))))
      · refine eq_wp (hRR (p := 1) (by rw [decide_eq_true e40']; rfl) ?_)
        unfold aR5
        dsimp only
        rw [ei, show v.1 179 i = nI (P i) from (hP.1.2.2.1 i hP.2.1).2.2.1]
        exact wpj (wpf (show ¬ (1 : Int32) = 0 by decide) (wpt hii (wpe (e97 hP.2.2.2.2) (wp_of (aR6_w flt_at.1) rfl))))
    · have hna : na < 40 := by omega
      refine jw_up (act6 (n := n) (lb := 0) (i0 := i) hn (Or.inl rfl) hM hna (by omega) (Nat.le_refl _) hP e2 hU hUU hS sc su) (fun Q h => hC ?_) (fun Q h => hRR (p := 0) (by rw [decide_eq_false e40']; rfl) ?_)
      · unfold aC3
        rw [a2, eM, b2, b5]
        refine wpt hiM (wpj (wpj (wpf (by simp (disch := first | omega | decide) only [↓neg1, nlit, rI, rL, rI2, rL1, nI_add, pk_mul, sbT, dvT, nmd, ixT, ↓ibT, ltT, ltF, leT, leF, eqT, eqF, nM_ltT, nM_ltF, nM_leT, nM_leF, nM_eqF, nM_eqF', nbT0, nbT1, oI_s, oI_n, natF, natT, nltT, nltF, nleT, nleF, ↓reduceIte, lgc, not_true_eq_false, not_false_eq_true, or_false, false_or, or_true, true_or, and_true, true_and, and_false, false_and, ne_eq, eq_self, or_self, and_self]) (wpt (by simp (disch := first | omega | decide) only [↓neg1, nlit, rI, rL, rI2, rL1, nI_add, pk_mul, sbT, dvT, nmd, ixT, ↓ibT, ltT, ltF, leT, leF, eqT, eqF, nM_ltT, nM_ltF, nM_leT, nM_leF, nM_eqF, nM_eqF', nbT0, nbT1, oI_s, oI_n, natF, natT, nltT, nltF, nleT, nleF, ↓reduceIte, lgc, not_true_eq_false, not_false_eq_true, or_false, false_or, or_true, true_or, and_true, true_and, and_false, false_and, ne_eq, eq_self, or_self, and_self]) ?_))))
        unfold aC4
        refine wpj (wpt rfl ?_)
        unfold aC5
        refine wpe h43 (wpe (e280 (by omega)) (wpj ?_))
        rw [decide_eq_true e2]
        exact wpf (show ¬ bI true = 0 by decide) h
      · unfold aR5
        exact wpj (wpt rfl h)
  · -- a LABEL
    obtain ⟨hval, hv0⟩ := val_at hP eL
    have hP1 := PSI_s hP (by omega)
    have h163 : d_163 n (nI M) (V i) w = some (oI (lbX v M na (V i))) := s163 (by omega) hM b1 (by omega) b2 b4 (fun l hl => by
      obtain ⟨op, -, -, -, h4, -⟩ := x1 l hl
      exact h4)
    have h9 : v.1 179 i = nI (P i) := (hP.1.2.2.1 i hP.2.1).2.2.1
    have hlb := lb_r (n := n) (nm := V i) (p := P i) (i := i) (by omega) hM b1 b3 (by omega) v67 h9 hP.2.2.2.2
    have hC : ∀ {Q : cS ⊕ cS → Prop}, wp (aC2 n (nI (P i)) 1 w (V i)) Q → wp (d_279 n w) Q := fun {Q} h => by
      rw [d279_s]
      refine wpe h42 (wpe h43 (wpj (wpt (by rw [eL]; rfl) (wpj (wpf (show ¬ (1 : Int32) = 0 by decide) (wpj (wpf (show ¬ (1 : Int32) = 0 by decide) ?_)))))))
      rw [w7, ei, hval]
      exact wpt hii h
    have hRR : ∀ {p : Int32} {x : cS} {Q : cS → Prop}, p = bI (decide (na = 40)) → whl (lbL n (nI M) (V i)) n (0, v) = some x → wp (if p = 0 then aR3 n (V i) (aR5 n (nI M) (nI (40 * M + na)) (nI i) p) x else
              if ib (x.1 174 67) 4001 then
              Option.bind (d_97 n 6 (x.1 179 (ix (x.1 174 67))) x) (fun r69 =>
              aR3 n (V i) (aR5 n (nI M) (nI (40 * M + na)) (nI i) p) r69)
              else none) Q → wp (d_408 n (nI M) v) Q := fun {p x Q} hp hx h => by
      refine hR e0 hp ?_
      unfold aR4
      rw [v67, ei, k4 eL]
      exact wpt hii (wpj (wpt (k1.mpr eL) (wpt hii (wpl (wpe hx (wpj h))))))
    cases et : lbX v M na (V i) with
    | some l =>
      rw [et] at h163 hlb
      rw [if_pos (show (some l).isSome = true from rfl)] at hlb
      have hl := (ff_some et).1
      have f1 := flt_at (u := v) (a := 3) (f := nI (P i))
      refine wp_of (a := .inr (flC w 3 (nI (P i)))) (eq_wp (hC ?_)) (hRR (p := bI (decide (na = 40))) rfl hlb ?_)
      · unfold aC2
        rw [a2]
        refine wpj (wpf (show ¬ (1 : Int32) = 0 by decide) (wpe h163 ?_))
        rw [oI_s]
        exact wpf (nI_pos (by omega)) (wpe e41 (wpSr rfl))
      · have fin : wp (aR3 n (V i) (aR5 n (nI M) (nI (40 * M + na)) (nI i) (bI (decide (na = 40)))) (flt v 3 (nI (P i)))) (fun q => ACZ K P V N c0 u0 v k M a0 na L oc kc mc U U0 i (.inr (flC w 3 (nI (P i)))) q) := aR3_w hii f1.1 (fun q hq => Or.inr ⟨_, rfl, FLR_sx (r := q67) (FLR_of (qAc_c sc) (qAu_u su)) hq (fun A l z => by
          have := of_decide_eq_true z
          exact decide_eq_true (by omega)) (fun l z1 z2 => decide_eq_false (by omega))⟩)
        by_cases ep : bI (decide (na = 40)) = 0
        · exact wpt ep fin
        · rw [f1.2.2.2 174 67 (by omega), v67]
          exact wpf ep (wpt hii (wpe (e97w f1.1) fin))
    | none =>
      rw [et] at h163 hlb
      rw [if_neg (by decide)] at hlb
      have hC2 : ∀ {Q : cS ⊕ cS → Prop}, wp (aC3 n (nI (P i)) 1 (V i) w) Q → wp (d_279 n w) Q := fun {Q} h => by
        refine hC ?_
        unfold aC2
        rw [a2]
        exact wpj (wpf (show ¬ (1 : Int32) = 0 by decide) (wpe h163 (wpt (show oI none < 0 by decide) h)))
      by_cases e40' : na = 40
      · have f1 := flt_at (u := v) (a := 6) (f := nI (P i))
        refine wp_of (a := .inr (flC w 6 (nI (P i)))) (eq_wp (hC2 ?_)) (hRR (p := 1) (by rw [decide_eq_true e40']; rfl) hlb ?_)
        · unfold aC3
          rw [a2, eM, b2, e40']
          exact wpt hiM (wpj (wpj (wpt (by decide) (wpe e41 (wpSr rfl)))))
        · rw [v67, ei, h9]
          refine wpf (show ¬ (1 : Int32) = 0 by decide) (wpt hii (wpe (e97 hP.2.2.2.2) (aR3_w hii f1.1 (fun q hq => Or.inr ⟨_, rfl, FLR_sx (r := q67) (FLR_of (qAc_c sc) (qAu_u su)) hq (fun A l z => ?_) (fun l z1 z2 => decide_eq_false (by omega))⟩))))
          have := of_decide_eq_true z
          exact decide_eq_true (by omega)
      · have hna : na < 40 := by omega
        have hC3 : ∀ {r : cS ⊕ cS} {Q : cS ⊕ cS → Prop}, d_257 n 58 (atC w (i + 1)) = some r → wp (Sum.elim (fun r33 => aC5 n (nI (P i)) (V i) r33) (fun z34 => some (.inr z34)) r) Q → wp (d_279 n w) Q := fun {r Q} h h' => by
          refine hC2 ?_
          unfold aC3
          rw [a2, eM, b2, b5]
          refine wpt hiM (wpj (wpj (wpf (by simp (disch := first | omega | decide) only [↓neg1, nlit, rI, rL, rI2, rL1, nI_add, pk_mul, sbT, dvT, nmd, ixT, ↓ibT, ltT, ltF, leT, leF, eqT, eqF, nM_ltT, nM_ltF, nM_leT, nM_leF, nM_eqF, nM_eqF', nbT0, nbT1, oI_s, oI_n, natF, natT, nltT, nltF, nleT, nleF, ↓reduceIte, lgc, not_true_eq_false, not_false_eq_true, or_false, false_or, or_true, true_or, and_true, true_and, and_false, false_and, ne_eq, eq_self, or_self, and_self]) (wpt (by simp (disch := first | omega | decide) only [↓neg1, nlit, rI, rL, rI2, rL1, nI_add, pk_mul, sbT, dvT, nmd, ixT, ↓ibT, ltT, ltF, leT, leF, eqT, eqF, nM_ltT, nM_ltF, nM_leT, nM_leF, nM_eqF, nM_eqF', nbT0, nbT1, oI_s, oI_n, natF, natT, nltT, nltF, nleT, nleF, ↓reduceIte, lgc, not_true_eq_false, not_false_eq_true, or_false, false_or, or_true, true_or, and_true, true_and, and_false, false_and, ne_eq, eq_self, or_self, and_self]) ?_))))
          unfold aC4
          refine wpj (wpf (show ¬ (1 : Int32) = 0 by decide) ?_)
          rw [w7, nI_1]
          exact wpl (wpe h h')
        have hR3 : ∀ {s : cS} {Q : cS → Prop}, d_380 n 58 (atR v (i + 1)) = some s → wp (if (s.1 174 13) = 0 then
                if ib (s.1 174 67) 4001 then
                jn (fun p65 : Unit =>
                  Option.bind (d_103 n s) (fun r66 =>
                  aR5 n (nI M) (nI (40 * M + na)) (nI i) 0 (V i, r66)))
                (fun j242 =>
                if (s.1 178 (ix (s.1 174 67))) = 4 then
                  if ib (s.1 174 67) 4001 then
                  if 0 ≤ (lg_cmp (s.2 180 (ix (s.1 174 67))) 14) then
                    aR5 n (nI M) (nI (40 * M + na)) (nI i) 0 (V i, s)
                  else
                    j242 ()
                  else none
                else
                  j242 ())
                else none
              else
                aR5 n (nI M) (nI (40 * M + na)) (nI i) 0 (V i, s)) Q → wp (d_408 n (nI M) v) Q := fun {s Q} h h' => by
          refine hRR (p := 0) (by rw [decide_eq_false e40']; rfl) hlb (wpt rfl ?_)
          unfold aR3
          rw [v67, nI_1]
          exact wpl (wpe h h')
        rcases exp_s (n := n) (b := 58) hP1 (by decide) (by decide) with ⟨y1, y2, y3⟩ | ⟨y1, y2⟩
        rotate_left
        · exact hC3 y1 (wpSr (wp_of rfl (hR3 y2 (wpf (ne13 flt_at.1) (wp_of (aR5_w hii flt_at.1) (Or.inr ⟨_, rfl, FLR_of (sx_trans (qAc_c sc) atC_sx) (sx_trans (qAu_u su) atR_sx)⟩))))))
        have hkK2 := PSI_K y3
        obtain ⟨m1, m2, m3, m4⟩ := see y3
        have hii2 : ib (nI (i + 1 + 1)) 4001 := ib_n (by omega) (by decide)
        have ei2 : ix (nI (i + 1 + 1)) = i + 1 + 1 := ix_n (by omega)
        have sc2 : sx (qAc M a0 U0) c0 (atC (atC w (i + 1)) (i + 1 + 1)) := sx_pI (sx_pI sc (decide_eq_true (by omega))) (decide_eq_true (by omega))
        have su2 : sx (qAu M) u0 (atR (atR v (i + 1)) (i + 1 + 1)) := sx_pI (sx_pI su (decide_eq_true (by omega))) (decide_eq_true (by omega))
        by_cases e2 : 214 ≤ K (i + 1 + 1)
        · obtain ⟨r6, q6, p6, p7, p8⟩ := jw_ex (act6 (n := n) (v := atR (atR v (i + 1)) (i + 1 + 1)) (lb := V i) (i0 := i) hn (Or.inr et) hM hna (by omega) (by omega) y3 e2 (by omega) hUU (MAS_at (MAS_at hS)) sc2 su2)
          refine jw_up (jw_of p6 p7 (ACZ_v (vs' := v) p8 (fun l => ⟨by
            unfold atR
            rw [rI, if_neg (by omega), rI, if_neg (by omega)], rfl⟩))) (fun Q h => hC3 y1 (wpSl ?_)) (fun Q h => hR3 y2 (wpt y3.2.2.2.2 ?_))
          · unfold aC5
            refine wpe (e43 y3) (wpe (e280 (by omega)) (wpj ?_))
            rw [decide_eq_true e2]
            exact wpf (show ¬ bI true = 0 by decide) h
          · obtain ⟨x, hx⟩ : ∃ x, K (i + 1 + 1) = 200 + x := ⟨K (i + 1 + 1) - 200, by omega⟩
            rw [y3.2.2.2.1, ei2, m3 x hx]
            refine wpt hii2 (wpj (wpt (m2.mpr (by omega)) (wpt hii2 (wpt ((lgx (x := x) (by omega)).2.mpr (by omega)) ?_))))
            unfold aR5
            exact wpj (wpt rfl h)
        · have f1 := flt_at (u := atR (atR v (i + 1)) (i + 1 + 1)) (a := 2) (f := nI (P (i + 1 + 1)))
          have fin : wp (Option.bind (d_103 n (atR (atR v (i + 1)) (i + 1 + 1))) (fun r66 => aR5 n (nI M) (nI (40 * M + na)) (nI i) 0 (V i, r66))) (fun q => ACZ K P V N c0 u0 v k M a0 na L oc kc mc U U0 i (.inr (flC (atC (atC w (i + 1)) (i + 1 + 1)) 2 (nI (P (i + 1 + 1))))) q) := wpe (e103 y3) (wp_of (aR5_w hii f1.1) (Or.inr ⟨_, rfl, FLR_of (qAc_c sc2) (qAu_u su2)⟩))
          refine hC3 y1 (wpSl ?_)
          unfold aC5
          refine wpe (e43 y3) (wpe (e280 (by omega)) (wpj ?_))
          rw [decide_eq_false e2]
          refine wpt rfl (wpe (e42 y3) (wpe e41 (wpSr (wp_of rfl (hR3 y2 (wpt y3.2.2.2.2 ?_))))))
          rw [y3.2.2.2.1, ei2]
          refine wpt hii2 (wpj ?_)
          by_cases e : 200 ≤ K (i + 1 + 1)
          · refine wpt (m2.mpr e) (wpt hii2 ?_)
            obtain ⟨x, hx⟩ : ∃ x, K (i + 1 + 1) = 200 + x := ⟨K (i + 1 + 1) - 200, by omega⟩
            rw [m3 x hx]
            exact wpf (fun z => by
              have := (lgx (x := x) (by omega)).2.mp z
              omega) fin
          · exact wpf (fun z => e (m2.mp z)) fin
end ACG
