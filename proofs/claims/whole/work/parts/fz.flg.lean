/-! A FILE: the reference reads MARKS, and copies them -/
section FLGS
variable {n a L w r k j y : Nat} {b : Nat → Nat} {u d e0 : cS}
def MKu (u : cS) (y : Nat) (m : Int64 × Option (List (Int64 × Nat × Int64))) : Prop := u.2 223 y = m.1 ∧ u.1 224 y = bI m.2.isNone ∧ (m.2 = none → u.1 225 y = nI 0) ∧ ∀ l, m.2 = some l → PUl u y l
def URW (u : cS) (r : Nat) (l : List (Int64 × Option (List (Int64 × Nat × Int64)))) : Prop := u.1 222 r = nI l.length ∧ ∀ j m, l[j]? = some m → MKu u (r * 20 + j) m
theorem MKu_cg {m : Int64 × Option (List (Int64 × Nat × Int64))} (h : MKu u y m) (hm : fOk m) (h1 : d.2 223 y = u.2 223 y) (h2 : d.1 224 y = u.1 224 y) (h3 : d.1 225 y = u.1 225 y) (h4 : ∀ A q, 226 ≤ A → A ≤ 228 → q < 4 → d.1 A (y * 4 + q) = u.1 A (y * 4 + q) ∧ d.2 A (y * 4 + q) = u.2 A (y * 4 + q)) : MKu d y m := by
  obtain ⟨g1, g2, g3, g4⟩ := h
  refine ⟨by rw [h1]; exact g1, by rw [h2]; exact g2, fun z => by rw [h3]; exact g3 z, fun l hl => ?_⟩
  obtain ⟨k1, k2⟩ := g4 l hl
  refine ⟨by rw [h3]; exact k1, fun q e he => ?_⟩
  have hq : q < l.length := by
    by_cases z : q < l.length
    · exact z
    · rw [List.getElem?_eq_none (by omega)] at he
      cases he
  have := (hm l hl).1
  rw [(h4 226 q (by omega) (by omega) (by omega)).2, (h4 227 q (by omega) (by omega) (by omega)).1, (h4 228 q (by omega) (by omega) (by omega)).2]
  exact k2 q e he
def mU2 (n : Nat) (k : Int32) (nm : Int64) (p21 : Int32) (p23 : Int32 × cS) : Option ((Int32 × cS) ⊕ (cS ⊕ cS)) :=
              if (p23.2.1 174 82) = 0 then
                Option.bind (d_393 n 1218 nm p21 p23.2) (fun r25 =>
                Option.bind (whl (puL n p23.1 p21 k) n (0, r25))
                (fun x33 : cS =>
                  lt (k + 1 : Int32) (fun v35 =>
                  some (.inl (v35, x33)))))
              else
                some (.inr (.inr p23.2))
def muL (n : Nat) (cnt : Int32) (s18 : Int32 × cS) : Option ((Int32 × cS) ⊕ (cS ⊕ cS)) :=
      if cnt ≤ s18.1 then
        some (.inr (.inl s18.2))
      else
        if (s18.2.1 174 82) = 0 then
          Option.bind (d_434 n s18.2) (fun r19 =>
          jn (fun p21 : Int32 =>
            jn (mU2 n s18.1 r19.1 p21)
            (fun j139 =>
            if p21 = 0 then
              Option.bind (d_433 n 0 4 r19.2) (fun r37 =>
              j139 (r37.1, r37.2))
            else
              Option.bind (d_433 n 255 255 r19.2) (fun r38 =>
              j139 (r38.1, r38.2))))
          (fun j113 =>
          jn (fun p39 : Unit =>
            j113 0)
          (fun j112 =>
          if (r19.2.1 174 82) = 0 then
            if (r19.2.1 174 81) ≤ (r19.2.1 174 80) then
              j112 ()
            else
              if ib (r19.2.1 174 80) 4000 then
              if (r19.2.1 175 (ix (r19.2.1 174 80))) = 255 then
                j113 1
              else
                j112 ()
              else none
          else
            j112 ())))
        else
          some (.inr (.inl s18.2))
def cpL (n : Nat) (cnt a1 : Int32) (s47 : Int32 × cS) : Option ((Int32 × cS) ⊕ cS) :=
            if cnt ≤ s47.1 then
              some (.inr s47.2)
            else
              Option.bind (d_392 n 1218 s47.1) (fun v48 =>
              Option.bind (d_437 n v48 a1 s47.2) (fun r49 =>
              lt (s47.1 + 1 : Int32) (fun v51 =>
              some (.inl (v51, r49)))))
def enG (n : Nat) (a1 cnt : Int32) (x41 : cS) : Option (Int32 × cS) :=
      jn (fun p42 : Unit =>
        some (((-1000) - (x41.1 174 80)), x41))
      (fun j226 =>
      if (x41.1 174 82) = 0 then
        if (x41.1 174 81) ≤ (x41.1 174 80) then
          if ib a1 1219 then
          lt (pI x41 222 (ix a1) 0) (fun c44 =>
          Option.bind (whl (cpL n cnt a1) n (0, c44))
          (fun x53 : cS =>
            Option.bind (d_133 n x53) (fun r54 =>
            some (cnt, r54))))
          else none
        else
          j226 ()
      else
        j226 ())
def u121 (u : cS) : cS := pI (pI (pI u 174 0 0) 174 81 (u.1 174 2)) 174 2 0
def v121 (u : cS) : cS := pI (pI (pI (u121 u) 174 80 0) 174 82 0) 222 1218 0
theorem d121_s {a1 : Int32} : d_121 n a1 u = Option.bind (d_109 n a1 (u121 u)) (fun v7 =>
  if v7 = 0 then
    some ((-1), u121 u)
  else
    Option.bind (d_433 n 0 20 (v121 u)) (fun r15 =>
    Option.bind (whl (muL n r15.1) n (0, r15.2))
    (Sum.elim (enG n a1 r15.1) (enG n a1 r15.1)))) := by
  have h : d_121 n a1 u = Option.bind (d_109 n a1 (u121 u)) (fun v7 =>
    if v7 = 0 then
      some ((-1), u121 u)
    else
      if ib 1218 1219 then
      Option.bind (d_433 n 0 20 (v121 u)) (fun r15 =>
      Option.bind (whl (muL n r15.1) n (0, r15.2))
      (Sum.elim (enG n a1 r15.1) (enG n a1 r15.1)))
      else none) := rfl
  rw [h]
  congr 1
/-- a no MARK, where nothing is wrong -/
theorem no_u {β : Type} {f : Int32 → Option β} {Q : β → Prop} (h : FUS u b L a) (hf : wp (f (if a < L ∧ b a = 255 then 1 else 0)) Q) : wp (jn f (fun j113 =>
          jn (fun p39 : Unit =>
            j113 0)
          (fun j112 =>
          if (u.1 174 82) = 0 then
            if (u.1 174 81) ≤ (u.1 174 80) then
              j112 ()
            else
              if ib (u.1 174 80) 4000 then
              if (u.1 175 (ix (u.1 174 80))) = 255 then
                j113 1
              else
                j112 ()
              else none
          else
            j112 ()))) Q := by
  obtain ⟨h1, h2, h3, h4, h5, h6⟩ := h
  rw [h3, h4, show ix (nI a) = a from ix_n (by omega)]
  refine wpj (wpj (wpt h5 ?_))
  by_cases e : a < L
  · obtain ⟨g1, g2⟩ := h6 a e
    rw [g2]
    refine wpf (by simp (disch := first | omega | decide) only [↓neg1, nlit, rI, rL, rI2, rL1, nI_add, pk_mul, sbT, dvT, nmd, ixT, ↓ibT, ltT, ltF, leT, leF, eqT, eqF, nM_ltT, nM_ltF, nM_leT, nM_leF, nM_eqF, nM_eqF', nbT0, nbT1, oI_s, oI_n, natF, natT, nltT, nltF, nleT, nleF, ↓reduceIte, lgc, not_true_eq_false, not_false_eq_true, or_false, false_or, or_true, true_or, and_true, true_and, and_false, false_and, ne_eq, eq_self, or_self, and_self]) (wpt (ib_n (by omega) (by decide)) ?_)
    by_cases e2 : b a = 255
    · rw [if_pos ⟨e, e2⟩] at hf
      exact wpt (by rw [e2]; rfl) hf
    · rw [if_neg (fun z => e2 z.2)] at hf
      exact wpf (fun z => e2 ((nI_eq (by omega) (by decide)).mp (show _ = nI 255 from z))) hf
  · rw [if_neg (fun z => e z.1)] at hf
    exact wpt (by simp (disch := first | omega | decide) only [↓neg1, nlit, rI, rL, rI2, rL1, nI_add, pk_mul, sbT, dvT, nmd, ixT, ↓ibT, ltT, ltF, leT, leF, eqT, eqF, nM_ltT, nM_ltF, nM_leT, nM_leF, nM_eqF, nM_eqF', nbT0, nbT1, oI_s, oI_n, natF, natT, nltT, nltF, nleT, nleF, ↓reduceIte, lgc, not_true_eq_false, not_false_eq_true, or_false, false_or, or_true, true_or, and_true, true_and, and_false, false_and, ne_eq, eq_self, or_self, and_self]) hf
def qMu (A l : Nat) : Bool := decide ((A = 174 ∧ (l = 80 ∨ l = 82)) ∨ (A = 222 ∧ l = 1218) ∨ (223 ≤ A ∧ A ≤ 225 ∧ 1218 * 20 ≤ l) ∨ (226 ≤ A ∧ A ≤ 228 ∧ 1218 * 80 ≤ l))
theorem muL_w {v : Int32} {k m : Nat} (hm : 0 < m) (h : FUW d w) : whl (muL n v) m (nI k, d) = some (.inl d) := by
  obtain ⟨y, rfl⟩ : ∃ y, m = y + 1 := ⟨m - 1, by omega⟩
  refine whl_out ?_
  unfold muL
  dsimp only
  exact eq_wp (wpi (fun _ => rfl) (fun _ => wpf (ne82 h) rfl))
/-- a MARK more in row 1218 -/
theorem nwM_s {nm : Int64} {b2 : Bool} {l : List (Int64 × Option (List (Int64 × Nat × Int64)))} (hk : k < 20) (h : FUS u b L a) : FUS (nwM u 1218 k nm b2) b L a ∧ sx qMu u (nwM u 1218 k nm b2) := by
  obtain ⟨h1, h2, h3, h4, h5, h6⟩ := h
  have e : ∀ A l, A = 174 ∨ A = 175 → (nwM u 1218 k nm b2).1 A l = u.1 A l := fun A l z => by
    unfold nwM
    rw [rI, if_neg (by omega), rI, if_neg (by omega), rI, if_neg (by omega)]
    rfl
  refine ⟨⟨h1, h2, by rw [e _ _ (by omega)]; exact h3, by rw [e _ _ (by omega)]; exact h4, by rw [e _ _ (by omega)]; exact h5, fun j hj => by rw [e _ _ (by omega)]; exact h6 j hj⟩, ?_⟩
  unfold nwM
  exact sx_pI (sx_pI (sx_pI (sx_pL sx_rfl (decide_eq_true (by omega))) (decide_eq_true (by omega))) (decide_eq_true (by omega))) (decide_eq_true (by omega))
theorem nwM_at {nm : Int64} {b2 : Bool} {rr : Nat} : (nwM u rr k nm b2).2 223 (rr * 20 + k) = nm ∧ (nwM u rr k nm b2).1 224 (rr * 20 + k) = bI b2 ∧ (nwM u rr k nm b2).1 225 (rr * 20 + k) = nI 0 ∧ (nwM u rr k nm b2).1 222 rr = nI (k + 1) := by
  unfold nwM
  refine ⟨?_, ?_, ?_, ?_⟩
  · show (pL u 223 (rr * 20 + k) nm).2 223 (rr * 20 + k) = _
    rw [rL, if_pos ⟨rfl, rfl⟩]
  · rw [rI, if_neg (by omega), rI, if_neg (by omega), rI, if_pos ⟨rfl, rfl⟩]
  · rw [rI, if_neg (by omega), rI, if_pos ⟨rfl, rfl⟩]
    rfl
  · rw [rI, if_pos ⟨rfl, rfl⟩]
theorem mu_lp (hn : 100 ≤ n) : ∀ (rr k a m : Nat) (l : List (Int64 × Option (List (Int64 × Nat × Int64)))) (u : cS), k + rr ≤ 20 → l.length = k → rr + 1 < m → FUS u b L a → URW u 1218 l → (∀ x ∈ l, fOk x) → (∀ p, fMl b L rr a l = .inr p → ∃ d, whl (muL n (nI (k + rr))) m (nI k, u) = some (.inl d) ∧ FUS d b L p.2 ∧ URW d 1218 p.1 ∧ sx qMu u d) ∧ (∀ w, fMl b L rr a l = .inl w → ∃ d, (whl (muL n (nI (k + rr))) m (nI k, u) = some (.inl d) ∨ whl (muL n (nI (k + rr))) m (nI k, u) = some (.inr d)) ∧ FUW d w ∧ sx qMu u d)
  | 0, k, a, m, l, u, hk, hl, hm, h, hU, hO => by
    obtain ⟨z, rfl⟩ : ∃ z, m = z + 1 := ⟨m - 1, by omega⟩
    refine ⟨fun p hp => ?_, fun w hw => by cases hw⟩
    cases hp
    refine ⟨u, whl_out ?_, h, hU, sx_rfl⟩
    unfold muL
    dsimp only
    exact eq_wp (wpt (by simp (disch := first | omega | decide) only [↓neg1, nlit, rI, rL, rI2, rL1, nI_add, pk_mul, sbT, dvT, nmd, ixT, ↓ibT, ltT, ltF, leT, leF, eqT, eqF, nM_ltT, nM_ltF, nM_leT, nM_leF, nM_eqF, nM_eqF', nbT0, nbT1, oI_s, oI_n, natF, natT, nltT, nltF, nleT, nleF, ↓reduceIte, lgc, not_true_eq_false, not_false_eq_true, or_false, false_or, or_true, true_or, and_true, true_and, and_false, false_and, ne_eq, eq_self, or_self, and_self]) rfl)
  | rr + 1, k, a, m, l, u, hk, hl, hm, h, hU, hO => by
    obtain ⟨t, rfl⟩ : ∃ t, m = t + 1 := ⟨m - 1, by omega⟩
    have hfn : fMl b L (rr + 1) a l = match fMkk b L a with
      | .inl w => .inl w
      | .inr p => fMl b L rr p.2 (l ++ [p.1]) := rfl
    have wq : ∀ {d : cS}, sx q80 u d → sx qMu u d := fun {d} z => sx_wide z (fun A l y => by
      have := of_decide_eq_false y
      exact decide_eq_false (by omega))
    have pre : ∀ {v1 : Int64} {d1 : cS} {q : (Int32 × cS) ⊕ (cS ⊕ cS)}, d_434 n u = some (v1, d1) → wp (jn (fun p21 : Int32 =>
            jn (mU2 n (nI k) v1 p21)
            (fun j139 =>
            if p21 = 0 then
              Option.bind (d_433 n 0 4 d1) (fun r37 =>
              j139 (r37.1, r37.2))
            else
              Option.bind (d_433 n 255 255 d1) (fun r38 =>
              j139 (r38.1, r38.2))))
          (fun j113 =>
          jn (fun p39 : Unit =>
            j113 0)
          (fun j112 =>
          if (d1.1 174 82) = 0 then
            if (d1.1 174 81) ≤ (d1.1 174 80) then
              j112 ()
            else
              if ib (d1.1 174 80) 4000 then
              if (d1.1 175 (ix (d1.1 174 80))) = 255 then
                j113 1
              else
                j112 ()
              else none
          else
            j112 ()))) (fun z => z = q) → muL n (nI (k + (rr + 1))) (nI k, u) = some q := fun {v1 d1 q} y1 y2 => by
      unfold muL
      dsimp only
      exact eq_wp (wpf (by simp (disch := first | omega | decide) only [↓neg1, nlit, rI, rL, rI2, rL1, nI_add, pk_mul, sbT, dvT, nmd, ixT, ↓ibT, ltT, ltF, leT, leF, eqT, eqF, nM_ltT, nM_ltF, nM_leT, nM_leF, nM_eqF, nM_eqF', nbT0, nbT1, oI_s, oI_n, natF, natT, nltT, nltF, nleT, nleF, ↓reduceIte, lgc, not_true_eq_false, not_false_eq_true, or_false, false_or, or_true, true_or, and_true, true_and, and_false, false_and, ne_eq, eq_self, or_self, and_self]) (wpt h.2.2.2.2.1 (wpe y1 y2)))
    -- wrong ahead of the MARK
    have bad : ∀ {d : cS} {w : Nat}, FUW d w → sx qMu u d → muL n (nI (k + (rr + 1))) (nI k, u) = some (.inr (.inr d)) → ∃ d, (whl (muL n (nI (k + (rr + 1)))) (t + 1) (nI k, u) = some (.inl d) ∨ whl (muL n (nI (k + (rr + 1)))) (t + 1) (nI k, u) = some (.inr d)) ∧ FUW d w ∧ sx qMu u d := fun {d w} z1 z2 z3 => ⟨d, Or.inr (whl_out z3), z1, z2⟩
    have mW : ∀ {v1 : Int64} {p21 v : Int32} {d : cS} {w : Nat}, FUW d w → mU2 n (nI k) v1 p21 (v, d) = some (.inr (.inr d)) := fun {v1 p21 v d w} z => by
      unfold mU2
      exact eq_wp (wpf (ne82 z) rfl)
    cases e0 : fMkk b L a with
    | inl w1 =>
      rw [hfn, e0]
      refine ⟨fun p hp => (by cases hp), fun w hw => ?_⟩
      cases hw
      unfold fMkk at e0
      cases e1 : fNm b L a with
      | inl w2 =>
        rw [e1] at e0
        cases e0
        obtain ⟨v1, d, z1, z2, z3⟩ := e434n hn h e1
        refine bad z2 (wq z3) (pre z1 (wpj (wpj (wpf (ne82 z2) (wpj (wpt rfl (wpe (e433w z2) (wp_of (mW z2) rfl))))))))
      | inr p1 =>
        rw [e1] at e0
        dsimp only at e0
        have hb1 := (fNm_b (b := b) h.1).2 e1
        have h2 := FUS_at h hb1.2
        by_cases en : p1.2 < L ∧ b p1.2 = 255
        · rw [if_pos en] at e0
          cases e0
        rw [if_neg en] at e0
        have pre2 : ∀ {q : (Int32 × cS) ⊕ (cS ⊕ cS)}, wp (jn (mU2 n (nI k) p1.1 0)
            (fun j139 =>
            if (0 : Int32) = 0 then
              Option.bind (d_433 n 0 4 (pI u 174 80 (nI p1.2))) (fun r37 =>
              j139 (r37.1, r37.2))
            else
              Option.bind (d_433 n 255 255 (pI u 174 80 (nI p1.2))) (fun r38 =>
              j139 (r38.1, r38.2)))) (fun z => z = q) → muL n (nI (k + (rr + 1))) (nI k, u) = some q := fun {q} z => pre (e434s hn h e1) (no_u h2 (by rw [if_neg en]; exact z))
        cases e2 : fby b L 0 4 p1.2 with
        | none =>
          rw [e2] at e0
          cases e0
          obtain ⟨h433, hW⟩ := e433n (n := n) h2 e2 (by decide) (by decide)
          exact bad hW (wq (sx_pI (sx_pI sx_rfl (by decide)) (by decide))) (pre2 (wpj (wpt rfl (wpe h433 (wp_of (mW hW) rfl)))))
        | some kk =>
          rw [e2] at e0
          dsimp only at e0
          have hkk := fby_some e2
          have y2 := e433s (n := n) h2 e2 (by decide)
          rw [pI_pI] at y2
          have h3 := FUS_at (a' := p1.2 + 1) h (by omega)
          cases e3 : fPl b L kk (p1.2 + 1) [] with
          | inr q =>
            rw [e3] at e0
            cases e0
          | inl w3 =>
            rw [e3] at e0
            cases e0
            obtain ⟨h4, s4⟩ := nwM_s (nm := p1.1) (b2 := false) (k := k) (l := l) (by omega) h3
            have hat := nwM_at (u := pI u 174 80 (nI (p1.2 + 1))) (k := k) (nm := p1.1) (b2 := false) (rr := 1218)
            obtain ⟨d, k1, k2, k3⟩ := (pu_lp (n := n) hn (kk := k) (y := 1218 * 20 + k) (by omega) rfl kk 0 (p1.2 + 1) n [] _ (by omega) rfl (by omega) h4 ⟨hat.2.2.1, fun q e he => by cases he⟩).2 _ e3
            rw [Nat.zero_add] at k1
            have h393 := e393 (n := n) (nm := p1.1) (b := false) (rr := 1218) (k := k) (u := pI u 174 80 (nI (p1.2 + 1))) (by decide) (by omega) (by rw [rI, if_neg (by omega), ← hl]; exact hU.1)
            have hst : muL n (nI (k + (rr + 1))) (nI k, u) = some (.inl (nI (k + 1), d)) := by
              refine pre2 (wpj (wpt rfl (wpe y2 ?_)))
              unfold mU2
              refine wpt h3.2.2.2.2.1 (wpe h393 (wpe k1 (wpl ?_)))
              rw [nI_1]
              rfl
            have sd : sx qMu u d := sx_trans (sx_trans (wq (sx_pI sx_rfl (by decide))) s4) (sx_wide k3 (fun A l y => by
              have := of_decide_eq_false y
              exact decide_eq_false (by omega)))
            exact ⟨d, Or.inl ((whl_in hst).trans (muL_w (by omega) k2)), k2, sd⟩
    | inr q =>
      have hq := (fMkk_b (b := b) h.1).2 e0
      -- the MARK is read
      have key : ∃ d, muL n (nI (k + (rr + 1))) (nI k, u) = some (.inl (nI (k + 1), d)) ∧ FUS d b L q.2 ∧ d.1 222 1218 = nI (k + 1) ∧ MKu d (1218 * 20 + k) q.1 ∧ sx qMu u d ∧ sx (fun A l => decide ((A = 174 ∧ (l = 80 ∨ l = 82)) ∨ (A = 222 ∧ l = 1218) ∨ (223 ≤ A ∧ A ≤ 225 ∧ l = 1218 * 20 + k) ∨ (226 ≤ A ∧ A ≤ 228 ∧ (1218 * 20 + k) * 4 ≤ l ∧ l < (1218 * 20 + k) * 4 + 4))) u d := by
        unfold fMkk at e0
        cases e1 : fNm b L a with
        | inl w =>
          rw [e1] at e0
          cases e0
        | inr p1 =>
          rw [e1] at e0
          dsimp only at e0
          have hb1 := (fNm_b (b := b) h.1).2 e1
          have h2 := FUS_at h hb1.2
          have h3 : ∀ a', a' ≤ L → FUS (pI u 174 80 (nI a')) b L a' := fun a' z => FUS_at h z
          have h393 := fun (b2 : Bool) (a' : Nat) => e393 (n := n) (nm := p1.1) (b := b2) (rr := 1218) (k := k) (u := pI u 174 80 (nI a')) (by decide) (by omega) (by rw [rI, if_neg (by omega), ← hl]; exact hU.1)
          have sN : ∀ (b2 : Bool) (a' : Nat), sx (fun A l => decide ((A = 174 ∧ (l = 80 ∨ l = 82)) ∨ (A = 222 ∧ l = 1218) ∨ (223 ≤ A ∧ A ≤ 225 ∧ l = 1218 * 20 + k) ∨ (226 ≤ A ∧ A ≤ 228 ∧ (1218 * 20 + k) * 4 ≤ l ∧ l < (1218 * 20 + k) * 4 + 4))) u (nwM (pI u 174 80 (nI a')) 1218 k p1.1 b2) := fun b2 a' => by
            unfold nwM
            exact sx_pI (sx_pI (sx_pI (sx_pL (sx_pI sx_rfl (decide_eq_true (by omega))) (decide_eq_true (by omega))) (decide_eq_true (by omega))) (decide_eq_true (by omega))) (decide_eq_true (by omega))
          by_cases en : p1.2 < L ∧ b p1.2 = 255
          · rw [if_pos en] at e0
            cases e0
            have y2 := e433s (n := n) (lo := 255) (hi := 255) (x := 255) h2 (by unfold fby; rw [if_pos ⟨en.1, by omega, by omega⟩, en.2]) (by decide)
            rw [pI_pI] at y2
            obtain ⟨h4, s4⟩ := nwM_s (nm := p1.1) (b2 := true) (k := k) (l := l) (by omega) (h3 (p1.2 + 1) (by omega))
            have hat := nwM_at (u := pI u 174 80 (nI (p1.2 + 1))) (k := k) (nm := p1.1) (b2 := true) (rr := 1218)
            refine ⟨_, pre (e434s hn h e1) (no_u h2 ?_), h4, hat.2.2.2, ⟨hat.1, hat.2.1, fun _ => hat.2.2.1, fun l hl => by cases hl⟩, sx_trans (wq (sx_pI sx_rfl (by decide))) s4, sN true _⟩
            rw [if_pos en]
            refine wpj (wpf (by decide) (wpe y2 ?_))
            unfold mU2
            refine wpt (h3 (p1.2 + 1) (by omega)).2.2.2.2.1 (wpe (h393 true _) ?_)
            obtain ⟨y, hy⟩ : ∃ y, n = y + 1 := ⟨n - 1, by omega⟩
            have : whl (puL n (nI 255) 1 (nI k)) (y + 1) (0, nwM (pI u 174 80 (nI (p1.2 + 1))) 1218 k p1.1 true) = some (nwM (pI u 174 80 (nI (p1.2 + 1))) 1218 k p1.1 true) := whl_out (by
              unfold puL
              dsimp only
              exact eq_wp (wpf (by decide) (wpf (by decide) rfl)))
            rw [← hy] at this
            refine wpe this (wpl ?_)
            rw [nI_1]
            rfl
          · rw [if_neg en] at e0
            cases e2 : fby b L 0 4 p1.2 with
            | none =>
              rw [e2] at e0
              cases e0
            | some kk =>
              rw [e2] at e0
              dsimp only at e0
              have hkk := fby_some e2
              have y2 := e433s (n := n) h2 e2 (by decide)
              rw [pI_pI] at y2
              cases e3 : fPl b L kk (p1.2 + 1) [] with
              | inl w =>
                rw [e3] at e0
                cases e0
              | inr z =>
                rw [e3] at e0
                cases e0
                obtain ⟨h4, s4⟩ := nwM_s (nm := p1.1) (b2 := false) (k := k) (l := l) (by omega) (h3 (p1.2 + 1) (by omega))
                have hat := nwM_at (u := pI u 174 80 (nI (p1.2 + 1))) (k := k) (nm := p1.1) (b2 := false) (rr := 1218)
                obtain ⟨d, k1, k2, k3, k4⟩ := (pu_lp (n := n) hn (kk := k) (y := 1218 * 20 + k) (by omega) rfl kk 0 (p1.2 + 1) n [] _ (by omega) rfl (by omega) h4 ⟨hat.2.2.1, fun q e he => by cases he⟩).1 z e3
                rw [Nat.zero_add] at k1
                refine ⟨d, pre (e434s hn h e1) (no_u h2 ?_), k2, ?_, ⟨?_, ?_, fun y => (by cases y), fun l hl => ?_⟩, sx_trans (sx_trans (wq (sx_pI sx_rfl (by decide))) s4) (sx_wide k4 (fun A l y => ?_)), sx_trans (sN false _) (sx_wide k4 (fun A l y => ?_))⟩
                · rw [if_neg en]
                  refine wpj (wpt rfl (wpe y2 ?_))
                  unfold mU2
                  refine wpt (h3 (p1.2 + 1) (by omega)).2.2.2.2.1 (wpe (h393 false _) (wpe k1 (wpl ?_)))
                  rw [nI_1]
                  rfl
                · rw [k4.1 _ _ (decide_eq_false (by omega))]
                  exact hat.2.2.2
                · rw [k4.2 _ _ (decide_eq_false (by omega))]
                  exact hat.1
                · rw [k4.1 _ _ (decide_eq_false (by omega))]
                  exact hat.2.1
                · dsimp only at hl
                  cases hl
                  exact k3
                · have := of_decide_eq_false y
                  exact decide_eq_false (by omega)
                · have := of_decide_eq_false y
                  exact decide_eq_false (by omega)
      obtain ⟨d, k1, k2, k3, k4, k5, k6⟩ := key
      have hU' : URW d 1218 (l ++ [q.1]) := by
        refine ⟨by rw [k3, List.length_append, List.length_singleton, hl], fun j m hj => ?_⟩
        by_cases ej : j < l.length
        · rw [List.getElem?_append_left ej] at hj
          exact MKu_cg (hU.2 j m hj) (hO m (List.mem_of_getElem? hj)) (k6.2 _ _ (decide_eq_false (by omega))) (k6.1 _ _ (decide_eq_false (by omega))) (k6.1 _ _ (decide_eq_false (by omega))) (fun A q z1 z2 z3 => ⟨k6.1 _ _ (decide_eq_false (by omega)), k6.2 _ _ (decide_eq_false (by omega))⟩)
        · rw [List.getElem?_append_right (by omega)] at hj
          have e0 : j - l.length = 0 := by
            by_cases z : j - l.length = 0
            · exact z
            · rw [List.getElem?_eq_none (by simp; omega)] at hj
              cases hj
          rw [e0] at hj
          cases hj
          rw [show j = k by omega]
          exact k4
      obtain ⟨g1, g2⟩ := mu_lp hn rr (k + 1) q.2 t (l ++ [q.1]) d (by omega) (by simp; omega) (by omega) k2 hU' (fun x hx => by
        rcases List.mem_append.mp hx with z | z
        · exact hO x z
        · rw [List.mem_singleton.mp z]
          exact hq.2.2)
      rw [show k + 1 + rr = k + (rr + 1) by omega] at g1 g2
      rw [hfn, e0, whl_in k1]
      refine ⟨fun p hp => ?_, fun w hw => ?_⟩
      · obtain ⟨d2, z1, z2, z3, z4⟩ := g1 p hp
        exact ⟨d2, z1, z2, z3, sx_trans k5 z4⟩
      · obtain ⟨d2, z1, z2, z3⟩ := g2 w hw
        exact ⟨d2, z1, z2, sx_trans k5 z3⟩
end FLGS
