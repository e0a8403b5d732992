/-! rounds: MARKS of a MAKER are added to a CLASS's row, in both -/
section AMLS
variable {n r q x y z V F : Nat} {c d u v w : cS} {sz sz1 : Nat → Nat} {X X1 : Nat → Nat → Nat} {Y : Nat → Nat}
/-- the class's loop; the reference's -/
def arL (n : Nat) (a1 a2 : Int32) (s10 : Int32 × Int32 × cS) : Option ((Int32 × Int32 × cS) ⊕ cS) :=
    if ib a2 2242 then
    if (s10.2.2.1 144 (ix a2)) ≤ s10.2.1 then
      some (.inr s10.2.2)
    else
      if ib a1 2242 then
      jn (fun p13 : cS =>
        if ib s10.1 4096 then
        lt ((p13.1 138 (ix s10.1)) : Int32) (fun v16 =>
        lt (s10.2.1 + 1 : Int32) (fun v19 =>
        some (.inl (v16, v19, p13))))
        else none)
      (fun j83 =>
      if 20 ≤ (s10.2.2.1 144 (ix a1)) then
        j83 s10.2.2
      else
        if ib s10.1 4096 then
        Option.bind (d_229 n a1 (s10.2.2.2 134 (ix s10.1)) s10.2.2) (fun v22 =>
        if v22 = 0 then
          Option.bind (d_226 n a1 s10.1 s10.2.2) (fun r23 =>
          j83 r23)
        else
          j83 s10.2.2)
        else none)
      else none
    else none
theorem d195_s {a1 a2 : Int32} : d_195 n a1 a2 c = if ib a1 2242 then
  lt ((c.1 144 (ix a1)) : Int32) (fun v3 =>
  if ib a2 2242 then
  lt ((c.1 142 (ix a2)) : Int32) (fun v7 =>
  Option.bind (whl (arL n a1 a2) n (v7, 0, c))
  (fun x24 : cS =>
    Option.bind (d_178 n a1 0 x24) (fun r25 =>
    if ib a1 2242 then
    jn (fun p27 : Int32 =>
      if nb p27 then
      some (p27, r25)
      else none)
    (fun j125 =>
    if (r25.1 144 (ix a1)) ≤ v3 then
      j125 0
    else
      j125 1)
    else none)))
  else none)
  else none := rfl
def rrL (n : Nat) (v30 rk fx : Int32) (s33 : Int32 × Int32 × cS) : Option ((Int32 × Int32 × cS) ⊕ (Int32 × cS)) :=
                    if ib v30 1219 then
                    if (s33.2.2.1 222 (ix v30)) ≤ s33.2.1 then
                      some (.inr (s33.1, s33.2.2))
                    else
                      if ib fx 72 then
                      if (s33.2.2.1 234 (ix fx)) = 0 then
                        some (.inr (s33.1, s33.2.2))
                      else
                        if ib rk 1219 then
                        jn (fun p37 : Int32 × cS =>
                          lt (s33.2.1 + 1 : Int32) (fun v39 =>
                          some (.inl (p37.1, v39, p37.2))))
                        (fun j228 =>
                        if (s33.2.2.1 222 (ix rk)) = 20 then
                          j228 (s33.1, s33.2.2)
                        else
                          if ib rk 1219 then
                          Option.bind (d_392 n v30 s33.2.1) (fun v42 =>
                          if ib v42 24380 then
                          Option.bind (d_395 n rk (s33.2.2.1 222 (ix rk)) (s33.2.2.2 223 (ix v42)) s33.2.2) (fun v44 =>
                          if v44 = 0 then
                            Option.bind (d_392 n v30 s33.2.1) (fun v45 =>
                            Option.bind (d_437 n v45 rk s33.2.2) (fun r46 =>
                            j228 (1, r46)))
                          else
                            j228 (s33.1, s33.2.2))
                          else none)
                          else none)
                        else none
                      else none
                    else none
theorem KOT_tr (h1 : KOT c d sz X r) (h2 : KOT d w sz1 X1 r) (hs : ∀ q, q ≠ r → sz1 q = sz q) (hX : ∀ q i, q ≠ r → X1 q i = X q i) : KOT c w sz X r := fun q i hq hqr hi => by
  obtain ⟨a1, a2⟩ := h1 q i hq hqr hi
  have h2 := h2 q i hq hqr (by rw [hs q hqr]; exact hi)
  rw [hX q i hqr] at h2
  obtain ⟨b1, b2⟩ := h2
  exact ⟨fun A g1 g2 => ⟨(b1 A g1 g2).1.trans (a1 A g1 g2).1, (b1 A g1 g2).2.trans (a1 A g1 g2).2⟩, fun A j g1 g2 g3 => ⟨(b2 A j g1 g2 g3).1.trans (a2 A j g1 g2 g3).1, (b2 A j g1 g2 g3).2.trans (a2 A j g1 g2 g3).2⟩⟩
/-- one MARK more at the end of a row -/
theorem URW_ad {l : List (Int64 × Option (List (Int64 × Nat × Int64)))} {e : Int64 × Option (List (Int64 × Nat × Int64))} (h : URW u r l) (hO : ∀ x, x ∈ l → fOk x) (hl : l.length < 20) (h2 : MKu d (r * 20 + l.length) e) (h3 : d.1 222 r = nI (l.length + 1)) (h4 : sx (qCp r l.length) u d) : URW d r (l ++ [e]) := by
  refine ⟨by rw [List.length_append, List.length_singleton]; exact h3, fun j y hy => ?_⟩
  by_cases ej : j < l.length
  · rw [List.getElem?_append_left ej] at hy
    exact MKu_cg (h.2 j y hy) (hO y (List.mem_of_getElem? hy)) (h4.2 _ _ (decide_eq_false (by omega))) (h4.1 _ _ (decide_eq_false (by omega))) (h4.1 _ _ (decide_eq_false (by omega))) (fun A t z1 z2 z3 => ⟨h4.1 _ _ (decide_eq_false (by omega)), h4.2 _ _ (decide_eq_false (by omega))⟩)
  · rw [List.getElem?_append_right (by omega)] at hy
    have e0 : j - l.length = 0 := by
      by_cases y : j - l.length = 0
      · exact y
      · rw [List.getElem?_eq_none (by simp; omega)] at hy
        cases hy
    rw [e0] at hy
    cases hy
    rw [show j = l.length by omega]
    exact h2
theorem URW_o {l : List (Int64 × Option (List (Int64 × Nat × Int64)))} {j : Nat} (h : URW u q l) (hO : ∀ x, x ∈ l → fOk x) (hl : l.length ≤ 20) (hj : j < 20) (hqr : q ≠ r) (h4 : sx (qCp r j) u d) : URW d q l := by
  refine ⟨by rw [h4.1 _ _ (decide_eq_false (by omega))]; exact h.1, fun t y hy => ?_⟩
  have ht : t < l.length := by
    by_cases z : t < l.length
    · exact z
    · rw [List.getElem?_eq_none (by omega)] at hy
      cases hy
  exact MKu_cg (h.2 t y hy) (hO y (List.mem_of_getElem? hy)) (h4.2 _ _ (decide_eq_false (by omega))) (h4.1 _ _ (decide_eq_false (by omega))) (h4.1 _ _ (decide_eq_false (by omega))) (fun A s z1 z2 z3 => ⟨h4.1 _ _ (decide_eq_false (by omega)), h4.2 _ _ (decide_eq_false (by omega))⟩)
theorem CRW_o {l : List (Int64 × Option (List (Int64 × Nat × Int64)))} {la : Nat} (h : CRW c X q l) (hO : ∀ x, x ∈ l → fOk x) (hX : ∀ j, j < l.length → X1 q j = X q j ∧ X q j ≠ z) (h4 : sx (qAq r z la) c d) : CRW d X1 q l := fun j y hy => by
  have hj : j < l.length := by
    by_cases z : j < l.length
    · exact z
    · rw [List.getElem?_eq_none (by omega)] at hy
      cases hy
  obtain ⟨e1, e2⟩ := hX j hj
  rw [e1]
  exact MKc_cg (h j y hy) (hO y (List.mem_of_getElem? hy)) (h4.2 _ _ (decide_eq_false (by omega))) (h4.1 _ _ (decide_eq_false (by omega))) (fun A t z1 z2 z3 => ⟨h4.1 _ _ (decide_eq_false (by omega)), h4.2 _ _ (decide_eq_false (by omega))⟩)
theorem CRW_ad {l : List (Int64 × Option (List (Int64 × Nat × Int64)))} {e : Int64 × Option (List (Int64 × Nat × Int64))} (h : CRW d X1 r l) (hx : X1 r l.length = z) (h2 : MKc d z e) : CRW d X1 r (l ++ [e]) := fun j y hy => by
  by_cases ej : j < l.length
  · rw [List.getElem?_append_left ej] at hy
    exact h j y hy
  · rw [List.getElem?_append_right (by omega)] at hy
    have e0 : j - l.length = 0 := by
      by_cases y : j - l.length = 0
      · exact y
      · rw [List.getElem?_eq_none (by simp; omega)] at hy
        cases hy
    rw [e0] at hy
    cases hy
    rw [show j = l.length by omega, hx]
    exact h2
def qAmc (r A l : Nat) : Bool := decide ((A = 133 ∧ 11 ≤ l ∧ l ≤ 13) ∨ (134 ≤ A ∧ A ≤ 141) ∨ (142 ≤ A ∧ A ≤ 144 ∧ l = r))
/-- both stand in front of MARK i of row q, row r is l -/
def AMS (r q : Nat) (ls l : List (Int64 × Option (List (Int64 × Nat × Int64)))) (V F : Nat) (sz : Nat → Nat) (X : Nat → Nat → Nat) (Y : Nat → Nat) (c u : cS) : Prop := ALO c V F sz X Y ∧ sz q = ls.length ∧ CRW c X q ls ∧ URW u q ls ∧ sz r = l.length ∧ l.length ≤ 20 ∧ CRW c X r l ∧ URW u r l ∧ (∀ e, e ∈ l → fOk e) ∧ ∀ e, e ∈ l → fIv e
/-- one step: nothing, or a copy -/
theorem am_st {ls l : List (Int64 × Option (List (Int64 × Nat × Int64)))} {i fM : Nat} {fl : Int32} {e : Int64 × Option (List (Int64 × Nat × Int64))} (hn : 5000 ≤ n) (hr : r < 1200) (hq : 1200 ≤ q ∧ q < 1218) (h20 : ls.length ≤ 20) (hOs : ∀ e, e ∈ ls → fOk e ∧ fIv e ∧ e.2 ≠ none) (hf : fM < 72) (h : AMS r q ls l V F sz X Y c u) (hV : V < 4096) (h234 : u.1 234 fM = nI 1) (hi : ls[i]? = some e) : ∃ d v l' V' F' sz' X' Y', arL n (nI r) (nI q) (nI (X q i), nI i, c) = some (.inl (d.1 138 (X q i), nI (i + 1), d)) ∧ rrL n (nI q) (nI r) (nI fM) (fl, nI i, u) = some (.inl ((if l'.length = l.length then fl else 1), nI (i + 1), v)) ∧ AMS r q ls l' V' F' sz' X' Y' d v ∧ l.length ≤ l'.length ∧ l'.length ≤ l.length + 1 ∧ V' = V + (l'.length - l.length) ∧ (∀ t, t ≠ r → sz' t = sz t) ∧ (∀ t j, t ≠ r → X' t j = X t j) ∧ KOT c d sz X r ∧ sx (qAmc r) c d ∧ sx (qCrw r) u v ∧ (l'.length = l.length → v = u) := by
  obtain ⟨hA, hs1, hc1, hu1, hs2, hl, hc2, hu2, hO, hI⟩ := id h
  have hi' : i < ls.length := by
    by_cases z : i < ls.length
    · exact z
    · rw [List.getElem?_eq_none (by omega)] at hi
      cases hi
  have hirc : ib (nI r) 2242 := ib_n (by omega) (by decide)
  have hiqc : ib (nI q) 2242 := ib_n (by omega) (by decide)
  have hiru : ib (nI r) 1219 := ib_n (by omega) (by decide)
  have hiqu : ib (nI q) 1219 := ib_n (by omega) (by decide)
  have hif : ib (nI fM) 72 := ib_n hf (by decide)
  have ef : ix (nI fM) = fM := ix_n (by omega)
  have er : ix (nI r) = r := ix_n (by omega)
  have eq : ix (nI q) = q := ix_n (by omega)
  have hV1 := hA.1
  obtain ⟨-, -, -, a4, a5, a6, a7, -⟩ := id hA
  have hx := a6 q i (by omega) (by omega)
  have ex : ix (nI (X q i)) = X q i := ix_n (by omega)
  have hix : ib (nI (X q i)) 4096 := ib_n (by omega) (by decide)
  have hni : ¬ nI ls.length ≤ nI i := by simp (disch := first | omega | decide) only [↓neg1, nlit, rI, rL, rI2, rL1, nI_add, pk_mul, sbT, dvT, nmd, ixT, ↓ibT, ltT, ltF, leT, leF, eqT, eqF, nM_ltT, nM_ltF, nM_leT, nM_leF, nM_eqF, nM_eqF', nbT0, nbT1, oI_s, oI_n, natF, natT, nltT, nltF, nleT, nleF, ↓reduceIte, lgc, not_true_eq_false, not_false_eq_true, or_false, false_or, or_true, true_or, and_true, true_and, and_false, false_and, ne_eq, eq_self, or_self, and_self]
  have nm1 : c.2 134 (X q i) = e.1 := (hc1 i e hi).1
  have nm2 : u.2 223 (q * 20 + i) = e.1 := (hu1.2 i e hi).1
  have b1 := hu1.1
  have b2 := hu2.1
  have hiy : ib (nI (q * 20 + i)) 24380 := ib_n (by omega) (by decide)
  have ey : ix (nI (q * 20 + i)) = q * 20 + i := ix_n (by omega)
  have clsK : 20 ≤ c.1 144 r → arL n (nI r) (nI q) (nI (X q i), nI i, c) = some (.inl (c.1 138 (X q i), nI (i + 1), c)) := fun g => by
    unfold arL
    dsimp only
    rw [eq, a4 q (by omega), hs1, er, ex]
    refine eq_wp (wpt hiqc (wpf hni (wpt hirc (wpj (wpt g (wpt hix (wpl (wpl ?_))))))))
    rw [nI_1]
    rfl
  have clsN : ¬ 20 ≤ c.1 144 r → d_229 n (nI r) e.1 c = some (bI true) → arL n (nI r) (nI q) (nI (X q i), nI i, c) = some (.inl (c.1 138 (X q i), nI (i + 1), c)) := fun g hh => by
    unfold arL
    dsimp only
    rw [eq, a4 q (by omega), hs1, er, ex, nm1]
    refine eq_wp (wpt hiqc (wpf hni (wpt hirc (wpj (wpf g (wpt hix (wpe hh (wpf (by decide) (wpt hix (wpl (wpl ?_)))))))))))
    rw [nI_1]
    rfl
  have clsA : ∀ {d : cS}, ¬ 20 ≤ c.1 144 r → d_229 n (nI r) e.1 c = some (bI false) → d_226 n (nI r) (nI (X q i)) c = some d → arL n (nI r) (nI q) (nI (X q i), nI i, c) = some (.inl (d.1 138 (X q i), nI (i + 1), d)) := fun {d} g hh k1 => by
    unfold arL
    dsimp only
    rw [eq, a4 q (by omega), hs1, er, ex, nm1]
    refine eq_wp (wpt hiqc (wpf hni (wpt hirc (wpj (wpf g (wpt hix (wpe hh (wpt rfl (wpe k1 (wpt hix (wpl (wpl ?_))))))))))))
    rw [nI_1]
    rfl
  have refK : nI l.length = 20 → rrL n (nI q) (nI r) (nI fM) (fl, nI i, u) = some (.inl (fl, nI (i + 1), u)) := fun g => by
    unfold rrL
    dsimp only
    rw [eq, b1, ef, h234, er, b2]
    refine eq_wp (wpt hiqu (wpf hni (wpt hif (wpf (by decide) (wpt hiru (wpj (wpt g (wpl ?_))))))))
    rw [nI_1]
    rfl
  have refN : ¬ nI l.length = 20 → d_395 n (nI r) (nI l.length) e.1 u = some (bI true) → rrL n (nI q) (nI r) (nI fM) (fl, nI i, u) = some (.inl (fl, nI (i + 1), u)) := fun g hh => by
    unfold rrL
    dsimp only
    rw [eq, b1, ef, h234, er, b2]
    refine eq_wp (wpt hiqu (wpf hni (wpt hif (wpf (by decide) (wpt hiru (wpj (wpf g (wpt hiru (wpe e392 (wpt hiy ?_))))))))))
    rw [ey, nm2]
    refine wpe hh (wpf (by decide) (wpl ?_))
    rw [nI_1]
    rfl
  have refA : ∀ {v : cS}, ¬ nI l.length = 20 → d_395 n (nI r) (nI l.length) e.1 u = some (bI false) → d_437 n (nI (q * 20 + i)) (nI r) u = some v → rrL n (nI q) (nI r) (nI fM) (fl, nI i, u) = some (.inl (1, nI (i + 1), v)) := fun {v} g hh v1 => by
    unfold rrL
    dsimp only
    rw [eq, b1, ef, h234, er, b2]
    refine eq_wp (wpt hiqu (wpf hni (wpt hif (wpf (by decide) (wpt hiru (wpj (wpf g (wpt hiru (wpe e392 (wpt hiy ?_))))))))))
    rw [ey, nm2]
    refine wpe hh (wpt rfl (wpe e392 (wpe v1 (wpl ?_))))
    rw [nI_1]
    rfl
  have keep : (arL n (nI r) (nI q) (nI (X q i), nI i, c) = some (.inl (c.1 138 (X q i), nI (i + 1), c))) → (rrL n (nI q) (nI r) (nI fM) (fl, nI i, u) = some (.inl (fl, nI (i + 1), u))) → ∃ d v l' V' F' sz' X' Y', arL n (nI r) (nI q) (nI (X q i), nI i, c) = some (.inl (d.1 138 (X q i), nI (i + 1), d)) ∧ rrL n (nI q) (nI r) (nI fM) (fl, nI i, u) = some (.inl ((if l'.length = l.length then fl else 1), nI (i + 1), v)) ∧ AMS r q ls l' V' F' sz' X' Y' d v ∧ l.length ≤ l'.length ∧ l'.length ≤ l.length + 1 ∧ V' = V + (l'.length - l.length) ∧ (∀ t, t ≠ r → sz' t = sz t) ∧ (∀ t j, t ≠ r → X' t j = X t j) ∧ KOT c d sz X r ∧ sx (qAmc r) c d ∧ sx (qCrw r) u v ∧ (l'.length = l.length → v = u) := fun p1 p2 => by
    refine ⟨c, u, l, V, F, sz, X, Y, p1, ?_, h, by omega, by omega, by omega, fun _ _ => rfl, fun _ _ _ => rfl, fun _ _ _ _ _ => ⟨fun _ _ _ => ⟨rfl, rfl⟩, fun _ _ _ _ _ => ⟨rfl, rfl⟩⟩, sx_rfl, sx_rfl, fun _ => rfl⟩
    rw [if_pos rfl]
    exact p2
  by_cases g1 : l.length = 20
  · refine keep (clsK ?_) (refK ?_)
    · rw [a4 r (by omega), hs2, g1]
      decide
    · rw [g1]
      rfl
  · have n1 : ¬ 20 ≤ (c.1 144 r) := by
      rw [a4 r (by omega), hs2]
      show ¬ nI 20 ≤ nI l.length
      exact nI_ge (by omega) (by omega)
    have n2 : ¬ nI l.length = 20 := fun y => g1 ((nI_eq (by omega) (by decide)).mp (show _ = nI 20 from y))
    have hh := e229x (n := n) (r := r) (nm := e.1) (N := fun j => u.2 223 (r * 20 + j)) hn hA (by omega) (fun j hj => by
      obtain ⟨y, hy⟩ : ∃ y, l[j]? = some y := ⟨l[j]'(by omega), List.getElem?_eq_getElem (by omega)⟩
      rw [(hc2 j y hy).1, (hu2.2 j y hy).1])
    rw [hs2] at hh
    have hh : d_229 n (nI r) e.1 c = some (bI (hnm u r l.length e.1)) := hh
    have hh2 : d_395 n (nI r) (nI l.length) e.1 u = some (bI (hnm u r l.length e.1)) := e395 (by omega) (by omega) (by omega)
    cases g2 : hnm u r l.length e.1 with
    | true =>
      rw [g2] at hh hh2
      exact keep (clsN n1 hh) (refN n2 hh2)
    | false =>
      rw [g2] at hh hh2
      obtain ⟨o1, o2, o3⟩ := hOs e (List.mem_of_getElem? hi)
      obtain ⟨pl, hpl⟩ : ∃ pl, e = (e.1, some pl) := by
        cases ee : e.2 with
        | none => exact absurd ee o3
        | some pl => exact ⟨pl, Prod.ext rfl ee⟩
      have hxz : X q i ≠ nxC V F Y := by
        obtain ⟨-, -, -, -, -, -, -, -, -, w10, -, w12⟩ := id hA
        unfold nxC
        by_cases e0 : F = 0
        · rw [if_pos e0]
          omega
        · rw [if_neg e0]
          exact fun y => w12 0 q i (by omega) (by omega) (by omega) y.symm
      obtain ⟨d, k1, k2, k3, k4, k5, k6⟩ := e226 (n := n) (nm := e.1) (l := pl) (x := X q i) (r := r) (by omega) hA (by omega) hV (by omega) hxz (by rw [← hpl]; exact hc1 i e hi) (by rw [← hpl]; exact o1)
      obtain ⟨v, v1, v2, v3, v4⟩ := e437 (n := n) (r := r) (j := l.length) (y := q * 20 + i) (u := u) (m := e) (by omega) (by omega) (by omega) (by omega) (by omega) b2 (hu1.2 i e hi) o1
      have elen : (l ++ [e]).length = l.length + 1 := by rw [List.length_append, List.length_singleton]
      have hzt : ∀ t, t ≠ r → upZ sz r (sz r + 1) t = sz t := fun t ht => by
        unfold upZ
        rw [if_neg ht]
      have hzr : upZ sz r (sz r + 1) r = l.length + 1 := by
        unfold upZ
        rw [if_pos rfl, hs2]
      have hXt : ∀ t j, t ≠ r → upX X r (sz r) (nxC V F Y) t j = X t j := fun t j ht => by
        unfold upX
        rw [if_neg (fun y => ht y.1)]
      have hXr : ∀ j, j < l.length → upX X r (sz r) (nxC V F Y) r j = X r j := fun j hj => by
        unfold upX
        rw [if_neg (by omega)]
      have hXn : upX X r (sz r) (nxC V F Y) r l.length = nxC V F Y := by
        unfold upX
        rw [if_pos ⟨rfl, hs2.symm⟩]
      refine ⟨d, v, l ++ [e], V + 1, F - 1, upZ sz r (sz r + 1), upX X r (sz r) (nxC V F Y), fun k => Y (k + 1), ?_, ?_, ⟨k2, by rw [hzt q (by omega)]; exact hs1, CRW_o hc1 (fun y hy => (hOs y hy).1) (fun j hj => ⟨hXt q j (by omega), k5 q j (by omega) (by omega)⟩) k6, URW_o hu1 (fun y hy => (hOs y hy).1) h20 (by omega) (by omega) v4, by rw [hzr, elen], by omega, CRW_ad (CRW_o hc2 hO (fun j hj => ⟨hXr j hj, k5 r j (by omega) (by omega)⟩) k6) hXn (by rw [hpl]; exact k3), URW_ad hu2 hO (by omega) v2 v3 v4, fun y hy => ?_, fun y hy => ?_⟩, by omega, by omega, by omega, hzt, hXt, fun t j ht htr hj => ⟨fun A y1 y2 => ⟨k6.1 _ _ (decide_eq_false ?_), k6.2 _ _ (decide_eq_false ?_)⟩, fun A y y1 y2 y3 => ⟨k6.1 _ _ (decide_eq_false ?_), k6.2 _ _ (decide_eq_false ?_)⟩⟩, ?_, ?_, fun y => by omega⟩
      · exact clsA n1 hh k1
      · rw [if_neg (by omega)]
        exact refA n2 hh2 v1
      · rcases List.mem_append.mp hy with y' | y'
        · exact hO y y'
        · rw [List.mem_singleton.mp y']
          exact o1
      · rcases List.mem_append.mp hy with y' | y'
        · exact hI y y'
        · rw [List.mem_singleton.mp y']
          exact o2
      · have := k5 t j ht hj
        omega
      · have := k5 t j ht hj
        omega
      · have := k5 t j ht hj
        omega
      · have := k5 t j ht hj
        omega
      · exact sx_wide k6 (fun A l y => by
          have := of_decide_eq_false y
          exact decide_eq_false (by omega))
      · exact sx_wide v4 (fun A l y => by
          have := of_decide_eq_false y
          exact decide_eq_false (by omega))
/-- all MARKS of row q -/
theorem am_lp {ls : List (Int64 × Option (List (Int64 × Nat × Int64)))} {fM : Nat} (hn : 5000 ≤ n) (hr : r < 1200) (hq : 1200 ≤ q ∧ q < 1218) (h20 : ls.length ≤ 20) (hOs : ∀ e, e ∈ ls → fOk e ∧ fIv e ∧ e.2 ≠ none) (hf : fM < 72) : ∀ (rr i t t2 V F : Nat) (sz : Nat → Nat) (X : Nat → Nat → Nat) (Y : Nat → Nat) (l : List (Int64 × Option (List (Int64 × Nat × Int64)))) (fl p : Int32) (c u : cS), i + rr = ls.length → rr < t → rr < t2 → AMS r q ls l V F sz X Y c u → V + rr ≤ 4096 → u.1 234 fM = nI 1 → (i < ls.length → p = nI (X q i)) → ∃ d v l' V' F' sz' X' Y', whl (arL n (nI r) (nI q)) t (p, nI i, c) = some d ∧ whl (rrL n (nI q) (nI r) (nI fM)) t2 (fl, nI i, u) = some ((if l'.length = l.length then fl else 1), v) ∧ AMS r q ls l' V' F' sz' X' Y' d v ∧ l.length ≤ l'.length ∧ V' = V + (l'.length - l.length) ∧ (∀ t, t ≠ r → sz' t = sz t) ∧ (∀ t j, t ≠ r → X' t j = X t j) ∧ KOT c d sz X r ∧ sx (qAmc r) c d ∧ sx (qCrw r) u v ∧ (l'.length = l.length → v = u)
  | 0, i, t, t2, V, F, sz, X, Y, l, fl, p, c, u, hi, ht, ht2, h, hV, h234, hp => by
    obtain ⟨t', rfl⟩ : ∃ t', t = t' + 1 := ⟨t - 1, by omega⟩
    obtain ⟨t2', rfl⟩ : ∃ t2', t2 = t2' + 1 := ⟨t2 - 1, by omega⟩
    obtain ⟨hA, hs1, -, hu1, -⟩ := id h
    refine ⟨c, u, l, V, F, sz, X, Y, whl_out ?_, whl_out ?_, h, by omega, by omega, fun _ _ => rfl, fun _ _ _ => rfl, fun _ _ _ _ _ => ⟨fun _ _ _ => ⟨rfl, rfl⟩, fun _ _ _ _ _ => ⟨rfl, rfl⟩⟩, sx_rfl, sx_rfl, fun _ => rfl⟩
    · unfold arL
      dsimp only
      rw [show ix (nI q) = q from ix_n (by omega), hA.2.2.2.1 q (by omega), hs1]
      exact eq_wp (wpt (ib_n (by omega) (by decide)) (wpt (by rw [show i = ls.length by omega]; exact nI_le (Nat.le_refl _) (by omega)) rfl))
    · unfold rrL
      dsimp only
      rw [show ix (nI q) = q from ix_n (by omega), hu1.1, if_pos rfl]
      exact eq_wp (wpt (ib_n (by omega) (by decide)) (wpt (by rw [show i = ls.length by omega]; exact nI_le (Nat.le_refl _) (by omega)) rfl))
  | rr + 1, i, t, t2, V, F, sz, X, Y, l, fl, p, c, u, hi, ht, ht2, h, hV, h234, hp => by
    obtain ⟨t', rfl⟩ : ∃ t', t = t' + 1 := ⟨t - 1, by omega⟩
    obtain ⟨t2', rfl⟩ : ∃ t2', t2 = t2' + 1 := ⟨t2 - 1, by omega⟩
    have hil : i < ls.length := by omega
    obtain ⟨e, he⟩ : ∃ e, ls[i]? = some e := ⟨ls[i], List.getElem?_eq_getElem hil⟩
    have hp := hp hil
    subst hp
    obtain ⟨d1, v1, l1, V1, F1, sz1, X1, Y1, a1, a2, a3, a4, a5, a6, a7, a8, a9, a10, a11, a12⟩ := am_st (fl := fl) hn hr hq h20 hOs hf h (by omega) h234 he
    obtain ⟨d, v, l', V', F', sz', X', Y', b1, b2, b3, b4, b5, b6, b7, b8, b9, b10, b11⟩ := am_lp hn hr hq h20 hOs hf rr (i + 1) t' t2' V1 F1 sz1 X1 Y1 l1 (if l1.length = l.length then fl else 1) (d1.1 138 (X q i)) d1 v1 (by omega) (by omega) (by omega) a3 (by omega) (by rw [a11.1 _ _ (decide_eq_false (by omega))]; exact h234) (fun z => by
      obtain ⟨hA1, hs1, -⟩ := a3
      rw [← a8 q i (by omega)]
      exact hA1.2.2.2.2.2.2.1 q i (by omega) (by omega))
    refine ⟨d, v, l', V', F', sz', X', Y', (whl_in a1).trans b1, ?_, b3, by omega, by omega, fun t ht => (b6 t ht).trans (a7 t ht), fun t j ht => (b7 t j ht).trans (a8 t j ht), KOT_tr a9 b8 a7 a8, sx_trans a10 b9, sx_trans a11 b10, fun z => (b11 (by omega)).trans (a12 (by omega))⟩
    rw [whl_in a2, b2]
    by_cases e1 : l1.length = l.length
    · rw [if_pos e1, e1]
    · by_cases e2 : l'.length = l1.length
      · rw [if_pos e2, if_neg e1, if_neg (by omega)]
      · rw [if_neg e2, if_neg (by omega)]
end AMLS
