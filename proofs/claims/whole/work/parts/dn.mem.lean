/-! READING PAIRS: no MEMBER is missing -/
section MEM
variable {n i N x y k p : Nat} {c d u w c' u' : cS} {K P : Nat → Nat} {V : Nat → Int64}
/-- MEMBER j of the KIND has a PAIR or a default -/
def msg (u : cS) (y k p j : Nat) : Bool := decide (u.1 193 (4 * k + j) ≠ nI 0) || (ff (fun q => decide (u.2 226 (y * 4 + q) = u.2 191 (4 * k + j))) p).isSome
theorem e232d {j : Nat} (hn : 1000 ≤ n) (hx : x < 4096) (hK : RK c u k) (hD : PRD c u x y k p) (hj : j < kn u k) : wp (d_232 n (nI x) k (nI j) c) (fun r => r = -3 ↔ msg u y k p j = false) := by
  obtain ⟨m1, -, m3, m4, m5, -⟩ := hK.2.2.2.2.1 j hj
  have hkn := hK.2.1
  have hprn := prn_of hD
  have hp4 := hD.1
  have h230 := e230 (n := n) (x := x) (y := y) (v := u.2 191 (4 * k + j)) (c := c) (m := u) (by omega) hx (by omega) (by rw [hprn]; exact hD.2.1) (fun q hq => (hD.2.2.2 q (by omega)).1)
  have hpO : pOf u y (u.2 191 (4 * k + j)) = ff (fun q => decide (u.2 226 (y * 4 + q) = u.2 191 (4 * k + j))) p := by
    unfold pOf
    rw [hprn]
  rw [hpO] at h230
  have hib : ib (nI j) 4 := ib_n (by omega) (by decide)
  have htx : txt u k j ≠ -3 := by
    unfold txt
    split <;> decide
  unfold d_232
  refine wpt hib ?_
  rw [ix_n (by omega), m1]
  refine wpe h230 ?_
  cases hq : ff (fun q => decide (u.2 226 (y * 4 + q) = u.2 191 (4 * k + j))) p with
  | some q =>
    have hql := (ff_some hq).1
    have hm : msg u y k p j = true := by
      unfold msg
      rw [hq]
      simp
    refine wpt (nI_pos' (by omega)) (wpt (ib_n (by omega) (by decide)) (wpt hib (wpj ?_)))
    rw [m3]
    by_cases e : c.1 140 (ix (nI (x * 4 + q))) = txt u k j
    · exact wpt e (wpt hib ⟨fun z => absurd z htx, fun z => by rw [hm] at z; cases z⟩)
    · exact wpf e ⟨fun z => absurd (show (-2 : Int32) = -3 from z) (by decide), fun z => by rw [hm] at z; cases z⟩
  | none =>
    refine wpf (show ¬ (0 : Int32) ≤ nM by decide) (wpt hib (wpj ?_))
    rw [m5, m3]
    by_cases e : u.1 193 (4 * k + j) = nI 0
    · refine wpt e ⟨fun _ => ?_, fun _ => rfl⟩
      unfold msg
      rw [hq, decide_eq_false (fun z => z e)]
      rfl
    · refine wpf e (wpt hib ⟨fun z => absurd z htx, fun z => ?_⟩)
      unfold msg at z
      rw [decide_eq_true e] at z
      cases z
def mlC (n : Nat) (a1 : Int32) (k2 : Nat) (v3 : Int32) (s8 : Int32 × cS) : Option ((Int32 × cS) ⊕ (cS ⊕ (cS ⊕ cS))) :=
      if (s8.2.1 (kA k2) 1) ≤ s8.1 then
        some (.inr (.inl s8.2))
      else
        Option.bind (d_232 n a1 k2 s8.1 s8.2) (fun v9 =>
        jn (fun p10 : cS =>
          lt (s8.1 + 1 : Int32) (fun v12 =>
          some (.inl (v12, p10))))
        (fun j190 =>
        if v9 = (-3) then
          Option.bind (d_41 n 7 v3 s8.2) (Sum.elim (fun r14 =>
          j190 r14)
          (fun z15 => some (.inr (.inr (.inr z15)))))
        else
          j190 s8.2))
theorem ml_c {v3 : Int32} (hn : 1000 ≤ n) (hx : x < 4096) (hK : RK c u k) (hD : PRD c u x y k p) : wp (whl (mlC n (nI x) k v3) n (0, c)) (fun r => (r = .inl c ∧ ∀ j, j < kn u k → msg u y k p j = true) ∨ (r = .inr (.inr (flC c 7 v3)) ∧ ∃ j, j < kn u k ∧ msg u y k p j = false)) := by
  have hkn := hK.2.1
  refine whl_cnt (fun j (st : Int32 × cS) => st = (nI j, c) ∧ ∀ l, l < j → msg u y k p l = true) (kn u k) ?_ ?_ (by omega) ⟨rfl, fun l hl => absurd hl (Nat.not_lt_zero _)⟩
  · rintro j st hj ⟨rfl, g2⟩
    unfold mlC
    dsimp only
    rw [hK.2.2.2.1]
    refine wpf (by simp (disch := first | omega | decide) only [↓neg1, nlit, rI, rL, rI2, rL1, nI_add, pk_mul, sbT, dvT, nmd, ixT, ↓ibT, ltT, ltF, leT, leF, eqT, eqF, nM_ltT, nM_ltF, nM_leT, nM_leF, nM_eqF, nM_eqF', nbT0, nbT1, oI_s, oI_n, natF, natT, nltT, nltF, nleT, nleF, ↓reduceIte, lgc, not_true_eq_false, not_false_eq_true, or_false, false_or, or_true, true_or, and_true, true_and, and_false, false_and, ne_eq, eq_self, or_self, and_self]) (wpc (e232d hn hx hK hD hj) (fun r hr => wpj ?_))
    by_cases e : r = -3
    · exact wpt e (wpe e41 (Or.inr ⟨rfl, j, hj, hr.mp e⟩))
    · refine wpf e (wpl ⟨?_, fun l hl => ?_⟩)
      · rw [nI_1]
      · by_cases el : l = j
        · rw [el]
          cases hm : msg u y k p j with
          | true => rfl
          | false => exact absurd (hr.mpr hm) e
        · exact g2 l (by omega)
  · rintro st ⟨rfl, g2⟩
    unfold mlC
    dsimp only
    rw [hK.2.2.2.1]
    exact wpt (by simp (disch := first | omega | decide) only [↓neg1, nlit, rI, rL, rI2, rL1, nI_add, pk_mul, sbT, dvT, nmd, ixT, ↓ibT, ltT, ltF, leT, leF, eqT, eqF, nM_ltT, nM_ltF, nM_leT, nM_leF, nM_eqF, nM_eqF', nbT0, nbT1, oI_s, oI_n, natF, natT, nltT, nltF, nleT, nleF, ↓reduceIte, lgc, not_true_eq_false, not_false_eq_true, or_false, false_or, or_true, true_or, and_true, true_and, and_false, false_and, ne_eq, eq_self, or_self, and_self]) (Or.inl ⟨rfl, g2⟩)
def mpR (v20 v11 j : Int32) (s : cS) (s32 : Int32 × Int32) : Option ((Int32 × Int32) ⊕ Int32) :=
                                if ib v20 24380 then
                                if (s.1 225 (ix v20)) ≤ s32.2 then
                                  some (.inr s32.1)
                                else
                                  jn (fun p34 : Int32 =>
                                    lt (s32.2 + 1 : Int32) (fun v37 =>
                                    some (.inl (p34, v37))))
                                  (fun j427 =>
                                  jn (fun p39 : Unit =>
                                    j427 1)
                                  (fun j422 =>
                                  if s32.1 = 0 then
                                    if ib ((v20 * 4) + s32.2) 97520 then
                                    if ib ((4 * v11) + j) 48 then
                                    if (lg_cmp (s.2 226 (ix ((v20 * 4) + s32.2))) (s.2 191 (ix ((4 * v11) + j)))) = 0 then
                                      j422 ()
                                    else
                                      j427 0
                                    else none
                                    else none
                                  else
                                    j422 ()))
                                else none
def mlR (n : Nat) (v20 v11 v5 : Int32) (s25 : Int32 × cS) : Option ((Int32 × cS) ⊕ cS) :=
                          if ib v11 12 then
                          if (s25.2.1 190 (ix v11)) ≤ s25.1 then
                            some (.inr s25.2)
                          else
                            if (s25.2.1 174 13) = 0 then
                              if ib ((4 * v11) + s25.1) 48 then
                              lt ((s25.2.1 193 (ix ((4 * v11) + s25.1))) : Int32) (fun v29 =>
                              Option.bind (whl (mpR v20 v11 s25.1 s25.2) n (v29, 0))
                              (fun x42 : Int32 =>
                                jn (fun p43 : cS =>
                                  lt (s25.1 + 1 : Int32) (fun v45 =>
                                  some (.inl (v45, p43))))
                                (fun j453 =>
                                if x42 = 0 then
                                  if ib v5 4001 then
                                  Option.bind (d_97 n 7 (s25.2.1 179 (ix v5)) s25.2) (fun r48 =>
                                  j453 r48)
                                  else none
                                else
                                  j453 s25.2)))
                              else none
                            else
                              some (.inr s25.2)
                          else none
theorem mp_r {j : Nat} {b : Bool} (hn : 100 ≤ n) (hy : y < 24380) (hk : k < 12) (hp : p ≤ 4) (hj : j < 4) (h5 : u.1 225 y = nI p) : wp (whl (mpR (nI y) (nI k) (nI j) u) n (bI b, 0)) (fun r => r = bI (b || (ff (fun q => decide (u.2 226 (y * 4 + q) = u.2 191 (4 * k + j))) p).isSome)) := by
  have h48 : (4 : Int32) * nI k + nI j = nI (4 * k + j) := by rw [show (4 : Int32) = nI 4 from rfl, pk_mul, nI_add]
  have hsom : ∀ q, (ff (fun q => decide (u.2 226 (y * 4 + q) = u.2 191 (4 * k + j))) (q + 1)).isSome = ((ff (fun q => decide (u.2 226 (y * 4 + q) = u.2 191 (4 * k + j))) q).isSome || decide (u.2 226 (y * 4 + q) = u.2 191 (4 * k + j))) := fun q => by
    cases h1 : ff (fun q => decide (u.2 226 (y * 4 + q) = u.2 191 (4 * k + j))) q with
    | some l => rw [ff_add h1 (fun _ _ => rfl)]; rfl
    | none =>
      by_cases e : u.2 226 (y * 4 + q) = u.2 191 (4 * k + j)
      · rw [ff_new (ff_none h1) (decide_eq_true e), decide_eq_true e]
        rfl
      · rw [decide_eq_false e]
        cases h2 : ff (fun q => decide (u.2 226 (y * 4 + q) = u.2 191 (4 * k + j))) (q + 1) with
        | none => rfl
        | some l =>
          obtain ⟨z1, z2, -⟩ := ff_some h2
          by_cases el : l = q
          · rw [el] at z2
            exact absurd (of_decide_eq_true z2) e
          · have := ff_none h1 l (by omega)
            rw [z2] at this
            cases this
  refine whl_cnt (fun q (st : Int32 × Int32) => st = (bI (b || (ff (fun q => decide (u.2 226 (y * 4 + q) = u.2 191 (4 * k + j))) q).isSome), nI q)) p ?_ ?_ (by omega) (by rw [show (ff (fun q => decide (u.2 226 (y * 4 + q) = u.2 191 (4 * k + j))) 0).isSome = false from rfl, Bool.or_false]; rfl)
  · rintro q st hq rfl
    unfold mpR
    dsimp only
    refine wpt (ib_n hy (by decide)) ?_
    rw [ix_n (show y < 2147483648 by omega), h5, h48, show nI y * 4 + nI q = nI (y * 4 + q) by rw [show (4 : Int32) = nI 4 from rfl, pk_mul, nI_add], ix_n (show y * 4 + q < 2147483648 by omega), ix_n (show 4 * k + j < 2147483648 by omega)]
    refine wpf (by simp (disch := first | omega | decide) only [↓neg1, nlit, rI, rL, rI2, rL1, nI_add, pk_mul, sbT, dvT, nmd, ixT, ↓ibT, ltT, ltF, leT, leF, eqT, eqF, nM_ltT, nM_ltF, nM_leT, nM_leF, nM_eqF, nM_eqF', nbT0, nbT1, oI_s, oI_n, natF, natT, nltT, nltF, nleT, nleF, ↓reduceIte, lgc, not_true_eq_false, not_false_eq_true, or_false, false_or, or_true, true_or, and_true, true_and, and_false, false_and, ne_eq, eq_self, or_self, and_self]) (wpjQ (fun r : Int32 => r = bI (b || (ff (fun q => decide (u.2 226 (y * 4 + q) = u.2 191 (4 * k + j))) (q + 1)).isSome)) ?_ ?_)
    · rintro r rfl
      refine wpl ?_
      rw [nI_1]
      exact rfl
    · intro Q' k' hk'
      rw [hsom]at hk'
      refine wpj ?_
      cases e : (b || (ff (fun q => decide (u.2 226 (y * 4 + q) = u.2 191 (4 * k + j))) q).isSome) with
      | true => exact wpf (by decide) (hk' 1 (by rw [← Bool.or_assoc, e]; rfl))
      | false =>
        refine wpt rfl (wpt (ib_n (by omega) (by decide)) (wpt (ib_n (by omega) (by decide)) ?_))
        by_cases e2 : u.2 226 (y * 4 + q) = u.2 191 (4 * k + j)
        · exact wpt (by rw [e2]; exact lg_self) (hk' 1 (by rw [← Bool.or_assoc, e, decide_eq_true e2]; rfl))
        · exact wpf (fun z => e2 (lg_eq z)) (hk' 0 (by rw [← Bool.or_assoc, e, decide_eq_false e2]; rfl))
  · rintro st rfl
    unfold mpR
    dsimp only
    refine wpt (ib_n hy (by decide)) ?_
    rw [ix_n (show y < 2147483648 by omega), h5]
    exact wpt (by simp (disch := first | omega | decide) only [↓neg1, nlit, rI, rL, rI2, rL1, nI_add, pk_mul, sbT, dvT, nmd, ixT, ↓ibT, ltT, ltF, leT, leF, eqT, eqF, nM_ltT, nM_ltF, nM_leT, nM_leF, nM_eqF, nM_eqF', nbT0, nbT1, oI_s, oI_n, natF, natT, nltT, nltF, nleT, nleF, ↓reduceIte, lgc, not_true_eq_false, not_false_eq_true, or_false, false_or, or_true, true_or, and_true, true_and, and_false, false_and, ne_eq, eq_self, or_self, and_self]) rfl
theorem ml_r {l : Nat} (hn : 1000 ≤ n) (hy : y < 24380) (hk : k < 12) (hK : RK c u k) (hD : PRD c u x y k p) (h13 : u.1 174 13 = nI 0) (hl : l ≤ 4000) : wp (whl (mlR n (nI y) (nI k) (nI l)) n (0, u)) (fun d => (d = u ∧ ∀ j, j < kn u k → msg u y k p j = true) ∨ (d = flt u 7 (u.1 179 l) ∧ ∃ j, j < kn u k ∧ msg u y k p j = false)) := by
  have hkn := hK.2.1
  have hf := flt_at (u := u) (a := 7) (f := u.1 179 l)
  have hix : ix (nI k) = k := ix_n (by omega)
  refine whl_cnt (fun j (st : Int32 × cS) => st.1 = nI j ∧ ((st.2 = u ∧ ∀ l, l < j → msg u y k p l = true) ∨ (st.2 = flt u 7 (u.1 179 l) ∧ ∃ j, j < kn u k ∧ msg u y k p j = false))) (kn u k) ?_ ?_ (by omega) ⟨rfl, Or.inl ⟨rfl, fun l hl => absurd hl (Nat.not_lt_zero _)⟩⟩
  · rintro j ⟨j0, w⟩ hj ⟨g1, g2⟩
    dsimp only at g1 g2
    subst g1
    unfold mlR
    dsimp only
    refine wpt (ib_n hk (by decide)) ?_
    rw [hix]
    rcases g2 with ⟨rfl, g2⟩ | ⟨rfl, g2⟩
    · have hnb := (hK.2.2.2.2.1 j hj).2.2.2.1
      obtain ⟨b, hb⟩ : ∃ b : Bool, w.1 193 (4 * k + j) = bI b := by
        rcases hnb with z | z
        · exact ⟨false, z⟩
        · exact ⟨true, z⟩
      have hmsg : msg w y k p j = (b || (ff (fun q => decide (w.2 226 (y * 4 + q) = w.2 191 (4 * k + j))) p).isSome) := by
        unfold msg
        rw [hb]
        cases b
        · rfl
        · rfl
      rw [hK.2.2.1, show (4 : Int32) * nI k + nI j = nI (4 * k + j) by rw [show (4 : Int32) = nI 4 from rfl, pk_mul, nI_add], ix_n (show 4 * k + j < 2147483648 by omega), hb]
      refine wpf (by simp (disch := first | omega | decide) only [↓neg1, nlit, rI, rL, rI2, rL1, nI_add, pk_mul, sbT, dvT, nmd, ixT, ↓ibT, ltT, ltF, leT, leF, eqT, eqF, nM_ltT, nM_ltF, nM_leT, nM_leF, nM_eqF, nM_eqF', nbT0, nbT1, oI_s, oI_n, natF, natT, nltT, nltF, nleT, nleF, ↓reduceIte, lgc, not_true_eq_false, not_false_eq_true, or_false, false_or, or_true, true_or, and_true, true_and, and_false, false_and, ne_eq, eq_self, or_self, and_self]) (wpt h13 (wpt (ib_n (by omega) (by decide)) (wpl (wpc (mp_r (p := p) (by omega) hy hk hD.1 (by omega) hD.2.2.1) (fun r hr => wpj ?_)))))
      rw [← hmsg] at hr
      subst hr
      cases hm : msg w y k p j with
      | false =>
        refine wpt rfl (wpt (ib_n (by omega) (by decide)) ?_)
        rw [ix_n (by omega)]
        exact wpe (e97 h13) (wpl ⟨nI_1 j, Or.inr ⟨rfl, j, hj, hm⟩⟩)
      | true =>
        refine wpf (by decide) (wpl ⟨nI_1 j, Or.inl ⟨rfl, fun l hl => ?_⟩⟩)
        by_cases el : l = j
        · rw [el]
          exact hm
        · exact g2 l (by omega)
    · by_cases z : (flt u 7 (u.1 179 l)).1 190 k ≤ nI j
      · exact wpt z (Or.inr ⟨rfl, g2⟩)
      · exact wpf z (wpf (by rw [hf.1]; decide) (Or.inr ⟨rfl, g2⟩))
  · rintro ⟨j0, w⟩ ⟨g1, g2⟩
    dsimp only at g1 g2
    subst g1
    unfold mlR
    dsimp only
    refine wpt (ib_n hk (by decide)) ?_
    rw [hix]
    rcases g2 with ⟨rfl, g2⟩ | ⟨rfl, g2⟩
    · rw [hK.2.2.1]
      exact wpt (by simp (disch := first | omega | decide) only [↓neg1, nlit, rI, rL, rI2, rL1, nI_add, pk_mul, sbT, dvT, nmd, ixT, ↓ibT, ltT, ltF, leT, leF, eqT, eqF, nM_ltT, nM_ltF, nM_leT, nM_leF, nM_eqF, nM_eqF', nbT0, nbT1, oI_s, oI_n, natF, natT, nltT, nltF, nleT, nleF, ↓reduceIte, lgc, not_true_eq_false, not_false_eq_true, or_false, false_or, or_true, true_or, and_true, true_and, and_false, false_and, ne_eq, eq_self, or_self, and_self]) (Or.inl ⟨rfl, g2⟩)
    · rw [hf.2.2.2 190 k (by omega), hK.2.2.1]
      exact wpt (by simp (disch := first | omega | decide) only [↓neg1, nlit, rI, rL, rI2, rL1, nI_add, pk_mul, sbT, dvT, nmd, ixT, ↓ibT, ltT, ltF, leT, leF, eqT, eqF, nM_ltT, nM_ltF, nM_leT, nM_leF, nM_eqF, nM_eqF', nbT0, nbT1, oI_s, oI_n, natF, natT, nltT, nltF, nleT, nleF, ↓reduceIte, lgc, not_true_eq_false, not_false_eq_true, or_false, false_or, or_true, true_or, and_true, true_and, and_false, false_and, ne_eq, eq_self, or_self, and_self]) (Or.inr ⟨rfl, g2⟩)
end MEM
