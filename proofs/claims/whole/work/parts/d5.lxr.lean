/-! READING: the reference cuts all -/
section LXR
variable {n v p k i L N : Nat} {b : Nat → Nat} {c d w u : cS}
theorem lxT_3 {v : Nat} (h : lxT v = true) : 32 ≤ v ∧ v ≤ 126 ∧ v ≠ 39 := by
  unfold lxT at h
  rw [Bool.and_eq_true, Bool.and_eq_true] at h
  refine ⟨Nat.le_of_ble_eq_true h.1.1, Nat.le_of_ble_eq_true h.1.2, fun e => ?_⟩
  rw [e] at h
  exact absurd h.2 (by decide)
theorem lxT_n {v : Nat} (h : lxT v = false) : v < 32 ∨ 126 < v ∨ v = 39 := by
  refine Classical.byContradiction fun z => ?_
  have h1 : Nat.ble 32 v = true := Nat.ble_eq_true_of_le (by omega)
  have h2 : Nat.ble v 126 = true := Nat.ble_eq_true_of_le (by omega)
  unfold lxT at h
  rw [h1, h2] at h
  cases e : Nat.beq v 39 with
  | true => exact z (Or.inr (Or.inr (Nat.eq_of_beq_eq_true e)))
  | false =>
    rw [e] at h
    cases h
theorem lxB_n {v : Nat} (h1 : v ≠ 32) (h2 : v ≠ 10) : lxB v = false := by
  unfold lxB
  cases e : Nat.beq v 32 with
  | true => exact absurd (Nat.eq_of_beq_eq_true e) h1
  | false =>
    cases e2 : Nat.beq v 10 with
    | true => exact absurd (Nat.eq_of_beq_eq_true e2) h2
    | false => rfl
def tkS (b : Nat → Nat) (L p : Nat) : Nat := if lxL (b p) = true then wSd (tkV b L p) else if lxD (b p) = true then 1 else if b p = 39 then 2 else 3
def tkW (b : Nat → Nat) (L p : Nat) : Int64 := if lxL (b p) = true then wWd (tkV b L p) else if lxD (b p) = true then tkV b L p else if b p = 39 then tkV b L p else (nI (b p)).toInt64
def RXW (u : cS) (b : Nat → Nat) (L k : Nat) : Prop := ∀ j, j < k → u.1 178 j = nI (tkS b L (psn b L j)) ∧ u.1 179 j = nI (psn b L j) ∧ u.2 180 j = tkW b L (psn b L j)
def qRx (A j : Nat) : Bool := decide ((A = 174 ∧ (j = 7 ∨ (11 ≤ j ∧ j ≤ 13))) ∨ (178 ≤ A ∧ A ≤ 180))
def RTP (u : cS) (b : Nat → Nat) (L : Nat) : Prop := ∀ j, j < L → b j < 256 ∧ u.1 175 j = nI (b j)
/-- a LEXEME more -/
def rlx (u : cS) (i : Nat) (s f : Int32) (v : Int64) : cS := pI (pL (pI (pI u 178 i s) 179 i f) 180 i v) 174 7 (nI (i + 1))
theorem e98 {s f : Int32} {v : Int64} (h : u.1 174 7 = nI i) (hi : i < 4001) : d_98 n s f v u = some (rlx u i s f v) := by
  unfold d_98
  refine eq_wp ?_
  have a1 : (pI u 178 i s).1 174 7 = nI i := by rw [rI, if_neg (by omega)]; exact h
  have a2 : (pI (pI u 178 i s) 179 i f).1 174 7 = nI i := by rw [rI, if_neg (by omega)]; exact a1
  have a3 : (pL (pI (pI u 178 i s) 179 i f) 180 i v).1 174 7 = nI i := a2
  rw [h]
  refine wpt (by simp (disch := first | omega | decide) only [↓neg1, nlit, rI, rL, rI2, rL1, nI_add, pk_mul, sbT, dvT, nmd, ixT, ↓ibT, ltT, ltF, leT, leF, eqT, eqF, nM_ltT, nM_ltF, nM_leT, nM_leF, nM_eqF, nM_eqF', nbT0, nbT1, oI_s, oI_n, natF, natT, nltT, nltF, nleT, nleF, ↓reduceIte, lgc, not_true_eq_false, not_false_eq_true, or_false, false_or, or_true, true_or, and_true, true_and, and_false, false_and, ne_eq, eq_self, or_self, and_self]) ?_
  rw [ix_n (by omega)]
  refine wpl ?_
  rw [a1]
  refine wpt (by simp (disch := first | omega | decide) only [↓neg1, nlit, rI, rL, rI2, rL1, nI_add, pk_mul, sbT, dvT, nmd, ixT, ↓ibT, ltT, ltF, leT, leF, eqT, eqF, nM_ltT, nM_ltF, nM_leT, nM_leF, nM_eqF, nM_eqF', nbT0, nbT1, oI_s, oI_n, natF, natT, nltT, nltF, nleT, nleF, ↓reduceIte, lgc, not_true_eq_false, not_false_eq_true, or_false, false_or, or_true, true_or, and_true, true_and, and_false, false_and, ne_eq, eq_self, or_self, and_self]) ?_
  rw [ix_n (by omega)]
  refine wpl ?_
  rw [a2]
  refine wpt (by simp (disch := first | omega | decide) only [↓neg1, nlit, rI, rL, rI2, rL1, nI_add, pk_mul, sbT, dvT, nmd, ixT, ↓ibT, ltT, ltF, leT, leF, eqT, eqF, nM_ltT, nM_ltF, nM_leT, nM_leF, nM_eqF, nM_eqF', nbT0, nbT1, oI_s, oI_n, natF, natT, nltT, nltF, nleT, nleF, ↓reduceIte, lgc, not_true_eq_false, not_false_eq_true, or_false, false_or, or_true, true_or, and_true, true_and, and_false, false_and, ne_eq, eq_self, or_self, and_self]) ?_
  rw [ix_n (by omega)]
  refine wpl ?_
  rw [a3, nI_1]
  exact rfl
theorem rlx_sx {s f : Int32} {v : Int64} : sx qRx u (rlx u i s f v) := sx_pI (sx_pL (sx_pI (sx_pI sx_rfl (decide_eq_true (by omega))) (decide_eq_true (by omega))) (decide_eq_true (by omega))) (decide_eq_true (by omega))
theorem rlx_7 {s f : Int32} {v : Int64} : (rlx u i s f v).1 174 7 = nI (i + 1) := by
  unfold rlx
  rw [rI, if_pos ⟨rfl, rfl⟩]
theorem rlx_13 {s f : Int32} {v : Int64} {j : Nat} (hj : j ≠ 7) : (rlx u i s f v).1 174 j = u.1 174 j := by
  unfold rlx
  rw [rI, if_neg (by omega)]
  show (pI (pI u 178 i s) 179 i f).1 174 j = _
  rw [rI, if_neg (by omega), rI, if_neg (by omega)]
theorem rlx_at {s f : Int32} {v : Int64} {j : Nat} : (rlx u i s f v).1 178 j = (if j = i then s else u.1 178 j) ∧ (rlx u i s f v).1 179 j = (if j = i then f else u.1 179 j) ∧ (rlx u i s f v).2 180 j = (if j = i then v else u.2 180 j) := by
  refine ⟨?_, ?_, ?_⟩
  · unfold rlx
    rw [rI, if_neg (by omega)]
    show (pI (pI u 178 i s) 179 i f).1 178 j = _
    rw [rI, if_neg (by omega), rI]
    by_cases e : j = i
    · rw [if_pos ⟨rfl, e⟩, if_pos e]
    · rw [if_neg (fun z => e z.2), if_neg e]
  · unfold rlx
    rw [rI, if_neg (by omega)]
    show (pI (pI u 178 i s) 179 i f).1 179 j = _
    rw [rI]
    by_cases e : j = i
    · rw [if_pos ⟨rfl, e⟩, if_pos e]
    · rw [if_neg (fun z => e z.2), if_neg e, rI, if_neg (by omega)]
  · show (pL (pI (pI u 178 i s) 179 i f) 180 i v).2 180 j = _
    rw [rL]
    by_cases e : j = i
    · rw [if_pos ⟨rfl, e⟩, if_pos e]
    · rw [if_neg (fun z => e z.2), if_neg e]
      rfl
theorem rlx_RXW (h : RXW u b L i) : RXW (rlx u i (nI (tkS b L (psn b L i))) (nI (psn b L i)) (tkW b L (psn b L i))) b L (i + 1) := fun j hj => by
  obtain ⟨h1, h2, h3⟩ := rlx_at (u := u) (i := i) (s := nI (tkS b L (psn b L i))) (f := nI (psn b L i)) (v := tkW b L (psn b L i)) (j := j)
  rw [h1, h2, h3]
  by_cases e : j = i
  · rw [if_pos e, if_pos e, if_pos e, e]
    exact ⟨rfl, rfl, rfl⟩
  · rw [if_neg e, if_neg e, if_neg e]
    exact h j (by omega)
/-- a FAULT noted -/
def flt (u : cS) (k f : Int32) : cS := pI (pI (pI u 174 13 1) 174 11 k) 174 12 f
theorem e97 {a f : Int32} (h : u.1 174 13 = nI 0) : d_97 n a f u = some (flt u a f) := by
  unfold d_97
  exact eq_wp (wpt h (wpl (wpl (wpl rfl))))
theorem e97w {a f : Int32} (h : u.1 174 13 = nI 1) : d_97 n a f u = some u := by
  unfold d_97
  exact eq_wp (wpf (by rw [h]; decide) rfl)
theorem flt_sx {a f : Int32} : sx qRx u (flt u a f) := sx_pI (sx_pI (sx_pI sx_rfl (by decide)) (by decide)) (by decide)
theorem flt_at {a f : Int32} : (flt u a f).1 174 13 = nI 1 ∧ (flt u a f).1 174 11 = a ∧ (flt u a f).1 174 12 = f ∧ ∀ A j, ¬ (A = 174 ∧ 11 ≤ j ∧ j ≤ 13) → (flt u a f).1 A j = u.1 A j := by
  unfold flt
  refine ⟨?_, ?_, ?_, fun A j z => ?_⟩
  · rw [rI, if_neg (by omega), rI, if_neg (by omega), rI, if_pos ⟨rfl, rfl⟩]
    rfl
  · rw [rI, if_neg (by omega), rI, if_pos ⟨rfl, rfl⟩]
  · rw [rI, if_pos ⟨rfl, rfl⟩]
  · rw [rI, if_neg (by omega), rI, if_neg (by omega), rI, if_neg (by omega)]
/-- behind the cutting -/
def CUTR (u : cS) (b : Nat → Nat) (L N : Nat) (d : cS) : Prop := sx qRx u d ∧ ((psn b L N = L ∧ d.1 174 13 = nI 0 ∧ RXW d b L N ∧ d.1 178 N = nI 5 ∧ d.1 179 N = nI L) ∨ (psn b L N < L ∧ tkO b L (psn b L N) = false ∧ d.1 174 13 = nI 1 ∧ d.1 174 11 = nI 1 ∧ d.1 174 12 = nI (psn b L N)))
def LRI (u : cS) (b : Nat → Nat) (L N m : Nat) (st : Int32 × cS) : Prop := sx qRx u st.2 ∧ ((∃ i a, st.1 = nI a ∧ a ≤ L ∧ m = L - a + 1 ∧ st.2.1 174 13 = nI 0 ∧ i ≤ N ∧ spE lxB b L a = psn b L i ∧ st.2.1 174 7 = nI i ∧ RXW st.2 b L i) ∨ (m = 0 ∧ st.2.1 174 13 = nI 1 ∧ st.2.1 174 11 = nI 1 ∧ st.2.1 174 12 = nI (psn b L N) ∧ psn b L N < L ∧ tkO b L (psn b L N) = false ∧ ∃ i, i ≤ 4000 ∧ st.2.1 174 7 = nI i))
theorem e99 (hn : 10000 ≤ n) (hL : L ≤ 4000) (hT : RTP u b L) (h13 : u.1 174 13 = nI 0) (hX : LXN b L N) : wp (d_99 n (nI L) u) (CUTR u b L N) := by
  obtain ⟨x1, x2⟩ := hX
  have hN := psn_le N x1
  unfold d_99
  refine wpl ?_
  refine wpc (K' := fun d : cS => sx qRx u d ∧ ((psn b L N = L ∧ d.1 174 13 = nI 0 ∧ RXW d b L N ∧ d.1 174 7 = nI N) ∨ (psn b L N < L ∧ tkO b L (psn b L N) = false ∧ d.1 174 13 = nI 1 ∧ d.1 174 11 = nI 1 ∧ d.1 174 12 = nI (psn b L N) ∧ ∃ i, i ≤ 4000 ∧ d.1 174 7 = nI i))) (whl_run (LRI u b L N) ?_ n (L + 1) _ (by omega) ?_) ?_
  · rintro m ⟨a0, w⟩ ⟨hs, h⟩
    dsimp only at hs h
    dsimp only
    rcases h with ⟨i, a, g1, g2, g3, g4, g5, g6, g7, g8⟩ | ⟨g1, g2, g3, g4, g5, g6, g7⟩
    · subst g1
      by_cases ea : a = L
      · refine wpt (by rw [ea]; simp (disch := first | omega | decide) only [↓neg1, nlit, rI, rL, rI2, rL1, nI_add, pk_mul, sbT, dvT, nmd, ixT, ↓ibT, ltT, ltF, leT, leF, eqT, eqF, nM_ltT, nM_ltF, nM_leT, nM_leF, nM_eqF, nM_eqF', nbT0, nbT1, oI_s, oI_n, natF, natT, nltT, nltF, nleT, nleF, ↓reduceIte, lgc, not_true_eq_false, not_false_eq_true, or_false, false_or, or_true, true_or, and_true, true_and, and_false, false_and, ne_eq, eq_self, or_self, and_self]) ⟨hs, Or.inl ?_⟩
        have e1 : psn b L i = L := by
          rw [← g6, ea]
          exact spE_n (fun z => by omega)
        have e2 : i = N := by
          by_cases z : i < N
          · have := (x1 i z).1
            omega
          · omega
        subst e2
        exact ⟨e1, g4, g8, g7⟩
      have hT1 : ∀ j, j < L → b j < 256 ∧ w.1 175 j = nI (b j) := fun j hj => ⟨(hT j hj).1, (hs.1 175 j (decide_eq_false (by omega))).trans (hT j hj).2⟩
      obtain ⟨hb, ht⟩ := hT1 a (by omega)
      refine wpf (by simp (disch := first | omega | decide) only [↓neg1, nlit, rI, rL, rI2, rL1, nI_add, pk_mul, sbT, dvT, nmd, ixT, ↓ibT, ltT, ltF, leT, leF, eqT, eqF, nM_ltT, nM_ltF, nM_leT, nM_leF, nM_eqF, nM_eqF', nbT0, nbT1, oI_s, oI_n, natF, natT, nltT, nltF, nleT, nleF, ↓reduceIte, lgc, not_true_eq_false, not_false_eq_true, or_false, false_or, or_true, true_or, and_true, true_and, and_false, false_and, ne_eq, eq_self, or_self, and_self]) (wpt g4 (wpt (by simp (disch := first | omega | decide) only [↓neg1, nlit, rI, rL, rI2, rL1, nI_add, pk_mul, sbT, dvT, nmd, ixT, ↓ibT, ltT, ltF, leT, leF, eqT, eqF, nM_ltT, nM_ltF, nM_leT, nM_leF, nM_eqF, nM_eqF', nbT0, nbT1, oI_s, oI_n, natF, natT, nltT, nltF, nleT, nleF, ↓reduceIte, lgc, not_true_eq_false, not_false_eq_true, or_false, false_or, or_true, true_or, and_true, true_and, and_false, false_and, ne_eq, eq_self, or_self, and_self]) ?_))
      rw [show w.1 175 (ix (nI a)) = nI (b a) by rw [ix_n (by omega)]; exact ht]
      refine wpl (wpj (wpj ?_))
      have hblank : lxB (b a) = true → wp (some (Sum.inl (nI a + 1, w)) : Option ((Int32 × cS) ⊕ cS)) (Sum.elim (fun s' => ∃ m', m' < m ∧ LRI u b L N m' s') (fun d : cS => sx qRx u d ∧ ((psn b L N = L ∧ d.1 174 13 = nI 0 ∧ RXW d b L N ∧ d.1 174 7 = nI N) ∨ (psn b L N < L ∧ tkO b L (psn b L N) = false ∧ d.1 174 13 = nI 1 ∧ d.1 174 11 = nI 1 ∧ d.1 174 12 = nI (psn b L N) ∧ ∃ i, i ≤ 4000 ∧ d.1 174 7 = nI i)))) := fun z => ⟨L - (a + 1) + 1, by omega, hs, Or.inl ⟨i, a + 1, nI_1 a, by omega, rfl, g4, g5, by rw [← g6]; exact (spE_s (by omega) z).symm, g7, g8⟩⟩
      by_cases e32 : b a = 32
      · exact wpt (by rw [e32]; rfl) (wpl (hblank (by rw [e32]; rfl)))
      refine wpf (fun z => e32 ((nI_eq (by omega) (by decide)).mp (show _ = nI 32 from z))) ?_
      by_cases e10 : b a = 10
      · exact wpt (by rw [e10]; rfl) (wpl (hblank (by rw [e10]; rfl)))
      refine wpf (fun z => e10 ((nI_eq (by omega) (by decide)).mp (show _ = nI 10 from z))) ?_
      have hnb : lxB (b a) = false := lxB_n e32 e10
      have hpa : psn b L i = a := by
        rw [← g6]
        exact spE_n (fun _ => hnb)
      have hia := psn_le i (fun j hj => x1 j (by omega))
      have hiN : tkO b L a = true → i < N := fun z => by
        by_cases e : i = N
        · rw [← e, hpa] at x2
          rcases x2 with x2 | x2
          · omega
          · rw [x2.2] at z
            cases z
        · omega
      have hiE : tkO b L a = false → i = N := fun z => by
        by_cases e : i < N
        · have := (x1 i e).2
          rw [hpa, z] at this
          cases this
        · omega
      -- a good LEXEME
      have hgood : ∀ {e : Nat} {s : Int32} {v : Int64}, tkO b L a = true → e = tkE b L a → s = nI (tkS b L a) → v = tkW b L a → wp (some (Sum.inl (nI e, rlx w i s (nI a) v)) : Option ((Int32 × cS) ⊕ cS)) (Sum.elim (fun s' => ∃ m', m' < m ∧ LRI u b L N m' s') (fun d : cS => sx qRx u d ∧ ((psn b L N = L ∧ d.1 174 13 = nI 0 ∧ RXW d b L N ∧ d.1 174 7 = nI N) ∨ (psn b L N < L ∧ tkO b L (psn b L N) = false ∧ d.1 174 13 = nI 1 ∧ d.1 174 11 = nI 1 ∧ d.1 174 12 = nI (psn b L N) ∧ ∃ i, i ≤ 4000 ∧ d.1 174 7 = nI i)))) := by
        rintro e s v z rfl rfl rfl
        have h1 := tkE_gt (b := b) (L := L) (p := a) (by omega)
        have h2 := tkE_le (by omega) z
        refine ⟨L - tkE b L a + 1, by omega, sx_trans hs rlx_sx, Or.inl ⟨i + 1, tkE b L a, rfl, h2, rfl, ?_, hiN z, ?_, rlx_7, ?_⟩⟩
        · show (rlx w i _ _ _).1 174 13 = _
          rw [rlx_13 (by omega)]
          exact g4
        · show spE lxB b L (tkE b L a) = spE lxB b L (tkE b L (psn b L i))
          rw [hpa]
        · have := rlx_RXW g8
          rw [hpa] at this
          exact this
      -- a wrong one
      have hbad : ∀ {e : Int32} {x : cS}, tkO b L a = false → sx qRx u x → x.1 174 13 = nI 1 → x.1 174 11 = nI 1 → x.1 174 12 = nI a → (∃ j, j ≤ 4000 ∧ x.1 174 7 = nI j) → wp (some (Sum.inl (e, x)) : Option ((Int32 × cS) ⊕ cS)) (Sum.elim (fun s' => ∃ m', m' < m ∧ LRI u b L N m' s') (fun d : cS => sx qRx u d ∧ ((psn b L N = L ∧ d.1 174 13 = nI 0 ∧ RXW d b L N ∧ d.1 174 7 = nI N) ∨ (psn b L N < L ∧ tkO b L (psn b L N) = false ∧ d.1 174 13 = nI 1 ∧ d.1 174 11 = nI 1 ∧ d.1 174 12 = nI (psn b L N) ∧ ∃ i, i ≤ 4000 ∧ d.1 174 7 = nI i)))) := fun z y1 y2 y3 y4 y5 => by
        have hi := hiE z
        refine ⟨0, by omega, y1, Or.inr ⟨rfl, y2, y3, ?_, ?_, ?_, y5⟩⟩
        · rw [← hi, hpa]
          exact y4
        · rw [← hi, hpa]
          omega
        · rw [← hi, hpa]
          exact z
      obtain ⟨f1, f2, f3, f4⟩ := flt_at (u := w) (a := 1) (f := nI a)
      have f7 : (flt w 1 (nI a)).1 174 7 = nI i := (f4 174 7 (by omega)).trans g7
      have hbadL : ∀ {e s : Int32} {v : Int64}, tkO b L a = false → wp (some (Sum.inl (e, rlx (flt w 1 (nI a)) i s (nI a) v)) : Option ((Int32 × cS) ⊕ cS)) (Sum.elim (fun s' => ∃ m', m' < m ∧ LRI u b L N m' s') (fun d : cS => sx qRx u d ∧ ((psn b L N = L ∧ d.1 174 13 = nI 0 ∧ RXW d b L N ∧ d.1 174 7 = nI N) ∨ (psn b L N < L ∧ tkO b L (psn b L N) = false ∧ d.1 174 13 = nI 1 ∧ d.1 174 11 = nI 1 ∧ d.1 174 12 = nI (psn b L N) ∧ ∃ i, i ≤ 4000 ∧ d.1 174 7 = nI i)))) := fun z => hbad z (sx_trans (sx_trans hs flt_sx) rlx_sx) (by rw [rlx_13 (by omega)]; exact f1) (by rw [rlx_13 (by omega)]; exact f2) (by rw [rlx_13 (by omega)]; exact f3) ⟨i + 1, by omega, rlx_7⟩
      refine wpe (e367n hb) ?_
      by_cases hl : lxL (b a) = true
      · -- a NAME or a word
        have hE : tkE b L a = spE lxLD b L a := if_pos hl
        have hO : tkO b L a = decide (spE lxLD b L a - a ≤ 8) := if_pos hl
        have hV : tkV b L a = pkB b a (spE lxLD b L a - a) := if_pos hl
        have hS : tkS b L a = wSd (tkV b L a) := if_pos hl
        have hWt : tkW b L a = wWd (tkV b L a) := if_pos hl
        obtain ⟨s1, s2, s3, s4⟩ := spE_in (q := lxLD) (b := b) (L := L) (p := a) (by omega)
        have hEe := hE
        generalize spE lxLD b L a = e at hE hO hV s1 s2 s3 s4
        refine wpf (by rw [if_pos hl]; decide) ?_
        refine wpc (K' := fun x : Int32 × Int64 => x = (nI e, pkB b a (e - a))) (whl_cnt (fun k (st : Int32 × Int64) => st = (nI (a + k), pkB b a k)) (e - a) ?_ ?_ (by omega) rfl) (fun x hx => ?_)
        · rintro k st hk rfl
          dsimp only
          obtain ⟨hb1, ht1⟩ := hT1 (a + k) (by omega)
          have hq := s3 (a + k) (by omega) (by omega)
          refine wpf (by simp (disch := first | omega | decide) only [↓neg1, nlit, rI, rL, rI2, rL1, nI_add, pk_mul, sbT, dvT, nmd, ixT, ↓ibT, ltT, ltF, leT, leF, eqT, eqF, nM_ltT, nM_ltF, nM_leT, nM_leF, nM_eqF, nM_eqF', nbT0, nbT1, oI_s, oI_n, natF, natT, nltT, nltF, nleT, nleF, ↓reduceIte, lgc, not_true_eq_false, not_false_eq_true, or_false, false_or, or_true, true_or, and_true, true_and, and_false, false_and, ne_eq, eq_self, or_self, and_self]) (wpt (by simp (disch := first | omega | decide) only [↓neg1, nlit, rI, rL, rI2, rL1, nI_add, pk_mul, sbT, dvT, nmd, ixT, ↓ibT, ltT, ltF, leT, leF, eqT, eqF, nM_ltT, nM_ltF, nM_leT, nM_leF, nM_eqF, nM_eqF', nbT0, nbT1, oI_s, oI_n, natF, natT, nltT, nltF, nleT, nleF, ↓reduceIte, lgc, not_true_eq_false, not_false_eq_true, or_false, false_or, or_true, true_or, and_true, true_and, and_false, false_and, ne_eq, eq_self, or_self, and_self]) ?_)
          rw [show w.1 175 (ix (nI (a + k))) = nI (b (a + k)) by rw [ix_n (by omega)]; exact ht1]
          refine wpe (e367n hb1) (wpj ?_)
          have hfin : (Sum.inl (nI (a + k) + 1, (pkB b a k <<< ((8 : Int32).toInt64 &&& 63)) ||| (nI (b (a + k))).toInt64) : (Int32 × Int64) ⊕ (Int32 × Int64)) = Sum.inl (nI (a + (k + 1)), pkB b a (k + 1)) := by
            rw [nI_1]
            rfl
          by_cases h : lxL (b (a + k)) = true
          · refine wpf (by rw [if_pos h]; decide) (wpt (by simp (disch := first | omega | decide) only [↓neg1, nlit, rI, rL, rI2, rL1, nI_add, pk_mul, sbT, dvT, nmd, ixT, ↓ibT, ltT, ltF, leT, leF, eqT, eqF, nM_ltT, nM_ltF, nM_leT, nM_leF, nM_eqF, nM_eqF', nbT0, nbT1, oI_s, oI_n, natF, natT, nltT, nltF, nleT, nleF, ↓reduceIte, lgc, not_true_eq_false, not_false_eq_true, or_false, false_or, or_true, true_or, and_true, true_and, and_false, false_and, ne_eq, eq_self, or_self, and_self]) (wpl (wpl ?_)))
            rw [hfin]
            exact rfl
          · have hd : lxD (b (a + k)) = true := by
              unfold lxLD at hq
              simpa [h] using hq
            refine wpt (by rw [if_neg h]) (wpt (by simp (disch := first | omega | decide) only [↓neg1, nlit, rI, rL, rI2, rL1, nI_add, pk_mul, sbT, dvT, nmd, ixT, ↓ibT, ltT, ltF, leT, leF, eqT, eqF, nM_ltT, nM_ltF, nM_leT, nM_leF, nM_eqF, nM_eqF', nbT0, nbT1, oI_s, oI_n, natF, natT, nltT, nltF, nleT, nleF, ↓reduceIte, lgc, not_true_eq_false, not_false_eq_true, or_false, false_or, or_true, true_or, and_true, true_and, and_false, false_and, ne_eq, eq_self, or_self, and_self]) (wpe (e368n hb1) (wpf (by rw [if_pos hd]; decide) (wpt (by simp (disch := first | omega | decide) only [↓neg1, nlit, rI, rL, rI2, rL1, nI_add, pk_mul, sbT, dvT, nmd, ixT, ↓ibT, ltT, ltF, leT, leF, eqT, eqF, nM_ltT, nM_ltF, nM_leT, nM_leF, nM_eqF, nM_eqF', nbT0, nbT1, oI_s, oI_n, natF, natT, nltT, nltF, nleT, nleF, ↓reduceIte, lgc, not_true_eq_false, not_false_eq_true, or_false, false_or, or_true, true_or, and_true, true_and, and_false, false_and, ne_eq, eq_self, or_self, and_self]) (wpl (wpl ?_))))))
            rw [hfin]
            exact rfl
        · rintro st rfl
          dsimp only
          rw [show a + (e - a) = e by omega]
          by_cases he : e = L
          · exact wpt (by rw [he]; simp (disch := first | omega | decide) only [↓neg1, nlit, rI, rL, rI2, rL1, nI_add, pk_mul, sbT, dvT, nmd, ixT, ↓ibT, ltT, ltF, leT, leF, eqT, eqF, nM_ltT, nM_ltF, nM_leT, nM_leF, nM_eqF, nM_eqF', nbT0, nbT1, oI_s, oI_n, natF, natT, nltT, nltF, nleT, nleF, ↓reduceIte, lgc, not_true_eq_false, not_false_eq_true, or_false, false_or, or_true, true_or, and_true, true_and, and_false, false_and, ne_eq, eq_self, or_self, and_self]) rfl
          · obtain ⟨hb1, ht1⟩ := hT1 e (by omega)
            have hq := s4 (by omega)
            unfold lxLD at hq
            have hq := Bool.or_eq_false_iff.mp hq
            refine wpf (by simp (disch := first | omega | decide) only [↓neg1, nlit, rI, rL, rI2, rL1, nI_add, pk_mul, sbT, dvT, nmd, ixT, ↓ibT, ltT, ltF, leT, leF, eqT, eqF, nM_ltT, nM_ltF, nM_leT, nM_leF, nM_eqF, nM_eqF', nbT0, nbT1, oI_s, oI_n, natF, natT, nltT, nltF, nleT, nleF, ↓reduceIte, lgc, not_true_eq_false, not_false_eq_true, or_false, false_or, or_true, true_or, and_true, true_and, and_false, false_and, ne_eq, eq_self, or_self, and_self]) (wpt (by simp (disch := first | omega | decide) only [↓neg1, nlit, rI, rL, rI2, rL1, nI_add, pk_mul, sbT, dvT, nmd, ixT, ↓ibT, ltT, ltF, leT, leF, eqT, eqF, nM_ltT, nM_ltF, nM_leT, nM_leF, nM_eqF, nM_eqF', nbT0, nbT1, oI_s, oI_n, natF, natT, nltT, nltF, nleT, nleF, ↓reduceIte, lgc, not_true_eq_false, not_false_eq_true, or_false, false_or, or_true, true_or, and_true, true_and, and_false, false_and, ne_eq, eq_self, or_self, and_self]) ?_)
            rw [show w.1 175 (ix (nI e)) = nI (b e) by rw [ix_n (by omega)]; exact ht1]
            exact wpe (e367n hb1) (wpj (wpt (by rw [hq.1]; rfl) (wpt (by simp (disch := first | omega | decide) only [↓neg1, nlit, rI, rL, rI2, rL1, nI_add, pk_mul, sbT, dvT, nmd, ixT, ↓ibT, ltT, ltF, leT, leF, eqT, eqF, nM_ltT, nM_ltF, nM_leT, nM_leF, nM_eqF, nM_eqF', nbT0, nbT1, oI_s, oI_n, natF, natT, nltT, nltF, nleT, nleF, ↓reduceIte, lgc, not_true_eq_false, not_false_eq_true, or_false, false_or, or_true, true_or, and_true, true_and, and_false, false_and, ne_eq, eq_self, or_self, and_self]) (wpe (e368n hb1) (wpt (by rw [hq.2]; rfl) rfl)))))
        · subst hx
          dsimp only
          rw [subN (by omega) (by omega)]
          refine wpj ?_
          by_cases h8 : e - a ≤ 8
          · have ho : tkO b L a = true := by rw [hO]; exact decide_eq_true h8
            refine wpt (by simp (disch := first | omega | decide) only [↓neg1, nlit, rI, rL, rI2, rL1, nI_add, pk_mul, sbT, dvT, nmd, ixT, ↓ibT, ltT, ltF, leT, leF, eqT, eqF, nM_ltT, nM_ltF, nM_leT, nM_leF, nM_eqF, nM_eqF', nbT0, nbT1, oI_s, oI_n, natF, natT, nltT, nltF, nleT, nleF, ↓reduceIte, lgc, not_true_eq_false, not_false_eq_true, or_false, false_or, or_true, true_or, and_true, true_and, and_false, false_and, ne_eq, eq_self, or_self, and_self]) (wpj (wpt (by simp (disch := first | omega | decide) only [↓neg1, nlit, rI, rL, rI2, rL1, nI_add, pk_mul, sbT, dvT, nmd, ixT, ↓ibT, ltT, ltF, leT, leF, eqT, eqF, nM_ltT, nM_ltF, nM_leT, nM_leF, nM_eqF, nM_eqF', nbT0, nbT1, oI_s, oI_n, natF, natT, nltT, nltF, nleT, nleF, ↓reduceIte, lgc, not_true_eq_false, not_false_eq_true, or_false, false_or, or_true, true_or, and_true, true_and, and_false, false_and, ne_eq, eq_self, or_self, and_self]) (wpe (e371 (by omega)) (wpj ?_))))
            rw [← hV]
            cases hw : wOf (tkV b L a) with
            | none =>
              rw [(wd_n hw).2.1] at hS
              rw [(wd_n hw).2.2] at hWt
              exact wpt (by decide) (wpe (e98 g7 (by omega)) (hgood ho hE.symm (by rw [hS]; rfl) hWt.symm))
            | some ww =>
              rw [(wd_s hw).2.1] at hS
              rw [(wd_s hw).2.2] at hWt
              have hww := (ff_some hw).1
              exact wpf (by rw [oI_s]; simp (disch := first | omega | decide) only [↓neg1, nlit, rI, rL, rI2, rL1, nI_add, pk_mul, sbT, dvT, nmd, ixT, ↓ibT, ltT, ltF, leT, leF, eqT, eqF, nM_ltT, nM_ltF, nM_leT, nM_leF, nM_eqF, nM_eqF', nbT0, nbT1, oI_s, oI_n, natF, natT, nltT, nltF, nleT, nleF, ↓reduceIte, lgc, not_true_eq_false, not_false_eq_true, or_false, false_or, or_true, true_or, and_true, true_and, and_false, false_and, ne_eq, eq_self, or_self, and_self]) (wpe (e98 g7 (by omega)) (hgood ho hE.symm (by rw [hS]; rfl) hWt.symm))
          · have ho : tkO b L a = false := by rw [hO]; exact decide_eq_false h8
            refine wpf (by simp (disch := first | omega | decide) only [↓neg1, nlit, rI, rL, rI2, rL1, nI_add, pk_mul, sbT, dvT, nmd, ixT, ↓ibT, ltT, ltF, leT, leF, eqT, eqF, nM_ltT, nM_ltF, nM_leT, nM_leF, nM_eqF, nM_eqF', nbT0, nbT1, oI_s, oI_n, natF, natT, nltT, nltF, nleT, nleF, ↓reduceIte, lgc, not_true_eq_false, not_false_eq_true, or_false, false_or, or_true, true_or, and_true, true_and, and_false, false_and, ne_eq, eq_self, or_self, and_self]) (wpe (e97 g4) (wpj (wpf (by simp (disch := first | omega | decide) only [↓neg1, nlit, rI, rL, rI2, rL1, nI_add, pk_mul, sbT, dvT, nmd, ixT, ↓ibT, ltT, ltF, leT, leF, eqT, eqF, nM_ltT, nM_ltF, nM_leT, nM_leF, nM_eqF, nM_eqF', nbT0, nbT1, oI_s, oI_n, natF, natT, nltT, nltF, nleT, nleF, ↓reduceIte, lgc, not_true_eq_false, not_false_eq_true, or_false, false_or, or_true, true_or, and_true, true_and, and_false, false_and, ne_eq, eq_self, or_self, and_self]) (wpj (wpt (by decide) (wpe (e98 f7 (by omega)) (hbadL ho)))))))
      · refine wpt (by rw [if_neg hl]) (wpe (e368n hb) ?_)
        by_cases hd : lxD (b a) = true
        · -- a number
          have hE : tkE b L a = spE lxD b L a := by unfold tkE; rw [if_neg hl, if_pos hd]
          have hO : tkO b L a = decide (spE lxD b L a - a ≤ 9) := by unfold tkO; rw [if_neg hl, if_pos hd]
          have hV : tkV b L a = nmB b a (spE lxD b L a - a) := by unfold tkV; rw [if_neg hl, if_pos hd]
          have hS : tkS b L a = 1 := by unfold tkS; rw [if_neg hl, if_pos hd]
          have hWt : tkW b L a = tkV b L a := by unfold tkW; rw [if_neg hl, if_pos hd]
          obtain ⟨s1, s2, s3, s4⟩ := spE_in (q := lxD) (b := b) (L := L) (p := a) (by omega)
          generalize spE lxD b L a = e at hE hO hV s1 s2 s3 s4
          refine wpf (by rw [if_pos hd]; decide) ?_
          refine wpc (K' := fun x : Int32 × Int64 => x.1 = nI e ∧ (e - a ≤ 9 → x.2 = nmB b a (e - a))) (whl_cnt (fun k (st : Int32 × Int64) => st.1 = nI (a + k) ∧ (k ≤ 9 → st.2 = nmB b a k)) (e - a) ?_ ?_ (by omega) ⟨rfl, fun _ => rfl⟩) (fun x hx => ?_)
          · rintro k ⟨st, sv⟩ hk ⟨y1, y2⟩
            dsimp only at y1 y2
            subst y1
            dsimp only
            obtain ⟨hb1, ht1⟩ := hT1 (a + k) (by omega)
            have hq := s3 (a + k) (by omega) (by omega)
            refine wpf (by simp (disch := first | omega | decide) only [↓neg1, nlit, rI, rL, rI2, rL1, nI_add, pk_mul, sbT, dvT, nmd, ixT, ↓ibT, ltT, ltF, leT, leF, eqT, eqF, nM_ltT, nM_ltF, nM_leT, nM_leF, nM_eqF, nM_eqF', nbT0, nbT1, oI_s, oI_n, natF, natT, nltT, nltF, nleT, nleF, ↓reduceIte, lgc, not_true_eq_false, not_false_eq_true, or_false, false_or, or_true, true_or, and_true, true_and, and_false, false_and, ne_eq, eq_self, or_self, and_self]) (wpt (by simp (disch := first | omega | decide) only [↓neg1, nlit, rI, rL, rI2, rL1, nI_add, pk_mul, sbT, dvT, nmd, ixT, ↓ibT, ltT, ltF, leT, leF, eqT, eqF, nM_ltT, nM_ltF, nM_leT, nM_leF, nM_eqF, nM_eqF', nbT0, nbT1, oI_s, oI_n, natF, natT, nltT, nltF, nleT, nleF, ↓reduceIte, lgc, not_true_eq_false, not_false_eq_true, or_false, false_or, or_true, true_or, and_true, true_and, and_false, false_and, ne_eq, eq_self, or_self, and_self]) ?_)
            rw [show w.1 175 (ix (nI (a + k))) = nI (b (a + k)) by rw [ix_n (by omega)]; exact ht1]
            refine wpe (e368n hb1) (wpf (by rw [if_pos hq]; decide) (wpj ?_))
            rw [subN (by omega) (by omega), show a + k - a = k by omega]
            by_cases h9 : 9 ≤ k
            · refine wpt (by simp (disch := first | omega | decide) only [↓neg1, nlit, rI, rL, rI2, rL1, nI_add, pk_mul, sbT, dvT, nmd, ixT, ↓ibT, ltT, ltF, leT, leF, eqT, eqF, nM_ltT, nM_ltF, nM_leT, nM_leF, nM_eqF, nM_eqF', nbT0, nbT1, oI_s, oI_n, natF, natT, nltT, nltF, nleT, nleF, ↓reduceIte, lgc, not_true_eq_false, not_false_eq_true, or_false, false_or, or_true, true_or, and_true, true_and, and_false, false_and, ne_eq, eq_self, or_self, and_self]) (wpl ⟨nI_1 _, fun z => by omega⟩)
            · refine wpf (by simp (disch := first | omega | decide) only [↓neg1, nlit, rI, rL, rI2, rL1, nI_add, pk_mul, sbT, dvT, nmd, ixT, ↓ibT, ltT, ltF, leT, leF, eqT, eqF, nM_ltT, nM_ltF, nM_leT, nM_leF, nM_eqF, nM_eqF', nbT0, nbT1, oI_s, oI_n, natF, natT, nltT, nltF, nleT, nleF, ↓reduceIte, lgc, not_true_eq_false, not_false_eq_true, or_false, false_or, or_true, true_or, and_true, true_and, and_false, false_and, ne_eq, eq_self, or_self, and_self]) (wpt (by simp (disch := first | omega | decide) only [↓neg1, nlit, rI, rL, rI2, rL1, nI_add, pk_mul, sbT, dvT, nmd, ixT, ↓ibT, ltT, ltF, leT, leF, eqT, eqF, nM_ltT, nM_ltF, nM_leT, nM_leF, nM_eqF, nM_eqF', nbT0, nbT1, oI_s, oI_n, natF, natT, nltT, nltF, nleT, nleF, ↓reduceIte, lgc, not_true_eq_false, not_false_eq_true, or_false, false_or, or_true, true_or, and_true, true_and, and_false, false_and, ne_eq, eq_self, or_self, and_self]) (wpl ⟨nI_1 _, fun z => ?_⟩))
              rw [y2 (by omega)]
              show (10 * nmB b a k + (nI (b (a + k))).toInt64) - 48 = (nmB b a k * 10 + (nI (b (a + k))).toInt64) - 48
              rw [Int64.mul_comm]
          · rintro ⟨st, sv⟩ ⟨y1, y2⟩
            dsimp only at y1 y2
            subst y1
            dsimp only
            rw [show a + (e - a) = e by omega]
            by_cases he : e = L
            · exact wpt (by rw [he]; simp (disch := first | omega | decide) only [↓neg1, nlit, rI, rL, rI2, rL1, nI_add, pk_mul, sbT, dvT, nmd, ixT, ↓ibT, ltT, ltF, leT, leF, eqT, eqF, nM_ltT, nM_ltF, nM_leT, nM_leF, nM_eqF, nM_eqF', nbT0, nbT1, oI_s, oI_n, natF, natT, nltT, nltF, nleT, nleF, ↓reduceIte, lgc, not_true_eq_false, not_false_eq_true, or_false, false_or, or_true, true_or, and_true, true_and, and_false, false_and, ne_eq, eq_self, or_self, and_self]) ⟨rfl, y2⟩
            · obtain ⟨hb1, ht1⟩ := hT1 e (by omega)
              have hq := s4 (by omega)
              refine wpf (by simp (disch := first | omega | decide) only [↓neg1, nlit, rI, rL, rI2, rL1, nI_add, pk_mul, sbT, dvT, nmd, ixT, ↓ibT, ltT, ltF, leT, leF, eqT, eqF, nM_ltT, nM_ltF, nM_leT, nM_leF, nM_eqF, nM_eqF', nbT0, nbT1, oI_s, oI_n, natF, natT, nltT, nltF, nleT, nleF, ↓reduceIte, lgc, not_true_eq_false, not_false_eq_true, or_false, false_or, or_true, true_or, and_true, true_and, and_false, false_and, ne_eq, eq_self, or_self, and_self]) (wpt (by simp (disch := first | omega | decide) only [↓neg1, nlit, rI, rL, rI2, rL1, nI_add, pk_mul, sbT, dvT, nmd, ixT, ↓ibT, ltT, ltF, leT, leF, eqT, eqF, nM_ltT, nM_ltF, nM_leT, nM_leF, nM_eqF, nM_eqF', nbT0, nbT1, oI_s, oI_n, natF, natT, nltT, nltF, nleT, nleF, ↓reduceIte, lgc, not_true_eq_false, not_false_eq_true, or_false, false_or, or_true, true_or, and_true, true_and, and_false, false_and, ne_eq, eq_self, or_self, and_self]) ?_)
              rw [show w.1 175 (ix (nI e)) = nI (b e) by rw [ix_n (by omega)]; exact ht1]
              exact wpe (e368n hb1) (wpt (by rw [hq]; rfl) ⟨rfl, y2⟩)
          · obtain ⟨x, xv⟩ := x
            obtain ⟨y1, y2⟩ := hx
            dsimp only at y1 y2
            subst y1
            dsimp only
            rw [subN (by omega) (by omega)]
            refine wpj ?_
            by_cases h8 : e - a ≤ 9
            · have ho : tkO b L a = true := by rw [hO]; exact decide_eq_true h8
              exact wpt (by simp (disch := first | omega | decide) only [↓neg1, nlit, rI, rL, rI2, rL1, nI_add, pk_mul, sbT, dvT, nmd, ixT, ↓ibT, ltT, ltF, leT, leF, eqT, eqF, nM_ltT, nM_ltF, nM_leT, nM_leF, nM_eqF, nM_eqF', nbT0, nbT1, oI_s, oI_n, natF, natT, nltT, nltF, nleT, nleF, ↓reduceIte, lgc, not_true_eq_false, not_false_eq_true, or_false, false_or, or_true, true_or, and_true, true_and, and_false, false_and, ne_eq, eq_self, or_self, and_self]) (wpe (e98 g7 (by omega)) (hgood ho hE.symm (by rw [hS]; rfl) (by rw [hWt, hV, y2 h8])))
            · have ho : tkO b L a = false := by rw [hO]; exact decide_eq_false h8
              exact wpf (by simp (disch := first | omega | decide) only [↓neg1, nlit, rI, rL, rI2, rL1, nI_add, pk_mul, sbT, dvT, nmd, ixT, ↓ibT, ltT, ltF, leT, leF, eqT, eqF, nM_ltT, nM_ltF, nM_leT, nM_leF, nM_eqF, nM_eqF', nbT0, nbT1, oI_s, oI_n, natF, natT, nltT, nltF, nleT, nleF, ↓reduceIte, lgc, not_true_eq_false, not_false_eq_true, or_false, false_or, or_true, true_or, and_true, true_and, and_false, false_and, ne_eq, eq_self, or_self, and_self]) (wpe (e97 g4) (wpe (e98 f7 (by omega)) (hbadL ho)))
        · refine wpt (by rw [if_neg hd]) ?_
          by_cases h39 : b a = 39
          · -- a text
            have hE : tkE b L a = spE lxT b L (a + 1) + 1 := by unfold tkE; rw [if_neg hl, if_neg hd, if_pos h39]
            have hO : tkO b L a = decide (spE lxT b L (a + 1) < L ∧ b (spE lxT b L (a + 1)) = 39 ∧ spE lxT b L (a + 1) - (a + 1) ≤ 8) := by unfold tkO; rw [if_neg hl, if_neg hd, if_pos h39]
            have hV : tkV b L a = pkB b (a + 1) (spE lxT b L (a + 1) - (a + 1)) := by unfold tkV; rw [if_neg hl, if_neg hd]
            have hS : tkS b L a = 2 := by unfold tkS; rw [if_neg hl, if_neg hd, if_pos h39]
            have hWt : tkW b L a = tkV b L a := by unfold tkW; rw [if_neg hl, if_neg hd, if_pos h39]
            obtain ⟨s1, s2, s3, s4⟩ := spE_in (q := lxT) (b := b) (L := L) (p := a + 1) (by omega)
            generalize spE lxT b L (a + 1) = e at hE hO hV s1 s2 s3 s4
            refine wpt (by rw [h39]; rfl) ?_
            rw [nI_1]
            refine wpl ?_
            have hmn : min (e - (a + 1)) 8 ≤ 8 ∧ min (e - (a + 1)) 8 ≤ e - (a + 1) := ⟨Nat.min_le_right _ _, Nat.min_le_left _ _⟩
            refine wpc (K' := fun x : Int32 × Int64 => x = (nI (a + 1 + min (e - (a + 1)) 8), pkB b (a + 1) (min (e - (a + 1)) 8))) (whl_cnt (fun k (st : Int32 × Int64) => st = (nI (a + 1 + k), pkB b (a + 1) k)) (min (e - (a + 1)) 8) ?_ ?_ (by omega) rfl) (fun x hx => ?_)
            · rintro k st hk rfl
              dsimp only
              obtain ⟨hb1, ht1⟩ := hT1 (a + 1 + k) (by omega)
              have hq := s3 (a + 1 + k) (by omega) (by omega)
              have hq' := lxT_3 hq
              rw [subN (by omega) (by omega)]
              refine wpf (by simp (disch := first | omega | decide) only [↓neg1, nlit, rI, rL, rI2, rL1, nI_add, pk_mul, sbT, dvT, nmd, ixT, ↓ibT, ltT, ltF, leT, leF, eqT, eqF, nM_ltT, nM_ltF, nM_leT, nM_leF, nM_eqF, nM_eqF', nbT0, nbT1, oI_s, oI_n, natF, natT, nltT, nltF, nleT, nleF, ↓reduceIte, lgc, not_true_eq_false, not_false_eq_true, or_false, false_or, or_true, true_or, and_true, true_and, and_false, false_and, ne_eq, eq_self, or_self, and_self]) (wpf (by simp (disch := first | omega | decide) only [↓neg1, nlit, rI, rL, rI2, rL1, nI_add, pk_mul, sbT, dvT, nmd, ixT, ↓ibT, ltT, ltF, leT, leF, eqT, eqF, nM_ltT, nM_ltF, nM_leT, nM_leF, nM_eqF, nM_eqF', nbT0, nbT1, oI_s, oI_n, natF, natT, nltT, nltF, nleT, nleF, ↓reduceIte, lgc, not_true_eq_false, not_false_eq_true, or_false, false_or, or_true, true_or, and_true, true_and, and_false, false_and, ne_eq, eq_self, or_self, and_self]) (wpt (by simp (disch := first | omega | decide) only [↓neg1, nlit, rI, rL, rI2, rL1, nI_add, pk_mul, sbT, dvT, nmd, ixT, ↓ibT, ltT, ltF, leT, leF, eqT, eqF, nM_ltT, nM_ltF, nM_leT, nM_leF, nM_eqF, nM_eqF', nbT0, nbT1, oI_s, oI_n, natF, natT, nltT, nltF, nleT, nleF, ↓reduceIte, lgc, not_true_eq_false, not_false_eq_true, or_false, false_or, or_true, true_or, and_true, true_and, and_false, false_and, ne_eq, eq_self, or_self, and_self]) ?_))
              rw [show w.1 175 (ix (nI (a + 1 + k))) = nI (b (a + 1 + k)) by rw [ix_n (by omega)]; exact ht1]
              refine wpf (by simp (disch := first | omega | decide) only [↓neg1, nlit, rI, rL, rI2, rL1, nI_add, pk_mul, sbT, dvT, nmd, ixT, ↓ibT, ltT, ltF, leT, leF, eqT, eqF, nM_ltT, nM_ltF, nM_leT, nM_leF, nM_eqF, nM_eqF', nbT0, nbT1, oI_s, oI_n, natF, natT, nltT, nltF, nleT, nleF, ↓reduceIte, lgc, not_true_eq_false, not_false_eq_true, or_false, false_or, or_true, true_or, and_true, true_and, and_false, false_and, ne_eq, eq_self, or_self, and_self]) (wpt (by simp (disch := first | omega | decide) only [↓neg1, nlit, rI, rL, rI2, rL1, nI_add, pk_mul, sbT, dvT, nmd, ixT, ↓ibT, ltT, ltF, leT, leF, eqT, eqF, nM_ltT, nM_ltF, nM_leT, nM_leF, nM_eqF, nM_eqF', nbT0, nbT1, oI_s, oI_n, natF, natT, nltT, nltF, nleT, nleF, ↓reduceIte, lgc, not_true_eq_false, not_false_eq_true, or_false, false_or, or_true, true_or, and_true, true_and, and_false, false_and, ne_eq, eq_self, or_self, and_self]) (wpf (by simp (disch := first | omega | decide) only [↓neg1, nlit, rI, rL, rI2, rL1, nI_add, pk_mul, sbT, dvT, nmd, ixT, ↓ibT, ltT, ltF, leT, leF, eqT, eqF, nM_ltT, nM_ltF, nM_leT, nM_leF, nM_eqF, nM_eqF', nbT0, nbT1, oI_s, oI_n, natF, natT, nltT, nltF, nleT, nleF, ↓reduceIte, lgc, not_true_eq_false, not_false_eq_true, or_false, false_or, or_true, true_or, and_true, true_and, and_false, false_and, ne_eq, eq_self, or_self, and_self]) (wpt (by simp (disch := first | omega | decide) only [↓neg1, nlit, rI, rL, rI2, rL1, nI_add, pk_mul, sbT, dvT, nmd, ixT, ↓ibT, ltT, ltF, leT, leF, eqT, eqF, nM_ltT, nM_ltF, nM_leT, nM_leF, nM_eqF, nM_eqF', nbT0, nbT1, oI_s, oI_n, natF, natT, nltT, nltF, nleT, nleF, ↓reduceIte, lgc, not_true_eq_false, not_false_eq_true, or_false, false_or, or_true, true_or, and_true, true_and, and_false, false_and, ne_eq, eq_self, or_self, and_self]) (wpf (by simp (disch := first | omega | decide) only [↓neg1, nlit, rI, rL, rI2, rL1, nI_add, pk_mul, sbT, dvT, nmd, ixT, ↓ibT, ltT, ltF, leT, leF, eqT, eqF, nM_ltT, nM_ltF, nM_leT, nM_leF, nM_eqF, nM_eqF', nbT0, nbT1, oI_s, oI_n, natF, natT, nltT, nltF, nleT, nleF, ↓reduceIte, lgc, not_true_eq_false, not_false_eq_true, or_false, false_or, or_true, true_or, and_true, true_and, and_false, false_and, ne_eq, eq_self, or_self, and_self]) (wpt (by simp (disch := first | omega | decide) only [↓neg1, nlit, rI, rL, rI2, rL1, nI_add, pk_mul, sbT, dvT, nmd, ixT, ↓ibT, ltT, ltF, leT, leF, eqT, eqF, nM_ltT, nM_ltF, nM_leT, nM_leF, nM_eqF, nM_eqF', nbT0, nbT1, oI_s, oI_n, natF, natT, nltT, nltF, nleT, nleF, ↓reduceIte, lgc, not_true_eq_false, not_false_eq_true, or_false, false_or, or_true, true_or, and_true, true_and, and_false, false_and, ne_eq, eq_self, or_self, and_self]) (wpl (wpl ?_)))))))
              rw [nI_1]
              exact rfl
            · rintro st rfl
              dsimp only
              by_cases he : a + 1 + min (e - (a + 1)) 8 = L
              · rw [he]
                exact wpt (by simp (disch := first | omega | decide) only [↓neg1, nlit, rI, rL, rI2, rL1, nI_add, pk_mul, sbT, dvT, nmd, ixT, ↓ibT, ltT, ltF, leT, leF, eqT, eqF, nM_ltT, nM_ltF, nM_leT, nM_leF, nM_eqF, nM_eqF', nbT0, nbT1, oI_s, oI_n, natF, natT, nltT, nltF, nleT, nleF, ↓reduceIte, lgc, not_true_eq_false, not_false_eq_true, or_false, false_or, or_true, true_or, and_true, true_and, and_false, false_and, ne_eq, eq_self, or_self, and_self]) rfl
              · rw [subN (by omega) (by omega)]
                refine wpf (by simp (disch := first | omega | decide) only [↓neg1, nlit, rI, rL, rI2, rL1, nI_add, pk_mul, sbT, dvT, nmd, ixT, ↓ibT, ltT, ltF, leT, leF, eqT, eqF, nM_ltT, nM_ltF, nM_leT, nM_leF, nM_eqF, nM_eqF', nbT0, nbT1, oI_s, oI_n, natF, natT, nltT, nltF, nleT, nleF, ↓reduceIte, lgc, not_true_eq_false, not_false_eq_true, or_false, false_or, or_true, true_or, and_true, true_and, and_false, false_and, ne_eq, eq_self, or_self, and_self]) ?_
                by_cases h8 : 8 ≤ e - (a + 1)
                · rw [Nat.min_eq_right h8]
                  exact wpt (by simp (disch := first | omega | decide) only [↓neg1, nlit, rI, rL, rI2, rL1, nI_add, pk_mul, sbT, dvT, nmd, ixT, ↓ibT, ltT, ltF, leT, leF, eqT, eqF, nM_ltT, nM_ltF, nM_leT, nM_leF, nM_eqF, nM_eqF', nbT0, nbT1, oI_s, oI_n, natF, natT, nltT, nltF, nleT, nleF, ↓reduceIte, lgc, not_true_eq_false, not_false_eq_true, or_false, false_or, or_true, true_or, and_true, true_and, and_false, false_and, ne_eq, eq_self, or_self, and_self]) rfl
                · rw [Nat.min_eq_left (by omega)] at he ⊢
                  obtain ⟨hb1, ht1⟩ := hT1 (a + 1 + (e - (a + 1))) (by omega)
                  have hq := s4 (by omega)
                  rw [show e = a + 1 + (e - (a + 1)) by omega] at hq
                  generalize hz : a + 1 + (e - (a + 1)) = z at *
                  refine wpf (by simp (disch := first | omega | decide) only [↓neg1, nlit, rI, rL, rI2, rL1, nI_add, pk_mul, sbT, dvT, nmd, ixT, ↓ibT, ltT, ltF, leT, leF, eqT, eqF, nM_ltT, nM_ltF, nM_leT, nM_leF, nM_eqF, nM_eqF', nbT0, nbT1, oI_s, oI_n, natF, natT, nltT, nltF, nleT, nleF, ↓reduceIte, lgc, not_true_eq_false, not_false_eq_true, or_false, false_or, or_true, true_or, and_true, true_and, and_false, false_and, ne_eq, eq_self, or_self, and_self]) (wpt (by simp (disch := first | omega | decide) only [↓neg1, nlit, rI, rL, rI2, rL1, nI_add, pk_mul, sbT, dvT, nmd, ixT, ↓ibT, ltT, ltF, leT, leF, eqT, eqF, nM_ltT, nM_ltF, nM_leT, nM_leF, nM_eqF, nM_eqF', nbT0, nbT1, oI_s, oI_n, natF, natT, nltT, nltF, nleT, nleF, ↓reduceIte, lgc, not_true_eq_false, not_false_eq_true, or_false, false_or, or_true, true_or, and_true, true_and, and_false, false_and, ne_eq, eq_self, or_self, and_self]) ?_)
                  rw [show w.1 175 (ix (nI z)) = nI (b z) by rw [ix_n (by omega)]; exact ht1]
                  have hq' := lxT_n hq
                  by_cases y1 : b z < 32
                  · exact wpt (by simp (disch := first | omega | decide) only [↓neg1, nlit, rI, rL, rI2, rL1, nI_add, pk_mul, sbT, dvT, nmd, ixT, ↓ibT, ltT, ltF, leT, leF, eqT, eqF, nM_ltT, nM_ltF, nM_leT, nM_leF, nM_eqF, nM_eqF', nbT0, nbT1, oI_s, oI_n, natF, natT, nltT, nltF, nleT, nleF, ↓reduceIte, lgc, not_true_eq_false, not_false_eq_true, or_false, false_or, or_true, true_or, and_true, true_and, and_false, false_and, ne_eq, eq_self, or_self, and_self]) rfl
                  · refine wpf (by simp (disch := first | omega | decide) only [↓neg1, nlit, rI, rL, rI2, rL1, nI_add, pk_mul, sbT, dvT, nmd, ixT, ↓ibT, ltT, ltF, leT, leF, eqT, eqF, nM_ltT, nM_ltF, nM_leT, nM_leF, nM_eqF, nM_eqF', nbT0, nbT1, oI_s, oI_n, natF, natT, nltT, nltF, nleT, nleF, ↓reduceIte, lgc, not_true_eq_false, not_false_eq_true, or_false, false_or, or_true, true_or, and_true, true_and, and_false, false_and, ne_eq, eq_self, or_self, and_self]) (wpt (by simp (disch := first | omega | decide) only [↓neg1, nlit, rI, rL, rI2, rL1, nI_add, pk_mul, sbT, dvT, nmd, ixT, ↓ibT, ltT, ltF, leT, leF, eqT, eqF, nM_ltT, nM_ltF, nM_leT, nM_leF, nM_eqF, nM_eqF', nbT0, nbT1, oI_s, oI_n, natF, natT, nltT, nltF, nleT, nleF, ↓reduceIte, lgc, not_true_eq_false, not_false_eq_true, or_false, false_or, or_true, true_or, and_true, true_and, and_false, false_and, ne_eq, eq_self, or_self, and_self]) ?_)
                    by_cases y2 : 126 < b z
                    · exact wpt (by simp (disch := first | omega | decide) only [↓neg1, nlit, rI, rL, rI2, rL1, nI_add, pk_mul, sbT, dvT, nmd, ixT, ↓ibT, ltT, ltF, leT, leF, eqT, eqF, nM_ltT, nM_ltF, nM_leT, nM_leF, nM_eqF, nM_eqF', nbT0, nbT1, oI_s, oI_n, natF, natT, nltT, nltF, nleT, nleF, ↓reduceIte, lgc, not_true_eq_false, not_false_eq_true, or_false, false_or, or_true, true_or, and_true, true_and, and_false, false_and, ne_eq, eq_self, or_self, and_self]) rfl
                    · exact wpf (by simp (disch := first | omega | decide) only [↓neg1, nlit, rI, rL, rI2, rL1, nI_add, pk_mul, sbT, dvT, nmd, ixT, ↓ibT, ltT, ltF, leT, leF, eqT, eqF, nM_ltT, nM_ltF, nM_leT, nM_leF, nM_eqF, nM_eqF', nbT0, nbT1, oI_s, oI_n, natF, natT, nltT, nltF, nleT, nleF, ↓reduceIte, lgc, not_true_eq_false, not_false_eq_true, or_false, false_or, or_true, true_or, and_true, true_and, and_false, false_and, ne_eq, eq_self, or_self, and_self]) (wpt (by simp (disch := first | omega | decide) only [↓neg1, nlit, rI, rL, rI2, rL1, nI_add, pk_mul, sbT, dvT, nmd, ixT, ↓ibT, ltT, ltF, leT, leF, eqT, eqF, nM_ltT, nM_ltF, nM_leT, nM_leF, nM_eqF, nM_eqF', nbT0, nbT1, oI_s, oI_n, natF, natT, nltT, nltF, nleT, nleF, ↓reduceIte, lgc, not_true_eq_false, not_false_eq_true, or_false, false_or, or_true, true_or, and_true, true_and, and_false, false_and, ne_eq, eq_self, or_self, and_self]) (wpt (by simp (disch := first | omega | decide) only [↓neg1, nlit, rI, rL, rI2, rL1, nI_add, pk_mul, sbT, dvT, nmd, ixT, ↓ibT, ltT, ltF, leT, leF, eqT, eqF, nM_ltT, nM_ltF, nM_leT, nM_leF, nM_eqF, nM_eqF', nbT0, nbT1, oI_s, oI_n, natF, natT, nltT, nltF, nleT, nleF, ↓reduceIte, lgc, not_true_eq_false, not_false_eq_true, or_false, false_or, or_true, true_or, and_true, true_and, and_false, false_and, ne_eq, eq_self, or_self, and_self]) rfl))
            · subst hx
              dsimp only
              refine wpjQ (fun x : cS => (tkO b L a = true ∧ x = w) ∨ (tkO b L a = false ∧ x = flt w 1 (nI a))) ?_ ?_
              · rintro x hx
                rw [nI_1]
                refine wpl ?_
                rcases hx with ⟨ho, rfl⟩ | ⟨ho, rfl⟩
                · have ho' := of_decide_eq_true (hO.symm.trans ho)
                  rw [Nat.min_eq_left ho'.2.2, show a + 1 + (e - (a + 1)) = e by omega]
                  exact wpe (e98 g7 (by omega)) (hgood ho hE.symm (by rw [hS]; rfl) (by rw [hWt, hV]))
                · exact wpe (e98 f7 (by omega)) (hbadL ho)
              · intro Q' k' hk'
                have hno : ¬ (e < L ∧ b e = 39 ∧ e - (a + 1) ≤ 8) → wp (Option.bind (d_97 n 1 (nI a) w) (fun r45 => k' r45)) Q' := fun h => wpe (e97 g4) (hk' _ (Or.inr ⟨by rw [hO]; exact decide_eq_false h, rfl⟩))
                refine wpj ?_
                by_cases he : a + 1 + min (e - (a + 1)) 8 = L
                · rw [he]
                  exact wpt (by simp (disch := first | omega | decide) only [↓neg1, nlit, rI, rL, rI2, rL1, nI_add, pk_mul, sbT, dvT, nmd, ixT, ↓ibT, ltT, ltF, leT, leF, eqT, eqF, nM_ltT, nM_ltF, nM_leT, nM_leF, nM_eqF, nM_eqF', nbT0, nbT1, oI_s, oI_n, natF, natT, nltT, nltF, nleT, nleF, ↓reduceIte, lgc, not_true_eq_false, not_false_eq_true, or_false, false_or, or_true, true_or, and_true, true_and, and_false, false_and, ne_eq, eq_self, or_self, and_self]) (hno (by omega))
                · obtain ⟨hb1, ht1⟩ := hT1 (a + 1 + min (e - (a + 1)) 8) (by omega)
                  refine wpf (by simp (disch := first | omega | decide) only [↓neg1, nlit, rI, rL, rI2, rL1, nI_add, pk_mul, sbT, dvT, nmd, ixT, ↓ibT, ltT, ltF, leT, leF, eqT, eqF, nM_ltT, nM_ltF, nM_leT, nM_leF, nM_eqF, nM_eqF', nbT0, nbT1, oI_s, oI_n, natF, natT, nltT, nltF, nleT, nleF, ↓reduceIte, lgc, not_true_eq_false, not_false_eq_true, or_false, false_or, or_true, true_or, and_true, true_and, and_false, false_and, ne_eq, eq_self, or_self, and_self]) (wpt (by simp (disch := first | omega | decide) only [↓neg1, nlit, rI, rL, rI2, rL1, nI_add, pk_mul, sbT, dvT, nmd, ixT, ↓ibT, ltT, ltF, leT, leF, eqT, eqF, nM_ltT, nM_ltF, nM_leT, nM_leF, nM_eqF, nM_eqF', nbT0, nbT1, oI_s, oI_n, natF, natT, nltT, nltF, nleT, nleF, ↓reduceIte, lgc, not_true_eq_false, not_false_eq_true, or_false, false_or, or_true, true_or, and_true, true_and, and_false, false_and, ne_eq, eq_self, or_self, and_self]) ?_)
                  rw [show w.1 175 (ix (nI (a + 1 + min (e - (a + 1)) 8))) = nI (b (a + 1 + min (e - (a + 1)) 8)) by rw [ix_n (by omega)]; exact ht1]
                  by_cases h8 : e - (a + 1) ≤ 8
                  · rw [Nat.min_eq_left h8, show a + 1 + (e - (a + 1)) = e by omega] at hb1 he ⊢
                    by_cases y : b e = 39
                    · exact wpt (by rw [y]; rfl) (hk' _ (Or.inl ⟨by rw [hO]; exact decide_eq_true ⟨by omega, y, h8⟩, rfl⟩))
                    · exact wpf (fun z => y ((nI_eq (by omega) (by decide)).mp (show _ = nI 39 from z))) (hno (by omega))
                  · have hq := s3 (a + 1 + min (e - (a + 1)) 8) (by omega) (by omega)
                    have hq' := (lxT_3 hq).2.2
                    exact wpf (fun z => hq' ((nI_eq (by omega) (by decide)).mp (show _ = nI 39 from z))) (hno (by omega))
          · refine wpf (fun z => h39 ((nI_eq (by omega) (by decide)).mp (show _ = nI 39 from z))) (wpe (e369n hb) ?_)
            have hE : tkE b L a = a + 1 := by unfold tkE; rw [if_neg hl, if_neg hd, if_neg h39]
            have hO : tkO b L a = lxG (b a) := by unfold tkO; rw [if_neg hl, if_neg hd, if_neg h39]
            have hS : tkS b L a = 3 := by unfold tkS; rw [if_neg hl, if_neg hd, if_neg h39]
            have hWt : tkW b L a = (nI (b a)).toInt64 := by unfold tkW; rw [if_neg hl, if_neg hd, if_neg h39]
            by_cases hg : lxG (b a) = true
            · refine wpf (by rw [if_pos hg]; decide) (wpe (e98 g7 (by omega)) ?_)
              rw [nI_1]
              exact wpl (hgood (by rw [hO]; exact hg) hE.symm (by rw [hS]; rfl) hWt.symm)
            · have hg' : lxG (b a) = false := by simpa using hg
              exact wpt (by rw [if_neg hg]) (wpe (e97 g4) (hbad (by rw [hO]; exact hg') (sx_trans hs flt_sx) f1 f2 f3 ⟨i, by omega, f7⟩))
    · by_cases ea : nI L ≤ a0
      · exact wpt ea ⟨hs, Or.inr ⟨g5, g6, g2, g3, g4, g7⟩⟩
      · exact wpf ea (wpf (by rw [g2]; decide) ⟨hs, Or.inr ⟨g5, g6, g2, g3, g4, g7⟩⟩)
  · refine ⟨sx_pI sx_rfl (by decide), Or.inl ⟨0, 0, rfl, by omega, by omega, ?_, by omega, rfl, ?_, fun j hj => absurd hj (Nat.not_lt_zero _)⟩⟩
    · show (pI u 174 7 0).1 174 13 = _
      rw [rI, if_neg (by omega)]
      exact h13
    · show (pI u 174 7 0).1 174 7 = _
      rw [rI, if_pos ⟨rfl, rfl⟩]
      rfl
  · rintro d ⟨hs, h⟩
    rcases h with ⟨h1, h2, h3, h4⟩ | ⟨h1, h2, h3, h4, h5, i, h6, h7⟩
    · refine wpe (e98 h4 (by omega)) ⟨sx_trans hs rlx_sx, Or.inl ⟨h1, by rw [rlx_13 (by omega)]; exact h2, fun j hj => ?_, ?_, ?_⟩⟩
      · obtain ⟨a1, a2, a3⟩ := rlx_at (u := d) (i := N) (s := 5) (f := nI L) (v := 0) (j := j)
        rw [a1, a2, a3, if_neg (by omega), if_neg (by omega), if_neg (by omega)]
        exact h3 j hj
      · rw [(rlx_at (j := N)).1, if_pos rfl]
        rfl
      · rw [(rlx_at (j := N)).2.1, if_pos rfl]
    · exact wpe (e98 h7 (by omega)) ⟨sx_trans hs rlx_sx, Or.inr ⟨h1, h2, by rw [rlx_13 (by omega)]; exact h3, by rw [rlx_13 (by omega)]; exact h4, by rw [rlx_13 (by omega)]; exact h5⟩⟩
end LXR
