/-! READING the parts of an ACT: MARKS that are told -/
section TLDS
variable {n i j N k M a b r m L U oc kc mc : Nat} {c d u w v q : cS} {K P : Nat → Nat} {V : Nat → Int64} {nm : Int64} {O E B : Nat → Nat}
theorem nbl_32 {x : Int64} {o : Nat} (ho : o < 8) : nbl x.toInt32.toInt64 o = nbl x o := by
  apply Nat.eq_of_testBit_eq
  intro i
  rw [nbl_bit, nbl_bit]
  by_cases hi : i < 4
  · have h1 : x.toInt32.toInt64.toBitVec = (x.toBitVec.signExtend 32).signExtend 64 := rfl
    rw [h1, BitVec.getLsbD_signExtend, BitVec.getLsbD_signExtend, if_pos (by omega), if_pos (by omega), decide_eq_true (show 4 * o + i < 64 by omega), decide_eq_true (show 4 * o + i < 32 by omega), Bool.true_and, Bool.true_and]
  · rw [decide_eq_false hi, Bool.false_and, Bool.false_and]
/-- what is told, one MARK behind the other -/
def tlP (B O E : Nat → Nat) (o : Nat) : Nat → Nat
  | 0 => B o
  | k + 1 => if O k = o then E k else tlP B O E o k
theorem tlP_lt (hB : ∀ o, o < oc → B o < 16) (hE : ∀ j, j < m → E j < 16) {o : Nat} (ho : o < oc) : ∀ k, k ≤ m → tlP B O E o k < 16
  | 0, _ => hB o ho
  | k + 1, h => by
    unfold tlP
    split
    · exact hE k (by omega)
    · exact tlP_lt hB hE ho k (by omega)
theorem e282 (hn : 1000 ≤ n) (hr : r < 2242) (hoc : oc ≤ 4) (h72 : d.1 7 2 = nI oc) (hB : ∀ o, o < oc → B o < 16 ∧ d.1 (oA o) 3 = nI (B o)) (hm : m ≤ 20) (hU : U + m ≤ 4096) (h144 : d.1 144 r = nI m) (h142 : 0 < m → d.1 142 r = nI U) (h138 : ∀ j, j + 1 < m → d.1 138 (U + j) = nI (U + j + 1)) (hO : ∀ j, j < m → O j < oc ∧ E j < 16 ∧ d.1 135 (U + j) = nI (100 + O j) ∧ d_231 n (nI (U + j)) (O j) d = some (nI (E j))) : ∃ x : Int64, d_282 n (nI r) d = some x.toInt32 ∧ ∀ o, o < oc → nbl x o = tlP B O E o m := by
  have hir : ib (nI r) 2242 := ib_n hr (by decide)
  have er : ix (nI r) = r := ix_n (by omega)
  have hB16 : ∀ o, o < oc → B o < 16 := fun o ho => (hB o ho).1
  have hE16 : ∀ j, j < m → E j < 16 := fun j hj => (hO j hj).2.1
  suffices h : wp (d_282 n (nI r) d) (fun y => ∃ x : Int64, y = x.toInt32 ∧ ∀ o, o < oc → nbl x o = tlP B O E o m) by
    obtain ⟨y, h1, x, h2, h3⟩ := wp_ex h
    exact ⟨x, by rw [h1, h2], h3⟩
  unfold d_282
  rw [h72]
  refine wpb (whl_cnt (fun k (s : Int64 × Int32) => s.2 = nI k ∧ ∀ o, o < k → nbl s.1 o = B o) oc ?_ ?_ (by omega) ⟨rfl, fun o ho => absurd ho (Nat.not_lt_zero _)⟩)
  · rintro k ⟨s, p⟩ hk ⟨g1, g2⟩
    dsimp only at g1 g2
    subst g1
    obtain ⟨b1, b2⟩ := hB k hk
    have e356 := e356 (n := n) (s := s) (k := k) (e := B k) (by omega) b1
    dsimp only
    rw [show ix (nI k) = k from ix_n (by omega), b2]
    refine wpf (by simp (disch := first | omega | decide) only [↓neg1, nlit, rI, rL, rI2, rL1, nI_add, pk_mul, sbT, dvT, nmd, ixT, ↓ibT, ltT, ltF, leT, leF, eqT, eqF, nM_ltT, nM_ltF, nM_leT, nM_leF, nM_eqF, nM_eqF', nbT0, nbT1, oI_s, oI_n, natF, natT, nltT, nltF, nleT, nleF, ↓reduceIte, lgc, not_true_eq_false, not_false_eq_true, or_false, false_or, or_true, true_or, and_true, true_and, and_false, false_and, ne_eq, eq_self, or_self, and_self]) (wpt (ib_n (by omega) (by decide)) (wpe e356 (wpl ⟨nI_1 k, fun o ho => ?_⟩)))
    dsimp only
    rw [nbl_wn (by omega) b1 (by omega)]
    by_cases e : o = k
    · rw [if_pos e, e]
    · rw [if_neg e]
      exact g2 o (by omega)
  · rintro ⟨s, p⟩ ⟨g1, g2⟩
    dsimp only at g1 g2
    subst g1
    dsimp only
    refine wpt (by simp (disch := first | omega | decide) only [↓neg1, nlit, rI, rL, rI2, rL1, nI_add, pk_mul, sbT, dvT, nmd, ixT, ↓ibT, ltT, ltF, leT, leF, eqT, eqF, nM_ltT, nM_ltF, nM_leT, nM_leF, nM_eqF, nM_eqF', nbT0, nbT1, oI_s, oI_n, natF, natT, nltT, nltF, nleT, nleF, ↓reduceIte, lgc, not_true_eq_false, not_false_eq_true, or_false, false_or, or_true, true_or, and_true, true_and, and_false, false_and, ne_eq, eq_self, or_self, and_self]) (wp_of (a := Sum.inr s) rfl ?_)
    rw [Sum.elim_inr, er]
    refine wpt hir (wpl (wpb (whl_cnt (fun j (t : Int64 × Int32 × Int32) => (j < m → t.2.1 = nI (U + j)) ∧ t.2.2 = nI j ∧ ∀ o, o < oc → nbl t.1 o = tlP B O E o j) m ?_ ?_ (by omega) ⟨fun z => by rw [Nat.add_zero]; exact h142 z, rfl, g2⟩)))
    · rintro j ⟨t, p, y⟩ hj ⟨f1, f2, f3⟩
      dsimp only at f1 f2 f3
      have f1 := f1 hj
      subst f1 f2
      obtain ⟨o1, o2, o3, o4⟩ := hO j hj
      have eU : ix (nI (U + j)) = U + j := ix_n (by omega)
      have hiU : ib (nI (U + j)) 4096 := ib_n (by omega) (by decide)
      have e100 : nI (100 + O j) - 100 = nI (O j) := by
        have h := pk_sub (a := 100 + O j) (b := 100) (by omega)
        rw [show 100 + O j - 100 = O j by omega] at h
        exact h
      have e356 := e356 (n := n) (s := t) (k := O j) (e := E j) (by omega) o2
      dsimp only
      rw [h144, eU, o3, e100]
      refine wpt hir (wpf (by simp (disch := first | omega | decide) only [↓neg1, nlit, rI, rL, rI2, rL1, nI_add, pk_mul, sbT, dvT, nmd, ixT, ↓ibT, ltT, ltF, leT, leF, eqT, eqF, nM_ltT, nM_ltF, nM_leT, nM_leF, nM_eqF, nM_eqF', nbT0, nbT1, oI_s, oI_n, natF, natT, nltT, nltF, nleT, nleF, ↓reduceIte, lgc, not_true_eq_false, not_false_eq_true, or_false, false_or, or_true, true_or, and_true, true_and, and_false, false_and, ne_eq, eq_self, or_self, and_self]) (wpt hiU (wpl (wpt (ib_n (by omega) (by decide)) ?_))))
      rw [show ix (nI (O j)) = O j from ix_n (by omega)]
      refine wpe o4 (wpe e356 (wpt hiU (wpl (wpl ⟨fun z => h138 j z, nI_1 j, fun o ho => ?_⟩))))
      dsimp only
      rw [nbl_wn (by omega) o2 (by omega)]
      unfold tlP
      by_cases e : O j = o
      · rw [if_pos e.symm, if_pos e]
      · rw [if_neg (fun z => e z.symm), if_neg e]
        exact f3 o ho
    · rintro ⟨t, p, y⟩ ⟨-, f2, f3⟩
      dsimp only at f2 f3
      subst f2
      dsimp only
      rw [h144]
      refine wpt hir (wpt (by simp (disch := first | omega | decide) only [↓neg1, nlit, rI, rL, rI2, rL1, nI_add, pk_mul, sbT, dvT, nmd, ixT, ↓ibT, ltT, ltF, leT, leF, eqT, eqF, nM_ltT, nM_ltF, nM_leT, nM_leF, nM_eqF, nM_eqF', nbT0, nbT1, oI_s, oI_n, natF, natT, nltT, nltF, nleT, nleF, ↓reduceIte, lgc, not_true_eq_false, not_false_eq_true, or_false, false_or, or_true, true_or, and_true, true_and, and_false, false_and, ne_eq, eq_self, or_self, and_self]) (wp_of (a := Sum.inr t) rfl ?_))
      exact wp_of rfl ⟨t, rfl, f3⟩
/-- the reference -/
theorem t411 (hn : 1000 ≤ n) (hb : b < 3840) (hoc : oc ≤ 4) (hkc : NMQ d q oc kc) (h13 : q.1 174 13 = nI 0) (hm : m ≤ 4) (h222 : q.1 222 1218 = nI m) (hO : ∀ j, j < m → O j < oc ∧ fO q oc (q.2 223 (1218 * 20 + j)) = some (O j) ∧ (eln q (O j) ≤ 12 ∧ q.1 182 (O j) = nI (eln q (O j))) ∧ eOp q (O j) (eln q (O j)) (q.2 228 ((1218 * 20 + j) * 4)) = some (E j)) : wp (if (q.1 174 13) = 0 then
      if ib 1218 1219 then
      if ib (nI b) 3840 then
      lt (pI q 219 (ix (nI b)) (q.1 222 (ix 1218))) (fun c4 =>
      Option.bind (whl (R := (cS)) (fun s7 : Int32 × cS =>
        if ib (nI b) 3840 then
        if (s7.2.1 219 (ix (nI b))) ≤ s7.1 then
          some (.inr s7.2)
        else
          Option.bind (d_392 n 1218 s7.1) (fun v9 =>
          if ib v9 24380 then
          Option.bind (d_372 n (s7.2.2 223 (ix v9)) s7.2) (fun v12 =>
          if ib ((4 * (nI b)) + s7.1) 15360 then
          lt (pI s7.2 220 (ix ((4 * (nI b)) + s7.1)) v12) (fun c15 =>
          if ib (v9 * 4) 97520 then
          Option.bind (d_377 n v12 (c15.2 228 (ix (v9 * 4))) c15) (fun v18 =>
          if ib ((4 * (nI b)) + s7.1) 15360 then
          lt (pI c15 221 (ix ((4 * (nI b)) + s7.1)) v18) (fun c20 =>
          lt (s7.1 + 1 : Int32) (fun v23 =>
          some (.inl (v23, c20))))
          else none)
          else none)
          else none)
          else none)
        else none) n (0, c4))
      (fun x25 : cS =>
        some x25))
      else none
      else none
    else
      some q) (fun s => sx (fun A l => decide ((A = 219 ∧ l = b) ∨ ((A = 220 ∨ A = 221) ∧ 4 * b ≤ l ∧ l < 4 * b + 4))) q s ∧ s.1 219 b = nI m ∧ ∀ j, j < m → s.1 220 (4 * b + j) = nI (O j) ∧ s.1 221 (4 * b + j) = nI (E j)) := by
  have hibb : ib (nI b) 3840 := ib_n hb (by decide)
  have eb : ix (nI b) = b := ix_n (by omega)
  rw [eb, show ix 1218 = 1218 from rfl, h222]
  refine wpt h13 (wpt (by decide) (wpt hibb (wpl (wpb (whl_cnt (fun j (s : Int32 × cS) => s.1 = nI j ∧ sx (fun A l => decide ((A = 219 ∧ l = b) ∨ ((A = 220 ∨ A = 221) ∧ 4 * b ≤ l ∧ l < 4 * b + 4))) q s.2 ∧ s.2.1 219 b = nI m ∧ ∀ l, l < j → s.2.1 220 (4 * b + l) = nI (O l) ∧ s.2.1 221 (4 * b + l) = nI (E l)) m ?_ ?_ (by omega) ⟨rfl, sx_pI sx_rfl (decide_eq_true (by omega)), by rw [rI, if_pos ⟨rfl, rfl⟩], fun l hl => absurd hl (Nat.not_lt_zero _)⟩)))))
  · rintro j ⟨p, s⟩ hj ⟨g1, g2, g3, g4⟩
    dsimp only at g1 g2 g3 g4
    subst g1
    obtain ⟨o1, o2, ⟨o3, o3'⟩, o4⟩ := hO j hj
    have e20 : (1218 : Int32) * 20 + nI j = nI (1218 * 20 + j) := by rw [show (1218 : Int32) = nI 1218 from rfl, show (20 : Int32) = nI 20 from rfl, pk_mul, nI_add]
    have e4 : (4 : Int32) * nI b + nI j = nI (4 * b + j) := by rw [show (4 : Int32) = nI 4 from rfl, pk_mul, nI_add]
    have e44 : nI (1218 * 20 + j) * 4 = nI ((1218 * 20 + j) * 4) := by rw [show (4 : Int32) = nI 4 from rfl, pk_mul]
    have S : ∀ A l, ¬ (A = 219 ∨ A = 220 ∨ A = 221) → s.1 A l = q.1 A l ∧ s.2 A l = q.2 A l := fun A l z => ⟨g2.1 _ _ (decide_eq_false (by omega)), g2.2 _ _ (decide_eq_false (by omega))⟩
    have hN : NMQ d s oc kc := NMQ_cg hkc (fun l _ => rfl) (fun _ _ => rfl) (fun _ _ => rfl) (fun l _ => (S _ _ (by omega)).1) (fun _ _ => (S _ _ (by omega)).2) (fun _ _ => (S _ _ (by omega)).2)
    have h372 := g372 (n := n) (nm := q.2 223 (1218 * 20 + j)) (by omega) hN
    have efO : fO s oc (q.2 223 (1218 * 20 + j)) = fO q oc (q.2 223 (1218 * 20 + j)) := ff_congr (fun l hl => by rw [(S _ _ (by omega)).2])
    rw [efO, o2, oI_s] at h372
    have h377 := e377p (n := n) (v := q.2 228 ((1218 * 20 + j) * 4)) (u := pI s 220 (4 * b + j) (nI (O j))) (o := O j) (E := eln q (O j)) (by omega) (by omega) o3 (by rw [rI, if_neg (by omega), (S _ _ (by omega)).1]; exact o3')
    have eeO : eOp (pI s 220 (4 * b + j) (nI (O j))) (O j) (eln q (O j)) (q.2 228 ((1218 * 20 + j) * 4)) = eOp q (O j) (eln q (O j)) (q.2 228 ((1218 * 20 + j) * 4)) := ff_congr (fun l hl => by
      show decide (s.2 183 _ = _) = _
      rw [(S _ _ (by omega)).2])
    rw [eeO, o4, oI_s] at h377
    dsimp only
    rw [g3]
    refine wpt hibb (wpf (by simp (disch := first | omega | decide) only [↓neg1, nlit, rI, rL, rI2, rL1, nI_add, pk_mul, sbT, dvT, nmd, ixT, ↓ibT, ltT, ltF, leT, leF, eqT, eqF, nM_ltT, nM_ltF, nM_leT, nM_leF, nM_eqF, nM_eqF', nbT0, nbT1, oI_s, oI_n, natF, natT, nltT, nltF, nleT, nleF, ↓reduceIte, lgc, not_true_eq_false, not_false_eq_true, or_false, false_or, or_true, true_or, and_true, true_and, and_false, false_and, ne_eq, eq_self, or_self, and_self]) ?_)
    unfold d_392
    rw [e20]
    refine wpe rfl ?_
    rw [show ix (nI (1218 * 20 + j)) = 1218 * 20 + j from ix_n (by omega), (S _ _ (by omega)).2, e4, e44, show ix (nI (4 * b + j)) = 4 * b + j from ix_n (by omega), show ix (nI ((1218 * 20 + j) * 4)) = (1218 * 20 + j) * 4 from ix_n (by omega)]
    refine wpt (ib_n (by omega) (by decide)) (wpe h372 (wpt (ib_n (by omega) (by decide)) (wpl (wpt (ib_n (by omega) (by decide)) ?_))))
    rw [show (pI s 220 (4 * b + j) (nI (O j))).2 228 ((1218 * 20 + j) * 4) = q.2 228 ((1218 * 20 + j) * 4) from (S _ _ (by omega)).2]
    refine wpe h377 (wpt (ib_n (by omega) (by decide)) (wpl (wpl ⟨nI_1 j, ?_, ?_, fun l hl => ⟨?_, ?_⟩⟩)))
    · exact sx_pI (sx_pI g2 (decide_eq_true (by omega))) (decide_eq_true (by omega))
    · show (pI (pI s 220 (4 * b + j) (nI (O j))) 221 (4 * b + j) (nI (E j))).1 219 b = _
      rw [rI, if_neg (by omega), rI, if_neg (by omega)]
      exact g3
    · show (pI (pI s 220 (4 * b + j) (nI (O j))) 221 (4 * b + j) (nI (E j))).1 220 (4 * b + l) = _
      rw [rI, if_neg (by omega), rI]
      by_cases e : l = j
      · rw [if_pos ⟨rfl, by omega⟩, e]
      · rw [if_neg (by omega)]
        exact (g4 l (by omega)).1
    · show (pI (pI s 220 (4 * b + j) (nI (O j))) 221 (4 * b + j) (nI (E j))).1 221 (4 * b + l) = _
      rw [rI]
      by_cases e : l = j
      · rw [if_pos ⟨rfl, by omega⟩, e]
      · rw [if_neg (by omega), rI, if_neg (by omega)]
        exact (g4 l (by omega)).2
  · rintro ⟨p, s⟩ ⟨g1, g2, g3, g4⟩
    dsimp only at g1 g2 g3 g4
    subst g1
    dsimp only
    rw [g3]
    refine wpt hibb (wpt (by simp (disch := first | omega | decide) only [↓neg1, nlit, rI, rL, rI2, rL1, nI_add, pk_mul, sbT, dvT, nmd, ixT, ↓ibT, ltT, ltF, leT, leF, eqT, eqF, nM_ltT, nM_ltF, nM_leT, nM_leF, nM_eqF, nM_eqF', nbT0, nbT1, oI_s, oI_n, natF, natT, nltT, nltF, nleT, nleF, ↓reduceIte, lgc, not_true_eq_false, not_false_eq_true, or_false, false_or, or_true, true_or, and_true, true_and, and_false, false_and, ne_eq, eq_self, or_self, and_self]) (wp_of (a := Sum.inr s) rfl ?_))
    rw [Sum.elim_inr]
    exact wp_of rfl ⟨g2, g3, g4⟩
end TLDS
