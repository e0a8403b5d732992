/-! READING the parts of an ACT: LOCALS -/
section LOC
variable {n i j N k M a b op L U oc kc mc : Nat} {c d u w v q : cS} {K P : Nat → Nat} {V : Nat → Int64} {nm : Int64}
theorem loc_go (hn : 10000 ≤ n) (ha : a < 1024) (hb : b < 3840) (hM : M < 96) (ho : op = 16 ∨ op = 17) (h1 : w.1 121 a = nI (200 + op)) (h2 : v.1 211 b = nI op) (h9 : w.1 145 9 = nI M) (hP : PSI K P V N w v j) (hS : OPS w v M L U) : jw (d_283 n (nI a) w) (d_412 n (nI M) (nI b) v) (OPZ K P V N w v a b M U L oc op j) := by
  have hia : ib (nI a) 1024 := ib_n ha (by decide)
  have ea : ix (nI a) = a := ix_n (by omega)
  have hibb : ib (nI b) 3840 := ib_n hb (by decide)
  have eb : ix (nI b) = b := ix_n (by omega)
  have hiM : ib (nI M) 96 := ib_n hM (by decide)
  have eM : ix (nI M) = M := ix_n (by omega)
  have hkK := PSI_K hP
  have v67 := hP.2.2.2.1
  have hjN := hP.2.1
  have h259 := e259 (n := n) hP
  have h381 := e381 (n := n) hP
  obtain ⟨L8, l1, l2, l3, m1, m2, m3⟩ := id hS
  by_cases e1 : K j = 1
  rotate_left
  · rw [if_neg e1] at h259 h381
    refine jw_of (a := .inr (flC w 2 (nI (P j)))) (b := flt v 2 (nI (P j))) ?_ ?_ (Or.inr ⟨_, rfl, FLR_of sx_rfl sx_rfl⟩)
    · unfold d_283
      exact eq_wp (wpe h259 (wpSr rfl))
    · unfold d_412
      exact eq_wp (wpl (wpe h381 (wpf (ne13 flt_at.1) rfl)))
  rw [if_pos e1] at h259 h381
  have hP1 := PSI_s hP (by omega)
  have hlt := PSI_lt hP (by omega)
  have uf : ∀ A l, ¬ (A = 174 ∧ l = 67) → (atR v (j + 1)).1 A l = v.1 A l := fun A l z => by
    unfold atR
    rw [rI, if_neg z]
  have h161 := s161 (n := n) (c := w) (u := v) (a := M) (f := L) (nm := V j) (by omega) hM L8 l1 l3
  have h407 := s407 (n := n) (u := atR v (j + 1)) (a := M) (f := L) (nm := V j) (by omega) hM L8 (by rw [uf _ _ (by omega)]; exact l2)
  rw [show dpS (atR v (j + 1)) 209 M L (V j) = dpS v 209 M L (V j) from rfl] at h407
  cases et : dpS v 209 M L (V j) with
  | some x =>
    rw [et, oI_s] at h161 h407
    have hx := (ff_some et).1
    refine jw_of (a := .inl (pI (pI w 122 a (nI x)) 145 7 (nI (j + 1)))) (b := pI (atR v (j + 1)) 214 b (nI x)) ?_ ?_ (Or.inl ⟨_, j + 1, U, L, rfl, Nat.le_refl _, Nat.le_refl _, by omega, fun z => by omega, ?_, ⟨fun z => by omega, fun z => by omega, fun _ => ⟨x, hx, ?_, ?_⟩, fun z => by omega, fun z => by omega, fun z => by omega⟩, OPS_cg hS (fun A l z => ⟨?_, rfl⟩) (fun A l z => ⟨?_, rfl⟩), ?_, ?_⟩)
    · unfold d_283
      refine eq_wp (wpe h259 (wpSl ?_))
      dsimp only
      rw [h9]
      refine wpe h161 (wpj (wpt (nI_pos' (by omega)) (wpj (wpt (nI_pos' (by omega)) (wpj (wpt (nI_pos' (by omega)) (wpt hia ?_)))))))
      dsimp only
      rw [ea]
      refine wpl ?_
      rw [show (pI w 122 a (nI x)).1 145 7 = nI j by rw [rI, if_neg (by omega)]; exact hP.2.2.1, nI_1]
      exact wpl rfl
    · unfold d_412
      refine eq_wp (wpl (wpe h381 (wpt hP1.2.2.2.2 (wpe h407 (wpt hibb ?_)))))
      rw [eb]
      refine wpl (wpt hibb (wpf ?_ rfl))
      rw [rI, if_pos ⟨rfl, rfl⟩]
      exact nI_pos (by omega)
    · exact PSI_sx (PSI_sx hP1 (show sx (fun _ _ => false) _ _ from sx_rfl) (sx_pI (r := fun A _ => decide (A = 214)) (v := nI x) (a := 214) (i := b) sx_rfl rfl) (fun _ _ _ => rfl) (fun A l z => decide_eq_false (by omega))) (r := fun A _ => decide (A = 122)) ⟨fun A l z => by
        have z := of_decide_eq_false z
        show (pI (pI w 122 a (nI x)) 145 7 (nI (j + 1))).1 A l = (pI w 145 7 (nI (j + 1))).1 A l
        by_cases e : A = 145 ∧ l = 7
        · rw [rI, if_pos e, rI, if_pos e]
        · rw [rI, if_neg e, rI, if_neg (by omega), rI, if_neg e], fun A l _ => rfl⟩ (show sx (fun _ _ => false) _ _ from sx_rfl) (fun A l z => decide_eq_false (by omega)) (fun _ _ _ => rfl)
    · rw [rI, if_pos ⟨rfl, rfl⟩]
    · rw [rI, if_neg (by omega), rI, if_pos ⟨rfl, rfl⟩]
    · rw [rI, if_neg (by omega), rI, if_neg (by omega)]
    · rw [rI, if_neg (by omega)]
      exact uf _ _ (by omega)
    · exact sx_pI (sx_pI sx_rfl (decide_eq_true (by omega))) (decide_eq_true (by omega))
    · exact sx_pI (sx_pI sx_rfl (decide_eq_true (by omega))) (decide_eq_true (by omega))
  | none =>
    rw [et] at h161 h407
    obtain ⟨v1, hv1⟩ : ∃ v1, v1 = pI (atR v (j + 1)) 214 b nM := ⟨_, rfl⟩
    have t1 : sx (qOu b M) v v1 := by
      rw [hv1]
      exact sx_pI (sx_pI sx_rfl (decide_eq_true (by omega))) (decide_eq_true (by omega))
    have hPv : v1.1 174 13 = nI 0 ∧ v1.1 179 j = nI (P j) ∧ v1.1 208 M = nI L ∧ v1.1 211 b = nI op ∧ v1.1 214 b = nM := by
      rw [hv1, rI, if_neg (by omega), rI, if_neg (by omega), rI, if_neg (by omega), rI, if_neg (by omega), rI, if_pos ⟨rfl, rfl⟩]
      exact ⟨hP1.2.2.2.2, (hP1.1.2.2.1 j hjN).2.2.1, by rw [uf _ _ (by omega)]; exact l2, by rw [uf _ _ (by omega)]; exact h2, rfl⟩
    obtain ⟨g13, g179, g208, g211, g214⟩ := hPv
    have hij : ib (nI j) 4001 := ib_n (by omega) (by decide)
    have ej : ix (nI j) = j := ix_n (by omega)
    have hneg : ¬ (0 : Int32) ≤ oI none := by decide
    have e8 : (8 : Int32) * nI M + nI L = nI (8 * M + L) := by rw [show (8 : Int32) = nI 8 from rfl, pk_mul, nI_add]
    have e8' : nI M * 8 + nI L = nI (M * 8 + L) := by rw [show (8 : Int32) = nI 8 from rfl, pk_mul, nI_add]
    rcases ho with rfl | rfl
    · have f1 := flt_at (u := v1) (a := 5) (f := nI (P j))
      refine jw_of (a := .inr (flC w 5 (nI (P j)))) (b := flt v1 5 (nI (P j))) ?_ ?_ (Or.inr ⟨_, rfl, FLR_of sx_rfl (qOu_u t1)⟩)
      · unfold d_283
        refine eq_wp (wpe h259 (wpSl ?_))
        dsimp only
        rw [h9]
        refine wpe h161 ?_
        rw [ea, h1]
        exact wpj (wpf hneg (wpt hia (wpt rfl (wpe (e42 hP) (wpe e41 (wpSr rfl))))))
      · unfold d_412
        rw [v67]
        refine eq_wp (wpl (wpe h381 (wpt hP1.2.2.2.2 (wpe h407 (wpt hibb ?_)))))
        rw [eb, eM, ej]
        refine wpl ?_
        dsimp only
        rw [show oI none = nM from rfl, ← hv1, g214, g211, g179]
        refine wpt hibb (wpt (show nM < 0 by decide) (wpt hibb (wpj (wpt rfl (wpt hij (wpe (e97 g13) (wpt hiM (wpj ?_))))))))
        by_cases e : (flt v1 5 (nI (P j))).1 208 M = 8
        · exact wpt e (wpt hij (wpe (e97w f1.1) (wpf (ne13 f1.1) rfl)))
        · exact wpf e (wpf (ne13 f1.1) rfl)
    · by_cases eL : L = 8
      · have f1 := flt_at (u := v1) (a := 6) (f := nI (P j))
        refine jw_of (a := .inr (flC w 6 (nI (P j)))) (b := flt v1 6 (nI (P j))) ?_ ?_ (Or.inr ⟨_, rfl, FLR_of sx_rfl (qOu_u t1)⟩)
        · unfold d_283
          refine eq_wp (wpe h259 (wpSl ?_))
          dsimp only
          rw [h9]
          refine wpe h161 ?_
          rw [ea, h1]
          refine wpj (wpf hneg (wpt hia (wpf (show ¬ nI (200 + 17) = 216 by decide) (wpj (wpf hneg ?_)))))
          rw [h9, eM, l1, eL]
          exact wpt hiM (wpf (by decide) (wpe (e42 hP) (wpe e41 (wpSr rfl))))
        · unfold d_412
          rw [v67]
          refine eq_wp (wpl (wpe h381 (wpt hP1.2.2.2.2 (wpe h407 (wpt hibb ?_)))))
          rw [eb, eM, ej]
          refine wpl ?_
          dsimp only
          rw [show oI none = nM from rfl, ← hv1, g214, g211]
          refine wpt hibb (wpt (show nM < 0 by decide) (wpt hibb (wpj (wpf (show ¬ nI 17 = 16 by decide) (wpt hiM (wpj ?_))))))
          rw [g208, g179, eL]
          exact wpt rfl (wpt hij (wpe (e97 g13) (wpf (ne13 f1.1) rfl)))
      · have hi8 : ib (nI (8 * M + L)) 768 := ib_n (by omega) (by decide)
        have ei8 : ix (nI (8 * M + L)) = 8 * M + L := ix_n (by omega)
        have hi8' : ib (nI (M * 8 + L)) 768 := ib_n (by omega) (by decide)
        have ei8' : ix (nI (M * 8 + L)) = M * 8 + L := ix_n (by omega)
        obtain ⟨w1, hw1⟩ : ∃ w1, w1 = pI (pL w 118 (M * 8 + L) (V j)) 117 M (nI (L + 1)) := ⟨_, rfl⟩
        have h162 : d_162 n (nI M) (V j) w = some (nI L, w1) := by
          unfold d_162
          rw [eM, l1, e8', ei8']
          refine eq_wp (wpt hiM (wpt hi8' (wpl (wpt hiM (wpt hiM ?_)))))
          rw [show (pL w 118 (M * 8 + L) (V j)).1 117 M = nI L from l1, nI_1]
          refine wpl ?_
          rw [hw1]
          rfl
        obtain ⟨q, hq⟩ : ∃ q, q = pI (pL (pI v1 214 b (nI L)) 209 (8 * M + L) (V j)) 208 M (nI (L + 1)) := ⟨_, rfl⟩
        refine jw_of (a := .inl (pI (pI w1 122 a (nI L)) 145 7 (nI (j + 1)))) (b := q) ?_ ?_ (Or.inl ⟨_, j + 1, U, L + 1, rfl, Nat.le_refl _, by omega, by omega, fun z => by omega, ?_, ⟨fun z => by omega, fun z => by omega, fun _ => ⟨L, by omega, ?_, ?_⟩, fun z => by omega, fun z => by omega, fun z => by omega⟩, ⟨by omega, ?_, ?_, fun l hl => ?_, ?_, ?_, ?_⟩, ?_, ?_⟩)
        · unfold d_283
          refine eq_wp (wpe h259 (wpSl ?_))
          dsimp only
          rw [h9]
          refine wpe h161 ?_
          rw [ea, h1]
          refine wpj (wpf hneg (wpt hia (wpf (show ¬ nI (200 + 17) = 216 by decide) (wpj (wpf hneg ?_)))))
          rw [h9, eM, l1]
          refine wpt hiM (wpt (by simp (disch := first | omega | decide) only [↓neg1, nlit, rI, rL, rI2, rL1, nI_add, pk_mul, sbT, dvT, nmd, ixT, ↓ibT, ltT, ltF, leT, leF, eqT, eqF, nM_ltT, nM_ltF, nM_leT, nM_leF, nM_eqF, nM_eqF', nbT0, nbT1, oI_s, oI_n, natF, natT, nltT, nltF, nleT, nleF, ↓reduceIte, lgc, not_true_eq_false, not_false_eq_true, or_false, false_or, or_true, true_or, and_true, true_and, and_false, false_and, ne_eq, eq_self, or_self, and_self]) (wpj (wpf hneg ?_)))
          rw [h9]
          refine wpe h162 (wpt hia (wpl ?_))
          dsimp only
          rw [show (pI w1 122 a (nI L)).1 145 7 = nI j by
            rw [rI, if_neg (by omega), hw1, rI, if_neg (by omega)]
            exact hP.2.2.1, nI_1]
          exact wpl rfl
        · unfold d_412
          rw [v67]
          refine eq_wp (wpl (wpe h381 (wpt hP1.2.2.2.2 (wpe h407 (wpt hibb ?_)))))
          rw [eb, eM, ej]
          refine wpl ?_
          dsimp only
          rw [show oI none = nM from rfl, ← hv1, g214, g211]
          refine wpt hibb (wpt (show nM < 0 by decide) (wpt hibb (wpj (wpf (show ¬ nI 17 = 16 by decide) (wpt hiM (wpj ?_))))))
          rw [g208]
          refine wpf (fun z => eL ((nI_eq (by omega) (by decide)).mp (show _ = nI 8 from z))) (wpt g13 (wpt hiM (wpt hibb ?_)))
          rw [g208]
          refine wpl (wpt hiM ?_)
          rw [show (pI v1 214 b (nI L)).1 208 M = nI L by rw [rI, if_neg (by omega)]; exact g208, e8, ei8]
          refine wpt hi8 (wpl (wpt hiM (wpt hiM ?_)))
          rw [show (pL (pI v1 214 b (nI L)) 209 (8 * M + L) (V j)).1 208 M = nI L by
            show (pI v1 214 b (nI L)).1 208 M = _
            rw [rI, if_neg (by omega)]
            exact g208, nI_1]
          refine wpl ?_
          rw [hq]
          rfl
        · rw [hq, hw1, hv1]
          refine PSI_sx hP1 (r := fun A l => decide ((117 ≤ A ∧ A ≤ 122))) (q := fun A _ => decide (A = 208 ∨ A = 209 ∨ A = 214)) ⟨fun A l z => ?_, fun A l z => ?_⟩ (sx_pI (sx_pL (sx_pI (sx_pI sx_rfl rfl) rfl) rfl) rfl) (fun A l z => decide_eq_false (by omega)) (fun A l z => decide_eq_false (by omega))
          · have z := of_decide_eq_false z
            show (pI (pI (pI (pL w 118 (M * 8 + L) (V j)) 117 M (nI (L + 1))) 122 a (nI L)) 145 7 (nI (j + 1))).1 A l = (pI w 145 7 (nI (j + 1))).1 A l
            by_cases e : A = 145 ∧ l = 7
            · rw [rI, if_pos e, rI, if_pos e]
            · rw [rI, if_neg e, rI, if_neg (by omega), rI, if_neg (by omega), rI, if_neg e]
              rfl
          · have z := of_decide_eq_false z
            show (pL w 118 (M * 8 + L) (V j)).2 A l = _
            rw [rL, if_neg (by omega)]
            rfl
        · rw [hq, rI, if_neg (by omega)]
          show (pI v1 214 b (nI L)).1 214 b = _
          rw [rI, if_pos ⟨rfl, rfl⟩]
        · rw [rI, if_neg (by omega), rI, if_pos ⟨rfl, rfl⟩]
        · rw [rI, if_neg (by omega), rI, if_neg (by omega), hw1, rI, if_pos ⟨rfl, rfl⟩]
        · rw [hq, rI, if_pos ⟨rfl, rfl⟩]
        · show w1.2 118 (M * 8 + l) = _
          rw [hw1, hq]
          show (pL w 118 (M * 8 + L) (V j)).2 118 (M * 8 + l) = (pL (pI v1 214 b (nI L)) 209 (8 * M + L) (V j)).2 209 (8 * M + l)
          rw [rL, rL]
          by_cases e : l = L
          · rw [if_pos ⟨rfl, by omega⟩, if_pos ⟨rfl, by omega⟩]
          · rw [if_neg (by omega), if_neg (by omega), hv1]
            exact l3 l (by omega)
        · rw [rI, if_neg (by omega), rI, if_neg (by omega), hw1, rI, if_neg (by omega)]
          exact m1
        · rw [rI, if_neg (by omega), rI, if_neg (by omega), hw1, rI, if_neg (by omega)]
          exact m2
        · rw [rI, if_neg (by omega), rI, if_neg (by omega), hw1, rI, if_neg (by omega)]
          exact m3
        · rw [hw1]
          exact sx_pI (sx_pI (sx_pI (sx_pL sx_rfl (decide_eq_true (by omega))) (decide_eq_true (by omega))) (decide_eq_true (by omega))) (decide_eq_true (by omega))
        · rw [hq]
          exact sx_pI (sx_pL (sx_pI t1 (decide_eq_true (by omega))) (decide_eq_true (by omega))) (decide_eq_true (by omega))
theorem opn_l (hn : 10000 ≤ n) (ha : a < 1024) (hb : b < 3840) (hM : M < 96) (ho : op = 16 ∨ op = 17) (h1 : w.1 121 a = nI (200 + op)) (h2 : v.1 211 b = nI op) (h9 : w.1 145 9 = nI M) (hP : PSI K P V N w v j) (hS : OPS w v M L U) : jw (d_281 n (nI a) w) (d_409 n (nI M) (nI b) v) (OPZ K P V N w v a b M U L oc op j) := by
  obtain ⟨r, q, y1, y2, y3⟩ := jw_ex (loc_go (oc := oc) hn ha hb hM ho h1 h2 h9 hP hS)
  refine c281_l ha ho h1 (wpe y1 ?_)
  cases r with
  | inl d => exact wpSl (wp_of rfl (r409_l hb ho h2 (wp_of y2 y3)))
  | inr z => exact wpSr (wp_of rfl (r409_l hb ho h2 (wp_of y2 y3)))
end LOC
