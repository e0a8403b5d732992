/-! TOKENS written, by class and reference -/
theorem wpjQ {α β : Type} {k : α → Option β} {f : (α → Option β) → Option β} {Q : β → Prop} (P : α → Prop) (h1 : ∀ y, P y → wp (k y) Q) (h2 : ∀ (Q' : β → Prop) k', (∀ y, P y → wp (k' y) Q') → wp (f k') Q') : wp (jn k f) Q := h2 Q k h1
def gp (L : List Nat) : List Nat := if L = [] then [] else [32]
def put (L t : List Nat) : List Nat := L ++ (gp L ++ t)
def puts (L : List Nat) (ts : List (List Nat)) : List Nat := ts.foldl put L
theorem puts_app {L : List Nat} {a b : List (List Nat)} : puts L (a ++ b) = puts (puts L a) b := List.foldl_append ..
theorem puts_1 {L t : List Nat} : puts L [t] = put L t := rfl
theorem puts_0 {L : List Nat} : puts L [] = L := rfl
theorem put_ne {L t : List Nat} (h : L ≠ [] ∨ t ≠ []) : put L t ≠ [] := by
  intro z
  unfold put at z
  rw [List.append_eq_nil_iff, List.append_eq_nil_iff] at z
  rcases h with h | h
  · exact h z.1
  · exact h z.2.2
theorem puts_ne {L : List Nat} (h : L ≠ []) : ∀ ts, puts L ts ≠ []
  | [] => h
  | t :: ts => by
    have h1 := put_ne (t := t) (Or.inl h)
    exact puts_ne h1 ts
theorem put_is {L t : List Nat} (h : L ≠ []) : put L t = L ++ [32] ++ t := by
  unfold put gp
  rw [if_neg h, List.append_assoc]
def wb (j : Nat) : List Nat := (sB j).map ix
theorem gp_nil : gp [] = [] := rfl
theorem nI_sb {a b : Nat} : nI (b + a) - nI b = nI a := by
  rw [pk_sub (by omega)]
  exact congrArg nI (by omega)
section CL
variable {n b : Nat} {v : Int64} {c : cS} {L : List Nat}
theorem OC_0 (h : OC c L) : (c.1 172 1 ≤ 0) ↔ L = [] := by
  rw [h.1]
  have : nI (min L.length 8000) ≤ nI 0 ↔ L = [] := by
    by_cases e : L = []
    · rw [e]
      exact ⟨fun _ => rfl, fun _ => by decide⟩
    · have hl : 0 < L.length := List.length_pos_iff.mpr e
      rw [leF (by omega) (by omega)]
      exact ⟨False.elim, fun z => absurd z e⟩
  exact this
theorem gapC {K : cS → Prop} {k : cS → Option cS} (h : OC c L) (hk : ∀ d, OC d (L ++ gp L) → sx qO c d → wp (k d) K) : wp (jn k (fun j => if (c.1 172 1) ≤ 0 then j c else Option.bind (d_317 n 32 c) (fun r => j r))) K := by
  refine wpj ?_
  by_cases e : L = []
  · refine wpt ((OC_0 h).mpr e) (hk c ?_ sx_rfl)
    subst e
    exact h
  · refine wpf (fun z => e ((OC_0 h).mp z)) (wpc (e317 (b := 32) (by decide) h) (fun d hd => hk d ?_ hd.2))
    unfold gp
    rw [if_neg e]
    exact hd.1
theorem e320 (hn : 1000 ≤ n) (h : OC c L) : wp (d_320 n v c) (fun d => OC d (put L (sg v)) ∧ sx qO c d) := by
  unfold d_320
  refine gapC h (fun y h1 h2 => wpc (e318 hn h1) (fun d hd => ⟨?_, sx_trans h2 hd.2⟩))
  unfold put
  rw [← List.append_assoc]
  exact hd.1
theorem e322 (hb : b < 256) (h : OC c L) : wp (d_322 n (nI b) c) (fun d => OC d (put L [b]) ∧ sx qO c d) := by
  unfold d_322
  refine gapC h (fun y h1 h2 => wpc (e317 hb h1) (fun d hd => ⟨?_, sx_trans h2 hd.2⟩))
  unfold put
  rw [← List.append_assoc]
  exact hd.1
/-- the class's words are the reference's -/
def WT (c : cS) : Prop := ∀ i, i < 31 → sg (c.2 6 i) = wb (2 + i)
theorem e321 {i : Nat} (hn : 1000 ≤ n) (hW : WT c) (hi : i < 31) (h : OC c L) : wp (d_321 n (nI (200 + i)) c) (fun d => OC d (put L (wb (2 + i))) ∧ sx qO c d) := by
  unfold d_321
  rw [show nI (200 + i) - 200 = nI i from nI_sb (b := 200)]
  refine wpt (by simp (disch := first | omega | decide) only [↓neg1, nlit, rI, rL, rI2, rL1, nI_add, pk_mul, sbT, dvT, nmd, ixT, ↓ibT, ltT, ltF, leT, leF, eqT, eqF, nM_ltT, nM_ltF, nM_leT, nM_leF, nM_eqF, nM_eqF', nbT0, nbT1, oI_s, oI_n, natF, natT, nltT, nltF, nleT, nleF, ↓reduceIte, lgc, not_true_eq_false, not_false_eq_true, or_false, false_or, or_true, true_or, and_true, true_and, and_false, false_and, ne_eq, eq_self, or_self, and_self]) ?_
  rw [ix_n (by omega), ← hW i hi]
  exact wpc (e320 hn h) (fun d hd => hd)
def natN (x : Int32) : Nat := x.toInt.natAbs
/-- an int in TOKENS -/
def nt (x : Int32) : List (List Nat) := if 0 ≤ x then [dgk (natN x) (nd (natN x))] else [[45], dgk (natN x) (nd (natN x))]
theorem natN_lt (x : Int32) : natN x < 10 ^ 10 := by
  have h1 := x.toInt_lt
  have h2 := x.le_toInt
  unfold natN
  omega
theorem nat_pos {x : Int32} (h : 0 ≤ x) : x.toInt64 = lN (natN x) := by
  have h0 : (0 : Int) ≤ x.toInt := by
    have := Int32.le_iff_toInt_le.mp h
    exact this
  have h1 := x.toInt_lt
  apply Int64.toInt_inj.mp
  rw [Int32.toInt_toInt64]
  unfold lN natN
  rw [Int64.toInt_ofNat_of_lt (by omega)]
  omega
theorem nat_neg {x : Int32} (h : ¬ 0 ≤ x) : -x.toInt64 = lN (natN x) := by
  have h0 : ¬ (0 : Int) ≤ x.toInt := fun z => h (Int32.le_iff_toInt_le.mpr z)
  have h2 := x.le_toInt
  apply Int64.toInt_inj.mp
  rw [Int64.toInt_neg, Int32.toInt_toInt64]
  unfold lN natN
  rw [Int64.toInt_ofNat_of_lt (by omega), Int.bmod_eq_of_le (by omega) (by omega)]
  omega
theorem sgn64 {x : Int32} : (0 ≤ lg_cmp x.toInt64 0) ↔ 0 ≤ x := by
  have := lgge (x := x.toInt64) (y := 0)
  have h1 : (0 ≤ lg_cmp x.toInt64 0) ↔ (0 : Int64) ≤ x.toInt64 := by
    rw [← this]
    exact Iff.rfl
  rw [h1, Int64.le_iff_toInt_le, Int32.le_iff_toInt_le, Int32.toInt_toInt64]
  exact Iff.rfl
theorem e323i {x : Int32} (hn : 1000 ≤ n) (hL : L ≠ []) (h : OC c L) : wp (d_323 n 1 x.toInt64 c) (fun d => OC d (puts L (nt x)) ∧ sx qO c d) := by
  unfold d_323
  refine wpf (by decide) ?_
  by_cases e : 0 ≤ x
  · refine wpj (wpt (sgn64.mpr e) (wpc (e317 (b := 32) (by decide) h) (fun d hd => wpj (wpt (sgn64.mpr e) ?_))))
    rw [nat_pos e]
    refine wpc (e319 hn (natN_lt x) hd.1) (fun y hy => ⟨?_, sx_trans hd.2 hy.2⟩)
    unfold nt
    rw [if_pos e, puts_1, put_is hL]
    exact hy.1
  · refine wpj (wpf (fun z => e (sgn64.mp z)) (wpc (e322 (b := 45) (by decide) h) (fun d0 hd0 => wpc (e317 (b := 32) (by decide) hd0.1) (fun d hd => wpj (wpf (fun z => e (sgn64.mp z)) ?_)))))
    rw [nat_neg e]
    refine wpc (e319 hn (natN_lt x) hd.1) (fun y hy => ⟨?_, sx_trans hd0.2 (sx_trans hd.2 hy.2)⟩)
    unfold nt
    rw [if_neg e, show ([[45], dgk (natN x) (nd (natN x))] : List (List Nat)) = [[45]] ++ [dgk (natN x) (nd (natN x))] from rfl, puts_app, puts_1, puts_1, put_is (L := put L [45]) (put_ne (Or.inl hL))]
    exact hy.1
theorem e323t (hn : 1000 ≤ n) (h : OC c L) : wp (d_323 n 2 v c) (fun d => OC d (put L ([39] ++ sg v ++ [39])) ∧ sx qO c d) := by
  unfold d_323
  refine wpt rfl (wpc (e322 (b := 39) (by decide) h) (fun d1 h1 => wpc (e318 hn h1.1) (fun d2 h2 => wpc (e317 (b := 39) (by decide) h2.1) (fun d3 h3 => ⟨?_, sx_trans h1.2 (sx_trans h2.2 h3.2)⟩))))
  have : put L ([39] ++ sg v ++ [39]) = put L [39] ++ sg v ++ [39] := by
    unfold put
    simp only [List.append_assoc]
  rw [this]
  exact h3.1
end CL
/-! the reference -/
def pG (a i : Nat) : Bool := decide ((a = 174 ∧ (i = 4 ∨ i = 5)) ∨ a = 176)
theorem nP_pG : nP pG := by
  refine ⟨fun a i h => ?_, fun i h => ?_, fun i h => ?_, fun a i h1 h2 h3 => ?_, fun a i h1 h2 h3 => ?_⟩
  · have := PA_of h
    exact decide_eq_false (by omega)
  · have := PF_of h
    exact decide_eq_false (by omega)
  · exact decide_eq_false (by omega)
  · exact decide_eq_false (by omega)
  · exact decide_eq_false (by omega)
theorem pO_G {x y : cS} (h : sx pO x y) : sx pG x y := sx_wide h (fun a i z => by
  have := of_decide_eq_false z
  exact pO_no (by omega))
def OG (u : cS) (L : List Nat) : Prop := OM u L ∧ u.1 174 5 = if L = [] then nI 0 else nI 1
section RF
variable {n b j : Nat} {v : Int64} {u : cS} {L : List Nat}
theorem OG_of (h : OM u L) (h1 : u.1 174 5 = nI 1) (hL : L ≠ []) : OG u L := ⟨h, by rw [if_neg hL]; exact h1⟩
theorem OM_cg {u w : cS} (h : OM u L) (h1 : w.1 174 4 = u.1 174 4) (h2 : ∀ i, w.1 176 i = u.1 176 i) : OM w L := ⟨h1.trans h.1, fun i a b => (h2 i).trans (h.2 i a b)⟩
theorem e361 (h : OG u L) : wp (d_361 n u) (fun d => OM d (L ++ gp L) ∧ d.1 174 5 = nI 1 ∧ sx pG u d) := by
  unfold d_361
  have fin : ∀ y, OM y (L ++ gp L) → sx pG u y → OM (pI y 174 5 1) (L ++ gp L) ∧ (pI y 174 5 1).1 174 5 = nI 1 ∧ sx pG u (pI y 174 5 1) := by
    intro y h1 h2
    refine ⟨OM_cg h1 (by rw [rI, if_neg (by omega)]) (fun i => by rw [rI, if_neg (by omega)]), ?_, sx_pI h2 rfl⟩
    rw [rI, if_pos ⟨rfl, rfl⟩]
    rfl
  by_cases e : L = []
  · have h5 := h.2
    rw [if_pos e] at h5
    refine wpj (wpt h5 (wpl (fin u ?_ sx_rfl)))
    subst e
    exact h.1
  · have h5 := h.2
    rw [if_neg e] at h5
    refine wpj (wpf (by rw [h5]; decide) (wpc (e357 (b := 32) (by decide) h.1) (fun d hd => wpl (fin d ?_ (pO_G hd.2)))))
    unfold gp
    rw [if_neg e]
    exact hd.1
theorem wb_take {k : Nat} (hk : k < (sB j).length) : (wb j).take (k + 1) = (wb j).take k ++ [chr j k] := by
  have hg : (wb j)[k]? = some (chr j k) := by
    unfold wb chr
    rw [List.getElem?_map, List.getD_eq_getElem?_getD, List.getElem?_eq_getElem hk]
    rfl
  rw [List.take_add_one, hg]
  rfl
theorem e362 (hn : 2000 ≤ n) (ha : asc j = true) (hl : (sB j).length < 1000) (hL : L ≠ [] ∨ wb j ≠ []) (h : OG u L) : wp (d_362 n j u) (fun d => OG d (put L (wb j)) ∧ sx pG u d) := by
  unfold d_362
  refine wpc (e361 h) (fun d0 hd0 => ?_)
  obtain ⟨d1, d2, d3⟩ := hd0
  refine wpc (K' := fun d : cS => OM d (L ++ gp L ++ wb j) ∧ sx pO d0 d) (whl_cnt (fun k (st : Int32 × cS) => st.1 = nI k ∧ OM st.2 (L ++ gp L ++ (wb j).take k) ∧ sx pO d0 st.2) (sB j).length ?_ ?_ (by omega) ⟨rfl, ?_, sx_rfl⟩) ?_
  · rintro k ⟨a, w⟩ hk ⟨g1, g2, g3⟩
    dsimp only at g1 g2 g3
    subst g1
    dsimp only
    have hc := (asc_at ha hk).2
    refine wpe (e145 hl) (wpf (by simp (disch := first | omega | decide) only [↓neg1, nlit, rI, rL, rI2, rL1, nI_add, pk_mul, sbT, dvT, nmd, ixT, ↓ibT, ltT, ltF, leT, leF, eqT, eqF, nM_ltT, nM_ltF, nM_leT, nM_leF, nM_eqF, nM_eqF', nbT0, nbT1, oI_s, oI_n, natF, natT, nltT, nltF, nleT, nleF, ↓reduceIte, lgc, not_true_eq_false, not_false_eq_true, or_false, false_or, or_true, true_or, and_true, true_and, and_false, false_and, ne_eq, eq_self, or_self, and_self]) (wpe (e146 ha hl hk) (wpc (e357 (by omega) g2) (fun d hd => wpl ⟨nI_1 _, ?_, sx_trans g3 hd.2⟩))))
    dsimp only
    rw [wb_take hk, ← List.append_assoc]
    exact hd.1
  · rintro ⟨a, w⟩ ⟨g1, g2, g3⟩
    dsimp only at g1 g2 g3
    subst g1
    dsimp only
    refine wpe (e145 hl) (wpt (by simp (disch := first | omega | decide) only [↓neg1, nlit, rI, rL, rI2, rL1, nI_add, pk_mul, sbT, dvT, nmd, ixT, ↓ibT, ltT, ltF, leT, leF, eqT, eqF, nM_ltT, nM_ltF, nM_leT, nM_leF, nM_eqF, nM_eqF', nbT0, nbT1, oI_s, oI_n, natF, natT, nltT, nltF, nleT, nleF, ↓reduceIte, lgc, not_true_eq_false, not_false_eq_true, or_false, false_or, or_true, true_or, and_true, true_and, and_false, false_and, ne_eq, eq_self, or_self, and_self]) ⟨?_, g3⟩)
    rw [List.take_of_length_le (by unfold wb; rw [List.length_map]; omega)] at g2
    exact g2
  · dsimp only
    rw [List.take_zero, List.append_nil]
    exact d1
  · rintro d ⟨p1, p2⟩
    have hp : put L (wb j) = L ++ gp L ++ wb j := by
      unfold put
      rw [List.append_assoc]
    refine ⟨?_, sx_trans d3 (pO_G p2)⟩
    refine OG_of (by rw [hp]; exact p1) ((p2.1 174 5 rfl).trans d2) (put_ne hL)
theorem e363 (hn : 1000 ≤ n) (hL : L ≠ []) (h : OG u L) : wp (d_363 n v u) (fun d => OG d (put L (sg v)) ∧ sx pG u d) := by
  unfold d_363
  refine wpc (e361 h) (fun d0 hd0 => wpc (e358 hn hd0.1) (fun d hd => ⟨?_, sx_trans hd0.2.2 (pO_G hd.2)⟩))
  have hp : put L (sg v) = L ++ gp L ++ sg v := by
    unfold put
    rw [List.append_assoc]
  exact OG_of (by rw [hp]; exact hd.1) ((hd.2.1 174 5 rfl).trans hd0.2.1) (put_ne (Or.inl hL))
theorem e364 {N : Nat} (hn : 1000 ≤ n) (hN : N < 10 ^ 10) (hL : L ≠ []) (h : OG u L) : wp (d_364 n (lN N) u) (fun d => OG d (put L (dgk N (nd N))) ∧ sx pG u d) := by
  unfold d_364
  refine wpc (e361 h) (fun d0 hd0 => wpc (e360 hn hN hd0.1) (fun d hd => ⟨?_, sx_trans hd0.2.2 (pO_G hd.2)⟩))
  have hp : put L (dgk N (nd N)) = L ++ gp L ++ dgk N (nd N) := by
    unfold put
    rw [List.append_assoc]
  exact OG_of (by rw [hp]; exact hd.1) ((hd.2.1 174 5 rfl).trans hd0.2.1) (put_ne (Or.inl hL))
theorem wb48 : wb 48 = [45] ∧ asc 48 = true ∧ (sB 48).length < 1000 := by decide +kernel
theorem e365 {x : Int32} (hn : 2000 ≤ n) (hL : L ≠ []) (h : OG u L) : wp (d_365 n x u) (fun d => OG d (puts L (nt x)) ∧ sx pG u d) := by
  unfold d_365
  by_cases e : 0 ≤ x
  · refine wpj (wpt e (wpj (wpt e ?_)))
    rw [nat_pos e]
    refine wpc (e364 (by omega) (natN_lt x) hL h) (fun d hd => ?_)
    unfold nt
    rw [if_pos e]
    exact hd
  · refine wpj (wpf e (wpc (e362 hn wb48.2.1 wb48.2.2 (Or.inl hL) h) (fun d0 hd0 => wpj (wpf e ?_))))
    rw [nat_neg e]
    refine wpc (e364 (by omega) (natN_lt x) (put_ne (Or.inl hL)) hd0.1) (fun d hd => ⟨?_, sx_trans hd0.2 hd.2⟩)
    unfold nt
    rw [if_neg e, show ([[45], dgk (natN x) (nd (natN x))] : List (List Nat)) = [[45]] ++ [dgk (natN x) (nd (natN x))] from rfl, puts_app, puts_1, puts_1, ← wb48.1]
    exact hd.1
end RF
/-! the texts that are written -/
def txOk (j : Nat) : Bool := asc j && decide ((sB j).length < 1000) && decide (wb j ≠ [])
theorem tx_all : ∀ j : Fin 58, 2 ≤ j.1 → txOk j.1 = true := by decide +kernel
theorem e362w {n j : Nat} {u : cS} {L : List Nat} (hn : 2000 ≤ n) (hj : j < 58) (h2 : 2 ≤ j) (h : OG u L) : wp (d_362 n j u) (fun d => OG d (put L (wb j)) ∧ sx pG u d) := by
  have := tx_all ⟨j, hj⟩ h2
  unfold txOk at this
  rw [Bool.and_eq_true, Bool.and_eq_true, decide_eq_true_iff, decide_eq_true_iff] at this
  exact e362 hn this.1.1 this.1.2 (Or.inr this.2) h
