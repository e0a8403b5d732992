/-! CLASSES told; the call tell -/
def fiT (m : cS) (k : Nat) : Nat → List (List Nat)
  | 0 => []
  | j + 1 => fiT m k j ++ ([wb 5] ++ ([sg (m.2 204 (8 * k + j))] ++ (rwT m (100 * k + 1 + j) (mz m (100 * k + 1 + j)) ++ ((if m.1 205 (8 * k + j) = 0 then [] else [[61]] ++ nt (m.1 205 (8 * k + j))) ++ [[59]]))))
def paT (m : cS) (k j : Nat) : Nat → List (List Nat)
  | 0 => []
  | r + 1 => paT m k j r ++ ((if r = 0 then [] else [[44]]) ++ ([sg (m.2 209 (8 * (8 * k + j) + r))] ++ rwT m (100 * k + 20 + 10 * j + 1 + r) (mz m (100 * k + 20 + 10 * j + 1 + r))))
def acT (m : cS) (M : Nat) : Nat → List (List Nat)
  | 0 => []
  | i + 1 => acT m M i ++ (preT m (40 * M + i) none ++ ([wb (2 + opn m (40 * M + i))] ++ opT m M (40 * M + i) ++ lbK m M (40 * M + i) none ++ [[59]]))
def mhT (m : cS) (k j : Nat) : List (List Nat) := [wb 6] ++ ([sg (m.2 206 (8 * k + j))] ++ ([[40]] ++ (paT m k j (pM m (8 * k + j)) ++ ([[41]] ++ (rwT m (100 * k + 20 + 10 * j) (mz m (100 * k + 20 + 10 * j)) ++ [[123]])))))
def mtT (m : cS) (k : Nat) : Nat → List (List Nat)
  | 0 => []
  | j + 1 => mtT m k j ++ (mhT m k j ++ (acT m (8 * k + j) (acn m (8 * k + j)) ++ [[125]]))
def chT (m : cS) (k : Nat) : List (List Nat) := [wb 4] ++ ([sg (m.2 200 k)] ++ ((if m.1 201 k < 0 then [] else [[58], sg (m.2 200 (ix (m.1 201 k)))]) ++ (rwT m (100 * k) (mz m (100 * k)) ++ ([[123]] ++ fiT m k (fM m k)))))
def clT (m : cS) (k : Nat) : List (List Nat) := chT m k ++ (mtT m k (qM m k) ++ [[125]])
theorem isP_c0 {m : cS} {k : Nat} (hk : k < ccn m) : isP m (100 * k) 0 := by
  unfold isP srt
  rw [if_neg (by omega), if_pos (by omega)]
theorem par_cs {c m : cS} {k : Nat} (hC : CCS c m) (hk : k < ccn m) : (m.1 201 k < 0 ∧ m.1 201 k = nM) ∨ (¬ m.1 201 k < 0 ∧ ∃ d, d < ccn m ∧ m.1 201 k = nI d) := by
  have hcc := (CCS_p hC).1
  rcases (hC.2.2.1 k hk).2.2 with h | ⟨d, h1, h2⟩
  · rw [h]
    exact Or.inl ⟨by decide, rfl⟩
  · rw [h2]
    exact Or.inr ⟨by simp (disch := first | omega | decide) only [↓neg1, nlit, rI, rL, rI2, rL1, nI_add, pk_mul, sbT, dvT, nmd, ixT, ↓ibT, ltT, ltF, leT, leF, eqT, eqF, nM_ltT, nM_ltF, nM_leT, nM_leF, nM_eqF, nM_eqF', nbT0, nbT1, oI_s, oI_n, natF, natT, nltT, nltF, nleT, nleF, ↓reduceIte, lgc, not_true_eq_false, not_false_eq_true, or_false, false_or, or_true, true_or, and_true, true_and, and_false, false_and, ne_eq, eq_self, or_self, and_self], d, by omega, rfl⟩
section TC
variable {n k : Nat} {c m u : cS} {L : List Nat}
theorem e328 (hn : 1000 ≤ n) (hW : WT c) (hE : EC c m) (hk : k < ccn m) (h : OC c L) : wp (d_328 n (nI k) c) (fun d => OC d (puts L (chT m k)) ∧ sx qO c d) := by
  have hC := hE.2.2.1
  have hcc := (CCS_p hC).1
  have CA' : ∀ {d : cS}, sx qO c d → CA c d := fun h => CA_sx h nC_qO
  have W' : ∀ {d : cS}, sx qO c d → WT d := fun h => WT_sx hW h (fun i => qO_no (by omega))
  have hff := hC.1.2.2.2.1 k hk
  have row : ∀ {d : cS} {p s : Nat} {L : List Nat}, sx qO c d → isP m p s → OC d L → wp (d_330 n (nI p) d) (fun e => OC e (puts L (rwT m p (mz m p))) ∧ sx qO c e) := fun hs hp ho => wp_mono (e330 hn (W' hs) (EC_CA (CA' hs) hE) (RT_P (RP_CA (CA' hs) (hE.2.2.2 _ _ hp)) (EC_row hE hp).1) ho) (fun e he => ⟨he.1, sx_trans hs he.2⟩)
  unfold chT
  rw [puts_app, puts_1, puts_app, puts_1, puts_app, puts_app, puts_app, puts_1]
  unfold d_328
  refine wpc (e321 (i := 2) hn hW (by decide) h) (fun d1 h1 => wpt (by simp (disch := first | omega | decide) only [↓neg1, nlit, rI, rL, rI2, rL1, nI_add, pk_mul, sbT, dvT, nmd, ixT, ↓ibT, ltT, ltF, leT, leF, eqT, eqF, nM_ltT, nM_ltF, nM_leT, nM_leF, nM_eqF, nM_eqF', nbT0, nbT1, oI_s, oI_n, natF, natT, nltT, nltF, nleT, nleF, ↓reduceIte, lgc, not_true_eq_false, not_false_eq_true, or_false, false_or, or_true, true_or, and_true, true_and, and_false, false_and, ne_eq, eq_self, or_self, and_self]) ?_)
  try rw [ix_n (by omega)]
  rw [CA_r (CA' h1.2) (a := 12) (by omega) (by omega) (by omega), (hC.2.2.1 k hk).1]
  refine wpc (e320 hn h1.1) (fun d2 h2 => wpt (by simp (disch := first | omega | decide) only [↓neg1, nlit, rI, rL, rI2, rL1, nI_add, pk_mul, sbT, dvT, nmd, ixT, ↓ibT, ltT, ltF, leT, leF, eqT, eqF, nM_ltT, nM_ltF, nM_leT, nM_leF, nM_eqF, nM_eqF', nbT0, nbT1, oI_s, oI_n, natF, natT, nltT, nltF, nleT, nleF, ↓reduceIte, lgc, not_true_eq_false, not_false_eq_true, or_false, false_or, or_true, true_or, and_true, true_and, and_false, false_and, ne_eq, eq_self, or_self, and_self]) ?_)
  have s2 := sx_trans h1.2 h2.2
  have hO2 := h2.1
  generalize put (put L (wb 4)) (sg (m.2 200 k)) = L2 at *
  rw [CA_l (CA' s2) (a := 13) (by omega) (by omega) (by omega), (hC.2.2.1 k hk).2.1]
  refine wpjQ (fun z : cS => OC z (puts L2 (if m.1 201 k < 0 then [] else [[58], sg (m.2 200 (ix (m.1 201 k)))])) ∧ sx qO c z) ?_ ?_
  · rintro z ⟨z1, z2⟩
    generalize puts L2 (if m.1 201 k < 0 then [] else [[58], sg (m.2 200 (ix (m.1 201 k)))]) = L3 at *
    rw [show (100 : Int32) * nI k = nI (100 * k) by rw [show (100 : Int32) = nI 100 from rfl, pk_mul]]
    refine wpc (row z2 (isP_c0 hk) z1) (fun d3 h3 => wpc (e322 (b := 123) (by decide) h3.1) (fun d4 h4 => ?_))
    have s4 := sx_trans h3.2 h4.2
    have hO4 := h4.1
    generalize put (puts L3 (rwT m (100 * k) (mz m (100 * k)))) [123] = L4 at *
    refine wpc (K' := fun d : cS => OC d (puts L4 (fiT m k (fM m k))) ∧ sx qO c d) (whl_cnt (fun j (st : Int32 × cS) => st.1 = nI j ∧ OC st.2 (puts L4 (fiT m k j)) ∧ sx qO c st.2) (fM m k) ?_ ?_ (by omega) ⟨rfl, hO4, s4⟩) (fun d hd => hd)
    · rintro j ⟨j0, w⟩ hj ⟨g1, g2, g3⟩
      dsimp only at g1 g2 g3
      subst g1
      dsimp only
      refine wpt (by simp (disch := first | omega | decide) only [↓neg1, nlit, rI, rL, rI2, rL1, nI_add, pk_mul, sbT, dvT, nmd, ixT, ↓ibT, ltT, ltF, leT, leF, eqT, eqF, nM_ltT, nM_ltF, nM_leT, nM_leF, nM_eqF, nM_eqF', nbT0, nbT1, oI_s, oI_n, natF, natT, nltT, nltF, nleT, nleF, ↓reduceIte, lgc, not_true_eq_false, not_false_eq_true, or_false, false_or, or_true, true_or, and_true, true_and, and_false, false_and, ne_eq, eq_self, or_self, and_self]) ?_
      rw [CA_l (CA' g3) (a := 14) (by omega) (by omega) (by omega), hff.2.1]
      refine wpf (by simp (disch := first | omega | decide) only [↓neg1, nlit, rI, rL, rI2, rL1, nI_add, pk_mul, sbT, dvT, nmd, ixT, ↓ibT, ltT, ltF, leT, leF, eqT, eqF, nM_ltT, nM_ltF, nM_leT, nM_leF, nM_eqF, nM_eqF', nbT0, nbT1, oI_s, oI_n, natF, natT, nltT, nltF, nleT, nleF, ↓reduceIte, lgc, not_true_eq_false, not_false_eq_true, or_false, false_or, or_true, true_or, and_true, true_and, and_false, false_and, ne_eq, eq_self, or_self, and_self]) (wpc (e321 (i := 3) hn (W' g3) (by decide) g2) (fun y1 f1 => ?_))
      have t1 := sx_trans g3 f1.2
      rw [show nI k * 8 + nI j = nI (k * 8 + j) by rw [show (8 : Int32) = nI 8 from rfl, pk_mul, nI_add]]
      refine wpt (by simp (disch := first | omega | decide) only [↓neg1, nlit, rI, rL, rI2, rL1, nI_add, pk_mul, sbT, dvT, nmd, ixT, ↓ibT, ltT, ltF, leT, leF, eqT, eqF, nM_ltT, nM_ltF, nM_leT, nM_leF, nM_eqF, nM_eqF', nbT0, nbT1, oI_s, oI_n, natF, natT, nltT, nltF, nleT, nleF, ↓reduceIte, lgc, not_true_eq_false, not_false_eq_true, or_false, false_or, or_true, true_or, and_true, true_and, and_false, false_and, ne_eq, eq_self, or_self, and_self]) ?_
      try rw [ix_n (by omega)]
      rw [CA_r (CA' t1) (a := 15) (by omega) (by omega) (by omega), (hC.2.2.2.1 k j hk hj).1]
      refine wpc (e320 hn f1.1) (fun y2 f2 => ?_)
      have t2 := sx_trans t1 f2.2
      rw [show nI (100 * k) + 1 + nI j = nI (100 * k + 1 + j) by rw [show (1 : Int32) = nI 1 from rfl, nI_add, nI_add]]
      refine wpc (row t2 (place_f hC hk hj) f2.1) (fun y3 f3 => wpt (by simp (disch := first | omega | decide) only [↓neg1, nlit, rI, rL, rI2, rL1, nI_add, pk_mul, sbT, dvT, nmd, ixT, ↓ibT, ltT, ltF, leT, leF, eqT, eqF, nM_ltT, nM_ltF, nM_leT, nM_leF, nM_eqF, nM_eqF', nbT0, nbT1, oI_s, oI_n, natF, natT, nltT, nltF, nleT, nleF, ↓reduceIte, lgc, not_true_eq_false, not_false_eq_true, or_false, false_or, or_true, true_or, and_true, true_and, and_false, false_and, ne_eq, eq_self, or_self, and_self]) ?_)
      rw [CA_l (CA' f3.2) (a := 16) (by omega) (by omega) (by omega), (hC.2.2.2.1 k j hk hj).2]
      refine wpl ?_
      have hfi : fiT m k (j + 1) = fiT m k j ++ ([wb 5] ++ ([sg (m.2 204 (8 * k + j))] ++ (rwT m (100 * k + 1 + j) (mz m (100 * k + 1 + j)) ++ ((if m.1 205 (8 * k + j) = 0 then [] else [[61]] ++ nt (m.1 205 (8 * k + j))) ++ [[59]])))) := rfl
      have f31 := f3.1
      refine wpjQ (fun z : cS => OC z (puts (puts (put (put (puts L4 (fiT m k j)) (wb 5)) (sg (m.2 204 (8 * k + j)))) (rwT m (100 * k + 1 + j) (mz m (100 * k + 1 + j)))) (if m.1 205 (8 * k + j) = 0 then [] else [[61]] ++ nt (m.1 205 (8 * k + j)))) ∧ sx qO c z) (fun z hz => wpc (e322 (b := 59) (by decide) hz.1) (fun d hd => wpl ⟨nI_1 _, ?_, sx_trans hz.2 hd.2⟩)) ?_
      · dsimp only
        rw [hfi, puts_app, puts_app, puts_1, puts_app, puts_1, puts_app, puts_app, puts_1]
        exact hd.1
      · intro Q' k' hk'
        by_cases e : m.1 205 (8 * k + j) = 0
        · rw [if_pos e] at hk'
          exact wpt e (hk' y3 ⟨f31, f3.2⟩)
        · rw [if_neg e, puts_app, puts_1] at hk'
          exact wpf e (wpc (e322 (b := 61) (by decide) f31) (fun y4 f4 => wpc (e323i hn (put_ne (Or.inr (by simp))) f4.1) (fun y5 f5 => hk' y5 ⟨f5.1, sx_trans f3.2 (sx_trans f4.2 f5.2)⟩)))
    · rintro ⟨j0, w⟩ ⟨g1, g2, g3⟩
      dsimp only at g1 g2 g3
      subst g1
      dsimp only
      refine wpt (by simp (disch := first | omega | decide) only [↓neg1, nlit, rI, rL, rI2, rL1, nI_add, pk_mul, sbT, dvT, nmd, ixT, ↓ibT, ltT, ltF, leT, leF, eqT, eqF, nM_ltT, nM_ltF, nM_leT, nM_leF, nM_eqF, nM_eqF', nbT0, nbT1, oI_s, oI_n, natF, natT, nltT, nltF, nleT, nleF, ↓reduceIte, lgc, not_true_eq_false, not_false_eq_true, or_false, false_or, or_true, true_or, and_true, true_and, and_false, false_and, ne_eq, eq_self, or_self, and_self]) ?_
      rw [CA_l (CA' g3) (a := 14) (by omega) (by omega) (by omega), hff.2.1]
      exact wpt (by simp (disch := first | omega | decide) only [↓neg1, nlit, rI, rL, rI2, rL1, nI_add, pk_mul, sbT, dvT, nmd, ixT, ↓ibT, ltT, ltF, leT, leF, eqT, eqF, nM_ltT, nM_ltF, nM_leT, nM_leF, nM_eqF, nM_eqF', nbT0, nbT1, oI_s, oI_n, natF, natT, nltT, nltF, nleT, nleF, ↓reduceIte, lgc, not_true_eq_false, not_false_eq_true, or_false, false_or, or_true, true_or, and_true, true_and, and_false, false_and, ne_eq, eq_self, or_self, and_self]) ⟨g2, g3⟩
  · intro Q' k' hk'
    rcases par_cs hC hk with ⟨p1, p2⟩ | ⟨p1, d, p2, p3⟩
    · rw [if_pos p1] at hk'
      exact wpt p1 (hk' d2 ⟨hO2, s2⟩)
    · rw [if_neg p1] at hk'
      refine wpf p1 (wpc (e322 (b := 58) (by decide) hO2) (fun y1 f1 => wpt (by simp (disch := first | omega | decide) only [↓neg1, nlit, rI, rL, rI2, rL1, nI_add, pk_mul, sbT, dvT, nmd, ixT, ↓ibT, ltT, ltF, leT, leF, eqT, eqF, nM_ltT, nM_ltF, nM_leT, nM_leF, nM_eqF, nM_eqF', nbT0, nbT1, oI_s, oI_n, natF, natT, nltT, nltF, nleT, nleF, ↓reduceIte, lgc, not_true_eq_false, not_false_eq_true, or_false, false_or, or_true, true_or, and_true, true_and, and_false, false_and, ne_eq, eq_self, or_self, and_self]) ?_))
      have t1 := sx_trans s2 f1.2
      rw [CA_l (CA' t1) (a := 13) (by omega) (by omega) (by omega), (hC.2.2.1 k hk).2.1, p3]
      rw [p3] at hk'
      refine wpt (by simp (disch := first | omega | decide) only [↓neg1, nlit, rI, rL, rI2, rL1, nI_add, pk_mul, sbT, dvT, nmd, ixT, ↓ibT, ltT, ltF, leT, leF, eqT, eqF, nM_ltT, nM_ltF, nM_leT, nM_leF, nM_eqF, nM_eqF', nbT0, nbT1, oI_s, oI_n, natF, natT, nltT, nltF, nleT, nleF, ↓reduceIte, lgc, not_true_eq_false, not_false_eq_true, or_false, false_or, or_true, true_or, and_true, true_and, and_false, false_and, ne_eq, eq_self, or_self, and_self]) ?_
      try rw [ix_n (by omega)]
      rw [CA_r (CA' t1) (a := 12) (by omega) (by omega) (by omega), (hC.2.2.1 d p2).1]
      rw [ix_n (by omega)] at hk'
      exact wpc (e320 hn f1.1) (fun y2 f2 => hk' y2 ⟨f2.1, sx_trans t1 f2.2⟩)
theorem e329 {j : Nat} (hn : 1000 ≤ n) (hW : WT c) (hG : PG c m) (hk : k < ccn m) (hj : j < qM m k) (h : OC c L) : wp (d_329 n (nI (8 * k + j)) c) (fun d => OC d (puts L (mhT m k j)) ∧ sx qO c d) := by
  have hE := hG.1
  have hC := hE.2.2.1
  have hcc := (CCS_p hC).1
  have hqq := (hC.1.2.2.2.2.1 k hk).1
  have hpp := hC.1.2.2.2.2.2 k j hk hj
  have hM : isMt m (8 * k + j) := ⟨by rw [show (8 * k + j) / 8 = k by omega]; exact hk, by rw [show (8 * k + j) / 8 = k by omega, show (8 * k + j) % 8 = j by omega]; exact hj⟩
  have hmt := (hG.2.2.2.1 _ hM).1
  have hlc := hmt.2.2.2.1
  have CA' : ∀ {d : cS}, sx qO c d → CA c d := fun h => CA_sx h nC_qO
  have W' : ∀ {d : cS}, sx qO c d → WT d := fun h => WT_sx hW h (fun i => qO_no (by omega))
  have row : ∀ {d : cS} {p s : Nat} {L : List Nat}, sx qO c d → isP m p s → OC d L → wp (d_330 n (nI p) d) (fun e => OC e (puts L (rwT m p (mz m p))) ∧ sx qO c e) := fun hs hp ho => wp_mono (e330 hn (W' hs) (EC_CA (CA' hs) hE) (RT_P (RP_CA (CA' hs) (hE.2.2.2 _ _ hp)) (EC_row hE hp).1) ho) (fun e he => ⟨he.1, sx_trans hs he.2⟩)
  have h156 : d_156 n (nI (8 * k + j)) = some (nI (100 * k + 20 + 10 * j)) := by
    have := e156 (n := n) (k := k) (j := j) (by omega) (by omega)
    rwa [show k * 8 + j = 8 * k + j by omega] at this
  unfold mhT
  rw [puts_app, puts_1, puts_app, puts_1, puts_app, puts_1, puts_app, puts_app, puts_1, puts_app, puts_1]
  unfold d_329
  refine wpc (e321 (i := 4) hn hW (by decide) h) (fun d1 h1 => wpt (by simp (disch := first | omega | decide) only [↓neg1, nlit, rI, rL, rI2, rL1, nI_add, pk_mul, sbT, dvT, nmd, ixT, ↓ibT, ltT, ltF, leT, leF, eqT, eqF, nM_ltT, nM_ltF, nM_leT, nM_leF, nM_eqF, nM_eqF', nbT0, nbT1, oI_s, oI_n, natF, natT, nltT, nltF, nleT, nleF, ↓reduceIte, lgc, not_true_eq_false, not_false_eq_true, or_false, false_or, or_true, true_or, and_true, true_and, and_false, false_and, ne_eq, eq_self, or_self, and_self]) ?_)
  have h115 := hC.2.2.2.2 k j hk hj
  rw [show k * 8 + j = 8 * k + j by omega] at h115
  try rw [ix_n (by omega)]
  rw [CA_r (CA' h1.2) (a := 115) (by omega) (by omega) (by omega), h115]
  refine wpc (e320 hn h1.1) (fun d2 h2 => wpc (e322 (b := 40) (by decide) h2.1) (fun d3 h3 => ?_))
  have s3 := sx_trans h1.2 (sx_trans h2.2 h3.2)
  have hO3 := h3.1
  generalize put (put (put L (wb 6)) (sg (m.2 206 (8 * k + j)))) [40] = L3 at *
  refine wpc (K' := fun d : cS => OC d (puts L3 (paT m k j (pM m (8 * k + j)))) ∧ sx qO c d) (whl_cnt (fun r (st : Int32 × cS) => st.1 = nI r ∧ OC st.2 (puts L3 (paT m k j r)) ∧ sx qO c st.2) (pM m (8 * k + j)) ?_ ?_ (by omega) ⟨rfl, hO3, s3⟩) ?_
  · rintro r ⟨r0, w⟩ hr ⟨g1, g2, g3⟩
    dsimp only at g1 g2 g3
    subst g1
    dsimp only
    refine wpt (by simp (disch := first | omega | decide) only [↓neg1, nlit, rI, rL, rI2, rL1, nI_add, pk_mul, sbT, dvT, nmd, ixT, ↓ibT, ltT, ltF, leT, leF, eqT, eqF, nM_ltT, nM_ltF, nM_leT, nM_leF, nM_eqF, nM_eqF', nbT0, nbT1, oI_s, oI_n, natF, natT, nltT, nltF, nleT, nleF, ↓reduceIte, lgc, not_true_eq_false, not_false_eq_true, or_false, false_or, or_true, true_or, and_true, true_and, and_false, false_and, ne_eq, eq_self, or_self, and_self]) ?_
    rw [CA_l (CA' g3) (a := 116) (by omega) (by omega) (by omega), hpp.2.1]
    refine wpf (by simp (disch := first | omega | decide) only [↓neg1, nlit, rI, rL, rI2, rL1, nI_add, pk_mul, sbT, dvT, nmd, ixT, ↓ibT, ltT, ltF, leT, leF, eqT, eqF, nM_ltT, nM_ltF, nM_leT, nM_leF, nM_eqF, nM_eqF', nbT0, nbT1, oI_s, oI_n, natF, natT, nltT, nltF, nleT, nleF, ↓reduceIte, lgc, not_true_eq_false, not_false_eq_true, or_false, false_or, or_true, true_or, and_true, true_and, and_false, false_and, ne_eq, eq_self, or_self, and_self]) ?_
    have hpa : paT m k j (r + 1) = paT m k j r ++ ((if r = 0 then [] else [[44]]) ++ ([sg (m.2 209 (8 * (8 * k + j) + r))] ++ rwT m (100 * k + 20 + 10 * j + 1 + r) (mz m (100 * k + 20 + 10 * j + 1 + r)))) := rfl
    refine wpjQ (fun z : cS => OC z (puts (puts L3 (paT m k j r)) (if r = 0 then [] else [[44]])) ∧ sx qO c z) ?_ ?_
    · rintro z ⟨z1, z2⟩
      rw [show nI (8 * k + j) * 8 + nI r = nI ((8 * k + j) * 8 + r) by rw [show (8 : Int32) = nI 8 from rfl, pk_mul, nI_add]]
      refine wpt (by simp (disch := first | omega | decide) only [↓neg1, nlit, rI, rL, rI2, rL1, nI_add, pk_mul, sbT, dvT, nmd, ixT, ↓ibT, ltT, ltF, leT, leF, eqT, eqF, nM_ltT, nM_ltF, nM_leT, nM_leF, nM_eqF, nM_eqF', nbT0, nbT1, oI_s, oI_n, natF, natT, nltT, nltF, nleT, nleF, ↓reduceIte, lgc, not_true_eq_false, not_false_eq_true, or_false, false_or, or_true, true_or, and_true, true_and, and_false, false_and, ne_eq, eq_self, or_self, and_self]) ?_
      try rw [ix_n (by omega)]
      rw [CA_r (CA' z2) (a := 118) (by omega) (by omega) (by omega), hmt.2.2.2.2.2.2.1 r (by omega)]
      refine wpc (e320 hn z1) (fun y2 f2 => wpe h156 ?_)
      have t2 := sx_trans z2 f2.2
      rw [show nI (100 * k + 20 + 10 * j) + 1 + nI r = nI (100 * k + 20 + 10 * j + 1 + r) by rw [show (1 : Int32) = nI 1 from rfl, nI_add, nI_add]]
      refine wpc (row t2 (place_p hC hk hj hr) f2.1) (fun y3 f3 => wpl ⟨nI_1 _, ?_, f3.2⟩)
      dsimp only
      rw [hpa, puts_app, puts_app, puts_app, puts_1]
      exact f3.1
    · intro Q' k' hk'
      by_cases e : r = 0
      · rw [if_pos e] at hk'
        exact wpt (by rw [e]; decide) (hk' w ⟨g2, g3⟩)
      · rw [if_neg e, puts_1] at hk'
        exact wpf (fun z => by
          have := Int32.le_iff_toInt_le.mp z
          rw [nI_toInt (by omega), show (0 : Int32).toInt = 0 by decide] at this
          omega) (wpc (e322 (b := 44) (by decide) g2) (fun d hd => hk' d ⟨hd.1, sx_trans g3 hd.2⟩))
  · rintro ⟨r0, w⟩ ⟨g1, g2, g3⟩
    dsimp only at g1 g2 g3
    subst g1
    dsimp only
    refine wpt (by simp (disch := first | omega | decide) only [↓neg1, nlit, rI, rL, rI2, rL1, nI_add, pk_mul, sbT, dvT, nmd, ixT, ↓ibT, ltT, ltF, leT, leF, eqT, eqF, nM_ltT, nM_ltF, nM_leT, nM_leF, nM_eqF, nM_eqF', nbT0, nbT1, oI_s, oI_n, natF, natT, nltT, nltF, nleT, nleF, ↓reduceIte, lgc, not_true_eq_false, not_false_eq_true, or_false, false_or, or_true, true_or, and_true, true_and, and_false, false_and, ne_eq, eq_self, or_self, and_self]) ?_
    rw [CA_l (CA' g3) (a := 116) (by omega) (by omega) (by omega), hpp.2.1]
    exact wpt (by simp (disch := first | omega | decide) only [↓neg1, nlit, rI, rL, rI2, rL1, nI_add, pk_mul, sbT, dvT, nmd, ixT, ↓ibT, ltT, ltF, leT, leF, eqT, eqF, nM_ltT, nM_ltF, nM_leT, nM_leF, nM_eqF, nM_eqF', nbT0, nbT1, oI_s, oI_n, natF, natT, nltT, nltF, nleT, nleF, ↓reduceIte, lgc, not_true_eq_false, not_false_eq_true, or_false, false_or, or_true, true_or, and_true, true_and, and_false, false_and, ne_eq, eq_self, or_self, and_self]) ⟨g2, g3⟩
  · rintro x ⟨x1, x2⟩
    refine wpc (e322 (b := 41) (by decide) x1) (fun y1 f1 => wpe h156 (wpc (row (sx_trans x2 f1.2) (place_m hC hk hj) f1.1) (fun y2 f2 => wpc (e322 (b := 123) (by decide) f2.1) (fun y3 f3 => ⟨f3.1, sx_trans f2.2 f3.2⟩))))
end TC
