/-! MARKS written -/
def whb (m : cS) (y : Nat) : Bool := if m.1 224 y = nI 1 then true else match oOf m (m.2 223 y) with
  | some o => (elI m y o).isSome
  | none => match kOf m (m.2 223 y) with
    | some k => (ff (fun j => decide (mbS m y k j < 0)) (kn m k)).isNone
    | none => false
def valT (t : Int32) (v : Int64) : List (List Nat) := if t = nI 2 then [[39] ++ sg v ++ [39]] else nt v.toInt32
def mbL (m : cS) (y k : Nat) : Nat → List (List Nat)
  | 0 => []
  | j + 1 => mbL m y k j ++ (if pOf m y (m.2 191 (4 * k + j)) = none then [] else [if mbL m y k j = [] then [40] else [44]] ++ ([sg (m.2 191 (4 * k + j))] ++ ([[61]] ++ valT (txt m k j) (mbV m y k j))))
def inT (m : cS) (y : Nat) : List (List Nat) := match oOf m (m.2 223 y) with
  | some o => [[46], sg (m.2 183 (12 * o + (elI m y o).getD 0))]
  | none => match kOf m (m.2 223 y) with
    | some k => mbL m y k (kn m k) ++ (if mbL m y k (kn m k) = [] then [] else [[41]])
    | none => []
def mkW (m : cS) (y : Nat) : List (List Nat) := [[64]] ++ ((if m.1 224 y = nI 0 then [] else [wb 13]) ++ ([sg (m.2 223 y)] ++ (if m.1 224 y = nI 0 then inT m y else [])))
section MW
variable {n x y : Nat} {c m : cS} {L : List Nat}
theorem tOf_cs (hE : EC c m) (ht : tOf m (m.2 223 y) ≠ none) : (∃ o, o < ocn m ∧ oOf m (m.2 223 y) = some o ∧ tOf m (m.2 223 y) = some (100 + o)) ∨ ∃ k, k < kcn m ∧ k < 12 ∧ oOf m (m.2 223 y) = none ∧ kOf m (m.2 223 y) = some k ∧ tOf m (m.2 223 y) = some k := by
  cases ho : oOf m (m.2 223 y) with
  | some o => exact Or.inl ⟨o, (ff_some ho).1, rfl, tOf_o ho⟩
  | none =>
    have h1 := tOf_k ho
    cases hk : kOf m (m.2 223 y) with
    | none =>
      rw [hk] at h1
      exact absurd h1 ht
    | some k =>
      have := (kOf_lt hk).1
      have := hE.2.1.1
      exact Or.inr ⟨k, by omega, by omega, rfl, rfl, by rw [h1, hk]⟩
theorem e331 (hn : 1000 ≤ n) (hE : EC c m) (hx : MKR c m x y) (ht : tOf m (m.2 223 y) ≠ none) : d_331 n (nI x) c = some (if whb m y = true then nI 1 else nI 0) := by
  have hx4 := hx.1
  have hO := hE.1
  have ho4 := hO.1
  unfold d_331
  refine eq_wp (wpe (e227 hx) ?_)
  rcases hx.2.2.2.1 with h0 | h0
  · have h0 : m.1 224 y = nI 0 := h0
    have hw : whb m y = match oOf m (m.2 223 y) with
      | some o => (elI m y o).isSome
      | none => match kOf m (m.2 223 y) with
        | some k => (ff (fun j => decide (mbS m y k j < 0)) (kn m k)).isNone
        | none => false := by
      unfold whb
      rw [if_neg (by rw [h0]; decide)]
    refine wpt h0 (wpt (by simp (disch := first | omega | decide) only [↓neg1, nlit, rI, rL, rI2, rL1, nI_add, pk_mul, sbT, dvT, nmd, ixT, ↓ibT, ltT, ltF, leT, leF, eqT, eqF, nM_ltT, nM_ltF, nM_leT, nM_leF, nM_eqF, nM_eqF', nbT0, nbT1, oI_s, oI_n, natF, natT, nltT, nltF, nleT, nleF, ↓reduceIte, lgc, not_true_eq_false, not_false_eq_true, or_false, false_or, or_true, true_or, and_true, true_and, and_false, false_and, ne_eq, eq_self, or_self, and_self]) ?_)
    rw [ix_n (by omega), hx.2.2.1]
    rcases tOf_cs hE ht with ⟨o, o1, o2, o3⟩ | ⟨k, k1, k2, k3, k4, k5⟩
    · rw [o3]
      rw [o2] at hw
      have hw : whb m y = (elI m y o).isSome := hw
      refine wpf (by simp (disch := first | omega | decide) only [↓neg1, nlit, rI, rL, rI2, rL1, nI_add, pk_mul, sbT, dvT, nmd, ixT, ↓ibT, ltT, ltF, leT, leF, eqT, eqF, nM_ltT, nM_ltF, nM_leT, nM_leF, nM_eqF, nM_eqF', nbT0, nbT1, oI_s, oI_n, natF, natT, nltT, nltF, nleT, nleF, ↓reduceIte, lgc, not_true_eq_false, not_false_eq_true, or_false, false_or, or_true, true_or, and_true, true_and, and_false, false_and, ne_eq, eq_self, or_self, and_self]) (wpt (by simp (disch := first | omega | decide) only [↓neg1, nlit, rI, rL, rI2, rL1, nI_add, pk_mul, sbT, dvT, nmd, ixT, ↓ibT, ltT, ltF, leT, leF, eqT, eqF, nM_ltT, nM_ltF, nM_leT, nM_leF, nM_eqF, nM_eqF', nbT0, nbT1, oI_s, oI_n, natF, natT, nltT, nltF, nleT, nleF, ↓reduceIte, lgc, not_true_eq_false, not_false_eq_true, or_false, false_or, or_true, true_or, and_true, true_and, and_false, false_and, ne_eq, eq_self, or_self, and_self]) ?_)
      rw [show oI (some (100 + o)) - 100 = nI o from nI_sb (b := 100)]
      refine wpt (by simp (disch := first | omega | decide) only [↓neg1, nlit, rI, rL, rI2, rL1, nI_add, pk_mul, sbT, dvT, nmd, ixT, ↓ibT, ltT, ltF, leT, leF, eqT, eqF, nM_ltT, nM_ltF, nM_leT, nM_leF, nM_eqF, nM_eqF', nbT0, nbT1, oI_s, oI_n, natF, natT, nltT, nltF, nleT, nleF, ↓reduceIte, lgc, not_true_eq_false, not_false_eq_true, or_false, false_or, or_true, true_or, and_true, true_and, and_false, false_and, ne_eq, eq_self, or_self, and_self]) ?_
      rw [ix_n (by omega)]
      refine wpe (e231 hn o1 hO hx h0) (wpj ?_)
      rw [hw]
      cases hel : elI m y o with
      | none => exact wpt (by decide) (wpt (by decide) rfl)
      | some e =>
        have he : e < 12 := by
          have h1 := (OOS_el hO o1).2.1
          have h2 : e < eln m o := by
            unfold elI at hel
            cases hp : pOf m y 24948 with
            | none =>
              rw [hp] at hel
              cases hel
            | some q =>
              rw [hp] at hel
              dsimp only at hel
              by_cases h3 : m.1 227 (y * 4 + q) = nI 3
              · rw [if_pos h3] at hel
                exact (ff_some hel).1
              · rw [if_neg h3] at hel
                cases hel
          omega
        exact wpf (by simp (disch := first | omega | decide) only [↓neg1, nlit, rI, rL, rI2, rL1, nI_add, pk_mul, sbT, dvT, nmd, ixT, ↓ibT, ltT, ltF, leT, leF, eqT, eqF, nM_ltT, nM_ltF, nM_leT, nM_leF, nM_eqF, nM_eqF', nbT0, nbT1, oI_s, oI_n, natF, natT, nltT, nltF, nleT, nleF, ↓reduceIte, lgc, not_true_eq_false, not_false_eq_true, or_false, false_or, or_true, true_or, and_true, true_and, and_false, false_and, ne_eq, eq_self, or_self, and_self]) (wpt (by decide) rfl)
    · rw [k5]
      rw [k3, k4] at hw
      have hw : whb m y = (ff (fun j => decide (mbS m y k j < 0)) (kn m k)).isNone := hw
      have hK := hE.2.1.2.2.2.1 k k1
      have hkn := hK.2.1
      refine wpt (by simp (disch := first | omega | decide) only [↓neg1, nlit, rI, rL, rI2, rL1, nI_add, pk_mul, sbT, dvT, nmd, ixT, ↓ibT, ltT, ltF, leT, leF, eqT, eqF, nM_ltT, nM_ltF, nM_leT, nM_leF, nM_eqF, nM_eqF', nbT0, nbT1, oI_s, oI_n, natF, natT, nltT, nltF, nleT, nleF, ↓reduceIte, lgc, not_true_eq_false, not_false_eq_true, or_false, false_or, or_true, true_or, and_true, true_and, and_false, false_and, ne_eq, eq_self, or_self, and_self]) (wpt (by simp (disch := first | omega | decide) only [↓neg1, nlit, rI, rL, rI2, rL1, nI_add, pk_mul, sbT, dvT, nmd, ixT, ↓ibT, ltT, ltF, leT, leF, eqT, eqF, nM_ltT, nM_ltF, nM_leT, nM_leF, nM_eqF, nM_eqF', nbT0, nbT1, oI_s, oI_n, natF, natT, nltT, nltF, nleT, nleF, ↓reduceIte, lgc, not_true_eq_false, not_false_eq_true, or_false, false_or, or_true, true_or, and_true, true_and, and_false, false_and, ne_eq, eq_self, or_self, and_self]) (wpt (by simp (disch := first | omega | decide) only [↓neg1, nlit, rI, rL, rI2, rL1, nI_add, pk_mul, sbT, dvT, nmd, ixT, ↓ibT, ltT, ltF, leT, leF, eqT, eqF, nM_ltT, nM_ltF, nM_leT, nM_leF, nM_eqF, nM_eqF', nbT0, nbT1, oI_s, oI_n, natF, natT, nltT, nltF, nleT, nleF, ↓reduceIte, lgc, not_true_eq_false, not_false_eq_true, or_false, false_or, or_true, true_or, and_true, true_and, and_false, false_and, ne_eq, eq_self, or_self, and_self]) ?_))
      rw [show ix (oI (some k)) = k from ix_n (by omega)]
      refine wbf (fun j => nI j) (.inl ()) (fun _ => .inr ()) (fun j => decide (mbS m y k j < 0)) (cnt := kn m k) (by omega) rfl ?_ (fun j hj => ?_) ?_
      · simp (disch := first | omega | decide) only [↓neg1, nlit, rI, rL, rI2, rL1, nI_add, pk_mul, sbT, dvT, nmd, ixT, ↓ibT, ltT, ltF, leT, leF, eqT, eqF, nM_ltT, nM_ltF, nM_leT, nM_leF, nM_eqF, nM_eqF', nbT0, nbT1, oI_s, oI_n, natF, natT, nltT, nltF, nleT, nleF, ↓reduceIte, lgc, not_true_eq_false, not_false_eq_true, or_false, false_or, or_true, true_or, and_true, true_and, and_false, false_and, ne_eq, eq_self, or_self, and_self, obs, ↓jn, ↓lt, ↓reduceIte, decide_true, decide_false, Bool.false_eq_true, Bool.and_true, Bool.and_false, Bool.true_and, Bool.false_and, Bool.or_false, Bool.false_or, Bool.or_true, Bool.true_or, hK.2.2.2.1]
      · have h232 := e232 (n := n) hn hK hj hx h0
        rw [hK.2.2.2.1, if_neg (show ¬ nI (kn m k) ≤ nI j by simp (disch := first | omega | decide) only [↓neg1, nlit, rI, rL, rI2, rL1, nI_add, pk_mul, sbT, dvT, nmd, ixT, ↓ibT, ltT, ltF, leT, leF, eqT, eqF, nM_ltT, nM_ltF, nM_leT, nM_leF, nM_eqF, nM_eqF', nbT0, nbT1, oI_s, oI_n, natF, natT, nltT, nltF, nleT, nleF, ↓reduceIte, lgc, not_true_eq_false, not_false_eq_true, or_false, false_or, or_true, true_or, and_true, true_and, and_false, false_and, ne_eq, eq_self, or_self, and_self])]
        rw [bnd h232]
        by_cases e : mbS m y k j < 0
        · have hge : ¬ 0 ≤ mbS m y k j := fun z => by
            have h1 := Int32.lt_iff_toInt_lt.mp e
            have h2 := Int32.le_iff_toInt_le.mp z
            omega
          rw [decide_eq_true e, if_neg hge]
          rfl
        · have hge : 0 ≤ mbS m y k j := by
            refine Int32.le_iff_toInt_le.mpr ?_
            have h1 : ¬ (mbS m y k j).toInt < (0 : Int32).toInt := fun z => e (Int32.lt_iff_toInt_lt.mpr z)
            omega
          rw [decide_eq_false e, if_pos hge]
          unfold lt
          rw [nI_1]
          rfl
      · rw [hw]
        cases ff (fun j => decide (mbS m y k j < 0)) (kn m k) with
        | none => rfl
        | some j => rfl
  · have h0 : m.1 224 y = nI 1 := h0
    refine wpf (by rw [h0]; decide) ?_
    show (1 : Int32) = _
    rw [show whb m y = true from if_pos h0]
    rfl
theorem el_lt {o e : Nat} (hO : OOS c m) (ho : o < ocn m) (hel : elI m y o = some e) : e < eln m o := by
  unfold elI at hel
  cases hp : pOf m y 24948 with
  | none =>
    rw [hp] at hel
    cases hel
  | some q =>
    rw [hp] at hel
    dsimp only at hel
    by_cases h3 : m.1 227 (y * 4 + q) = nI 3
    · rw [if_pos h3] at hel
      exact (ff_some hel).1
    · rw [if_neg h3] at hel
      cases hel
theorem nbq {x : Int32} (h : nb x) (h1 : x ≠ nI 0) : x = nI 1 := by
  rcases h with h | h
  · exact absurd h h1
  · exact h
/-- a MEMBER that is told: its sort and its value -/
theorem mb_in {k j q : Nat} (hx : MKR c m x y) (hp : pOf m y (m.2 191 (4 * k + j)) = some q) (hw : ¬ mbS m y k j < 0) : mbS m y k j = txt m k j ∧ mbV m y k j = m.2 228 (y * 4 + q) ∧ (txt m k j = nI 2 ∨ (txt m k j = nI 1 ∧ (mbV m y k j).toInt32.toInt64 = mbV m y k j)) := by
  have hq := (ff_some hp).1
  have h1 : mbS m y k j = if m.1 227 (y * 4 + q) = txt m k j then txt m k j else -2 := by
    unfold mbS
    rw [hp]
  have h2 : mbV m y k j = m.2 228 (y * 4 + q) := by
    unfold mbV
    rw [hp]
  by_cases e : m.1 227 (y * 4 + q) = txt m k j
  · rw [if_pos e] at h1
    refine ⟨h1, h2, ?_⟩
    unfold txt
    by_cases e2 : m.1 192 (4 * k + j) = nI 0
    · rw [if_pos e2]
      refine Or.inr ⟨rfl, ?_⟩
      unfold txt at e
      rw [if_pos e2] at e
      rw [h2]
      exact (hx.2.2.2.2.2.2.2.2 q hq).2.2.2.2 e
    · rw [if_neg e2]
      exact Or.inl rfl
  · rw [if_neg e] at h1
    rw [h1] at hw
    exact absurd (by decide) hw
theorem e332 (hn : 1000 ≤ n) (hW : WT c) (hE : EC c m) (hx : MKR c m x y) (ht : tOf m (m.2 223 y) ≠ none) (hw : whb m y = true) (h : OC c L) : wp (d_332 n (nI x) c) (fun d => OC d (puts L (mkW m y)) ∧ sx qO c d) := by
  have hx4 := hx.1
  have ho4 := hE.1.1
  have hnb := hx.2.2.2.1
  have CA' : ∀ {d : cS}, sx qO c d → CA c d := fun h => CA_sx h nC_qO
  unfold mkW
  rw [puts_app, puts_1, puts_app, puts_app, puts_1]
  unfold d_332
  refine wpc (e322 (b := 64) (by decide) h) (fun d1 h1 => wpe (e227 (MKR_CA (CA' h1.2) hx)) ?_)
  have hOC1 := h1.1
  have s1 := h1.2
  generalize put L [64] = L1 at *
  refine wpjQ (fun z : cS => OC z (puts L1 (if m.1 224 y = nI 0 then [] else [wb 13])) ∧ sx qO c z) ?_ ?_
  · rintro z ⟨z1, z2⟩
    generalize puts L1 (if m.1 224 y = nI 0 then [] else [wb 13]) = L2 at *
    refine wpt (by simp (disch := first | omega | decide) only [↓neg1, nlit, rI, rL, rI2, rL1, nI_add, pk_mul, sbT, dvT, nmd, ixT, ↓ibT, ltT, ltF, leT, leF, eqT, eqF, nM_ltT, nM_ltF, nM_leT, nM_leF, nM_eqF, nM_eqF', nbT0, nbT1, oI_s, oI_n, natF, natT, nltT, nltF, nleT, nleF, ↓reduceIte, lgc, not_true_eq_false, not_false_eq_true, or_false, false_or, or_true, true_or, and_true, true_and, and_false, false_and, ne_eq, eq_self, or_self, and_self]) ?_
    rw [ix_n (by omega), CA_r (CA' z2) (a := 134) (by omega) (by omega) (by omega), hx.2.1]
    refine wpc (e320 hn z1) (fun d2 h2 => ?_)
    have s2 := sx_trans z2 h2.2
    have hOC2 := h2.1
    generalize put L2 (sg (m.2 223 y)) = L3 at *
    refine wpe (e227 (MKR_CA (CA' s2) hx)) ?_
    by_cases h0 : m.1 224 y = nI 0
    · refine wpt h0 (wpt (by simp (disch := first | omega | decide) only [↓neg1, nlit, rI, rL, rI2, rL1, nI_add, pk_mul, sbT, dvT, nmd, ixT, ↓ibT, ltT, ltF, leT, leF, eqT, eqF, nM_ltT, nM_ltF, nM_leT, nM_leF, nM_eqF, nM_eqF', nbT0, nbT1, oI_s, oI_n, natF, natT, nltT, nltF, nleT, nleF, ↓reduceIte, lgc, not_true_eq_false, not_false_eq_true, or_false, false_or, or_true, true_or, and_true, true_and, and_false, false_and, ne_eq, eq_self, or_self, and_self]) ?_)
      rw [if_pos h0]
      have hx2 := MKR_CA (CA' s2) hx
      have hE2 := EC_CA (CA' s2) hE
      rw [hx2.2.2.1]
      rcases tOf_cs hE ht with ⟨o, o1, o2, o3⟩ | ⟨k, k1, k2, k3, k4, k5⟩
      · rw [o3]
        have hwo : (elI m y o).isSome = true := by
          unfold whb at hw
          rw [if_neg (by rw [h0]; decide), o2] at hw
          exact hw
        obtain ⟨e, he⟩ := Option.isSome_iff_exists.mp hwo
        have hel := el_lt hE.1 o1 he
        have hel12 := (OOS_el hE.1 o1).2.1
        have hin : inT m y = [[46], sg (m.2 183 (12 * o + e))] := by
          unfold inT
          rw [o2]
          dsimp only
          rw [he]
          rfl
        rw [hin]
        refine wpf (by simp (disch := first | omega | decide) only [↓neg1, nlit, rI, rL, rI2, rL1, nI_add, pk_mul, sbT, dvT, nmd, ixT, ↓ibT, ltT, ltF, leT, leF, eqT, eqF, nM_ltT, nM_ltF, nM_leT, nM_leF, nM_eqF, nM_eqF', nbT0, nbT1, oI_s, oI_n, natF, natT, nltT, nltF, nleT, nleF, ↓reduceIte, lgc, not_true_eq_false, not_false_eq_true, or_false, false_or, or_true, true_or, and_true, true_and, and_false, false_and, ne_eq, eq_self, or_self, and_self]) (wpt (by simp (disch := first | omega | decide) only [↓neg1, nlit, rI, rL, rI2, rL1, nI_add, pk_mul, sbT, dvT, nmd, ixT, ↓ibT, ltT, ltF, leT, leF, eqT, eqF, nM_ltT, nM_ltF, nM_leT, nM_leF, nM_eqF, nM_eqF', nbT0, nbT1, oI_s, oI_n, natF, natT, nltT, nltF, nleT, nleF, ↓reduceIte, lgc, not_true_eq_false, not_false_eq_true, or_false, false_or, or_true, true_or, and_true, true_and, and_false, false_and, ne_eq, eq_self, or_self, and_self]) ?_)
        rw [show oI (some (100 + o)) - 100 = nI o from nI_sb (b := 100)]
        refine wpt (by simp (disch := first | omega | decide) only [↓neg1, nlit, rI, rL, rI2, rL1, nI_add, pk_mul, sbT, dvT, nmd, ixT, ↓ibT, ltT, ltF, leT, leF, eqT, eqF, nM_ltT, nM_ltF, nM_leT, nM_leF, nM_eqF, nM_eqF', nbT0, nbT1, oI_s, oI_n, natF, natT, nltT, nltF, nleT, nleF, ↓reduceIte, lgc, not_true_eq_false, not_false_eq_true, or_false, false_or, or_true, true_or, and_true, true_and, and_false, false_and, ne_eq, eq_self, or_self, and_self]) ?_
        rw [ix_n (by omega)]
        refine wpc (e322 (b := 46) (by decide) hOC2) (fun d3 h3 => ?_)
        have s3 := sx_trans s2 h3.2
        have h231 := e231 (n := n) hn o1 (OOS_CA (CA' s3) hE.1) (MKR_CA (CA' s3) hx) h0
        rw [he] at h231
        refine wpe h231 (wpt (by simp (disch := first | omega | decide) only [↓neg1, nlit, rI, rL, rI2, rL1, nI_add, pk_mul, sbT, dvT, nmd, ixT, ↓ibT, ltT, ltF, leT, leF, eqT, eqF, nM_ltT, nM_ltF, nM_leT, nM_leF, nM_eqF, nM_eqF', nbT0, nbT1, oI_s, oI_n, natF, natT, nltT, nltF, nleT, nleF, ↓reduceIte, lgc, not_true_eq_false, not_false_eq_true, or_false, false_or, or_true, true_or, and_true, true_and, and_false, false_and, ne_eq, eq_self, or_self, and_self]) ?_)
        rw [show ix (oI (some e)) = e from ix_n (by omega), (OOS_at (OOS_CA (CA' s3) hE.1) o1).2.2.2.1 e hel]
        exact wpc (e320 hn h3.1) (fun d4 h4 => ⟨h4.1, sx_trans s3 h4.2⟩)
      · rw [k5]
        have hwk : ∀ j, j < kn m k → ¬ mbS m y k j < 0 := by
          unfold whb at hw
          rw [if_neg (by rw [h0]; decide), k3, k4] at hw
          intro j hj
          have hw : (ff (fun j => decide (mbS m y k j < 0)) (kn m k)).isNone = true := hw
          rw [Option.isNone_iff_eq_none] at hw
          exact of_decide_eq_false (ff_none hw j hj)
        have hin : inT m y = mbL m y k (kn m k) ++ (if mbL m y k (kn m k) = [] then [] else [[41]]) := by
          unfold inT
          rw [k3, k4]
        rw [hin, puts_app]
        have hK := hE.2.1.2.2.2.1 k k1
        have hkn := hK.2.1
        refine wpt (by simp (disch := first | omega | decide) only [↓neg1, nlit, rI, rL, rI2, rL1, nI_add, pk_mul, sbT, dvT, nmd, ixT, ↓ibT, ltT, ltF, leT, leF, eqT, eqF, nM_ltT, nM_ltF, nM_leT, nM_leF, nM_eqF, nM_eqF', nbT0, nbT1, oI_s, oI_n, natF, natT, nltT, nltF, nleT, nleF, ↓reduceIte, lgc, not_true_eq_false, not_false_eq_true, or_false, false_or, or_true, true_or, and_true, true_and, and_false, false_and, ne_eq, eq_self, or_self, and_self]) (wpt (by simp (disch := first | omega | decide) only [↓neg1, nlit, rI, rL, rI2, rL1, nI_add, pk_mul, sbT, dvT, nmd, ixT, ↓ibT, ltT, ltF, leT, leF, eqT, eqF, nM_ltT, nM_ltF, nM_leT, nM_leF, nM_eqF, nM_eqF', nbT0, nbT1, oI_s, oI_n, natF, natT, nltT, nltF, nleT, nleF, ↓reduceIte, lgc, not_true_eq_false, not_false_eq_true, or_false, false_or, or_true, true_or, and_true, true_and, and_false, false_and, ne_eq, eq_self, or_self, and_self]) (wpt (by simp (disch := first | omega | decide) only [↓neg1, nlit, rI, rL, rI2, rL1, nI_add, pk_mul, sbT, dvT, nmd, ixT, ↓ibT, ltT, ltF, leT, leF, eqT, eqF, nM_ltT, nM_ltF, nM_leT, nM_leF, nM_eqF, nM_eqF', nbT0, nbT1, oI_s, oI_n, natF, natT, nltT, nltF, nleT, nleF, ↓reduceIte, lgc, not_true_eq_false, not_false_eq_true, or_false, false_or, or_true, true_or, and_true, true_and, and_false, false_and, ne_eq, eq_self, or_self, and_self]) ?_))
        rw [show ix (oI (some k)) = k from ix_n (by omega)]
        refine wpc (K' := fun r : Int32 × cS => (r.1 = if mbL m y k (kn m k) = [] then nI 0 else nI 1) ∧ OC r.2 (puts L3 (mbL m y k (kn m k))) ∧ sx qO c r.2) (whl_cnt (fun j (st : Int32 × Int32 × cS) => (st.1 = if mbL m y k j = [] then nI 0 else nI 1) ∧ st.2.1 = nI j ∧ OC st.2.2 (puts L3 (mbL m y k j)) ∧ sx qO c st.2.2) (kn m k) ?_ ?_ (by omega) ⟨rfl, rfl, hOC2, s2⟩) ?_
        · rintro j ⟨f0, j0, w⟩ hj ⟨g1, g2, g3, g4⟩
          dsimp only at g1 g2 g3 g4
          subst g2
          dsimp only
          have hKw := RK_CA (CA' g4) k2 hK
          have hxw := MKR_CA (CA' g4) hx
          rw [hKw.2.2.2.1]
          refine wpf (by simp (disch := first | omega | decide) only [↓neg1, nlit, rI, rL, rI2, rL1, nI_add, pk_mul, sbT, dvT, nmd, ixT, ↓ibT, ltT, ltF, leT, leF, eqT, eqF, nM_ltT, nM_ltF, nM_leT, nM_leF, nM_eqF, nM_eqF', nbT0, nbT1, oI_s, oI_n, natF, natT, nltT, nltF, nleT, nleF, ↓reduceIte, lgc, not_true_eq_false, not_false_eq_true, or_false, false_or, or_true, true_or, and_true, true_and, and_false, false_and, ne_eq, eq_self, or_self, and_self]) (wpt (by simp (disch := first | omega | decide) only [↓neg1, nlit, rI, rL, rI2, rL1, nI_add, pk_mul, sbT, dvT, nmd, ixT, ↓ibT, ltT, ltF, leT, leF, eqT, eqF, nM_ltT, nM_ltF, nM_leT, nM_leF, nM_eqF, nM_eqF', nbT0, nbT1, oI_s, oI_n, natF, natT, nltT, nltF, nleT, nleF, ↓reduceIte, lgc, not_true_eq_false, not_false_eq_true, or_false, false_or, or_true, true_or, and_true, true_and, and_false, false_and, ne_eq, eq_self, or_self, and_self]) ?_)
          rw [ix_n (by omega), (hKw.2.2.2.2.1 j hj).1]
          have h230 := e230 (n := n) (v := m.2 191 (4 * k + j)) (by omega) hx4 hxw.2.2.2.2.1 (by rw [hxw.2.2.2.2.2.2.2.1, if_pos h0]) (fun q hq => (hxw.2.2.2.2.2.2.2.2 q hq).1)
          refine wpe h230 ?_
          refine wpjQ (fun z : Int32 × cS => (z.1 = if mbL m y k (j + 1) = [] then nI 0 else nI 1) ∧ OC z.2 (puts L3 (mbL m y k (j + 1))) ∧ sx qO c z.2) (fun z hz => wpl ⟨hz.1, nI_1 _, hz.2.1, hz.2.2⟩) ?_
          intro Q' k' hk'
          cases hp : pOf m y (m.2 191 (4 * k + j)) with
          | none =>
            have hm : mbL m y k (j + 1) = mbL m y k j := by
              show mbL m y k j ++ (if _ then _ else _) = _
              rw [if_pos hp, List.append_nil]
            rw [hm] at hk'
            exact wpt (show nM < 0 by decide) (hk' _ ⟨g1, g3, g4⟩)
          | some q =>
            have hq := (ff_some hp).1
            have hpr := hx.2.2.2.2.1
            have hm : mbL m y k (j + 1) = mbL m y k j ++ ([if mbL m y k j = [] then [40] else [44]] ++ ([sg (m.2 191 (4 * k + j))] ++ ([[61]] ++ valT (txt m k j) (mbV m y k j)))) := by
              show mbL m y k j ++ (if _ then _ else _) = _
              rw [if_neg (by rw [hp]; exact fun z => by cases z)]
            have hmne : mbL m y k (j + 1) ≠ [] := by
              rw [hm]
              intro z
              rw [List.append_eq_nil_iff] at z
              cases z.2
            obtain ⟨i1, i2, i3⟩ := mb_in hx hp (hwk j hj)
            refine wpf (by simp (disch := first | omega | decide) only [↓neg1, nlit, rI, rL, rI2, rL1, nI_add, pk_mul, sbT, dvT, nmd, ixT, ↓ibT, ltT, ltF, leT, leF, eqT, eqF, nM_ltT, nM_ltF, nM_leT, nM_leF, nM_eqF, nM_eqF', nbT0, nbT1, oI_s, oI_n, natF, natT, nltT, nltF, nleT, nleF, ↓reduceIte, lgc, not_true_eq_false, not_false_eq_true, or_false, false_or, or_true, true_or, and_true, true_and, and_false, false_and, ne_eq, eq_self, or_self, and_self]) ?_
            refine wpjQ (fun p : Int32 => ∃ b, p = nI b ∧ b < 256 ∧ (if mbL m y k j = [] then [40] else [44]) = [b]) ?_ ?_
            · rintro p ⟨b, rfl, hb, hbe⟩
              refine wpc (e322 hb g3) (fun y1 f1 => ?_)
              have t1 := sx_trans g4 f1.2
              refine wpt (by simp (disch := first | omega | decide) only [↓neg1, nlit, rI, rL, rI2, rL1, nI_add, pk_mul, sbT, dvT, nmd, ixT, ↓ibT, ltT, ltF, leT, leF, eqT, eqF, nM_ltT, nM_ltF, nM_leT, nM_leF, nM_eqF, nM_eqF', nbT0, nbT1, oI_s, oI_n, natF, natT, nltT, nltF, nleT, nleF, ↓reduceIte, lgc, not_true_eq_false, not_false_eq_true, or_false, false_or, or_true, true_or, and_true, true_and, and_false, false_and, ne_eq, eq_self, or_self, and_self]) ?_
              rw [((RK_CA (CA' t1) k2 hK).2.2.2.2.1 j hj).1]
              refine wpc (e320 hn f1.1) (fun y2 f2 => wpc (e322 (b := 61) (by decide) f2.1) (fun y3 f3 => wpt (by simp (disch := first | omega | decide) only [↓neg1, nlit, rI, rL, rI2, rL1, nI_add, pk_mul, sbT, dvT, nmd, ixT, ↓ibT, ltT, ltF, leT, leF, eqT, eqF, nM_ltT, nM_ltF, nM_leT, nM_leF, nM_eqF, nM_eqF', nbT0, nbT1, oI_s, oI_n, natF, natT, nltT, nltF, nleT, nleF, ↓reduceIte, lgc, not_true_eq_false, not_false_eq_true, or_false, false_or, or_true, true_or, and_true, true_and, and_false, false_and, ne_eq, eq_self, or_self, and_self]) ?_))
              have t3 := sx_trans t1 (sx_trans f2.2 f3.2)
              have h233 := e233 (n := n) hn (RK_CA (CA' t3) k2 hK) hj (MKR_CA (CA' t3) hx) h0
              rw [hp] at h233
              refine wpe h233 ?_
              rw [((RK_CA (CA' t3) k2 hK).2.2.2.2.1 j hj).2.2.1]
              have hval : wp (d_323 n (txt m k j) (m.2 228 (y * 4 + q)) y3) (fun d => OC d (puts (put (put (put (puts L3 (mbL m y k j)) [b]) (sg (m.2 191 (4 * k + j)))) [61]) (valT (txt m k j) (mbV m y k j))) ∧ sx qO y3 d) := by
                rw [← i2]
                unfold valT
                rcases i3 with i3 | ⟨i3, i4⟩
                · rw [i3, if_pos rfl]
                  exact e323t hn f3.1
                · rw [i3, if_neg (by decide)]
                  have := e323i (x := (mbV m y k j).toInt32) hn (put_ne (Or.inl (put_ne (Or.inl (put_ne (Or.inr (by simp))))))) f3.1
                  rw [i4] at this
                  exact this
              refine wpc hval (fun y4 f4 => hk' _ ⟨?_, ?_, sx_trans t3 f4.2⟩)
              · rw [if_neg hmne]
                rfl
              · dsimp only
                rw [hm, hbe, puts_app, puts_app, puts_app, puts_app, puts_1, puts_1, puts_1]
                exact f4.1
            · intro Q2' k2' hk2'
              rw [g1]
              by_cases em : mbL m y k j = []
              · rw [if_pos em]
                exact wpt rfl (hk2' _ ⟨40, rfl, by decide, by rw [if_pos em]⟩)
              · rw [if_neg em]
                exact wpf (by decide) (hk2' _ ⟨44, rfl, by decide, by rw [if_neg em]⟩)
        · rintro ⟨f0, j0, w⟩ ⟨g1, g2, g3, g4⟩
          dsimp only at g1 g2 g3 g4
          subst g2
          dsimp only
          rw [(RK_CA (CA' g4) k2 hK).2.2.2.1]
          exact wpt (by simp (disch := first | omega | decide) only [↓neg1, nlit, rI, rL, rI2, rL1, nI_add, pk_mul, sbT, dvT, nmd, ixT, ↓ibT, ltT, ltF, leT, leF, eqT, eqF, nM_ltT, nM_ltF, nM_leT, nM_leF, nM_eqF, nM_eqF', nbT0, nbT1, oI_s, oI_n, natF, natT, nltT, nltF, nleT, nleF, ↓reduceIte, lgc, not_true_eq_false, not_false_eq_true, or_false, false_or, or_true, true_or, and_true, true_and, and_false, false_and, ne_eq, eq_self, or_self, and_self]) ⟨g1, g3, g4⟩
        · rintro ⟨f0, w⟩ ⟨g1, g2, g3⟩
          dsimp only at g1 g2 g3
          dsimp only
          rw [g1]
          by_cases em : mbL m y k (kn m k) = []
          · rw [if_pos em, if_pos em]
            exact wpj (wpt rfl ⟨g2, g3⟩)
          · rw [if_neg em, if_neg em]
            exact wpj (wpf (by decide) (wpc (e322 (b := 41) (by decide) g2) (fun d hd => ⟨hd.1, sx_trans g3 hd.2⟩)))
    · have h01 := nbq hnb h0
      rw [if_neg h0]
      exact wpf (by rw [h01]; decide) ⟨hOC2, s2⟩
  · intro Q' k' hk'
    by_cases h0 : m.1 224 y = nI 0
    · rw [if_pos h0] at hk'
      exact wpt h0 (hk' d1 ⟨hOC1, s1⟩)
    · have h01 := nbq hnb h0
      rw [if_neg h0] at hk'
      refine wpf (by rw [h01]; decide) (wpt (by decide) ?_)
      have hwd : sg (d1.2 6 (ix 11)) = wb 13 := (WT_sx hW s1 (fun i => qO_no (by omega))) 11 (by decide)
      have := e320 (n := n) (v := d1.2 6 (ix 11)) hn hOC1
      rw [hwd] at this
      exact wpc this (fun d2 h2 => hk' d2 ⟨h2.1, sx_trans s1 h2.2⟩)
end MW
/-- a row of MARKS in TOKENS -/
def shB (m : cS) (r i : Nat) : Bool := if r < 1200 then dcn m r i && whb m (r * 20 + i) else true
def rwT (m : cS) (r : Nat) : Nat → List (List Nat)
  | 0 => []
  | i + 1 => rwT m r i ++ (if shB m r i = true then mkW m (r * 20 + i) else [])
/-- a row that can be told -/
def RT (c m : cS) (r : Nat) : Prop := r < 1218 ∧ RW c m r ∧ ∀ i, i < mz m r → (c.1 137 (mi c r i) = nI 0 ∧ shB m r i = false) ∨ (c.1 137 (mi c r i) = nI 1 ∧ tOf m (m.2 223 (r * 20 + i)) ≠ none ∧ shB m r i = whb m (r * 20 + i))
theorem RT_P {c m : cS} {p : Nat} (h : RP c m p) (hp : p < 1200) : RT c m p := by
  refine ⟨by omega, h.1, fun i hi => ?_⟩
  have h2 := h.2 i hi
  unfold shB
  rw [if_pos hp]
  cases hd : dcn m p i with
  | false =>
    rw [hd, if_neg (by decide)] at h2
    exact Or.inl ⟨h2, rfl⟩
  | true =>
    rw [hd, if_pos rfl] at h2
    refine Or.inr ⟨h2, fun z => ?_, Bool.true_and _⟩
    unfold dcn at hd
    rw [z] at hd
    cases hd
theorem RT_Q {c m : cS} {r : Nat} (h : RQ c m r) (hr : 1200 ≤ r) (hr2 : r < 1218) : RT c m r := by
  refine ⟨hr2, h.1, fun i hi => ?_⟩
  obtain ⟨h1, h2, h3⟩ := h.2 i hi
  refine Or.inr ⟨h1, ?_, ?_⟩
  · rcases h3 with ⟨o, e, h3, h4⟩ | ⟨k, h3, h4, h5⟩
    · rw [tOf_o h3]
      exact fun z => by cases z
    · rw [tOf_k h3, h4]
      exact fun z => by cases z
  · unfold shB
    rw [if_neg (by omega)]
    symm
    unfold whb
    rw [if_neg (by rw [h2]; decide)]
    rcases h3 with ⟨o, e, h3, h4⟩ | ⟨k, h3, h4, h5⟩
    · rw [h3]
      dsimp only
      rw [h4]
      rfl
    · rw [h3, h4]
      show (ff _ _).isNone = true
      rw [ff_no (fun j hj => ?_)]
      · rfl
      · refine decide_eq_false ?_
        rw [h5 j hj]
        unfold txt
        by_cases e : m.1 192 (4 * k + j) = nI 0
        · rw [if_pos e]
          decide
        · rw [if_neg e]
          decide
theorem e330 {n r : Nat} {c m : cS} {L : List Nat} (hn : 1000 ≤ n) (hW : WT c) (hE : EC c m) (hR : RT c m r) (h : OC c L) : wp (d_330 n (nI r) c) (fun d => OC d (puts L (rwT m r (mz m r))) ∧ sx qO c d) := by
  obtain ⟨hr, ⟨t1, t2, t3, t4⟩, t5⟩ := hR
  have CA' : ∀ {d : cS}, sx qO c d → CA c d := fun h => CA_sx h nC_qO
  unfold d_330
  refine wpt (by simp (disch := first | omega | decide) only [↓neg1, nlit, rI, rL, rI2, rL1, nI_add, pk_mul, sbT, dvT, nmd, ixT, ↓ibT, ltT, ltF, leT, leF, eqT, eqF, nM_ltT, nM_ltF, nM_leT, nM_leF, nM_eqF, nM_eqF', nbT0, nbT1, oI_s, oI_n, natF, natT, nltT, nltF, nleT, nleF, ↓reduceIte, lgc, not_true_eq_false, not_false_eq_true, or_false, false_or, or_true, true_or, and_true, true_and, and_false, false_and, ne_eq, eq_self, or_self, and_self]) ?_
  rw [ix_n (by omega)]
  refine wpl ?_
  refine wpc (K' := fun d : cS => OC d (puts L (rwT m r (mz m r))) ∧ sx qO c d) (whl_cnt (fun k (st : Int32 × Int32 × cS) => st.1 = ch c r k ∧ st.2.1 = nI k ∧ OC st.2.2 (puts L (rwT m r k)) ∧ sx qO c st.2.2) (mz m r) ?_ ?_ (by omega) ⟨rfl, rfl, h, sx_rfl⟩) (fun d hd => hd)
  · rintro k ⟨p, t0, w⟩ hk ⟨g1, g2, g3, g4⟩
    dsimp only at g1 g2 g3 g4
    obtain ⟨b5, hx⟩ := t4 k hk
    have h7 := t5 k hk
    rw [b5] at g1
    subst g1 g2
    dsimp only
    generalize hxx : mi c r k = x at *
    have b6 := hx.1
    refine wpt (by simp (disch := first | omega | decide) only [↓neg1, nlit, rI, rL, rI2, rL1, nI_add, pk_mul, sbT, dvT, nmd, ixT, ↓ibT, ltT, ltF, leT, leF, eqT, eqF, nM_ltT, nM_ltF, nM_leT, nM_leF, nM_eqF, nM_eqF', nbT0, nbT1, oI_s, oI_n, natF, natT, nltT, nltF, nleT, nleF, ↓reduceIte, lgc, not_true_eq_false, not_false_eq_true, or_false, false_or, or_true, true_or, and_true, true_and, and_false, false_and, ne_eq, eq_self, or_self, and_self]) ?_
    rw [CA_l (CA' g4) (a := 144) (by omega) (by omega) (by omega), t3]
    refine wpf (by simp (disch := first | omega | decide) only [↓neg1, nlit, rI, rL, rI2, rL1, nI_add, pk_mul, sbT, dvT, nmd, ixT, ↓ibT, ltT, ltF, leT, leF, eqT, eqF, nM_ltT, nM_ltF, nM_leT, nM_leF, nM_eqF, nM_eqF', nbT0, nbT1, oI_s, oI_n, natF, natT, nltT, nltF, nleT, nleF, ↓reduceIte, lgc, not_true_eq_false, not_false_eq_true, or_false, false_or, or_true, true_or, and_true, true_and, and_false, false_and, ne_eq, eq_self, or_self, and_self]) (wpt (by simp (disch := first | omega | decide) only [↓neg1, nlit, rI, rL, rI2, rL1, nI_add, pk_mul, sbT, dvT, nmd, ixT, ↓ibT, ltT, ltF, leT, leF, eqT, eqF, nM_ltT, nM_ltF, nM_leT, nM_leF, nM_eqF, nM_eqF', nbT0, nbT1, oI_s, oI_n, natF, natT, nltT, nltF, nleT, nleF, ↓reduceIte, lgc, not_true_eq_false, not_false_eq_true, or_false, false_or, or_true, true_or, and_true, true_and, and_false, false_and, ne_eq, eq_self, or_self, and_self]) ?_)
    rw [ix_n (by omega), CA_l (CA' g4) (a := 137) (by omega) (by omega) (by omega)]
    refine wpjQ (fun y : cS => OC y (puts L (rwT m r (k + 1))) ∧ sx qO c y) ?_ ?_
    · rintro y ⟨y1, y2⟩
      refine wpt (by simp (disch := first | omega | decide) only [↓neg1, nlit, rI, rL, rI2, rL1, nI_add, pk_mul, sbT, dvT, nmd, ixT, ↓ibT, ltT, ltF, leT, leF, eqT, eqF, nM_ltT, nM_ltF, nM_leT, nM_leF, nM_eqF, nM_eqF', nbT0, nbT1, oI_s, oI_n, natF, natT, nltT, nltF, nleT, nleF, ↓reduceIte, lgc, not_true_eq_false, not_false_eq_true, or_false, false_or, or_true, true_or, and_true, true_and, and_false, false_and, ne_eq, eq_self, or_self, and_self]) ?_
      rw [CA_l (CA' y2) (a := 138) (by omega) (by omega) (by omega)]
      refine wpl (wpl ⟨?_, nI_1 _, y1, y2⟩)
      show c.1 138 x = c.1 138 (ix (ch c r k))
      rw [b5, ix_n (by omega)]
    · intro Q' k' hk'
      have hrw : rwT m r (k + 1) = rwT m r k ++ (if shB m r k = true then mkW m (r * 20 + k) else []) := rfl
      rw [hrw] at hk'
      rcases h7 with ⟨h7, h8⟩ | ⟨h7, h8, h9⟩
      · rw [h8, if_neg (by decide), List.append_nil] at hk'
        exact wpt h7 (hk' w ⟨g3, g4⟩)
      · refine wpf (by rw [h7]; decide) (wpe (e331 hn (EC_CA (CA' g4) hE) (MKR_CA (CA' g4) hx) h8) ?_)
        rw [h9] at hk'
        by_cases hw : whb m (r * 20 + k) = true
        · rw [if_pos hw, puts_app] at hk'
          rw [if_pos hw]
          refine wpf (by decide) (wpc (e332 hn (WT_sx hW g4 (fun i => qO_no (by omega))) (EC_CA (CA' g4) hE) (MKR_CA (CA' g4) hx) h8 hw g3) (fun d hd => hk' d ⟨hd.1, sx_trans g4 hd.2⟩))
        · rw [if_neg hw, List.append_nil] at hk'
          rw [if_neg hw]
          exact wpt rfl (hk' w ⟨g3, g4⟩)
  · rintro ⟨p, t0, w⟩ ⟨g1, g2, g3, g4⟩
    dsimp only at g1 g2 g3 g4
    subst g2
    dsimp only
    refine wpt (by simp (disch := first | omega | decide) only [↓neg1, nlit, rI, rL, rI2, rL1, nI_add, pk_mul, sbT, dvT, nmd, ixT, ↓ibT, ltT, ltF, leT, leF, eqT, eqF, nM_ltT, nM_ltF, nM_leT, nM_leF, nM_eqF, nM_eqF', nbT0, nbT1, oI_s, oI_n, natF, natT, nltT, nltF, nleT, nleF, ↓reduceIte, lgc, not_true_eq_false, not_false_eq_true, or_false, false_or, or_true, true_or, and_true, true_and, and_false, false_and, ne_eq, eq_self, or_self, and_self]) ?_
    rw [CA_l (CA' g4) (a := 144) (by omega) (by omega) (by omega), t3]
    exact wpt (by simp (disch := first | omega | decide) only [↓neg1, nlit, rI, rL, rI2, rL1, nI_add, pk_mul, sbT, dvT, nmd, ixT, ↓ibT, ltT, ltF, leT, leF, eqT, eqF, nM_ltT, nM_ltF, nM_leT, nM_leF, nM_eqF, nM_eqF', nbT0, nbT1, oI_s, oI_n, natF, natT, nltT, nltF, nleT, nleF, ↓reduceIte, lgc, not_true_eq_false, not_false_eq_true, or_false, false_or, or_true, true_or, and_true, true_and, and_false, false_and, ne_eq, eq_self, or_self, and_self]) ⟨g3, g4⟩
