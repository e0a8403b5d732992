/-! READING PAIRS: both side by side -/
section PRL
variable {n i N x y k p : Nat} {c d u w c' u' : cS} {K P : Nat → Nat} {V : Nat → Int64} {v : Int64}
theorem cnt_ltN {p : Nat → Bool} {j : Nat} (hp : p j = false) : ∀ N, j < N → cntN p N < N
  | 0, h => absurd h (Nat.not_lt_zero _)
  | N + 1, h => by
    rw [cntN_s]
    by_cases e : j = N
    · rw [← e, hp, if_neg (by decide)]
      have := cntN_le (p := p) j
      omega
    · have := cnt_ltN hp N (by omega)
      split <;> omega
theorem cnt_inc {p q : Nat → Bool} {j : Nat} (h : ∀ i, p i = true → q i = true) (hp : p j = false) (hq : q j = true) : ∀ N, j < N → cntN p N + 1 ≤ cntN q N
  | 0, hj => absurd hj (Nat.not_lt_zero _)
  | N + 1, hj => by
    rw [cntN_s, cntN_s]
    by_cases e : j = N
    · subst e
      have := cnt_im h j
      rw [hp, hq, if_neg (by decide), if_pos rfl]
      omega
    · have := cnt_inc h hp hq N (by omega)
      by_cases e2 : p N = true
      · rw [if_pos e2, if_pos (h N e2)]
        omega
      · rw [if_neg e2]
        omega
def prC (n : Nat) (a1 : Int32) (k2 : Nat) (s20 : Int32 × Int32 × cS) : Option ((Int32 × Int32 × cS) ⊕ (cS ⊕ (cS ⊕ cS))) :=
      if 4 < s20.2.1 then
        some (.inr (.inl s20.2.2))
      else
        if s20.1 = 0 then
          some (.inr (.inl s20.2.2))
        else
          Option.bind (d_259 n s20.2.2) (Sum.elim (fun r21 =>
          Option.bind (d_218 n k2 r21.1 r21.2) (fun v24 =>
          jn (fun p26 : cS =>
            Option.bind (d_230 n a1 r21.1 p26) (fun v27 =>
            jn (fun p28 : cS =>
              lt (pI p28 145 7 ((p28.1 145 7) + 1)) (fun c29 =>
              Option.bind (d_257 n 61 c29) (Sum.elim (fun r31 =>
              if ib v24 4 then
              if ib v24 4 then
              Option.bind (d_278 n (r31.1 (kA k2 + 2) (ix v24)) r31) (Sum.elim (fun r35 =>
              Option.bind (d_225 n a1 r21.1 (r31.1 (kA k2 + 2) (ix v24)) r35.1 r35.2) (fun r37 =>
              Option.bind (d_258 n 44 r37) (fun r38 =>
              lt (s20.2.1 + 1 : Int32) (fun v41 =>
              some (.inl (r38.1, v41, r38.2))))))
              (fun z36 => some (.inr (.inr (.inr z36)))))
              else none
              else none)
              (fun z32 => some (.inr (.inr (.inr z32)))))))
            (fun j91 =>
            if v27 < 0 then
              j91 p26
            else
              Option.bind (d_42 n p26) (fun v43 =>
              Option.bind (d_41 n 3 v43 p26) (Sum.elim (fun r44 =>
              j91 r44)
              (fun z45 => some (.inr (.inr (.inr z45)))))))))
          (fun j69 =>
          if 0 ≤ v24 then
            j69 r21.2
          else
            Option.bind (d_42 n r21.2) (fun v46 =>
            Option.bind (d_41 n 5 v46 r21.2) (Sum.elim (fun r47 =>
            j69 r47)
            (fun z48 => some (.inr (.inr (.inr z48)))))))))
          (fun z22 => some (.inr (.inr (.inr z22)))))
/-- the reference behind the NAME of a PAIR -/
def pr2 (n : Nat) (a1 a2 v8 : Int32) (nm : Int64) (r22 : cS) : Option ((Int32 × cS) ⊕ (cS ⊕ cS ⊕ cS ⊕ cS)) :=
              if (r22.1 174 13) = 0 then
                if ib ((4 * a2) + v8) 48 then
                lt ((r22.1 192 (ix ((4 * a2) + v8))) : Int32) (fun v25 =>
                Option.bind (d_382 n v25 1 r22) (fun r27 =>
                if (r27.1 174 13) = 0 then
                  jn (fun p28 : Int32 =>
                    Option.bind (d_394 n a1 nm p28 (r27.2 174 68) r27) (fun r29 =>
                    Option.bind (d_379 n 44 r29) (fun r30 =>
                    some (.inl (r30.1, r30.2)))))
                  (fun j164 =>
                  if v25 = 0 then
                    j164 1
                  else
                    j164 2)
                else
                  some (.inr (.inr (.inr (.inr r27))))))
                else none
              else
                some (.inr (.inr (.inr (.inl r22))))
def prR (n : Nat) (a1 a2 : Int32) (s2 : Int32 × cS) : Option ((Int32 × cS) ⊕ (cS ⊕ cS ⊕ cS ⊕ cS)) :=
    if s2.1 = 0 then
      some (.inr (.inl s2.2))
    else
      if (s2.2.1 174 13) = 0 then
        lt ((s2.2.1 174 67) : Int32) (fun v4 =>
        Option.bind (d_381 n s2.2) (fun r6 =>
        if (r6.2.1 174 13) = 0 then
          Option.bind (d_378 n a2 r6.1 r6.2) (fun v8 =>
          jn (fun p10 : cS =>
            Option.bind (whl (dpR n a1 v4 r6.1) n (0, p10))
            (fun x21 : cS =>
              Option.bind (d_380 n 61 x21) (pr2 n a1 a2 v8 r6.1)))
          (fun j59 =>
          if 0 ≤ v8 then
            j59 r6.2
          else
            if ib v4 4001 then
            Option.bind (d_97 n 5 (r6.2.1 179 (ix v4)) r6.2) (fun r33 =>
            j59 r33)
            else none))
        else
          some (.inr (.inr (.inl r6.2)))))
      else
        some (.inr (.inl s2.2))
def tlR (n : Nat) : (cS ⊕ cS ⊕ cS ⊕ cS) → Option cS := Sum.elim (fun x34 : cS =>
    Option.bind (d_380 n 41 x34) (fun r35 =>
    some r35))
  (Sum.elim (fun x36 : cS =>
    some x36)
  (Sum.elim (fun x37 : cS =>
    some x37)
  (fun x38 : cS =>
    some x38)))
theorem d398_s {a1 a2 : Int32} : d_398 n a1 a2 c = Option.bind (whl (prR n a1 a2) n (1, c)) (tlR n) := rfl
/-- how many MEMBERS have a PAIR -/
def usd (u m : cS) (y k p : Nat) : Nat := cntN (fun j => (ff (fun q => decide (u.2 226 (y * 4 + q) = m.2 191 (4 * k + j))) p).isSome) (kn m k)
def PRI (K P : Nat → Nat) (V : Nat → Int64) (N : Nat) (c u : cS) (x y k i0 m : Nat) (s : Int32 × Int32 × cS) (t : Int32 × cS) : Prop := ∃ i p b, s.1 = bI b ∧ t.1 = bI b ∧ s.2.1 = nI p ∧ i0 ≤ i ∧ m = N - i ∧ PSI K P V N s.2.2 t.2 i ∧ PRD s.2.2 t.2 x y k p ∧ p ≤ usd t.2 u y k p ∧ (p = 0 → b = true) ∧ (0 < p → i0 < i) ∧ sx (qMPc x) c s.2.2 ∧ sx (qMPu y) u t.2
def PRX (K P : Nat → Nat) (V : Nat → Int64) (N n : Nat) (c u : cS) (x y k i0 : Nat) (r : cS ⊕ (cS ⊕ cS)) (b : cS ⊕ cS ⊕ cS ⊕ cS) : Prop := (∃ d q j p, r = .inl d ∧ b = .inl q ∧ i0 < j ∧ PSI K P V N d q j ∧ PRD d q x y k p ∧ sx (qMPc x) c d ∧ sx (qMPu y) u q) ∨ (∃ z q, r = .inr (.inr z) ∧ tlR n b = some q ∧ FLR c u z q)
theorem qMPc_c (h : sx (qMPc x) c d) : sx QRc c d := sx_wide h (fun A j z => by
  have := of_decide_eq_false z
  exact decide_eq_false (by omega))
theorem qMPu_u (h : sx (qMPu y) u d) : sx QRu u d := sx_wide h (fun A j z => by
  have := of_decide_eq_false z
  exact decide_eq_false (by omega))
theorem PRD_at {j : Nat} (h : PRD c u x y k p) : PRD (atC c j) (atR u j) x y k p := by
  obtain ⟨h1, h2, h3, h4⟩ := h
  have C : ∀ A l, A ≠ 145 → (atC c j).1 A l = c.1 A l := fun A l z => by
    unfold atC
    rw [rI, if_neg (by omega)]
  have U : ∀ A l, A ≠ 174 → (atR u j).1 A l = u.1 A l := fun A l z => by
    unfold atR
    rw [rI, if_neg (by omega)]
  refine ⟨h1, by rw [C _ _ (by omega)]; exact h2, by rw [U _ _ (by omega)]; exact h3, fun q hq => ?_⟩
  obtain ⟨a1, a2, a3, j', b1, b2, b3, b4⟩ := h4 q hq
  refine ⟨a1, by rw [C _ _ (by omega), U _ _ (by omega)]; exact a2, a3, j', ?_, b2, ?_, fun z => b4 ?_⟩
  · rw [kn_cg (u := u) (fun l => U _ _ (by omega))]
    exact b1
  · rw [U _ _ (by omega), txt_cg (u := u) (fun l => U _ _ (by omega))]
    exact b3
  · rw [U _ _ (by omega)] at z
    exact z
theorem PRD_ad {nm val : Int64} {j : Nat} (h : PRD c u x y k p) (hp : p < 4) (hj : j < kn u k) (hnm : u.2 191 (4 * k + j) = nm) (hiv : u.1 192 (4 * k + j) = nI 0 → iv val) : PRD (adC c x p nm (txt u k j) val) (adR u y p nm (txt u k j) val) x y k (p + 1) := by
  obtain ⟨h1, h2, h3, h4⟩ := h
  have U1 : ∀ A l, 189 ≤ A → A ≤ 197 → (adR u y p nm (txt u k j) val).1 A l = u.1 A l := fun A l z1 z2 => (adR_sx hp).1 A l (decide_eq_false (by omega))
  have U2 : ∀ A l, 189 ≤ A → A ≤ 197 → (adR u y p nm (txt u k j) val).2 A l = u.2 A l := fun A l z1 z2 => (adR_sx hp).2 A l (decide_eq_false (by omega))
  have ekn : kn (adR u y p nm (txt u k j) val) k = kn u k := kn_cg (fun l => U1 _ _ (by omega) (by omega))
  have etx : ∀ l, txt (adR u y p nm (txt u k j) val) k l = txt u k l := fun l => txt_cg (fun l => U1 _ _ (by omega) (by omega))
  refine ⟨by omega, (adC_at (j := 0)).2.2.2, (adR_at (j := 0)).2.2.2, fun q hq => ?_⟩
  obtain ⟨c1, c2, c3, -⟩ := adC_at (c := c) (x := x) (p := p) (nm := nm) (s := txt u k j) (v := val) (j := x * 4 + q)
  obtain ⟨u1, u2, u3, -⟩ := adR_at (u := u) (y := y) (p := p) (nm := nm) (s := txt u k j) (v := val) (j := y * 4 + q)
  rw [c1, c2, c3, u1, u2, u3]
  by_cases e : q = p
  · rw [if_pos (by omega), if_pos (by omega), if_pos (by omega), if_pos (by omega), if_pos (by omega), if_pos (by omega)]
    refine ⟨rfl, rfl, rfl, j, by rw [ekn]; exact hj, ?_, by rw [etx], fun z => hiv ?_⟩
    · rw [U2 _ _ (by omega) (by omega)]
      exact hnm.symm
    · rw [U1 _ _ (by omega) (by omega)] at z
      exact z
  · rw [if_neg (by omega), if_neg (by omega), if_neg (by omega), if_neg (by omega), if_neg (by omega), if_neg (by omega)]
    obtain ⟨a1, a2, a3, j', b1, b2, b3, b4⟩ := h4 q (by omega)
    refine ⟨a1, a2, a3, j', by rw [ekn]; exact b1, ?_, by rw [etx]; exact b3, fun z => b4 ?_⟩
    · rw [U2 _ _ (by omega) (by omega)]
      exact b2
    · rw [U1 _ _ (by omega) (by omega)] at z
      exact z
theorem PRD_cg (h : PRD c u x y k p) (hc : ∀ A l, A ≠ 145 → c'.1 A l = c.1 A l ∧ c'.2 A l = c.2 A l) (hu : ∀ A l, A ≠ 174 → u'.1 A l = u.1 A l ∧ u'.2 A l = u.2 A l) : PRD c' u' x y k p := by
  obtain ⟨h1, h2, h3, h4⟩ := h
  refine ⟨h1, by rw [(hc _ _ (by omega)).1]; exact h2, by rw [(hu _ _ (by omega)).1]; exact h3, fun q hq => ?_⟩
  obtain ⟨a1, a2, a3, j', b1, b2, b3, b4⟩ := h4 q hq
  rw [(hc _ _ (by omega)).2, (hc _ _ (by omega)).1, (hc _ _ (by omega)).2, (hu _ _ (by omega)).2, (hu _ _ (by omega)).1, (hu _ _ (by omega)).2]
  refine ⟨a1, a2, a3, j', ?_, ?_, ?_, fun z => b4 ?_⟩
  · rw [kn_cg (u := u) (fun l => (hu _ _ (by omega)).1)]
    exact b1
  · rw [(hu _ _ (by omega)).2]
    exact b2
  · rw [txt_cg (u := u) (fun l => (hu _ _ (by omega)).1)]
    exact b3
  · rw [(hu _ _ (by omega)).1] at z
    exact z
theorem pr_lp (hn : 10000 ≤ n) (hx : x < 4096) (hy : y < 24380) (hk : k < 12) (hK : RK c u k) (h : PSI K P V N c u i) (hD : PRD c u x y k 0) : jw (whl (prC n (nI x) k) n (1, 0, c)) (whl (prR n (nI y) (nI k)) n (1, u)) (PRX K P V N n c u x y k i) := by
  have hN := h.1.1
  have hkn := hK.2.1
  refine jw_whl (PRI K P V N c u x y k i) ?_ n n (N - i) _ _ (by omega) (by omega) ⟨i, 0, true, rfl, rfl, rfl, Nat.le_refl _, rfl, h, hD, Nat.zero_le _, fun _ => rfl, fun z => absurd z (Nat.not_lt_zero _), sx_rfl, sx_rfl⟩
  rintro m ⟨mo, k0, w⟩ ⟨mo', v⟩ ⟨i', p, b, g1, g2, g3, g4, g5, g6, g7, g8, g9, g10, g11, g12⟩
  dsimp only at g1 g2 g3 g6 g7 g8 g11 g12
  subst g1 g2 g3
  have hp4 := g7.1
  have hus : usd v u y k p ≤ kn u k := cntN_le _
  cases b with
  | false =>
    have hp0 : 0 < p := by
      by_cases z : p = 0
      · cases g9 z
      · omega
    refine jw_of (a := Sum.inr (Sum.inl w)) (b := Sum.inr (Sum.inl v)) ?_ ?_ (Or.inr ⟨_, _, rfl, rfl, Or.inl ⟨w, v, i', p, rfl, rfl, g10 hp0, g6, g7, g11, g12⟩⟩)
    · unfold prC
      exact eq_wp (wpf (by dsimp only; simp (disch := first | omega | decide) only [↓neg1, nlit, rI, rL, rI2, rL1, nI_add, pk_mul, sbT, dvT, nmd, ixT, ↓ibT, ltT, ltF, leT, leF, eqT, eqF, nM_ltT, nM_ltF, nM_leT, nM_leF, nM_eqF, nM_eqF', nbT0, nbT1, oI_s, oI_n, natF, natT, nltT, nltF, nleT, nleF, ↓reduceIte, lgc, not_true_eq_false, not_false_eq_true, or_false, false_or, or_true, true_or, and_true, true_and, and_false, false_and, ne_eq, eq_self, or_self, and_self]) (wpt rfl rfl))
    · unfold prR
      exact eq_wp (wpt rfl rfl)
  | true =>
    have hkK := PSI_K g6
    have hRKw : RK w v k := RK_cg hK (fun A j z1 z2 => ⟨g11.1 A j (decide_eq_false (by unfold kA at *; omega)), g11.2 A j (decide_eq_false (by unfold kA at *; omega))⟩) (fun A j z1 z2 => ⟨g12.1 A j (decide_eq_false (by omega)), g12.2 A j (decide_eq_false (by omega))⟩)
    have e90 : ∀ j, v.1 190 j = u.1 190 j := fun j => g12.1 190 j (decide_eq_false (by omega))
    have e91 : ∀ j, v.2 191 j = u.2 191 j := fun j => g12.2 191 j (decide_eq_false (by omega))
    have hknv : kn v k = kn u k := kn_cg e90
    have flB : ∀ {z q : cS}, FLR w v z q → FLR c u z q := fun hf => FLR_tr hf (qMPc_c g11) (qMPu_u g12)
    have bad : ∀ {z q : cS} {X : cS ⊕ cS ⊕ cS ⊕ cS}, tlR n X = some q → FLR w v z q → ((∃ s' t' m', (Sum.inr (Sum.inr (Sum.inr z)) : (Int32 × Int32 × cS) ⊕ (cS ⊕ (cS ⊕ cS))) = .inl s' ∧ (Sum.inr X : (Int32 × cS) ⊕ (cS ⊕ cS ⊕ cS ⊕ cS)) = .inl t' ∧ m' < m ∧ PRI K P V N c u x y k i m' s' t') ∨ (∃ r q, (Sum.inr (Sum.inr (Sum.inr z)) : (Int32 × Int32 × cS) ⊕ (cS ⊕ (cS ⊕ cS))) = .inr r ∧ (Sum.inr X : (Int32 × cS) ⊕ (cS ⊕ cS ⊕ cS ⊕ cS)) = .inr q ∧ PRX K P V N n c u x y k i r q)) := fun h1 h2 => Or.inr ⟨_, _, rfl, rfl, Or.inr ⟨_, _, rfl, h1, flB h2⟩⟩
    have v13 : v.1 174 13 = nI 0 := g6.2.2.2.2
    have h259 := e259 (n := n) g6
    have h381 := e381 (n := n) g6
    unfold jw prC
    dsimp only
    refine wpf (by simp (disch := first | omega | decide) only [↓neg1, nlit, rI, rL, rI2, rL1, nI_add, pk_mul, sbT, dvT, nmd, ixT, ↓ibT, ltT, ltF, leT, leF, eqT, eqF, nM_ltT, nM_ltF, nM_leT, nM_leF, nM_eqF, nM_eqF', nbT0, nbT1, oI_s, oI_n, natF, natT, nltT, nltF, nleT, nleF, ↓reduceIte, lgc, not_true_eq_false, not_false_eq_true, or_false, false_or, or_true, true_or, and_true, true_and, and_false, false_and, ne_eq, eq_self, or_self, and_self]) (wpf (show ¬ bI true = 0 by decide) ?_)
    by_cases e1 : K i' = 1
    rotate_left
    · rw [if_neg e1] at h259 h381
      refine wpe h259 (wpSr (wp_of rfl (wp_of (a := Sum.inr (Sum.inr (Sum.inl (flt v 2 (nI (P i')))))) ?_ (bad rfl (FLR_of sx_rfl sx_rfl)))))
      unfold prR
      exact eq_wp (wpf (show ¬ bI true = 0 by decide) (wpt v13 (wpl (wpe h381 (wpf (by rw [(flt_at (u := v)).1]; decide) rfl)))))
    rw [if_pos e1] at h259 h381
    have hP1 := PSI_s g6 (by omega)
    have hi1 := PSI_lt g6 (by omega)
    have h218 := e218 (n := n) (d := k) (v := V i') (c := w) (m := v) (by omega) hRKw.2.1 hRKw.2.2.2.1 (fun j hj => (hRKw.2.2.2.2.1 j hj).1)
    have ra : ∀ A j, ¬ (A = 174 ∧ j = 67) → (atR v (i' + 1)).1 A j = v.1 A j := fun A j z => by
      unfold atR
      rw [rI, if_neg z]
    have h378 : d_378 n (nI k) (V i') (atR v (i' + 1)) = some (oI (jOf v k (V i'))) := by
      have := e378 (n := n) (d := k) (v := V i') (m := atR v (i' + 1)) (u := atR v (i' + 1)) (by omega) AG_rfl hk (by rw [kn_cg (u := v) (fun j => ra _ _ (by omega))]; exact hRKw.2.1) (by rw [kn_cg (u := v) (fun j => ra _ _ (by omega)), ra _ _ (by omega)]; exact hRKw.2.2.1)
      rw [this, jOf_cg (u := v) (fun j => ra _ _ (by omega)) (fun _ => rfl)]
    have a9 : (atR v (i' + 1)).1 179 i' = nI (P i') := by
      rw [ra _ _ (by omega)]
      exact (g6.1.2.2.1 i' g6.2.1).2.2.1
    have a25 : (atR v (i' + 1)).1 225 y = nI p := by
      rw [ra _ _ (by omega)]
      exact g7.2.2.1
    have hR : ∀ {Q : ((Int32 × cS) ⊕ (cS ⊕ cS ⊕ cS ⊕ cS)) → Prop}, wp (jn (fun p10 : cS =>
            Option.bind (whl (dpR n (nI y) (nI i') (V i')) n (0, p10))
            (fun x21 : cS =>
              Option.bind (d_380 n 61 x21) (pr2 n (nI y) (nI k) (oI (jOf v k (V i'))) (V i'))))
          (fun j59 =>
          if 0 ≤ oI (jOf v k (V i')) then
            j59 (atR v (i' + 1))
          else
            if ib (nI i') 4001 then
            Option.bind (d_97 n 5 ((atR v (i' + 1)).1 179 (ix (nI i'))) (atR v (i' + 1))) (fun r33 =>
            j59 r33)
            else none)) Q → wp (prR n (nI y) (nI k) (bI true, v)) Q := fun {Q} hQ => by
      unfold prR
      dsimp only
      refine wpf (show ¬ bI true = 0 by decide) (wpt v13 ?_)
      rw [g6.2.2.2.1]
      exact wpl (wpe h381 (wpt hP1.2.2.2.2 (wpe h378 hQ)))
    refine wpe h259 (wpSl (wpe h218 (wpj ?_)))
    cases hj : jOf v k (V i') with
    | none =>
      refine wpf (by decide) (wpe (e42 g6) (wpe e41 (wpSr (wp_of rfl (hR ?_)))))
      rw [hj]
      have ff1 := (flt_at (u := atR v (i' + 1)) (a := 5) (f := nI (P i'))).1
      refine wpj (wpf (by decide) (wpt (ib_n (by omega) (by decide)) ?_))
      rw [ix_n (by omega), a9]
      refine wpe (e97 hP1.2.2.2.2) (wpc (dup_r (p := p) (by omega) hy hp4 (by rw [(flt_at (u := atR v (i' + 1))).2.2.2 225 y (by omega)]; exact a25) (by omega)) (fun d hd => ?_))
      have hd := hd.1 ff1
      subst hd
      refine wpe (e380w ff1) ?_
      unfold pr2
      exact wpf (by rw [ff1]; decide) (bad rfl (FLR_of sx_rfl atR_sx))
    | some j =>
      have hjl := (ff_some hj).1
      have hjn := of_decide_eq_true (ff_some hj).2.1
      have hprn := prn_of g7
      have hjk : j < kn u k := by rw [← hknv]; exact hjl
      have h230 := e230 (n := n) (x := x) (y := y) (v := V i') (c := w) (m := v) (by omega) hx (by omega) (by rw [hprn]; exact g7.2.1) (fun q hq => (g7.2.2.2 q (by omega)).1)
      have hpO : pOf v y (V i') = ff (fun q => decide (v.2 226 (y * 4 + q) = V i')) p := by
        unfold pOf
        rw [hprn]
      rw [hpO] at h230
      rw [oI_s]
      refine wpt (nI_pos' (by omega)) (wpe h230 (wpj ?_))
      have hdup : wp (whl (dpR n (nI y) (nI i') (V i')) n (0, atR v (i' + 1))) (fun d => d = if (ff (fun q => decide (v.2 226 (y * 4 + q) = V i')) p).isSome = true then flt (atR v (i' + 1)) 3 (nI (P i')) else atR v (i' + 1)) := wp_mono (dup_r (p := p) (by omega) hy hp4 a25 (by omega)) (fun d hd => by
        have := hd.2 hP1.2.2.2.2
        rw [a9] at this
        exact this)
      cases hq : ff (fun q => decide (v.2 226 (y * 4 + q) = V i')) p with
      | some q =>
        have hql := (ff_some hq).1
        refine wpf (nI_pos (by omega)) (wpe (e42 g6) (wpe e41 (wpSr (wp_of rfl (hR ?_)))))
        rw [hj, oI_s]
        refine wpj (wpt (nI_pos' (by omega)) (wpc hdup (fun d hd => ?_)))
        rw [hq] at hd
        subst hd
        have ff1 := (flt_at (u := atR v (i' + 1)) (a := 3) (f := nI (P i'))).1
        refine wpe (e380w ff1) ?_
        unfold pr2
        exact wpf (show ¬ (flt (atR v (i' + 1)) 3 (nI (P i'))).1 174 13 = 0 by rw [ff1]; decide) (bad rfl (FLR_of sx_rfl atR_sx))
      | none =>
        have hpk : p < kn u k := by
          have : usd v u y k p < kn u k := cnt_ltN (j := j) (by rw [← e91, hjn, hq]; rfl) _ hjk
          omega
        refine wpt (show nM < 0 by decide) ?_
        dsimp only
        rw [g6.2.2.1, nI_1]
        refine wpl ?_
        have h257 := e257 (n := n) (b := 61) hP1 (by decide)
        have h380 := e380 (n := n) (b := 61) hP1 (by decide) (by decide)
        by_cases e61 : K (i' + 1) = 61
        rotate_left
        · rw [if_neg e61] at h257 h380
          refine wpe h257 (wpSr (wp_of rfl (hR ?_)))
          rw [hj, oI_s]
          refine wpj (wpt (nI_pos' (by omega)) (wpc hdup (fun d hd => ?_)))
          rw [hq] at hd
          subst hd
          have ff1 := (flt_at (u := atR v (i' + 1)) (a := 2) (f := nI (P (i' + 1)))).1
          refine wpe h380 ?_
          unfold pr2
          exact wpf (show ¬ (flt (atR v (i' + 1)) 2 (nI (P (i' + 1)))).1 174 13 = 0 by rw [ff1]; decide) (bad rfl (FLR_of atC_sx atR_sx))
        rw [if_pos e61] at h257 h380
        have hP2 := PSI_s hP1 (by omega)
        obtain ⟨w2, hw2⟩ : ∃ w2, w2 = atC (atC w (i' + 1)) (i' + 1 + 1) := ⟨_, rfl⟩
        obtain ⟨v2, hv2⟩ : ∃ v2, v2 = atR (atR v (i' + 1)) (i' + 1 + 1) := ⟨_, rfl⟩
        rw [← hw2] at h257
        rw [← hv2] at h380
        rw [← hw2, ← hv2] at hP2
        have w2f : ∀ A l, A ≠ 145 → w2.1 A l = w.1 A l ∧ w2.2 A l = w.2 A l := fun A l z => by
          rw [hw2]
          unfold atC
          refine ⟨?_, rfl⟩
          rw [rI, if_neg (by omega), rI, if_neg (by omega)]
        have v2f : ∀ A l, A ≠ 174 → v2.1 A l = v.1 A l ∧ v2.2 A l = v.2 A l := fun A l z => by
          rw [hv2]
          unfold atR
          refine ⟨?_, rfl⟩
          rw [rI, if_neg (by omega), rI, if_neg (by omega)]
        have hnb := (hRKw.2.2.2.2.1 j hjl).2.1
        have htx : w2.1 (kA k + 2) (ix (nI j)) = txt v k j := by
          rw [ix_n (by omega), (w2f _ _ (by unfold kA; omega)).1]
          exact (hRKw.2.2.2.2.1 j hjl).2.2.1
        obtain ⟨T, hT⟩ : ∃ T : Bool, v.1 192 (4 * k + j) = bI T := by
          rcases hnb with z | z
          · exact ⟨false, z⟩
          · exact ⟨true, z⟩
        have htT : txt v k j = if T = true then nI 2 else nI 1 := by
          unfold txt
          rw [hT]
          cases T
          · rfl
          · rfl
        have hs2 : ∃ s, s < 4 ∧ txt v k j = nI s := by
          rw [htT]
          cases T
          · exact ⟨1, by decide, rfl⟩
          · exact ⟨2, by decide, rfl⟩
        have hib4 : ib (nI j) 4 := ib_n (by omega) (by decide)
        have h48 : (4 : Int32) * nI k + nI j = nI (4 * k + j) := by rw [show (4 : Int32) = nI 4 from rfl, pk_mul, nI_add]
        obtain ⟨rv, qv, y1, y2, y3⟩ := jw_ex (val_go (n := n) (t := T) hP2 htT hT)
        have hR2 : ∀ {Q : ((Int32 × cS) ⊕ (cS ⊕ cS ⊕ cS ⊕ cS)) → Prop}, wp (if (qv.1 174 13) = 0 then
                  jn (fun p28 : Int32 =>
                    Option.bind (d_394 n (nI y) (V i') p28 (qv.2 174 68) qv) (fun r29 =>
                    Option.bind (d_379 n 44 r29) (fun r30 =>
                    some (.inl (r30.1, r30.2)))))
                  (fun j164 =>
                  if bI T = 0 then
                    j164 1
                  else
                    j164 2)
                else
                  some (.inr (.inr (.inr (.inr qv))))) Q → wp (prR n (nI y) (nI k) (bI true, v)) Q := fun {Q} hQ => by
          refine hR ?_
          rw [hj, oI_s]
          refine wpj (wpt (nI_pos' (by omega)) (wpc hdup (fun d hd => ?_)))
          rw [hq] at hd
          subst hd
          refine wpe h380 ?_
          unfold pr2
          rw [h48]
          refine wpt hP2.2.2.2.2 (wpt (ib_n (by omega) (by decide)) ?_)
          rw [ix_n (by omega), (v2f 192 (4 * k + j) (by omega)).1, hT]
          rw [hT] at y2
          exact wpl (wpe y2 hQ)
        refine wpe h257 (wpSl (wpt hib4 (wpt hib4 ?_)))
        rw [htx]
        refine wpe y1 ?_
        rcases y3 with ⟨val, j3, d, rfl, l1, l2, l3, l4, l5, l6⟩ | ⟨z, rfl, hf⟩
        rotate_left
        · refine wpSr (wp_of rfl (hR2 (wpf (by rw [hf.2.2.1]; decide) (bad rfl (FLR_tr hf ?_ ?_)))))
          · rw [hw2]
            exact sx_trans atC_sx atC_sx
          · rw [hv2]
            exact sx_trans atR_sx atR_sx
        obtain ⟨s, hs4, hss⟩ := hs2
        have df : ∀ A l, A ≠ 145 → d.1 A l = w.1 A l ∧ d.2 A l = w.2 A l := fun A l z => by
          rw [l5.1 A l (decide_eq_false (by omega)), l5.2 A l (decide_eq_false (by omega))]
          exact w2f A l z
        have qf : ∀ A l, A ≠ 174 → qv.1 A l = v.1 A l ∧ qv.2 A l = v.2 A l := fun A l z => by
          rw [l6.1 A l (decide_eq_false (by omega)), l6.2 A l (decide_eq_false (by omega))]
          exact v2f A l z
        have hDq : PRD d qv x y k p := PRD_cg g7 df qf
        have htq : txt qv k j = txt v k j := txt_cg (fun l => (qf _ _ (by omega)).1)
        have hDn : PRD (adC d x p (V i') (txt v k j) val) (adR qv y p (V i') (txt v k j) val) x y k (p + 1) := by
          have := PRD_ad (nm := V i') (val := val) (j := j) hDq (by omega) (by rw [kn_cg (u := v) (fun l => (qf _ _ (by omega)).1)]; exact hjl) (by rw [(qf _ _ (by omega)).2]; exact hjn) (fun z => l4 (by
            rw [(qf _ _ (by omega)).1, hT] at z
            cases T
            · rfl
            · exact absurd z (by decide)))
          rw [htq] at this
          exact this
        have hPn : PSI K P V N (adC d x p (V i') (txt v k j) val) (adR qv y p (V i') (txt v k j) val) j3 := by
          refine PSI_sx l2 (r := fun A l => decide (A = 136 ∨ (139 ≤ A ∧ A ≤ 141))) (q := fun A l => decide (225 ≤ A ∧ A ≤ 228)) (sx_pI (sx_pL (sx_pI (sx_pL sx_rfl (by decide)) (by decide)) (by decide)) (by decide)) (sx_pI (sx_pL (sx_pI (sx_pL sx_rfl (by decide)) (by decide)) (by decide)) (by decide)) (fun A l z => decide_eq_false (by omega)) (fun A l z => decide_eq_false (by omega))
        have sxd : sx q145 w d := by
          rw [hw2] at l5
          exact sx_trans (sx_pI (sx_pI sx_rfl (by decide)) (by decide)) l5
        have sxq : sx q678 v qv := by
          rw [hv2] at l6
          exact sx_trans (sx_pI (sx_pI sx_rfl (by decide)) (by decide)) l6
        have sC : sx (qMPc x) c (adC d x p (V i') (txt v k j) val) := sx_trans (sx_trans g11 (sx_wide sxd (fun A l z => by
          have := of_decide_eq_false z
          exact decide_eq_false (by omega)))) (adC_sx (by omega))
        have sR : sx (qMPu y) u (adR qv y p (V i') (txt v k j) val) := sx_trans (sx_trans g12 (sx_wide sxq (fun A l z => by
          have := of_decide_eq_false z
          exact decide_eq_false (by omega)))) (adR_sx (by omega))
        have hus2 : p + 1 ≤ usd (adR qv y p (V i') (txt v k j) val) u y k (p + 1) := by
          refine Nat.le_trans (Nat.succ_le_succ g8) (cnt_inc (j := j) (fun l hl => ?_) ?_ ?_ _ hjk)
          · obtain ⟨q, hq'⟩ := Option.isSome_iff_exists.mp hl
            obtain ⟨z1, z2, z3⟩ := ff_some hq'
            have hh : decide ((adR qv y p (V i') (txt v k j) val).2 226 (y * 4 + q) = u.2 191 (4 * k + l)) = true := by
              rw [(adR_at (j := y * 4 + q)).1, if_neg (by omega), (qf _ _ (by omega)).2]
              exact z2
            cases hc : ff (fun q => decide ((adR qv y p (V i') (txt v k j) val).2 226 (y * 4 + q) = u.2 191 (4 * k + l))) (p + 1) with
            | some _ => rfl
            | none =>
              have := ff_none hc q (by omega)
              rw [hh] at this
              cases this
          · rw [← e91, hjn, hq]
            rfl
          · have hh : decide ((adR qv y p (V i') (txt v k j) val).2 226 (y * 4 + p) = u.2 191 (4 * k + j)) = true := by
              rw [(adR_at (j := y * 4 + p)).1, if_pos rfl, ← e91, hjn]
              exact decide_eq_true rfl
            cases hc : ff (fun q => decide ((adR qv y p (V i') (txt v k j) val).2 226 (y * 4 + q) = u.2 191 (4 * k + j))) (p + 1) with
            | some _ => rfl
            | none =>
              have := ff_none hc p (by omega)
              rw [hh] at this
              cases this
        have hR3 : ∀ {Q : ((Int32 × cS) ⊕ (cS ⊕ cS ⊕ cS ⊕ cS)) → Prop}, wp (Option.bind (d_379 n 44 (adR qv y p (V i') (txt v k j) val)) (fun r30 => some (.inl (r30.1, r30.2)))) Q → wp (prR n (nI y) (nI k) (bI true, v)) Q := fun {Q} hQ => by
          refine hR2 (wpt l2.2.2.2.2 (wpj ?_))
          rw [l3]
          have h394 := e394 (n := n) (nm := V i') (s := txt v k j) (v := val) hy (show p < 4 by omega) hDq.2.2.1
          rw [htT] at h394
          rw [htT] at hQ
          cases T with
          | false => exact wpt rfl (wpe h394 hQ)
          | true => exact wpf (by decide) (wpe h394 hQ)
        have h225 := e225 (n := n) (nm := V i') (v := val) (s := s) hx (show p < 4 by omega) hDq.2.1 hs4
        rw [← hss] at h225
        refine wpSl (wpe h225 ?_)
        have h258 := e258 (n := n) (b := 44) hPn (by decide)
        have h379 := e379 (n := n) (b := 44) hPn (by decide) (by decide)
        have hj3 := l2.2.1
        by_cases e44 : K j3 = 44
        · rw [if_pos e44] at h258 h379
          have hj4 := PSI_lt hPn (by omega)
          refine wpe h258 (wpl ?_)
          rw [nI_1]
          refine wp_of rfl (hR3 (wpe h379 (wp_of rfl (Or.inl ⟨_, _, N - (j3 + 1), rfl, rfl, by omega, j3 + 1, p + 1, true, rfl, rfl, rfl, by omega, rfl, PSI_s hPn (by omega), PRD_at hDn, hus2, fun z => by omega, fun _ => by omega, sx_pI sC (decide_eq_true (by omega)), sx_pI sR (decide_eq_true (by omega))⟩))))
        · rw [if_neg e44] at h258 h379
          refine wpe h258 (wpl ?_)
          rw [nI_1]
          refine wp_of rfl (hR3 (wpe h379 (wp_of rfl (Or.inl ⟨_, _, N - j3, rfl, rfl, by omega, j3, p + 1, false, rfl, rfl, rfl, by omega, rfl, hPn, hDn, hus2, fun z => by omega, fun _ => by omega, sC, sR⟩))))
end PRL
