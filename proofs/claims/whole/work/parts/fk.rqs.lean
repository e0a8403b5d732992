/-! WHAT IS READ is a program: rows of MARKS -/
section RQS
variable {n i j N k d r U m w oc kc kk mc cc t x y p : Nat} {c u : cS} {nm v : Int64} {b : Bool}
theorem oOf_f (ho : oc = ocn u) : fO u oc nm = oOf u nm := by
  rw [ho]
  rfl
theorem kOf_f (hk : kc = kcn u) : fK u kc nm = kOf u nm := by
  rw [hk]
  rfl
theorem ff_ext {p : Nat → Bool} {a e : Nat} (h : ff p a = some j) (hae : a ≤ e) : ff p e = some j := by
  obtain ⟨h1, h2, h3⟩ := ff_some h
  exact ff_is (by omega) h2 h3
/-- the code of a NAME among some KINDS is its code among all -/
theorem tOf_t (ho : oc = ocn u) (hk : kk = kcn u) (hkk : kc ≤ kk) (h : tgt u oc kc nm = some t) : tOf u nm = some t ∧ ((t < kc ∧ oOf u nm = none ∧ kOf u nm = some t) ∨ ∃ o, o < oc ∧ t = 100 + o ∧ oOf u nm = some o) := by
  rcases tgt_t h with ⟨h1, h2, h3⟩ | ⟨o, h1, h2, h3⟩
  · have e1 : oOf u nm = none := by
      rw [← oOf_f ho]
      exact h2
    have e2 : kOf u nm = some t := by
      rw [← kOf_f hk]
      exact ff_ext h3 hkk
    refine ⟨?_, Or.inl ⟨h1, e1, e2⟩⟩
    unfold tOf
    rw [e1]
    exact e2
  · have e1 : oOf u nm = some o := by
      rw [← oOf_f ho]
      exact h3
    refine ⟨?_, Or.inr ⟨o, h1, h2, e1⟩⟩
    unfold tOf
    rw [e1, h2]
theorem mkr_of (ho : oc = ocn u) (hk : kk = kcn u) (hkk : kc ≤ kk) (hx : x < 4096) (h34 : c.2 134 x = u.2 223 y) (h : MIN c u oc kc r x y w j) : MKR c u x y := by
  obtain ⟨t, b, h1, h2, h3, h4, h5, h6, h7, h8⟩ := h
  obtain ⟨t1, -⟩ := tOf_t ho hk hkk h2
  have hpr : ∀ {p : Nat}, p ≤ 4 → u.1 225 y = nI p → prn u y = p := fun {p} hp z => by
    unfold prn
    rw [z, ix_n (by omega)]
  refine ⟨hx, h34, by rw [t1, h1]; rfl, by rw [h4]; exact bI_nb, ?_⟩
  rcases h6 with ⟨rfl, a2, a3⟩ | ⟨rfl, a1, a2, a3, a4, a5, a6, a7, a8, -⟩ | ⟨rfl, a1, p, ⟨p1, p2, p3, p4⟩, -⟩
  · rw [hpr (by omega) a3, h4]
    exact ⟨by omega, a3, fun _ => rfl, by rw [a2, if_neg (by decide)], fun q hq => absurd hq (Nat.not_lt_zero _)⟩
  · rw [hpr (by omega) a3, h4]
    refine ⟨by omega, a3, fun z => absurd z (by decide), by rw [a2, if_pos (by decide)], fun q hq => ?_⟩
    have : q = 0 := by omega
    subst this
    rw [Nat.add_zero, Nat.add_zero, a4, a5, a6, a7, a8]
    exact ⟨rfl, rfl, ⟨3, by omega, by omega, rfl⟩, rfl, fun z => absurd z (by decide)⟩
  · rw [hpr p1 p3, h4]
    refine ⟨p1, p3, fun z => absurd z (by decide), by rw [p2, if_pos (by decide)], fun q hq => ?_⟩
    obtain ⟨q1, q2, q3, j', q4, q5, q6, q7⟩ := p4 q hq
    have ht : txt u t j' = nI 1 ∧ u.1 192 (4 * t + j') = nI 0 ∨ txt u t j' = nI 2 := by
      unfold txt
      by_cases e : u.1 192 (4 * t + j') = nI 0
      · rw [if_pos e]
        exact Or.inl ⟨rfl, e⟩
      · rw [if_neg e]
        exact Or.inr rfl
    refine ⟨q1, q2, ?_, q3, fun z => ?_⟩
    · rw [q6]
      rcases ht with z | z
      · exact ⟨1, by omega, by omega, z.1⟩
      · exact ⟨2, by omega, by omega, z⟩
    · rcases ht with y | y
      · exact q7 y.2
      · rw [q6, y] at z
        exact absurd z (by decide)
/-- the chain of a row -/
theorem RWR_ch (h : RWR c u oc kc r U m w) : ∀ j, j < m → ch c r j = nI (U + j)
  | 0, hj => (h.2.2.2.2.1 hj).1
  | j + 1, hj => by
    obtain ⟨-, h2, -, -, -, h6, -⟩ := id h
    show c.1 138 (ix (ch c r j)) = _
    rw [RWR_ch h j (by omega), ix_n (by omega), h6 j (by omega), if_pos hj]
    rfl
theorem RWR_mi (h : RWR c u oc kc r U m w) (hj : j < m) : mi c r j = U + j := by
  unfold mi
  rw [RWR_ch h j hj, ix_n (by have := h.2.1; omega)]
theorem RWR_mz (h : RWR c u oc kc r U m w) : mz u r = m := by
  unfold mz
  rw [h.2.2.2.1, ix_n (by have := h.1; omega)]
theorem RW_of (ho : oc = ocn u) (hk : kk = kcn u) (hkk : kc ≤ kk) (h : RWR c u oc kc r U m w) : RW c u r := by
  have hz := RWR_mz h
  obtain ⟨h1, h2, h3, h4, h5, h6, h7, h8⟩ := id h
  unfold RW
  rw [hz]
  refine ⟨h1, h4, h3, fun j hj => ?_⟩
  rw [RWR_mi h hj]
  exact ⟨RWR_ch h j hj, mkr_of ho hk hkk (by omega) (h7 j hj) (h8 j hj)⟩
theorem cnt_uni {p : Nat → Bool} {i : Nat} : ∀ {n : Nat}, i < n → p i = true → (∀ j, j < n → p j = true → j = i) → cntN p n = 1
  | 0, h, _, _ => absurd h (Nat.not_lt_zero _)
  | n + 1, h, hp, hu => by
    rw [cntN_s]
    by_cases e : i = n
    · subst e
      rw [if_pos hp]
      have : ∀ s, s ≤ i → cntN p s = 0 := fun s => by
        induction s with
        | zero => exact fun _ => rfl
        | succ s ih =>
          intro hs
          rw [cntN_s, ih (by omega)]
          cases es : p s with
          | false => rfl
          | true =>
            have := hu s (by omega) es
            omega
      rw [this i (Nat.le_refl _)]
    · rw [cnt_uni (by omega) hp (fun j hj z => hu j (by omega) z)]
      cases es : p n with
      | false => rfl
      | true =>
        have := hu n (by omega) es
        omega
/-- a row of a PLACE -/
theorem RP_of (ho : oc = ocn u) (hk : kc = kcn u) (hw : w = si r) (h : RWR c u oc kc r U m w) : RP c u r := by
  refine ⟨RW_of ho hk (Nat.le_refl _) h, fun i hi => ?_⟩
  have hz := RWR_mz h
  rw [hz] at hi
  obtain ⟨h1, h2, h3, h4, h5, h6, h7, h8⟩ := id h
  obtain ⟨t, b, a1, a2, a3, a4, a5, a6, a7, a8⟩ := h8 i hi
  have t1 := (tOf_t ho hk (Nat.le_refl _) a2).1
  have hw4 : w < 4 := by
    rw [hw]
    unfold si
    split
    · omega
    · split
      · omega
      · split <;> omega
  have hcs : cst u t (si r) = true := by
    rw [← hw]
    unfold ftW at a8
    rw [if_neg (by omega), if_neg (by omega), if_neg (by omega)] at a8
    exact a8
  have hd : dcn u r i = true := by
    unfold dcn
    rw [t1]
    dsimp only
    rw [hcs, Bool.true_and]
    cases hm : mny u t with
    | true => rfl
    | false =>
      rw [Bool.false_or]
      refine decide_eq_true ?_
      unfold smn
      rw [hz]
      refine cnt_uni hi (decide_eq_true rfl) (fun j hj z => ?_)
      have z := of_decide_eq_true z
      have key : ∀ {j l : Nat}, l < m → j < l → u.2 223 (r * 20 + j) = u.2 223 (r * 20 + l) → tOf u (u.2 223 (r * 20 + l)) = some t → False := fun {j l} hl hjl e et => by
        obtain ⟨t', b', -, c2, -, -, -, -, c7, -⟩ := h8 l hl
        have c1 := (tOf_t ho hk (Nat.le_refl _) c2).1
        rw [et] at c1
        cases c1
        unfold dpl at c7
        rw [hm, Bool.not_false, Bool.and_true] at c7
        unfold hnm at c7
        cases ef : ff (fun q => decide (u.2 223 (r * 20 + q) = u.2 223 (r * 20 + l))) l with
        | some q =>
          rw [ef] at c7
          cases c7
        | none =>
          have := ff_none ef j hjl
          rw [decide_eq_true e] at this
          cases this
      by_cases e1 : j < i
      · exact (key hi e1 z t1).elim
      · by_cases e2 : i < j
        · exact (key hj e2 z.symm (by rw [z]; exact t1)).elim
        · omega
  rw [RWR_mi h hi, a3, hd]
  rfl
/-- a row of a KIND or of a MAKER -/
theorem RQ_of (ho : oc = ocn u) (hk : kk = kcn u) (hkk : kc ≤ kk) (hw : w = 4 ∨ w = 5) (h12 : kc ≤ 12) (hmd : ∀ k, k < kc → MDS u k) (h : RWR c u oc kc r U m w) : RQ c u r := by
  refine ⟨RW_of ho hk hkk h, fun i hi => ?_⟩
  have hz := RWR_mz h
  rw [hz] at hi
  obtain ⟨t, b, a1, a2, a3, a4, a5, a6, a7, a8⟩ := h.2.2.2.2.2.2.2 i hi
  obtain ⟨t1, t2⟩ := tOf_t ho hk hkk a2
  have hb : b = false := by
    cases b with
    | false => rfl
    | true =>
      have := a5 rfl
      omega
  subst hb
  have hpr : ∀ {p : Nat}, p ≤ 4 → u.1 225 (r * 20 + i) = nI p → prn u (r * 20 + i) = p := fun {p} hp z => by
    unfold prn
    rw [z, ix_n (by omega)]
  rw [RWR_mi h hi]
  refine ⟨a3, a4, ?_⟩
  rcases a6 with ⟨z, -⟩ | ⟨-, b1, b2, b3, b4, b5, b6, b7, b8, e, b9⟩ | ⟨-, b1, p, ⟨p1, p2, p3, p4⟩, p5⟩
  · cases z
  · rcases t2 with ⟨z1, -, z3⟩ | ⟨o, z1, z2, z3⟩
    · omega
    · refine Or.inl ⟨o, e, z3, ?_⟩
      have hp0 : pOf u (r * 20 + i) 24948 = some 0 := by
        unfold pOf
        rw [hpr (by omega) b3]
        exact ff_is (by omega) (decide_eq_true b5) (fun l hl => absurd hl (Nat.not_lt_zero _))
      unfold elI
      rw [hp0]
      dsimp only
      rw [Nat.add_zero, if_pos b7]
      rw [show t - 100 = o by omega] at b9
      exact b9
  · rcases t2 with ⟨z1, z2, z3⟩ | ⟨o, z1, z2, z3⟩
    · refine Or.inr ⟨t, z2, z3, fun j hj => ?_⟩
      have hM := hmd t z1
      unfold mbS
      cases ep : pOf u (r * 20 + i) (u.2 191 (4 * t + j)) with
      | some q =>
        unfold pOf at ep
        rw [hpr p1 p3] at ep
        obtain ⟨q1, q2, -⟩ := ff_some ep
        obtain ⟨-, -, -, j', c1, c2, c3, -⟩ := p4 q q1
        have e1 := hM j hj
        have e2 := hM j' c1
        rw [← c2, of_decide_eq_true q2, e1] at e2
        cases e2
        dsimp only
        rw [c3, if_pos rfl]
      | none =>
        dsimp only
        have := p5 j hj
        unfold msg at this
        unfold pOf at ep
        rw [hpr p1 p3] at ep
        rw [ep] at this
        have h93 : u.1 193 (4 * t + j) ≠ nI 0 := by
          cases e93 : decide (u.1 193 (4 * t + j) ≠ nI 0) with
          | true => exact of_decide_eq_true e93
          | false =>
            rw [e93] at this
            cases this
        rw [if_neg h93]
    · omega
end RQS
