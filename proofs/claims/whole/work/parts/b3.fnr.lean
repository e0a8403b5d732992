/-! FIND: the reference -/
theorem Jo_comm {m : cS} {o N a b : Nat} (hL : LA o N m) (ha : a < N) (hb : b < N) : Jo m o a b = Jo m o b a := by
  obtain ⟨a1, -, a3, a4, a5⟩ := LA_J hL ha hb
  obtain ⟨b1, -, b3, b4, b5⟩ := LA_J hL hb ha
  exact LA_anti hL a1 b1 (a5 _ b1 b4 b3) (b5 _ a1 a4 a3)
def qFd (o : Nat) (a i : Nat) : Bool := decide ((a = 174 ∧ ((73 ≤ i ∧ i ≤ 79) ∨ i = 90 ∨ i = 97 ∨ i = 102 ∨ i = 106 ∨ i = 111 ∨ i = 130)) ∨ a = 232 ∨ a = 233 ∨ (a = 235 ∧ 1200 * o ≤ i ∧ i < 1200 * o + 1200) ∨ (236 ≤ a ∧ a ≤ 240))
theorem nP_Fd {o : Nat} : nP (qFd o) := by
  refine ⟨fun a i h => ?_, fun i h => ?_, fun i h => ?_, fun a i h1 h2 h3 => ?_, fun a i h1 h2 h3 => ?_⟩
  · have := PA_of h
    exact decide_eq_false (by omega)
  · have := PF_of h
    exact decide_eq_false (by omega)
  · exact decide_eq_false (by omega)
  · exact decide_eq_false (by omega)
  · exact decide_eq_false (by omega)
theorem sx_qR_Fd {o : Nat} {x y : cS} (h : sx qR x y) : sx (qFd o) x y := sx_wide h (fun a i z => by
  have := of_decide_eq_false z
  exact decide_eq_false (by omega))
/-- MARKS told, by what the reference counts -/
theorem tld_eff {n p o s : Nat} {c m u : cS} (hn : 1000 ≤ n) (hA : AG m u) (hE : EC c m) (hP : isP m p s) (ho : o < ocn m) : wp (d_428 n (nI p) (nI (100 + o)) u) (fun w => sx qR u w ∧ w.1 174 74 = nI (eff m (100 + o) 13 p 0).1 ∧ ((eff m (100 + o) 13 p 0).1 = 0 ↔ tld m p o = none) ∧ (eff m (100 + o) 13 p 0).1 ≤ 20) := by
  refine wp_mono (e428 hn hA hE hP (ky_o ho)) (fun w hw => ⟨hw.1, hw.2.1.1, ?_, ?_⟩)
  · constructor
    · intro z
      unfold tld
      rw [if_pos z]
    · intro z
      apply Classical.byContradiction
      intro h
      obtain ⟨y, y1, -⟩ := (hw.2.1.2 (Nat.pos_of_ne_zero h)).2.2.2 0 (Nat.pos_of_ne_zero h)
      unfold tld at z
      rw [if_neg h, y1] at z
      cases z
  · by_cases h : (eff m (100 + o) 13 p 0).1 = 0
    · omega
    · have := (eff_ok (t := 100 + o) (F := 13) (S := 0) hE hP rfl (Nat.pos_of_ne_zero h)).2.1
      omega
theorem FD_up {m g w : cS} {o p s v : Nat} (hG : PG g m) (h : FD m g w) (hp : isP m p s) (hs : 1 ≤ s) (ho : o < ocn m) (hv : v < eln m o) : FD m (pI g 148 (p * 4 + o) (nI v)) (pI w 235 (1200 * o + p) (nI v)) := by
  have ho4 := hG.1.1.1
  have hp12 := (EC_row hG.1 hp).1
  have hel := OOS_el hG.1.1 ho
  intro q t o' hq ht ho'
  have hq12 := (EC_row hG.1 hq).1
  obtain ⟨a1, a2, a3⟩ := h q t o' hq ht ho'
  unfold fdv
  rw [rI, rI]
  by_cases e : q = p ∧ o' = o
  · rw [if_pos ⟨rfl, by rw [e.1, e.2]⟩, if_pos ⟨rfl, by rw [e.1, e.2]⟩, ix_n (by omega), e.2]
    exact ⟨hv, rfl, rfl⟩
  · rw [if_neg (fun z => e ⟨by omega, by omega⟩), if_neg (fun z => e ⟨by omega, by omega⟩)]
    exact ⟨a1, a2, a3⟩
theorem e131 {n o : Nat} {g m u : cS} (hn : 1100000 ≤ n) (h0 : g.1 7 0 = nI 1) (h0' : m.1 174 14 = nI 1) (hA : AG m (pI u 174 0 0)) (hg : STc m o g) (hlow : LOW m o (Fc o g)) (h119 : d_119 n (nI o) (pI u 174 0 0) = some (nI 1)) (hGU : ∀ p s o', isP m p s → 1 ≤ s → o' < ocn m → (o' = o ∧ tld m p o = none ∧ g.1 148 (p * 4 + o') = nI (ix (m.1 188 o))) ∨ (¬ (o' = o ∧ tld m p o = none) ∧ (pI u 174 0 0).1 235 (1200 * o' + p) = g.1 148 (p * 4 + o'))) :
    wp (d_131 n (nI o) u) (fun r => r.1 = nI (cntN (fpB m o) 1200) ∧ sx (qFd o) (pI u 174 0 0) r.2 ∧ FGR r.2 ∧ ∃ g', STc m o g' ∧ FD m g' r.2 ∧ FLS m o (Fc o g') ∧ TKp m o (Fc o g) (Fc o g') ∧ sx (q48 o) g g') := by
  obtain ⟨hG, hT, h8, hFd, h150, ho⟩ := id hg
  have hE := hG.1
  have hC := hE.2.2.1
  have hcc := (CCS_p hC).1
  have ho4 := hE.1.1
  have hbot := bot_lt hE.1 ho
  have hel := OOS_el hE.1 ho
  have hLA := (OOS_at hE.1 ho).1
  have hTok : okT m o := fun p s e hp hs ht => tld_lt hE.1 ho ht
  unfold d_131
  refine wpl ?_
  generalize pI u 174 0 0 = v at *
  refine wpe h119 (wpf (by decide) (wpc e133 (fun v1 hv1 => ?_)))
  obtain ⟨s1, r1⟩ := hv1
  have s1' : sx (qFd o) v v1 := sx_wide s1 (fun a i z => by
    have := of_decide_eq_false z
    exact decide_eq_false (by omega))
  have FG : ∀ {x y : cS}, FGR x → sx (fun a i => decide ((a = 174 ∧ ((73 ≤ i ∧ i ≤ 79) ∨ i = 90)) ∨ a = 232 ∨ a = 233 ∨ a = 235 ∨ (236 ≤ a ∧ a ≤ 240))) x y → FGR y := by
    intro x y hx hy
    obtain ⟨b1, b2, b3, b4, b5⟩ := hx
    exact ⟨(hy.1 174 106 rfl).trans b1, (hy.1 174 111 rfl).trans b2, (hy.1 174 97 rfl).trans b3, (hy.1 174 102 rfl).trans b4, (hy.1 174 130 rfl).trans b5⟩
  refine wpc (K' := fun r : Int32 × cS => r.1 = nI (cntN (fpB m o) 1200) ∧ sx (qFd o) v r.2 ∧ FGR r.2 ∧ ∀ o' p, p < 1200 → r.2.1 235 (1200 * o' + p) = if o' = o ∧ fpB m o p = true then nI (ix (m.1 188 o)) else v.1 235 (1200 * o' + p)) (whl_cnt (fun k (st : Int32 × Int32 × cS) => st.1 = nI (cntN (fpB m o) k) ∧ st.2.1 = nI k ∧ sx (qFd o) v st.2.2 ∧ FGR st.2.2 ∧ ∀ o' p, p < 1200 → st.2.2.1 235 (1200 * o' + p) = if o' = o ∧ p < k ∧ fpB m o p = true then nI (ix (m.1 188 o)) else v.1 235 (1200 * o' + p)) 1200 ?_ ?_ (by omega) ⟨rfl, rfl, s1', r1, fun o' p hp => by rw [if_neg (by omega)]; exact s1.1 235 _ (decide_eq_false (by omega))⟩) ?_
  · rintro k ⟨a, k0, w⟩ hk ⟨g1, g2, g3, g4, g5⟩
    dsimp only at g1 g2 g3 g4 g5
    subst g1 g2
    dsimp only
    have hAw := AG_sx hA g3 nP_Fd
    have huw : w.1 174 14 = 1 := (hAw.2.2.1 14 rfl).trans h0'
    refine wpf (by simp (disch := first | omega | decide) only [↓neg1, nlit, rI, rL, rI2, rL1, nI_add, pk_mul, sbT, dvT, nmd, ixT, ↓ibT, ltT, ltF, leT, leF, eqT, eqF, nM_ltT, nM_ltF, nM_leT, nM_leF, nM_eqF, nM_eqF', nbT0, nbT1, oI_s, oI_n, natF, natT, nltT, nltF, nleT, nleF, ↓reduceIte, lgc, not_true_eq_false, not_false_eq_true, or_false, false_or, or_true, true_or, and_true, true_and, and_false, false_and, ne_eq, eq_self, or_self, and_self]) ?_
    have hcn : cntN (fpB m o) (k + 1) = cntN (fpB m o) k + (if fpB m o k = true then 1 else 0) := rfl
    have nx : ∀ {y : cS}, fpB m o k = false → sx (qFd o) v y → FGR y → (∀ i, y.1 235 i = w.1 235 i) → (nI (cntN (fpB m o) k) = nI (cntN (fpB m o) (k + 1)) ∧ sx (qFd o) v y ∧ FGR y ∧ ∀ o' p, p < 1200 → y.1 235 (1200 * o' + p) = if o' = o ∧ p < k + 1 ∧ fpB m o p = true then nI (ix (m.1 188 o)) else v.1 235 (1200 * o' + p)) := by
      intro y hf y1 y2 y3
      refine ⟨by rw [hcn, hf]; rfl, y1, y2, fun o' p hp => ?_⟩
      rw [y3, g5 o' p hp]
      by_cases e : p = k
      · rw [if_neg (by omega), if_neg (fun z => by rw [e, hf] at z; cases z.2.2)]
      · by_cases e2 : o' = o ∧ p < k ∧ fpB m o p = true
        · rw [if_pos e2, if_pos ⟨e2.1, by omega, e2.2.2⟩]
        · rw [if_neg e2, if_neg (fun z => e2 ⟨z.1, by omega, z.2.2⟩)]
    have jj : ∀ {Q : Int32 × Int32 × cS ⊕ Int32 × cS → Prop} (x : Int32) (y : cS), wp (some (Sum.inl (x, nI k + 1, y)) : Option (Int32 × Int32 × cS ⊕ Int32 × cS)) Q → wp (some (Sum.inl (x, nI k + 1, y)) : Option (Int32 × Int32 × cS ⊕ Int32 × cS)) Q := fun x y h => h
    rcases plA (n := n) (a := nI k) h0 h0' hAw hC with ⟨p1, p2⟩ | ⟨p, s, p1, p2, p3, p4, p5, p6, p7⟩
    · have hf : fpB m o k = false := by
        cases hfk : fpB m o k with
        | false => rfl
        | true =>
          obtain ⟨⟨s, hs, -⟩, -⟩ := fpB_t.mp hfk
          have h109 := e109 (n := n) (p := k) (by omega) huw (PC_AG hAw hC.1)
          rw [srt_AG hAw, show srt (ccn m) m k = some s from hs, p2] at h109
          have h110 : nI 0 = 1 := Option.some.inj h109
          exact absurd h110 (by decide)
      refine wpe (show d_112 n (nI k) w = some (nI 0) by unfold d_112; simp (disch := first | omega | decide) only [↓neg1, nlit, rI, rL, rI2, rL1, nI_add, pk_mul, sbT, dvT, nmd, ixT, ↓ibT, ltT, ltF, leT, leF, eqT, eqF, nM_ltT, nM_ltF, nM_leT, nM_leF, nM_eqF, nM_eqF', nbT0, nbT1, oI_s, oI_n, natF, natT, nltT, nltF, nleT, nleF, ↓reduceIte, lgc, not_true_eq_false, not_false_eq_true, or_false, false_or, or_true, true_or, and_true, true_and, and_false, false_and, ne_eq, eq_self, or_self, and_self, obs, ↓jn, ↓lt, ↓reduceIte, decide_true, decide_false, Bool.false_eq_true, Bool.and_true, Bool.and_false, Bool.true_and, Bool.false_and, Bool.or_false, Bool.false_or, Bool.or_true, Bool.true_or, p2]) (wpj (wpt rfl (wpl ?_)))
      obtain ⟨z1, z2, z3, z4⟩ := nx hf g3 g4 (fun i => rfl)
      exact ⟨z1, nI_1 _, z2, z3, z4⟩
    · have : p = k := ((nI_eq (by omega) (by omega)).mp p2).symm
      subst this
      by_cases hs : s = 0
      · subst hs
        have hf : fpB m o p = false := by
          cases hfk : fpB m o p with
          | false => rfl
          | true =>
            obtain ⟨⟨s, hs, hs1⟩, -⟩ := fpB_t.mp hfk
            have : some s = some 0 := hs.symm.trans p3
            cases this
            omega
        refine wpe (show d_112 n (nI p) w = some (nI 0) by unfold d_112; simp (disch := first | omega | decide) only [↓neg1, nlit, rI, rL, rI2, rL1, nI_add, pk_mul, sbT, dvT, nmd, ixT, ↓ibT, ltT, ltF, leT, leF, eqT, eqF, nM_ltT, nM_ltF, nM_leT, nM_leF, nM_eqF, nM_eqF', nbT0, nbT1, oI_s, oI_n, natF, natT, nltT, nltF, nleT, nleF, ↓reduceIte, lgc, not_true_eq_false, not_false_eq_true, or_false, false_or, or_true, true_or, and_true, true_and, and_false, false_and, ne_eq, eq_self, or_self, and_self, obs, ↓jn, ↓lt, ↓reduceIte, decide_true, decide_false, Bool.false_eq_true, Bool.and_true, Bool.and_false, Bool.true_and, Bool.false_and, Bool.or_false, Bool.false_or, Bool.or_true, Bool.true_or, p6, p7, Nat.pow_zero]) (wpj (wpt rfl (wpl ?_)))
        obtain ⟨z1, z2, z3, z4⟩ := nx hf g3 g4 (fun i => rfl)
        exact ⟨z1, nI_1 _, z2, z3, z4⟩
      · have h112 : d_112 n (nI p) w = some (nI 1) := by
          unfold d_112
          simp (disch := first | omega | decide) only [↓neg1, nlit, rI, rL, rI2, rL1, nI_add, pk_mul, sbT, dvT, nmd, ixT, ↓ibT, ltT, ltF, leT, leF, eqT, eqF, nM_ltT, nM_ltF, nM_leT, nM_leF, nM_eqF, nM_eqF', nbT0, nbT1, oI_s, oI_n, natF, natT, nltT, nltF, nleT, nleF, ↓reduceIte, lgc, not_true_eq_false, not_false_eq_true, or_false, false_or, or_true, true_or, and_true, true_and, and_false, false_and, ne_eq, eq_self, or_self, and_self, obs, ↓jn, ↓lt, ↓reduceIte, decide_true, decide_false, Bool.false_eq_true, Bool.and_true, Bool.and_false, Bool.true_and, Bool.false_and, Bool.or_false, Bool.false_or, Bool.or_true, Bool.true_or, p6, p7, pow1, hs]
        refine wpe h112 (wpj (wpf (by decide) ?_))
        rw [show (100 : Int32) + nI o = nI (100 + o) from nI_add 100 o]
        refine wpc (tld_eff (by omega) hAw hE p3 ho) (fun r hr => ?_)
        obtain ⟨r2, r3, r4, r5⟩ := hr
        have sr : sx (qFd o) v r := sx_trans g3 (sx_qR_Fd r2)
        have fr : FGR r := FG g4 (sx_wide r2 (fun a i z => by
          have := of_decide_eq_false z
          exact decide_eq_false (by omega)))
        have r235 : ∀ i, r.1 235 i = w.1 235 i := fun i => r2.1 235 i (decide_eq_false (by omega))
        rw [r3]
        by_cases he : (eff m (100 + o) 13 p 0).1 = 0
        · have hf : fpB m o p = true := fpB_t.mpr ⟨⟨s, p3, by omega⟩, r4.mp he⟩
          rw [he, show (1200 : Int32) * nI o + nI p = nI (1200 * o + p) by rw [show (1200 : Int32) = nI 1200 from rfl, pk_mul, nI_add]]
          refine wpt (by decide) (wpt (by simp (disch := first | omega | decide) only [↓neg1, nlit, rI, rL, rI2, rL1, nI_add, pk_mul, sbT, dvT, nmd, ixT, ↓ibT, ltT, ltF, leT, leF, eqT, eqF, nM_ltT, nM_ltF, nM_leT, nM_leF, nM_eqF, nM_eqF', nbT0, nbT1, oI_s, oI_n, natF, natT, nltT, nltF, nleT, nleF, ↓reduceIte, lgc, not_true_eq_false, not_false_eq_true, or_false, false_or, or_true, true_or, and_true, true_and, and_false, false_and, ne_eq, eq_self, or_self, and_self]) (wpt (by simp (disch := first | omega | decide) only [↓neg1, nlit, rI, rL, rI2, rL1, nI_add, pk_mul, sbT, dvT, nmd, ixT, ↓ibT, ltT, ltF, leT, leF, eqT, eqF, nM_ltT, nM_ltF, nM_leT, nM_leF, nM_eqF, nM_eqF', nbT0, nbT1, oI_s, oI_n, natF, natT, nltT, nltF, nleT, nleF, ↓reduceIte, lgc, not_true_eq_false, not_false_eq_true, or_false, false_or, or_true, true_or, and_true, true_and, and_false, false_and, ne_eq, eq_self, or_self, and_self]) ?_))
          rw [ix_n (by omega), ix_n (by omega), (sr.1 188 o (decide_eq_false (by omega))).trans ((hA.1 188 o rfl).trans hbot.2.1)]
          refine wpl (wpl (wpl ⟨?_, nI_1 _, sx_pI sr (decide_eq_true (by omega)), ?_, fun o' q hq => ?_⟩))
          · dsimp only
            rw [hcn, hf, nI_1]
            rfl
          · obtain ⟨b1, b2, b3, b4, b5⟩ := fr
            refine ⟨?_, ?_, ?_, ?_, ?_⟩
            · rw [rI, if_neg (by omega)]
              exact b1
            · rw [rI, if_neg (by omega)]
              exact b2
            · rw [rI, if_neg (by omega)]
              exact b3
            · rw [rI, if_neg (by omega)]
              exact b4
            · rw [rI, if_neg (by omega)]
              exact b5
          · dsimp only
            rw [rI]
            by_cases e : q = p ∧ o' = o
            · rw [if_pos ⟨rfl, by rw [e.1, e.2]⟩, if_pos ⟨e.2, by omega, by rw [e.1]; exact hf⟩]
            · rw [if_neg (fun z => e ⟨by omega, by omega⟩), r235, g5 o' q hq]
              by_cases e2 : o' = o ∧ q < p ∧ fpB m o q = true
              · rw [if_pos e2, if_pos ⟨e2.1, by omega, e2.2.2⟩]
              · rw [if_neg e2, if_neg (fun z => e2 ⟨z.1, by have := z.2.1; have := z.1; omega, z.2.2⟩)]
        · have hf : fpB m o p = false := by
            cases hfk : fpB m o p with
            | false => rfl
            | true => exact absurd (r4.mpr (fpB_t.mp hfk).2) he
          refine wpf (by simp (disch := first | omega | decide) only [↓neg1, nlit, rI, rL, rI2, rL1, nI_add, pk_mul, sbT, dvT, nmd, ixT, ↓ibT, ltT, ltF, leT, leF, eqT, eqF, nM_ltT, nM_ltF, nM_leT, nM_leF, nM_eqF, nM_eqF', nbT0, nbT1, oI_s, oI_n, natF, natT, nltT, nltF, nleT, nleF, ↓reduceIte, lgc, not_true_eq_false, not_false_eq_true, or_false, false_or, or_true, true_or, and_true, true_and, and_false, false_and, ne_eq, eq_self, or_self, and_self]) (wpl ?_)
          obtain ⟨z1, z2, z3, z4⟩ := nx hf sr fr r235
          exact ⟨z1, nI_1 _, z2, z3, z4⟩
  · rintro ⟨a, k0, w⟩ ⟨g1, g2, g3, g4, g5⟩
    dsimp only at g1 g2 g3 g4 g5
    subst g1 g2
    dsimp only
    refine wpt (by simp (disch := first | omega | decide) only [↓neg1, nlit, rI, rL, rI2, rL1, nI_add, pk_mul, sbT, dvT, nmd, ixT, ↓ibT, ltT, ltF, leT, leF, eqT, eqF, nM_ltT, nM_ltF, nM_leT, nM_leF, nM_eqF, nM_eqF', nbT0, nbT1, oI_s, oI_n, natF, natT, nltT, nltF, nleT, nleF, ↓reduceIte, lgc, not_true_eq_false, not_false_eq_true, or_false, false_or, or_true, true_or, and_true, true_and, and_false, false_and, ne_eq, eq_self, or_self, and_self]) ⟨rfl, g3, g4, fun o' p hp => ?_⟩
    dsimp only
    rw [g5 o' p hp]
    by_cases e2 : o' = o ∧ p < 1200 ∧ fpB m o p = true
    · rw [if_pos e2, if_pos ⟨e2.1, e2.2.2⟩]
    · rw [if_neg e2, if_neg (fun z => e2 ⟨z.1, hp, z.2⟩)]
  rintro ⟨cnt, x⟩ ⟨x1, x2, x3, x4⟩
  dsimp only at x1 x2 x3 x4
  subst x1
  dsimp only
  have hFDx : FD m g x := by
    intro p s o' hp hs ho'
    have hp12 := (EC_row hE hp).1
    obtain ⟨f1, f2⟩ := hFd p s o' hp hs ho'
    refine ⟨f1, f2, ?_⟩
    rw [x4 o' p hp12, ← f2]
    rcases hGU p s o' hp hs ho' with ⟨a1, a2, a3⟩ | ⟨a1, a2⟩
    · rw [if_pos ⟨a1, fpB_t.mpr ⟨⟨s, hp, hs⟩, a2⟩⟩, a3]
    · rw [if_neg (fun z => a1 ⟨z.1, (fpB_t.mp z.2).2⟩)]
      exact a2
  have okc : ∀ {d : cS}, STc m o d → okD m o (Fc o d) := fun hd p s hp hs => (hd.2.2.2.1 p s o hp hs ho).1
  refine wpc (K' := fun z : cS => sx (qFd o) v z ∧ FGR z ∧ ∃ g', STc m o g' ∧ FD m g' z ∧ FLS m o (Fc o g') ∧ TKp m o (Fc o g) (Fc o g') ∧ sx (q48 o) g g') (whl_run (fun μ (st : Int32 × cS) => sx (qFd o) v st.2 ∧ FGR st.2 ∧ ∃ g', STc m o g' ∧ FD m g' st.2 ∧ LWT m o (Fc o g) (Fc o g') ∧ sx (q48 o) g g' ∧ ((st.1 = nI 0 ∧ CLF m o (Fc o g')) ∨ (st.1 = nI 1 ∧ μ = ptF m o (Fc o g') + 1))) ?_ n (ptF m o (Fc o g) + 1) _ (by have := ptF_le (m := m) (o := o) (F := Fc o g); omega) ⟨x2, x3, g, hg, hFDx, ⟨hlow, fun p hp => rfl⟩, sx_rfl, Or.inr ⟨rfl, rfl⟩⟩) (fun z hz => ⟨rfl, hz⟩)
  rintro μ ⟨fl, x⟩ ⟨q1, q2, g0, q3, q4, q5, q6, q7⟩
  dsimp only at q1 q2 q4 q7
  dsimp only
  rcases q7 with ⟨rfl, q7⟩ | ⟨rfl, q7⟩
  · exact wpt rfl ⟨q1, q2, g0, q3, q4, ⟨okc q3, q7, q5.1⟩, q5.2, q6⟩
  refine wpf (by decide) ?_
  have hAx := AG_sx hA q1 nP_Fd
  have h07 : g0.1 7 0 = nI 1 := (q6.1 7 0 (decide_eq_false (by omega))).trans h0
  refine wpc (e450 (by omega) h07 h0' hAx q3.1.1 ho q4) (fun y hy => ?_)
  obtain ⟨y1, y2, y3⟩ := hy
  rw [TM_Kf] at y2
  have sy : sx (qFd o) v y := sx_trans q1 (sx_wide y1 (fun a i z => by
    have := of_decide_eq_false z
    exact decide_eq_false (by omega)))
  have fy : FGR y := FG q2 (sx_wide y1 (fun a i z => by
    have := of_decide_eq_false z
    exact decide_eq_false (by omega)))
  have hFDy : FD m g0 y := FD_sx q4 y1 (fun i => decide_eq_false (by omega))
  -- a sweep
  refine wpc (K' := fun r : Int32 × cS => sx (qFd o) v r.2 ∧ FGR r.2 ∧ ∃ g', STc m o g' ∧ FD m g' r.2 ∧ LWT m o (Fc o g) (Fc o g') ∧ sx (q48 o) g g' ∧ SWP m o (Fc o g0) (CLF m o (Fc o g0)) r.1 (Fc o g')) (whl_cnt (fun M (st : Int32 × Int32 × cS) => st.2.1 = nI M ∧ sx (qFd o) v st.2.2 ∧ FGR st.2.2 ∧ MKS m (Kf m o (Fc o g0)) st.2.2 ∧ TLD m o st.2.2 ∧ ∃ g', STc m o g' ∧ FD m g' st.2.2 ∧ LWT m o (Fc o g) (Fc o g') ∧ sx (q48 o) g g' ∧ SWP m o (Fc o g0) (∀ M', M' < M → isMt m M' → ∃ X, CLM m o M' (Fc o g0) X) st.1 (Fc o g')) 96 ?_ ?_ (by omega) ⟨rfl, sy, fy, y2, y3, g0, q3, hFDy, q5, q6, Or.inl ⟨rfl, rfl, fun M' hM' => by omega⟩⟩) ?_
  · rintro M ⟨f0, M0, w⟩ hM ⟨a1, a2, a3, a4, a5, g1, b1, b2, b3, b4, b5⟩
    dsimp only at a1 a2 a3 a4 a5 b2 b5
    subst a1
    dsimp only
    have hAw := AG_sx hA a2 nP_Fd
    refine wpf (by simp (disch := first | omega | decide) only [↓neg1, nlit, rI, rL, rI2, rL1, nI_add, pk_mul, sbT, dvT, nmd, ixT, ↓ibT, ltT, ltF, leT, leF, eqT, eqF, nM_ltT, nM_ltF, nM_leT, nM_leF, nM_eqF, nM_eqF', nbT0, nbT1, oI_s, oI_n, natF, natT, nltT, nltF, nleT, nleF, ↓reduceIte, lgc, not_true_eq_false, not_false_eq_true, or_false, false_or, or_true, true_or, and_true, true_and, and_false, false_and, ne_eq, eq_self, or_self, and_self]) (wpe (e105 hAw hC hM) ?_)
    refine wpjQ (fun z : Int32 × cS => sx (qFd o) v z.2 ∧ FGR z.2 ∧ MKS m (Kf m o (Fc o g0)) z.2 ∧ TLD m o z.2 ∧ ∃ g', STc m o g' ∧ FD m g' z.2 ∧ LWT m o (Fc o g) (Fc o g') ∧ sx (q48 o) g g' ∧ SWP m o (Fc o g0) (∀ M', M' < M + 1 → isMt m M' → ∃ X, CLM m o M' (Fc o g0) X) z.1 (Fc o g')) (fun z hz => wpl ⟨nI_1 _, hz⟩) ?_
    intro Q' k' hk'
    by_cases hm : isMt m M
    · rw [if_pos (mtb_t.mpr hm)]
      refine wpf (by decide) ?_
      have hX : FX g0 m o M (Kf m o (Fc o g0)) := ⟨q3.1.1.1, q3.1.1.2.2.1, q3.1.2.2, hm, ho, okK_of hTok (okc q3)⟩
      refine wpc (e456 (by omega) hAw hX a4) (fun r hr => ?_)
      obtain ⟨r1, r2, r3⟩ := hr
      have hn40 := (FX_L hX).2.2.1
      have hn1 := (FX_L hX).2.2.2.1
      have sr : sx (qFd o) v r := sx_trans a2 (sx_wide r1 (fun a i z => by
        have := of_decide_eq_false z
        exact decide_eq_false (by omega)))
      have fr : FGR r := FG a3 (sx_wide r1 (fun a i z => by
        have := of_decide_eq_false z
        exact decide_eq_false (by omega)))
      have mr : MKS m (Kf m o (Fc o g0)) r := fun p s hp hs => (r1.1 236 p (decide_eq_false (by omega))).trans (a4 p s hp hs)
      have tr : TLD m o r := fun p s hp hs => (r1.1 237 p (decide_eq_false (by omega))).trans (a5 p s hp hs)
      have dr : FD m g1 r := FD_sx b2 r1 (fun i => decide_eq_false (by omega))
      have h210 : ∀ {y : cS}, sx (qFd o) v y → y.1 210 M = nI (acn m M) := fun hy => (hy.1 210 M (decide_eq_false (by omega))).trans ((hA.1 210 M rfl).trans (hG.2.2.2.1 M hm).1.2.1)
      rw [show (40 : Int32) * nI M = nI (40 * M) by rw [show (40 : Int32) = nI 40 from rfl, pk_mul]]
      refine wpl ?_
      refine wpc (K' := fun z : Int32 × cS => sx (qFd o) v z.2 ∧ FGR z.2 ∧ MKS m (Kf m o (Fc o g0)) z.2 ∧ TLD m o z.2 ∧ ∃ g', STc m o g' ∧ FD m g' z.2 ∧ LWT m o (Fc o g) (Fc o g') ∧ sx (q48 o) g g' ∧ SWP m o (Fc o g0) (∀ M', M' < M + 1 → isMt m M' → ∃ X, CLM m o M' (Fc o g0) X) z.1 (Fc o g')) (whl_cnt (fun i (st : Int32 × Int32 × cS) => st.2.1 = nI (40 * M + i) ∧ sx (qFd o) v st.2.2 ∧ FGR st.2.2 ∧ MKS m (Kf m o (Fc o g0)) st.2.2 ∧ TLD m o st.2.2 ∧ sx (fun a i => decide (a = 235)) r st.2.2 ∧ ∃ g', STc m o g' ∧ FD m g' st.2.2 ∧ LWT m o (Fc o g) (Fc o g') ∧ sx (q48 o) g g' ∧ SWP m o (Fc o g0) ((∀ M', M' < M → isMt m M' → ∃ X, CLM m o M' (Fc o g0) X) ∧ ∀ j k f, j < i → k < wnt m (40 * M + j) → RX r M j = some f → tld m (wtp m M (40 * M + j) k) o = none → mB m o (f (wts m (40 * M + j) k)) (Fc o g0 (wtp m M (40 * M + j) k))) st.1 (Fc o g')) (acn m M) ?_ ?_ (by omega) ⟨rfl, sr, fr, mr, tr, sx_rfl, g1, b1, dr, b3, b4, ?_⟩) (fun z hz => hk' z hz)
      · rintro i ⟨f1, i0, y⟩ hi ⟨c1, c2, c3, c4, c5, c6, g2, d1, d2, d3, d4, d5⟩
        dsimp only at c1 c2 c3 c4 c5 c6 d2 d5
        subst c1
        dsimp only
        have hac := MTS_ac hG.2.2 hm hi
        refine wpt (by simp (disch := first | omega | decide) only [↓neg1, nlit, rI, rL, rI2, rL1, nI_add, pk_mul, sbT, dvT, nmd, ixT, ↓ibT, ltT, ltF, leT, leF, eqT, eqF, nM_ltT, nM_ltF, nM_leT, nM_leF, nM_eqF, nM_eqF', nbT0, nbT1, oI_s, oI_n, natF, natT, nltT, nltF, nleT, nleF, ↓reduceIte, lgc, not_true_eq_false, not_false_eq_true, or_false, false_or, or_true, true_or, and_true, true_and, and_false, false_and, ne_eq, eq_self, or_self, and_self]) ?_
        rw [ix_n (by omega), h210 c2, nI_add]
        refine wpf (by simp (disch := first | omega | decide) only [↓neg1, nlit, rI, rL, rI2, rL1, nI_add, pk_mul, sbT, dvT, nmd, ixT, ↓ibT, ltT, ltF, leT, leF, eqT, eqF, nM_ltT, nM_ltF, nM_leT, nM_leF, nM_eqF, nM_eqF', nbT0, nbT1, oI_s, oI_n, natF, natT, nltT, nltF, nleT, nleF, ↓reduceIte, lgc, not_true_eq_false, not_false_eq_true, or_false, false_or, or_true, true_or, and_true, true_and, and_false, false_and, ne_eq, eq_self, or_self, and_self]) ?_
        have hw4 := wnt_le hC hac.2.2.2.2.2.2.1
        refine wpc (K' := fun z : Int32 × cS => sx (qFd o) v z.2 ∧ FGR z.2 ∧ MKS m (Kf m o (Fc o g0)) z.2 ∧ TLD m o z.2 ∧ sx (fun a i => decide (a = 235)) r z.2 ∧ ∃ g', STc m o g' ∧ FD m g' z.2 ∧ LWT m o (Fc o g) (Fc o g') ∧ sx (q48 o) g g' ∧ SWP m o (Fc o g0) ((∀ M', M' < M → isMt m M' → ∃ X, CLM m o M' (Fc o g0) X) ∧ ∀ j k f, j < i + 1 → k < wnt m (40 * M + j) → RX r M j = some f → tld m (wtp m M (40 * M + j) k) o = none → mB m o (f (wts m (40 * M + j) k)) (Fc o g0 (wtp m M (40 * M + j) k))) z.1 (Fc o g')) (whl_cnt (fun k (st : Int32 × Int32 × cS) => st.2.1 = nI k ∧ sx (qFd o) v st.2.2 ∧ FGR st.2.2 ∧ MKS m (Kf m o (Fc o g0)) st.2.2 ∧ TLD m o st.2.2 ∧ sx (fun a i => decide (a = 235)) r st.2.2 ∧ ∃ g', STc m o g' ∧ FD m g' st.2.2 ∧ LWT m o (Fc o g) (Fc o g') ∧ sx (q48 o) g g' ∧ SWP m o (Fc o g0) ((∀ M', M' < M → isMt m M' → ∃ X, CLM m o M' (Fc o g0) X) ∧ (∀ j k f, j < i → k < wnt m (40 * M + j) → RX r M j = some f → tld m (wtp m M (40 * M + j) k) o = none → mB m o (f (wts m (40 * M + j) k)) (Fc o g0 (wtp m M (40 * M + j) k))) ∧ ∀ k' f, k' < k → RX r M i = some f → tld m (wtp m M (40 * M + i) k') o = none → mB m o (f (wts m (40 * M + i) k')) (Fc o g0 (wtp m M (40 * M + i) k'))) st.1 (Fc o g')) (wnt m (40 * M + i)) ?_ ?_ (by omega) ⟨rfl, c2, c3, c4, c5, c6, g2, d1, d2, d3, d4, ?_⟩) (fun z hz => wpl ⟨?_, hz⟩)
        · rintro k ⟨f2, k0, x⟩ hk ⟨e1, e2, e3, e4, e5, e6, g3, t1, t2, t3, t4, t5⟩
          dsimp only at e1 e2 e3 e4 e5 e6 t2 t5
          subst e1
          dsimp only
          have hAx' := AG_sx hA e2 nP_Fd
          have hop := hac.1
          refine wpe (e457 hAx' hC hm (by omega) hac.2.1 hop.2 hac.2.2.2.2.2.2.1) (wpf (by simp (disch := first | omega | decide) only [↓neg1, nlit, rI, rL, rI2, rL1, nI_add, pk_mul, sbT, dvT, nmd, ixT, ↓ibT, ltT, ltF, leT, leF, eqT, eqF, nM_ltT, nM_ltF, nM_leT, nM_leF, nM_eqF, nM_eqF', nbT0, nbT1, oI_s, oI_n, natF, natT, nltT, nltF, nleT, nleF, ↓reduceIte, lgc, not_true_eq_false, not_false_eq_true, or_false, false_or, or_true, true_or, and_true, true_and, and_false, false_and, ne_eq, eq_self, or_self, and_self]) (wpt (by simp (disch := first | omega | decide) only [↓neg1, nlit, rI, rL, rI2, rL1, nI_add, pk_mul, sbT, dvT, nmd, ixT, ↓ibT, ltT, ltF, leT, leF, eqT, eqF, nM_ltT, nM_ltF, nM_leT, nM_leF, nM_eqF, nM_eqF', nbT0, nbT1, oI_s, oI_n, natF, natT, nltT, nltF, nleT, nleF, ↓reduceIte, lgc, not_true_eq_false, not_false_eq_true, or_false, false_or, or_true, true_or, and_true, true_and, and_false, false_and, ne_eq, eq_self, or_self, and_self]) ?_))
          have h239 : x.1 239 (40 * M + i) = r.1 239 (40 * M + i) := e6.1 239 _ rfl
          rw [ix_n (by omega), h239]
          rcases (r3 i hi).1 with hz | hz
          · have hXi : RX r M i = none := if_pos hz
            refine wpt hz ⟨e2, e3, e4, e5, e6, g3, t1, t2, t3, t4, ?_⟩
            rcases t5 with ⟨u1, u2, u3, u4, u5⟩ | t5
            · refine Or.inl ⟨u1, u2, u3, fun j k f hj hk' hf ht => ?_⟩
              by_cases ej : j = i
              · rw [ej, hXi] at hf
                cases hf
              · exact u4 j k f (by omega) hk' hf ht
            · exact Or.inr t5
          · have hXi : RX r M i = some (rxv r (40 * M + i)) := if_neg (by rw [show r.1 239 (40 * M + i) = nI 1 from hz]; decide)
            obtain ⟨z1, z2⟩ := r2.1 i _ hi hXi
            have hwb := wts_b z1 hk
            have hd8 := z1.2.2.1
            have h238 := (r3 i hi).2 hz (wts m (40 * M + i) k) (by omega)
            have hv := z2 (wts m (40 * M + i) k) (by omega)
            obtain ⟨s', hP, hs'⟩ := wtp_P hC hm hac.2.2.2.2.2.2.1 hk
            have hp12 := (EC_row hE hP).1
            refine wpf (by rw [hz]; decide) (wpe (e458 hAx' hC hm (by omega) hac.2.1 hop.2 hac.2.2.2.2.2.2.1 hk) (wpt (by simp (disch := first | omega | decide) only [↓neg1, nlit, rI, rL, rI2, rL1, nI_add, pk_mul, sbT, dvT, nmd, ixT, ↓ibT, ltT, ltF, leT, leF, eqT, eqF, nM_ltT, nM_ltF, nM_leT, nM_leF, nM_eqF, nM_eqF', nbT0, nbT1, oI_s, oI_n, natF, natT, nltT, nltF, nleT, nleF, ↓reduceIte, lgc, not_true_eq_false, not_false_eq_true, or_false, false_or, or_true, true_or, and_true, true_and, and_false, false_and, ne_eq, eq_self, or_self, and_self]) (wpe (e459 hAx' hC hm (by omega) hac.2.1 hop.2 hac.2.2.2.2.2.2.1 hk) ?_)))
            rw [(hAx'.1 230 _ rfl).trans z1.1, show (16 : Int32) * nI (40 * M + i) + 8 + nI (dpn m (40 * M + i)) - 1 - nI (wnt m (40 * M + i) - 1 - k) = nI (16 * (40 * M + i) + wts m (40 * M + i) k) by
              rw [show (16 : Int32) = nI 16 from rfl, pk_mul, show (8 : Int32) = nI 8 from rfl, nI_add, nI_add, show (1 : Int32) = nI 1 from rfl, pk_sub (by omega), pk_sub (by omega)]
              refine congrArg nI ?_
              unfold wts
              omega]
            refine wpt (by simp (disch := first | omega | decide) only [↓neg1, nlit, rI, rL, rI2, rL1, nI_add, pk_mul, sbT, dvT, nmd, ixT, ↓ibT, ltT, ltF, leT, leF, eqT, eqF, nM_ltT, nM_ltF, nM_leT, nM_leF, nM_eqF, nM_eqF', nbT0, nbT1, oI_s, oI_n, natF, natT, nltT, nltF, nleT, nleF, ↓reduceIte, lgc, not_true_eq_false, not_false_eq_true, or_false, false_or, or_true, true_or, and_true, true_and, and_false, false_and, ne_eq, eq_self, or_self, and_self]) ?_
            rw [ix_n (by omega), (e6.1 238 _ rfl).trans h238.1]
            refine wpl (wpt (by simp (disch := first | omega | decide) only [↓neg1, nlit, rI, rL, rI2, rL1, nI_add, pk_mul, sbT, dvT, nmd, ixT, ↓ibT, ltT, ltF, leT, leF, eqT, eqF, nM_ltT, nM_ltF, nM_leT, nM_leF, nM_eqF, nM_eqF', nbT0, nbT1, oI_s, oI_n, natF, natT, nltT, nltF, nleT, nleF, ↓reduceIte, lgc, not_true_eq_false, not_false_eq_true, or_false, false_or, or_true, true_or, and_true, true_and, and_false, false_and, ne_eq, eq_self, or_self, and_self]) ?_)
            rw [ix_n (by omega), e5 _ _ hP hs']
            obtain ⟨w1, w2, w3⟩ := t2 _ _ o hP hs' ho
            generalize hp : wtp m M (40 * M + i) k = p at *
            generalize hfv : rxv r (40 * M + i) (wts m (40 * M + i) k) = fv at *
            refine wpjQ (fun z : Int32 × cS => sx (qFd o) v z.2 ∧ FGR z.2 ∧ MKS m (Kf m o (Fc o g0)) z.2 ∧ TLD m o z.2 ∧ sx (fun a i => decide (a = 235)) r z.2 ∧ ∃ g', STc m o g' ∧ FD m g' z.2 ∧ LWT m o (Fc o g) (Fc o g') ∧ sx (q48 o) g g' ∧ SWP m o (Fc o g0) ((∀ M', M' < M → isMt m M' → ∃ X, CLM m o M' (Fc o g0) X) ∧ (∀ j k f, j < i → k < wnt m (40 * M + j) → RX r M j = some f → tld m (wtp m M (40 * M + j) k) o = none → mB m o (f (wts m (40 * M + j) k)) (Fc o g0 (wtp m M (40 * M + j) k))) ∧ ∀ k' f, k' < k + 1 → RX r M i = some f → tld m (wtp m M (40 * M + i) k') o = none → mB m o (f (wts m (40 * M + i) k')) (Fc o g0 (wtp m M (40 * M + i) k'))) z.1 (Fc o g')) (fun z hz => wpl ⟨nI_1 _, hz⟩) ?_
            intro Q2 k2 hk2
            have same : (tld m p o = none → mB m o fv (fdv g3 p o)) → wp (k2 (f2, x)) Q2 := by
              intro hle
              refine hk2 _ ⟨e2, e3, e4, e5, e6, g3, t1, t2, t3, t4, ?_⟩
              rcases t5 with ⟨u1, u2, u3, u4, u5⟩ | t5
              · refine Or.inl ⟨u1, u2, u3, u4, fun k' f hk' hf ht => ?_⟩
                by_cases ek : k' = k
                · subst ek
                  rw [hXi] at hf
                  cases hf
                  rw [hp] at ht ⊢
                  rw [hfv, ← u2]
                  exact hle ht
                · exact u5 k' f (by omega) hf ht
              · exact Or.inr t5
            by_cases ht : tld m p o = none
            · rw [if_pos ht]
              rw [show (1200 : Int32) * nI o + nI p = nI (1200 * o + p) by rw [show (1200 : Int32) = nI 1200 from rfl, pk_mul, nI_add]]
              refine wpt rfl (wpt (by simp (disch := first | omega | decide) only [↓neg1, nlit, rI, rL, rI2, rL1, nI_add, pk_mul, sbT, dvT, nmd, ixT, ↓ibT, ltT, ltF, leT, leF, eqT, eqF, nM_ltT, nM_ltF, nM_leT, nM_leF, nM_eqF, nM_eqF', nbT0, nbT1, oI_s, oI_n, natF, natT, nltT, nltF, nleT, nleF, ↓reduceIte, lgc, not_true_eq_false, not_false_eq_true, or_false, false_or, or_true, true_or, and_true, true_and, and_false, false_and, ne_eq, eq_self, or_self, and_self]) ?_)
              rw [ix_n (by omega), w3]
              refine wpe (e387b hAx' hE.1 ho hv w1) ?_
              by_cases hle : mB m o fv (fdv g3 p o)
              · rw [if_pos (mBb_t.mpr hle)]
                exact wpf (by decide) (same (fun _ => hle))
              · rw [if_neg (fun z => hle (mBb_t.mp z))]
                refine wpt rfl (wpt (by simp (disch := first | omega | decide) only [↓neg1, nlit, rI, rL, rI2, rL1, nI_add, pk_mul, sbT, dvT, nmd, ixT, ↓ibT, ltT, ltF, leT, leF, eqT, eqF, nM_ltT, nM_ltF, nM_leT, nM_leF, nM_eqF, nM_eqF', nbT0, nbT1, oI_s, oI_n, natF, natT, nltT, nltF, nleT, nleF, ↓reduceIte, lgc, not_true_eq_false, not_false_eq_true, or_false, false_or, or_true, true_or, and_true, true_and, and_false, false_and, ne_eq, eq_self, or_self, and_self]) (wpe (e390 (by omega) (by omega) (by omega)) (wpt (by simp (disch := first | omega | decide) only [↓neg1, nlit, rI, rL, rI2, rL1, nI_add, pk_mul, sbT, dvT, nmd, ixT, ↓ibT, ltT, ltF, leT, leF, eqT, eqF, nM_ltT, nM_ltF, nM_leT, nM_leF, nM_eqF, nM_eqF', nbT0, nbT1, oI_s, oI_n, natF, natT, nltT, nltF, nleT, nleF, ↓reduceIte, lgc, not_true_eq_false, not_false_eq_true, or_false, false_or, or_true, true_or, and_true, true_and, and_false, false_and, ne_eq, eq_self, or_self, and_self]) ?_)))
                obtain ⟨j1, j2, -⟩ := LA_J hLA hv w1
                rw [show mJ x o fv (fdv g3 p o) = nI (Jo m o fv (fdv g3 p o)) from (hAx'.1 185 _ rfl).trans j2, Jo_comm hLA hv w1]
                rw [Jo_comm hLA hv w1] at j1
                have hne : Jo m o (Fc o g3 p) fv ≠ Fc o g3 p := fun z => hle ((LA_Jid hLA w1 hv).mp z)
                obtain ⟨n1, n2⟩ := STc_up t1 hP hs' j1
                have hlw := low_up hG hTok ho hm (okc q3) q5.1 (okc t1) t3.1 r2 hi hk hXi (by rw [hp]; exact ht)
                rw [hp, hfv] at hlw
                have hpf := ptF_up hLA hp12 w1 hv hne
                have sp : sx (fun a i => decide (a = 235)) x (pI x 235 (1200 * o + p) (nI (Jo m o (fdv g3 p o) fv))) := sx_pI sx_rfl rfl
                refine wpl (hk2 _ ⟨sx_pI e2 (decide_eq_true (by omega)), FG e3 (sx_wide sp (fun a i z => ?_)), fun p s hp hs => (sp.1 236 p rfl).trans (e4 p s hp hs), fun p s hp hs => (sp.1 237 p rfl).trans (e5 p s hp hs), sx_trans e6 sp, pI g3 148 (p * 4 + o) (nI (Jo m o (fdv g3 p o) fv)), n1, FD_up t1.1 t2 hP hs' ho j1, ?_, sx_trans t4 (sx_pI sx_rfl (decide_eq_true ⟨rfl, by omega⟩)), ?_⟩)
                · have := of_decide_eq_false z
                  exact decide_eq_false (by omega)
                · rw [n2]
                  exact ⟨hlw.2, TKp_up t3.2 ht⟩
                · rw [n2]
                  refine Or.inr ⟨rfl, ?_⟩
                  rcases t5 with ⟨-, u2, -⟩ | ⟨-, u2⟩
                  · rw [← u2]
                    exact hpf
                  · exact Nat.lt_trans hpf u2
            · rw [if_neg ht]
              exact wpf (by decide) (same (fun z => absurd z ht))
        · rintro ⟨f2, k0, x⟩ ⟨e1, e2, e3, e4, e5, e6, g3, t1, t2, t3, t4, t5⟩
          dsimp only at e1 e2 e3 e4 e5 e6 t2 t5
          subst e1
          dsimp only
          have hAx' := AG_sx hA e2 nP_Fd
          refine wpe (e457 hAx' hC hm (by omega) hac.2.1 hac.1.2 hac.2.2.2.2.2.2.1) (wpt (by simp (disch := first | omega | decide) only [↓neg1, nlit, rI, rL, rI2, rL1, nI_add, pk_mul, sbT, dvT, nmd, ixT, ↓ibT, ltT, ltF, leT, leF, eqT, eqF, nM_ltT, nM_ltF, nM_leT, nM_leF, nM_eqF, nM_eqF', nbT0, nbT1, oI_s, oI_n, natF, natT, nltT, nltF, nleT, nleF, ↓reduceIte, lgc, not_true_eq_false, not_false_eq_true, or_false, false_or, or_true, true_or, and_true, true_and, and_false, false_and, ne_eq, eq_self, or_self, and_self]) ⟨e2, e3, e4, e5, e6, g3, t1, t2, t3, t4, ?_⟩)
          rcases t5 with ⟨u1, u2, u3, u4, u5⟩ | t5
          · refine Or.inl ⟨u1, u2, u3, fun j k f hj hk' hf ht => ?_⟩
            by_cases ej : j = i
            · subst ej
              exact u5 k f hk' hf ht
            · exact u4 j k f (by omega) hk' hf ht
          · exact Or.inr t5
        · rcases d5 with ⟨u1, u2, u3, u4⟩ | d5
          · exact Or.inl ⟨u1, u2, u3, u4, fun k' f hk' => by omega⟩
          · exact Or.inr d5
        · dsimp only
          rw [nI_1]
          exact congrArg nI (by omega)
      · rintro ⟨f1, i0, y⟩ ⟨c1, c2, c3, c4, c5, c6, g2, d1, d2, d3, d4, d5⟩
        dsimp only at c1 c2 c3 c4 c5 c6 d2 d5
        subst c1
        dsimp only
        refine wpt (by simp (disch := first | omega | decide) only [↓neg1, nlit, rI, rL, rI2, rL1, nI_add, pk_mul, sbT, dvT, nmd, ixT, ↓ibT, ltT, ltF, leT, leF, eqT, eqF, nM_ltT, nM_ltF, nM_leT, nM_leF, nM_eqF, nM_eqF', nbT0, nbT1, oI_s, oI_n, natF, natT, nltT, nltF, nleT, nleF, ↓reduceIte, lgc, not_true_eq_false, not_false_eq_true, or_false, false_or, or_true, true_or, and_true, true_and, and_false, false_and, ne_eq, eq_self, or_self, and_self]) ?_
        rw [ix_n (by omega), h210 c2, nI_add]
        refine wpt (by simp (disch := first | omega | decide) only [↓neg1, nlit, rI, rL, rI2, rL1, nI_add, pk_mul, sbT, dvT, nmd, ixT, ↓ibT, ltT, ltF, leT, leF, eqT, eqF, nM_ltT, nM_ltF, nM_leT, nM_leF, nM_eqF, nM_eqF', nbT0, nbT1, oI_s, oI_n, natF, natT, nltT, nltF, nleT, nleF, ↓reduceIte, lgc, not_true_eq_false, not_false_eq_true, or_false, false_or, or_true, true_or, and_true, true_and, and_false, false_and, ne_eq, eq_self, or_self, and_self]) ⟨c2, c3, c4, c5, g2, d1, d2, d3, d4, ?_⟩
        rcases d5 with ⟨u1, u2, u3, u4⟩ | d5
        · refine Or.inl ⟨u1, u2, fun M' hM' hmt => ?_⟩
          by_cases eM : M' = M
          · rw [eM]
            exact ⟨RX r M, r2, fun i k f hi hk hf ht => u4 i k f hi hk hf ht⟩
          · exact u3 M' (by omega) hmt
        · exact Or.inr d5
      · rcases b5 with ⟨u1, u2, u3⟩ | b5
        · exact Or.inl ⟨u1, u2, u3, fun j k f hj => by omega⟩
        · exact Or.inr b5
    · rw [if_neg (fun z => hm (mtb_t.mp z))]
      refine wpt rfl (hk' _ ⟨a2, a3, a4, a5, g1, b1, b2, b3, b4, ?_⟩)
      rcases b5 with ⟨u1, u2, u3⟩ | b5
      · refine Or.inl ⟨u1, u2, fun M' hM' hmt => ?_⟩
        by_cases eM : M' = M
        · rw [eM] at hmt
          exact absurd hmt hm
        · exact u3 M' (by omega) hmt
      · exact Or.inr b5
  · rintro ⟨f0, M0, w⟩ ⟨a1, a2, a3, a4, a5, g1, b1, b2, b3, b4, b5⟩
    dsimp only at a1 a2 a3 a4 a5 b2 b5
    subst a1
    refine wpt (by dsimp only; decide) ⟨a2, a3, g1, b1, b2, b3, b4, ?_⟩
    rcases b5 with ⟨u1, u2, u3⟩ | b5
    · exact Or.inl ⟨u1, u2, fun M hM => u3 M (isMt_lt hC hM) hM⟩
    · exact Or.inr b5
  · rintro ⟨f0, w⟩ ⟨a2, a3, g1, b1, b2, b3, b4, b5⟩
    dsimp only at a2 a3 b2 b5
    rcases b5 with ⟨u1, u2, u3⟩ | ⟨u1, u2⟩
    · refine ⟨0, by omega, a2, a3, g1, b1, b2, b3, b4, Or.inl ⟨u1, ?_⟩⟩
      rw [u2]
      exact u3
    · exact ⟨ptF m o (Fc o g1) + 1, by omega, a2, a3, g1, b1, b2, b3, b4, Or.inr ⟨u1, rfl⟩⟩
