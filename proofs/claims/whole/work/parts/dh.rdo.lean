/-! READING an ORDER: both side by side -/
section RDO
variable {n i N o E oc kc mc cc : Nat} {c d u w : cS} {K P : Nat → Nat} {V : Nat → Int64} {R W : Nat → Nat → Bool}
/-- one pair more -/
def rAd (R : Nat → Nat → Bool) (e f a b : Nat) : Bool := R a b || (decide (a = e) && decide (b = f))
theorem rAd_is {e f a b : Nat} (h : a = e ∧ b = f) : rAd R e f a b = true := by
  unfold rAd
  rw [decide_eq_true h.1, decide_eq_true h.2]
  simp
theorem rAd_no {e f a b : Nat} (h : ¬ (a = e ∧ b = f)) : rAd R e f a b = R a b := by
  unfold rAd
  by_cases e1 : a = e
  · rw [decide_eq_false (fun z => h ⟨e1, z⟩), Bool.and_false, Bool.or_false]
  · rw [decide_eq_false e1, Bool.false_and, Bool.or_false]
theorem rAd_row {e f b : Nat} : rAd R e f e b = (R e b || decide (b = f)) := by
  unfold rAd
  rw [decide_eq_true rfl, Bool.true_and]
def cnC (n : Nat) (k : Int32) (p22 : cS) : Option ((Int32 × Int32 × cS) ⊕ (cS ⊕ (cS ⊕ cS))) :=
            Option.bind (d_258 n 44 p22) (fun r23 =>
            lt (k + 1 : Int32) (fun v26 =>
            some (.inl (r23.1, v26, r23.2))))
def cnR (n : Nat) (p35 : cS) : Option ((Int32 × cS) ⊕ cS) :=
              Option.bind (d_379 n 44 p35) (fun r36 =>
              some (.inl (r36.1, r36.2)))
def orC (n o : Nat) (s17 : Int32 × Int32 × cS) : Option ((Int32 × Int32 × cS) ⊕ (cS ⊕ (cS ⊕ cS))) :=
      if 4000 ≤ s17.2.1 then
        some (.inr (.inl s17.2.2))
      else
        if s17.1 = 0 then
          some (.inr (.inl s17.2.2))
        else
          Option.bind (d_263 n o s17.2.2) (Sum.elim (fun r18 =>
          Option.bind (d_258 n 60 r18.2) (fun r21 =>
          jn (cnC n s17.2.1)
          (fun j124 =>
          if r21.1 = 0 then
            j124 r21.2
          else
            if ib r18.1 12 then
            Option.bind (d_263 n o r21.2) (Sum.elim (fun r29 =>
            if ib r18.1 12 then
            lt (pI r29.2 (oA o + 2) (ix r18.1) ((r21.2.1 (oA o + 2) (ix r18.1)) ||| (1 <<< (r29.1 &&& 31)))) (fun c32 =>
            j124 c32)
            else none)
            (fun z30 => some (.inr (.inr (.inr z30)))))
            else none)))
          (fun z19 => some (.inr (.inr (.inr z19)))))
def orR (n : Nat) (v8 : Int32) (s31 : Int32 × cS) : Option ((Int32 × cS) ⊕ cS) :=
        if s31.1 = 0 then
          some (.inr s31.2)
        else
          if (s31.2.1 174 13) = 0 then
            Option.bind (d_384 n v8 s31.2) (fun r32 =>
            Option.bind (d_379 n 60 r32.2) (fun r34 =>
            jn (cnR n)
            (fun j165 =>
            if r34.1 = 0 then
              j165 r34.2
            else
              Option.bind (d_384 n v8 r34.2) (fun r38 =>
              if (r38.2.1 174 13) = 0 then
                Option.bind (d_385 n v8 r32.1 r38.1) (fun v40 =>
                if ib v40 576 then
                lt (pI r38.2 184 (ix v40) (vp_nar .boolean 1)) (fun c42 =>
                j165 c42)
                else none)
              else
                j165 r38.2))))
          else
            some (.inr s31.2)
def ORI (K P : Nat → Nat) (V : Nat → Int64) (N : Nat) (c u : cS) (o i0 m : Nat) (s : Int32 × Int32 × cS) (t : Int32 × cS) : Prop := ∃ i E R k x, s.1 = bI x ∧ t.1 = bI x ∧ s.2.1 = nI k ∧ k + i0 ≤ i ∧ m = N - i ∧ ORS K P V N s.2.2 t.2 o E R i ∧ (k = 0 ∨ 1 ≤ E) ∧ (k = 0 → x = true) ∧ sx (qO1 o) c s.2.2 ∧ sx (qO2 o) u t.2
def ORX (K P : Nat → Nat) (V : Nat → Int64) (N : Nat) (c u : cS) (o i0 : Nat) (r : cS ⊕ (cS ⊕ cS)) (q : cS) : Prop := (∃ d i E R, r = .inl d ∧ i0 < i ∧ ORS K P V N d q o E R i ∧ 1 ≤ E ∧ sx (qO1 o) c d ∧ sx (qO2 o) u q) ∨ (∃ z, r = .inr (.inr z) ∧ FLR c u z q)
theorem or_lp (hn : 10000 ≤ n) (ho : o < 4) (hi0 : 1 ≤ i) (h : ORS K P V N c u o E R i) : jw (whl (orC n o) n (1, 0, c)) (whl (orR n (nI o)) n (1, u)) (ORX K P V N c u o i) := by
  have hN := h.1.1.1
  refine jw_whf (ORI K P V N c u o i) ?_ n n (N - i) _ _ (by omega) (by omega) ⟨i, E, R, 0, true, rfl, rfl, rfl, by omega, rfl, h, Or.inl rfl, fun _ => rfl, sx_rfl, sx_rfl⟩
  rintro m ⟨mo, k0, w⟩ ⟨mo', v⟩ ⟨i', E', R', k, x, g1, g2, g3, g4, g5, g6, g7, g8, g9, g10⟩
  dsimp only at g1 g2 g3 g4 g6 g9 g10
  subst g1 g2 g3
  have hk4 : k < 4000 := by
    have := g6.1.2.1
    omega
  cases x with
  | false =>
    have hk0 : ¬ k = 0 := fun z => by cases g8 z
    refine jw_of (a := Sum.inr (Sum.inl w)) (b := Sum.inr v) ?_ ?_ (Or.inr (Or.inl ⟨_, _, rfl, rfl, Or.inl ⟨w, i', E', R', rfl, by omega, g6, by omega, g9, g10⟩⟩))
    · unfold orC
      exact eq_wp (wpf (by dsimp only; simp (disch := first | omega | decide) only [↓neg1, nlit, rI, rL, rI2, rL1, nI_add, pk_mul, sbT, dvT, nmd, ixT, ↓ibT, ltT, ltF, leT, leF, eqT, eqF, nM_ltT, nM_ltF, nM_leT, nM_leF, nM_eqF, nM_eqF', nbT0, nbT1, oI_s, oI_n, natF, natT, nltT, nltF, nleT, nleF, ↓reduceIte, lgc, not_true_eq_false, not_false_eq_true, or_false, false_or, or_true, true_or, and_true, true_and, and_false, false_and, ne_eq, eq_self, or_self, and_self]) (wpt rfl rfl))
    · unfold orR
      exact eq_wp (wpt rfl rfl)
  | true =>
    have base1 : ∀ {z q : cS} {c1 u1 : cS}, sx (qO1 o) w c1 → sx (qO2 o) v u1 → FLR c1 u1 z q → FLR c u z q := fun s1 s2 hf => FLR_tr hf (sx_trans (qO1_QRc ho g9) (qO1_QRc ho s1)) (sx_trans (qO2_QRu g10) (qO2_QRu s2))
    -- a FAULT: the reference goes on in vain
    have hflt : ∀ {z : cS} {q : cS}, FLR c u z q → jw (some (Sum.inr (Sum.inr (Sum.inr z))) : Option ((Int32 × Int32 × cS) ⊕ (cS ⊕ (cS ⊕ cS)))) (cnR n q) (fun a b => (∃ s' t' m', a = .inl s' ∧ b = .inl t' ∧ m' < m ∧ ORI K P V N c u o i m' s' t') ∨ (∃ r q, a = .inr r ∧ b = .inr q ∧ ORX K P V N c u o i r q) ∨ (∃ r t' q, a = .inr r ∧ b = .inl t' ∧ orR n (nI o) t' = some (.inr q) ∧ ORX K P V N c u o i r q)) := fun {z q} hf => by
      have hc : cnR n q = some (.inl (0, q)) := by
        unfold cnR
        exact eq_wp (wpe (e379w hf.2.2.1) rfl)
      refine jw_of rfl hc (Or.inr (Or.inr ⟨_, _, q, rfl, rfl, ?_, Or.inr ⟨z, rfl, hf⟩⟩))
      unfold orR
      exact eq_wp (wpt rfl rfl)
    -- behind a pair
    have hcnt : ∀ {y q : cS} {i2 E2 : Nat} {R2 : Nat → Nat → Bool}, i' < i2 → 1 ≤ E2 → ORS K P V N y q o E2 R2 i2 → sx (qO1 o) c y → sx (qO2 o) u q → jw (cnC n (nI k) y) (cnR n q) (fun a b => (∃ s' t' m', a = .inl s' ∧ b = .inl t' ∧ m' < m ∧ ORI K P V N c u o i m' s' t') ∨ (∃ r q, a = .inr r ∧ b = .inr q ∧ ORX K P V N c u o i r q) ∨ (∃ r t' q, a = .inr r ∧ b = .inl t' ∧ orR n (nI o) t' = some (.inr q) ∧ ORX K P V N c u o i r q)) := fun {y q i2 E2 R2} hi2 hE2 hO s1 s2 => by
      have hle := hO.1.2.1
      by_cases e : K i2 = 44
      · have hi3 := PSI_lt hO.1 (by omega)
        have hc : cnC n (nI k) y = some (.inl (1, nI (k + 1), atC y (i2 + 1))) := by
          unfold cnC
          refine eq_wp (wpe (e258 (b := 44) hO.1 (by decide)) ?_)
          rw [if_pos e]
          refine wpl ?_
          rw [nI_1]
          exact rfl
        have hr : cnR n q = some (.inl (1, atR q (i2 + 1))) := by
          unfold cnR
          refine eq_wp (wpe (e379 (b := 44) hO.1 (by decide) (by decide)) ?_)
          rw [if_pos e]
          exact rfl
        refine jw_of hc hr (Or.inl ⟨_, _, N - (i2 + 1), rfl, rfl, by omega, i2 + 1, E2, R2, k + 1, true, rfl, rfl, rfl, by omega, rfl, ?_, Or.inr hE2, fun _ => rfl, sx_pI s1 (decide_eq_true (by omega)), sx_pI s2 (decide_eq_true (by omega))⟩)
        obtain ⟨o1, o2, o3, o4, o5, o6, o7, o8, o9⟩ := hO
        have sc : ∀ A j, A ≠ 145 → (atC y (i2 + 1)).1 A j = y.1 A j := fun A j z => by
          unfold atC
          rw [rI, if_neg (by omega)]
        have su : ∀ A j, A ≠ 174 → (atR q (i2 + 1)).1 A j = q.1 A j := fun A j z => by
          unfold atR
          rw [rI, if_neg (by omega)]
        have hoA : oA o < 42 := by unfold oA; omega
        refine ⟨PSI_s o1 (by omega), o2, by rw [sc _ _ (by omega)]; exact o3, by rw [su _ _ (by omega)]; exact o4, o5, fun a ha => by rw [sc _ _ (by omega)]; exact o6 a ha, fun a b ha hb => by rw [su _ _ (by omega)]; exact o7 a b ha hb, o8, o9⟩
      · have hc : cnC n (nI k) y = some (.inl (0, nI (k + 1), y)) := by
          unfold cnC
          refine eq_wp (wpe (e258 (b := 44) hO.1 (by decide)) ?_)
          rw [if_neg e]
          refine wpl ?_
          rw [nI_1]
          exact rfl
        have hr : cnR n q = some (.inl (0, q)) := by
          unfold cnR
          refine eq_wp (wpe (e379 (b := 44) hO.1 (by decide) (by decide)) ?_)
          rw [if_neg e]
          exact rfl
        exact jw_of hc hr (Or.inl ⟨_, _, N - i2, rfl, rfl, by omega, i2, E2, R2, k + 1, false, rfl, rfl, rfl, by omega, rfl, hO, Or.inr hE2, fun z => by omega, s1, s2⟩)
    have hC : orC n o (bI true, nI k, w) = Option.bind (d_263 n o w) (Sum.elim (fun r18 =>
          Option.bind (d_258 n 60 r18.2) (fun r21 =>
          jn (cnC n (nI k))
          (fun j124 =>
          if r21.1 = 0 then
            j124 r21.2
          else
            if ib r18.1 12 then
            Option.bind (d_263 n o r21.2) (Sum.elim (fun r29 =>
            if ib r18.1 12 then
            lt (pI r29.2 (oA o + 2) (ix r18.1) ((r21.2.1 (oA o + 2) (ix r18.1)) ||| (1 <<< (r29.1 &&& 31)))) (fun c32 =>
            j124 c32)
            else none)
            (fun z30 => some (.inr (.inr (.inr z30)))))
            else none)))
          (fun z19 => some (.inr (.inr (.inr z19))))) := by
      unfold orC
      rw [if_neg (by dsimp only; simp (disch := first | omega | decide) only [↓neg1, nlit, rI, rL, rI2, rL1, nI_add, pk_mul, sbT, dvT, nmd, ixT, ↓ibT, ltT, ltF, leT, leF, eqT, eqF, nM_ltT, nM_ltF, nM_leT, nM_leF, nM_eqF, nM_eqF', nbT0, nbT1, oI_s, oI_n, natF, natT, nltT, nltF, nleT, nleF, ↓reduceIte, lgc, not_true_eq_false, not_false_eq_true, or_false, false_or, or_true, true_or, and_true, true_and, and_false, false_and, ne_eq, eq_self, or_self, and_self]), if_neg (show ¬ bI true = 0 by decide)]
    have hRr : orR n (nI o) (bI true, v) = Option.bind (d_384 n (nI o) v) (fun r32 =>
            Option.bind (d_379 n 60 r32.2) (fun r34 =>
            jn (cnR n)
            (fun j165 =>
            if r34.1 = 0 then
              j165 r34.2
            else
              Option.bind (d_384 n (nI o) r34.2) (fun r38 =>
              if (r38.2.1 174 13) = 0 then
                Option.bind (d_385 n (nI o) r32.1 r38.1) (fun v40 =>
                if ib v40 576 then
                lt (pI r38.2 184 (ix v40) (vp_nar .boolean 1)) (fun c42 =>
                j165 c42)
                else none)
              else
                j165 r38.2)))) := by
      unfold orR
      rw [if_neg (show ¬ bI true = 0 by decide), if_pos (show v.1 174 13 = 0 from g6.1.2.2.2.2)]
    rw [hC, hRr]
    refine jwb (elm (by omega) ho g6) (fun r q hrq => ?_)
    rcases hrq with ⟨e, E1, y, rfl, q1, e2, e3, e4, e5, e6, e7, -⟩ | ⟨z, rfl, hf⟩
    · obtain ⟨qv, q⟩ := q
      dsimp only at q1 e4 e7
      subst q1
      have hoA : oA o < 42 := by unfold oA; omega
      by_cases elt : K (i' + 1) = 60
      · have h258 := e258 (n := n) (b := 60) e4.1 (by decide)
        have h379 := e379 (n := n) (b := 60) e4.1 (by decide) (by decide)
        rw [if_pos elt] at h258 h379
        have hi3 := PSI_lt e4.1 (by omega)
        have hO2 : ORS K P V N (atC y (i' + 1 + 1)) (atR q (i' + 1 + 1)) o E1 R' (i' + 1 + 1) := by
          obtain ⟨o1, o2, o3, o4, o5, o6, o7, o8, o9⟩ := e4
          have sc : ∀ A j, A ≠ 145 → (atC y (i' + 1 + 1)).1 A j = y.1 A j := fun A j z => by
            unfold atC
            rw [rI, if_neg (by omega)]
          have su : ∀ A j, A ≠ 174 → (atR q (i' + 1 + 1)).1 A j = q.1 A j := fun A j z => by
            unfold atR
            rw [rI, if_neg (by omega)]
          exact ⟨PSI_s o1 (by omega), o2, by rw [sc _ _ (by omega)]; exact o3, by rw [su _ _ (by omega)]; exact o4, o5, fun a ha => by rw [sc _ _ (by omega)]; exact o6 a ha, fun a b ha hb => by rw [su _ _ (by omega)]; exact o7 a b ha hb, o8, o9⟩
        have s3 : sx (qO1 o) w (atC y (i' + 1 + 1)) := sx_pI e6 (decide_eq_true (by omega))
        have s4 : sx (qO2 o) v (atR q (i' + 1 + 1)) := sx_pI e7 (decide_eq_true (by omega))
        have hE1 : E1 ≤ 12 := e4.2.1
        show jw (Option.bind (d_258 n 60 y) _) (Option.bind (d_379 n 60 q) _) _
        rw [show d_258 n 60 y = some (1, atC y (i' + 1 + 1)) from h258, show d_379 n 60 q = some (1, atR q (i' + 1 + 1)) from h379]
        show jw (if ib (nI e) 12 then _ else none) (Option.bind (d_384 n (nI o) (atR q (i' + 1 + 1))) _) _
        rw [if_pos (show ib (nI e) 12 by simp (disch := first | omega | decide) only [↓neg1, nlit, rI, rL, rI2, rL1, nI_add, pk_mul, sbT, dvT, nmd, ixT, ↓ibT, ltT, ltF, leT, leF, eqT, eqF, nM_ltT, nM_ltF, nM_leT, nM_leF, nM_eqF, nM_eqF', nbT0, nbT1, oI_s, oI_n, natF, natT, nltT, nltF, nleT, nleF, ↓reduceIte, lgc, not_true_eq_false, not_false_eq_true, or_false, false_or, or_true, true_or, and_true, true_and, and_false, false_and, ne_eq, eq_self, or_self, and_self])]
        refine jwb (elm (by omega) ho hO2) (fun r2 q2 hrq2 => ?_)
        rcases hrq2 with ⟨f, E2, y2, rfl, f1, f2, f3, f4, f5, f6, f7, f8⟩ | ⟨z, rfl, hf⟩
        · obtain ⟨qv2, q2⟩ := q2
          dsimp only at f1 f4 f7
          subst f1
          obtain ⟨o1, o2, o3, o4, o5, o6, o7, o8, o9⟩ := f4
          have hci := ci_lt (o := o) (show e < 12 by omega) (show f < 12 by omega)
          have hci4 : ci o e f < 576 := by omega
          show jw (if ib (nI e) 12 then lt (pI y2 (oA o + 2) (ix (nI e)) (((atC y (i' + 1 + 1)).1 (oA o + 2) (ix (nI e))) ||| (1 <<< (nI f &&& 31)))) (fun c32 => cnC n (nI k) c32) else none) (if q2.1 174 13 = 0 then Option.bind (d_385 n (nI o) (nI e) (nI f)) (fun v40 => if ib v40 576 then lt (pI q2 184 (ix v40) (vp_nar .boolean 1)) (fun c42 => cnR n c42) else none) else cnR n q2) _
          rw [if_pos (show ib (nI e) 12 by simp (disch := first | omega | decide) only [↓neg1, nlit, rI, rL, rI2, rL1, nI_add, pk_mul, sbT, dvT, nmd, ixT, ↓ibT, ltT, ltF, leT, leF, eqT, eqF, nM_ltT, nM_ltF, nM_leT, nM_leF, nM_eqF, nM_eqF', nbT0, nbT1, oI_s, oI_n, natF, natT, nltT, nltF, nleT, nleF, ↓reduceIte, lgc, not_true_eq_false, not_false_eq_true, or_false, false_or, or_true, true_or, and_true, true_and, and_false, false_and, ne_eq, eq_self, or_self, and_self]), if_pos (show q2.1 174 13 = 0 from o1.2.2.2.2), show d_385 n (nI o) (nI e) (nI f) = some (nI (ci o e f)) from e385]
          show jw (cnC n (nI k) (pI y2 (oA o + 2) (ix (nI e)) _)) (if ib (nI (ci o e f)) 576 then lt (pI q2 184 (ix (nI (ci o e f))) (vp_nar .boolean 1)) (fun c42 => cnR n c42) else none) _
          rw [if_pos (show ib (nI (ci o e f)) 576 by simp (disch := first | omega | decide) only [↓neg1, nlit, rI, rL, rI2, rL1, nI_add, pk_mul, sbT, dvT, nmd, ixT, ↓ibT, ltT, ltF, leT, leF, eqT, eqF, nM_ltT, nM_ltF, nM_leT, nM_leF, nM_eqF, nM_eqF', nbT0, nbT1, oI_s, oI_n, natF, natT, nltT, nltF, nleT, nleF, ↓reduceIte, lgc, not_true_eq_false, not_false_eq_true, or_false, false_or, or_true, true_or, and_true, true_and, and_false, false_and, ne_eq, eq_self, or_self, and_self]), ix_n (show e < 2147483648 by omega), ix_n (show ci o e f < 2147483648 by omega), show vp_nar .boolean 1 = nI 1 by decide, ← f8 e (by omega)]
          show jw (cnC n (nI k) _) (cnR n (pI q2 184 (ci o e f) (nI 1))) _
          refine hcnt (R2 := rAd R' e f) (i2 := i' + 1 + 1 + 1) (E2 := E2) (by omega) (by omega) ⟨?_, o2, ?_, ?_, o5, fun a ha => ?_, fun a b ha hb => ?_, fun a b z => ?_, fun a => ?_⟩ (sx_pI (sx_trans g9 (sx_trans s3 f6)) (decide_eq_true (by omega))) (sx_pI (sx_trans g10 (sx_trans s4 f7)) (decide_eq_true (by omega)))
          · exact PSI_sx o1 (r := fun A j => decide (A = oA o + 2)) (q := fun A j => decide (A = 184)) (sx_pI sx_rfl (decide_eq_true rfl)) (sx_pI sx_rfl (decide_eq_true rfl)) (fun A j z => decide_eq_false (by unfold oA at *; omega)) (fun A j z => decide_eq_false (by omega))
          · rw [rI, if_neg (by omega)]
            exact o3
          · rw [rI, if_neg (by omega)]
            exact o4
          · show BRb ((pI y2 (oA o + 2) e _).1 (oA o + 2) a) E2 _
            rw [rI]
            by_cases ea : a = e
            · subst ea
              rw [if_pos ⟨rfl, rfl⟩]
              exact BRb_cg (BRb_or (o6 a ha) (BRb_1 f2 o2)) (fun b hb => rAd_row.symm)
            · rw [if_neg (fun z => ea z.2)]
              exact BRb_cg (o6 a ha) (fun b hb => (rAd_no (fun z => ea z.1)).symm)
          · rw [rI]
            by_cases ea : a = e ∧ b = f
            · rw [if_pos ⟨rfl, (ci_eq hb (by omega)).mpr ea⟩, rAd_is ea]
              rfl
            · rw [if_neg (fun z => ea ((ci_eq hb (by omega)).mp z.2)), o7 a b ha hb, rAd_no ea]
          · rw [rAd_no (by omega)]
            exact o8 a b z
          · show (R' a a || _) = true
            rw [o9 a]
            rfl
        · obtain ⟨qv2, q2⟩ := q2
          dsimp only at hf
          show jw (some (Sum.inr (Sum.inr (Sum.inr z)))) (if q2.1 174 13 = 0 then _ else cnR n q2) _
          rw [if_neg (show ¬ q2.1 174 13 = 0 by rw [hf.2.2.1]; decide)]
          exact hflt (base1 s3 s4 hf)
      · have h258 := e258 (n := n) (b := 60) e4.1 (by decide)
        have h379 := e379 (n := n) (b := 60) e4.1 (by decide) (by decide)
        rw [if_neg elt] at h258 h379
        show jw (Option.bind (d_258 n 60 y) _) (Option.bind (d_379 n 60 q) _) _
        rw [show d_258 n 60 y = some (0, y) from h258, show d_379 n 60 q = some (0, q) from h379]
        show jw (cnC n (nI k) y) (cnR n q) _
        exact hcnt (by omega) (by omega) e4 (sx_trans g9 e6) (sx_trans g10 e7)
    · obtain ⟨qv, q⟩ := q
      dsimp only at hf
      show jw (some (Sum.inr (Sum.inr (Sum.inr z)))) (Option.bind (d_379 n 60 q) _) _
      rw [show d_379 n 60 q = some (0, q) from e379w hf.2.2.1]
      show jw (some (Sum.inr (Sum.inr (Sum.inr z)))) (cnR n q) _
      exact hflt (base1 sx_rfl sx_rfl hf)
end RDO
