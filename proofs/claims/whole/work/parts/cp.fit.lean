/-! WIRING: which parts fit a want -/
section FIT
variable {n : Nat} {c w m u : cS}
theorem lg_eq {x y : Int64} (h : lg_cmp x y = 0) : x = y := lgc.mp (show lg_cmp x y = nI 0 from h)
theorem lg_self {x : Int64} : lg_cmp x x = 0 := show lg_cmp x x = nI 0 from lgc.mpr rfl
def ftB (m : cS) (of : Option Nat) (L : Int64) (x : Nat) : Bool := prt m x && (decide (L = 0) || decide (lab m x = L)) && (match of with | none => false | some y => und m x y)
/-- how many fit, and the last of them -/
def ftC (b : Nat → Bool) : Nat → Nat × Option Nat
  | 0 => (0, none)
  | x + 1 => if b x = true then ((ftC b x).1 + 1, some x) else ftC b x
theorem ftC_le {b : Nat → Bool} : ∀ N, (ftC b N).1 ≤ N ∧ ((ftC b N).1 = 0 ↔ (ftC b N).2 = none) ∧ ∀ x, (ftC b N).2 = some x → x < N ∧ b x = true
  | 0 => ⟨Nat.le_refl _, ⟨fun _ => rfl, fun _ => rfl⟩, fun x h => by cases h⟩
  | N + 1 => by
    obtain ⟨h1, h2, h3⟩ := ftC_le (b := b) N
    unfold ftC
    by_cases e : b N = true
    · rw [if_pos e]
      refine ⟨by dsimp only; omega, ⟨fun z => by dsimp only at z; omega, fun z => by cases z⟩, fun x h => ?_⟩
      cases h
      exact ⟨by omega, e⟩
    · rw [if_neg e]
      exact ⟨by omega, h2, fun x h => ⟨by have := (h3 x h).1; omega, (h3 x h).2⟩⟩
theorem fit_c {of : Option Nat} {L : Int64} (hn : 1000 ≤ n) (hC : CCS w m) (hP : ∀ x, x < ccn m → w.1 168 x = (if prt m x = true then nI 1 else nI 0) ∧ w.2 169 x = lab m x) (hof : ∀ y, of = some y → y < ccn m) : wp (whl (R := (Int32 × Int32)) (fun s16 : Int32 × Int32 × Int32 =>
        if (w.1 7 10) ≤ s16.2.2 then
          some (.inr (s16.1, s16.2.1))
        else
          jn (fun p17 : Int32 =>
            if ib s16.2.2 12 then
            jn (fun p20 : Int32 × Int32 =>
              lt (s16.2.2 + 1 : Int32) (fun v22 =>
              some (.inl (p20.1, p20.2, v22))))
            (fun j157 =>
            if (w.1 168 (ix s16.2.2)) = 0 then
              j157 (s16.1, s16.2.1)
            else
              if (oI of) < 0 then
                j157 (s16.1, s16.2.1)
              else
                if p17 = 0 then
                  j157 (s16.1, s16.2.1)
                else
                  Option.bind (d_256 n s16.2.2 (oI of) w) (fun v24 =>
                  if v24 = 0 then
                    j157 (s16.1, s16.2.1)
                  else
                    lt (s16.2.1 + 1 : Int32) (fun v27 =>
                    j157 (s16.2.2, v27))))
            else none)
          (fun j114 =>
          jn (fun p29 : Unit =>
            j114 1)
          (fun j109 =>
          if (lg_cmp L 0) = 0 then
            j109 ()
          else
            if ib s16.2.2 12 then
            if (lg_cmp (w.2 169 (ix s16.2.2)) L) = 0 then
              j109 ()
            else
              j114 0
            else none))) n ((-1), 0, 0)) (fun r => r = (oI (ftC (ftB m of L) (ccn m)).2, nI (ftC (ftB m of L) (ccn m)).1)) := by
  have h12 := (CCS_p hC).1
  have h710 := hC.1.2.1
  refine whl_cnt (fun k (st : Int32 × Int32 × Int32) => st = (oI (ftC (ftB m of L) k).2, nI (ftC (ftB m of L) k).1, nI k)) (ccn m) ?_ ?_ (by omega) rfl
  · rintro k st hk rfl
    dsimp only
    rw [h710]
    obtain ⟨q1, q2⟩ := hP k hk
    have hle := (ftC_le (b := ftB m of L) k).1
    have hF : ftC (ftB m of L) (k + 1) = if ftB m of L k = true then ((ftC (ftB m of L) k).1 + 1, some k) else ftC (ftB m of L) k := rfl
    refine wpf (by simp (disch := first | omega | decide) only [↓neg1, nlit, rI, rL, rI2, rL1, nI_add, pk_mul, sbT, dvT, nmd, ixT, ↓ibT, ltT, ltF, leT, leF, eqT, eqF, nM_ltT, nM_ltF, nM_leT, nM_leF, nM_eqF, nM_eqF', nbT0, nbT1, oI_s, oI_n, natF, natT, nltT, nltF, nleT, nleF, ↓reduceIte, lgc, not_true_eq_false, not_false_eq_true, or_false, false_or, or_true, true_or, and_true, true_and, and_false, false_and, ne_eq, eq_self, or_self, and_self]) ?_
    refine wpjQ (fun p : Int32 => (p = 0 ↔ ¬ (L = 0 ∨ lab m k = L))) ?_ ?_
    · intro p hp
      refine wpt (by simp (disch := first | omega | decide) only [↓neg1, nlit, rI, rL, rI2, rL1, nI_add, pk_mul, sbT, dvT, nmd, ixT, ↓ibT, ltT, ltF, leT, leF, eqT, eqF, nM_ltT, nM_ltF, nM_leT, nM_leF, nM_eqF, nM_eqF', nbT0, nbT1, oI_s, oI_n, natF, natT, nltT, nltF, nleT, nleF, ↓reduceIte, lgc, not_true_eq_false, not_false_eq_true, or_false, false_or, or_true, true_or, and_true, true_and, and_false, false_and, ne_eq, eq_self, or_self, and_self]) ?_
      refine wpjQ (fun y : Int32 × Int32 => y = (oI (ftC (ftB m of L) (k + 1)).2, nI (ftC (ftB m of L) (k + 1)).1)) (fun y hy => by subst hy; exact wpl (by rw [nI_1]; rfl)) ?_
      intro Q' k' hk'
      have no : ftB m of L k = false → wp (k' (oI (ftC (ftB m of L) k).2, nI (ftC (ftB m of L) k).1)) Q' := fun z => hk' _ (by rw [hF, if_neg (by rw [z]; decide)])
      rw [ix_n (by omega), q1]
      by_cases e1 : prt m k = true
      · refine wpf (by rw [if_pos e1]; decide) ?_
        cases hof' : of with
        | none =>
          subst hof'
          exact wpt (by decide) (no (by unfold ftB; simp))
        | some y =>
          subst hof'
          have hy := hof y rfl
          refine wpf (by rw [oI_s]; simp (disch := first | omega | decide) only [↓neg1, nlit, rI, rL, rI2, rL1, nI_add, pk_mul, sbT, dvT, nmd, ixT, ↓ibT, ltT, ltF, leT, leF, eqT, eqF, nM_ltT, nM_ltF, nM_leT, nM_leF, nM_eqF, nM_eqF', nbT0, nbT1, oI_s, oI_n, natF, natT, nltT, nltF, nleT, nleF, ↓reduceIte, lgc, not_true_eq_false, not_false_eq_true, or_false, false_or, or_true, true_or, and_true, true_and, and_false, false_and, ne_eq, eq_self, or_self, and_self]) ?_
          by_cases e2 : L = 0 ∨ lab m k = L
          · refine wpf (fun z => (hp.mp z) e2) (wpe (e256 (by omega) hC hk hy) ?_)
            have hft : ftB m (some y) L k = und m k y := by
              unfold ftB
              rw [e1]
              rcases e2 with z | z
              · simp [z]
              · simp [z]
            by_cases e3 : und m k y = true
            · rw [if_pos e3]
              refine wpf (by decide) (wpl (hk' _ ?_))
              rw [hF, if_pos (hft.trans e3), nI_1]
              rfl
            · rw [if_neg e3]
              exact wpt rfl (no (by rw [hft]; simpa using e3))
          · refine wpt (hp.mpr e2) (no ?_)
            unfold ftB
            rw [decide_eq_false (fun z => e2 (Or.inl z)), decide_eq_false (fun z => e2 (Or.inr z))]
            simp
      · refine wpt (by rw [if_neg e1]; rfl) (no ?_)
        unfold ftB
        rw [show prt m k = false by simpa using e1]
        rfl
    · intro Q' k' hk'
      refine wpj ?_
      by_cases e1 : L = 0
      · exact wpt (by rw [e1]; decide) (hk' 1 ⟨fun z => absurd z (by decide), fun z => absurd (Or.inl e1) z⟩)
      · refine wpf (fun z => e1 (lg_eq z)) (wpt (by simp (disch := first | omega | decide) only [↓neg1, nlit, rI, rL, rI2, rL1, nI_add, pk_mul, sbT, dvT, nmd, ixT, ↓ibT, ltT, ltF, leT, leF, eqT, eqF, nM_ltT, nM_ltF, nM_leT, nM_leF, nM_eqF, nM_eqF', nbT0, nbT1, oI_s, oI_n, natF, natT, nltT, nltF, nleT, nleF, ↓reduceIte, lgc, not_true_eq_false, not_false_eq_true, or_false, false_or, or_true, true_or, and_true, true_and, and_false, false_and, ne_eq, eq_self, or_self, and_self]) ?_)
        rw [ix_n (by omega), q2]
        by_cases e2 : lab m k = L
        · exact wpt (by rw [e2]; exact lg_self) (hk' 1 ⟨fun z => absurd z (by decide), fun z => absurd (Or.inr e2) z⟩)
        · exact wpf (fun z => e2 (lg_eq z)) (hk' 0 ⟨fun _ z => z.elim e1 e2, fun _ => rfl⟩)
  · rintro st rfl
    dsimp only
    rw [h710]
    exact wpt (by simp (disch := first | omega | decide) only [↓neg1, nlit, rI, rL, rI2, rL1, nI_add, pk_mul, sbT, dvT, nmd, ixT, ↓ibT, ltT, ltF, leT, leF, eqT, eqF, nM_ltT, nM_ltF, nM_leT, nM_leF, nM_eqF, nM_eqF', nbT0, nbT1, oI_s, oI_n, natF, natT, nltT, nltF, nleT, nleF, ↓reduceIte, lgc, not_true_eq_false, not_false_eq_true, or_false, false_or, or_true, true_or, and_true, true_and, and_false, false_and, ne_eq, eq_self, or_self, and_self]) rfl
end FIT
