/-! WIRING: which parts fit a want, the reference -/
section FIR
variable {n : Nat} {c w m u : cS}
theorem ftC_no {L : Int64} : ∀ N, ftC (ftB m none L) N = (0, none)
  | 0 => rfl
  | N + 1 => by
    unfold ftC
    rw [ftC_no N, if_neg (by unfold ftB; simp)]
theorem fit_r {of : Option Nat} {L : Int64} (hn : 1000 ≤ n) (hA : AG m w) (hC : CCS c m) (hP : ∀ x, x < ccn m → w.1 264 x = (if prt m x = true then nI 1 else nI 0) ∧ (prt m x = true → w.2 265 x = lab m x)) (hof : ∀ y, of = some y → y < ccn m) : wp (whl (R := (Int32 × Int32)) (fun s13 : Int32 × Int32 × Int32 =>
        if (w.1 174 37) ≤ s13.2.2 then
          some (.inr (s13.1, s13.2.1))
        else
          if (oI of) < 0 then
            some (.inr (s13.1, s13.2.1))
          else
            if ib s13.2.2 12 then
            jn (fun p15 : Int32 × Int32 =>
              lt (s13.2.2 + 1 : Int32) (fun v17 =>
              some (.inl (p15.1, p15.2, v17))))
            (fun j164 =>
            if (w.1 264 (ix s13.2.2)) = 0 then
              j164 (s13.1, s13.2.1)
            else
              Option.bind (d_476 n s13.2.2 (oI of) w) (fun v19 =>
              if v19 = 0 then
                j164 (s13.1, s13.2.1)
              else
                jn (fun p20 : Unit =>
                  lt (s13.1 + 1 : Int32) (fun v22 =>
                  j164 (v22, s13.2.2)))
                (fun j157 =>
                if (lg_cmp L 0) = 0 then
                  j157 ()
                else
                  if ib s13.2.2 12 then
                  if (lg_cmp (w.2 265 (ix s13.2.2)) L) = 0 then
                    j157 ()
                  else
                    j164 (s13.1, s13.2.1)
                  else none)))
            else none) n (0, (-1), 0)) (fun r => r = (nI (ftC (ftB m of L) (ccn m)).1, oI (ftC (ftB m of L) (ccn m)).2)) := by
  have h12 := (CCS_p hC).1
  have h37 : w.1 174 37 = nI (ccn m) := (hA.2.2.1 37 rfl).trans hC.1.2.2.1
  refine whl_cnt (fun k (st : Int32 × Int32 × Int32) => st = (nI (ftC (ftB m of L) k).1, oI (ftC (ftB m of L) k).2, nI k)) (ccn m) ?_ ?_ (by omega) rfl
  · rintro k st hk rfl
    dsimp only
    rw [h37]
    obtain ⟨q1, q2⟩ := hP k hk
    have hF : ftC (ftB m of L) (k + 1) = if ftB m of L k = true then ((ftC (ftB m of L) k).1 + 1, some k) else ftC (ftB m of L) k := rfl
    refine wpf (by simp (disch := first | omega | decide) only [↓neg1, nlit, rI, rL, rI2, rL1, nI_add, pk_mul, sbT, dvT, nmd, ixT, ↓ibT, ltT, ltF, leT, leF, eqT, eqF, nM_ltT, nM_ltF, nM_leT, nM_leF, nM_eqF, nM_eqF', nbT0, nbT1, oI_s, oI_n, natF, natT, nltT, nltF, nleT, nleF, ↓reduceIte, lgc, not_true_eq_false, not_false_eq_true, or_false, false_or, or_true, true_or, and_true, true_and, and_false, false_and, ne_eq, eq_self, or_self, and_self]) ?_
    cases hof' : of with
    | none =>
      subst hof'
      refine wpt (by decide) ?_
      show _ = _
      rw [ftC_no, ftC_no]
    | some y =>
      subst hof'
      have hy := hof y rfl
      refine wpf (by rw [oI_s]; simp (disch := first | omega | decide) only [↓neg1, nlit, rI, rL, rI2, rL1, nI_add, pk_mul, sbT, dvT, nmd, ixT, ↓ibT, ltT, ltF, leT, leF, eqT, eqF, nM_ltT, nM_ltF, nM_leT, nM_leF, nM_eqF, nM_eqF', nbT0, nbT1, oI_s, oI_n, natF, natT, nltT, nltF, nleT, nleF, ↓reduceIte, lgc, not_true_eq_false, not_false_eq_true, or_false, false_or, or_true, true_or, and_true, true_and, and_false, false_and, ne_eq, eq_self, or_self, and_self]) (wpt (by simp (disch := first | omega | decide) only [↓neg1, nlit, rI, rL, rI2, rL1, nI_add, pk_mul, sbT, dvT, nmd, ixT, ↓ibT, ltT, ltF, leT, leF, eqT, eqF, nM_ltT, nM_ltF, nM_leT, nM_leF, nM_eqF, nM_eqF', nbT0, nbT1, oI_s, oI_n, natF, natT, nltT, nltF, nleT, nleF, ↓reduceIte, lgc, not_true_eq_false, not_false_eq_true, or_false, false_or, or_true, true_or, and_true, true_and, and_false, false_and, ne_eq, eq_self, or_self, and_self]) ?_)
      refine wpjQ (fun z : Int32 × Int32 => z = (nI (ftC (ftB m (some y) L) (k + 1)).1, oI (ftC (ftB m (some y) L) (k + 1)).2)) (fun z hz => by subst hz; exact wpl (by rw [nI_1]; rfl)) ?_
      intro Q' k' hk'
      have no : ftB m (some y) L k = false → wp (k' (nI (ftC (ftB m (some y) L) k).1, oI (ftC (ftB m (some y) L) k).2)) Q' := fun z => hk' _ (by rw [hF, if_neg (by rw [z]; decide)])
      have yes : ftB m (some y) L k = true → wp (lt (nI (ftC (ftB m (some y) L) k).1 + 1 : Int32) (fun v22 => k' (v22, nI k))) Q' := fun z => wpl (hk' _ (by rw [hF, if_pos z, nI_1]; rfl))
      rw [ix_n (by omega), q1]
      by_cases e1 : prt m k = true
      · refine wpf (by rw [if_pos e1]; decide) (wpe (e476 (by omega) hA hC hk hy) ?_)
        by_cases e3 : und m k y = true
        · rw [if_pos e3]
          refine wpf (by decide) (wpj ?_)
          by_cases e2 : L = 0
          · exact wpt (by rw [e2]; decide) (yes (by unfold ftB; rw [e1]; simp [e2, e3]))
          · refine wpf (fun z => e2 (lg_eq z)) (wpt (by simp (disch := first | omega | decide) only [↓neg1, nlit, rI, rL, rI2, rL1, nI_add, pk_mul, sbT, dvT, nmd, ixT, ↓ibT, ltT, ltF, leT, leF, eqT, eqF, nM_ltT, nM_ltF, nM_leT, nM_leF, nM_eqF, nM_eqF', nbT0, nbT1, oI_s, oI_n, natF, natT, nltT, nltF, nleT, nleF, ↓reduceIte, lgc, not_true_eq_false, not_false_eq_true, or_false, false_or, or_true, true_or, and_true, true_and, and_false, false_and, ne_eq, eq_self, or_self, and_self]) ?_)
            rw [q2 e1]
            by_cases e4 : lab m k = L
            · exact wpt (by rw [e4]; exact lg_self) (yes (by unfold ftB; rw [e1]; simp [e4, e3]))
            · exact wpf (fun z => e4 (lg_eq z)) (no (by unfold ftB; rw [decide_eq_false e2, decide_eq_false e4]; simp))
        · rw [if_neg e3]
          exact wpt rfl (no (by unfold ftB; dsimp only; rw [show und m k y = false by simpa using e3]; simp))
      · refine wpt (by rw [if_neg e1]; rfl) (no ?_)
        unfold ftB
        rw [show prt m k = false by simpa using e1]
        rfl
  · rintro st rfl
    dsimp only
    rw [h37]
    exact wpt (by simp (disch := first | omega | decide) only [↓neg1, nlit, rI, rL, rI2, rL1, nI_add, pk_mul, sbT, dvT, nmd, ixT, ↓ibT, ltT, ltF, leT, leF, eqT, eqF, nM_ltT, nM_ltF, nM_leT, nM_leF, nM_eqF, nM_eqF', nbT0, nbT1, oI_s, oI_n, natF, natT, nltT, nltF, nleT, nleF, ↓reduceIte, lgc, not_true_eq_false, not_false_eq_true, or_false, false_or, or_true, true_or, and_true, true_and, and_false, false_and, ne_eq, eq_self, or_self, and_self]) rfl
end FIR
