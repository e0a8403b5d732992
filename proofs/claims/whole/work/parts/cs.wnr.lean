/-! WIRING: what a want asks, the reference -/
section WNR
variable {n t p s : Nat} {c d w m u v : cS}
def r480 (rec : Int32 → Int32 → cS → Option (cS)) (n : Nat) (a1 : Int32) (a2 : Int32) (of : Int32) (L : Int64) (p8 : Int32 × cS) : Option cS :=
      Option.bind (whl (R := (Int32 × Int32)) (fun s13 : Int32 × Int32 × Int32 =>
        if (p8.2.1 174 37) ≤ s13.2.2 then
          some (.inr (s13.1, s13.2.1))
        else
          if of < 0 then
            some (.inr (s13.1, s13.2.1))
          else
            if ib s13.2.2 12 then
            jn (fun p15 : Int32 × Int32 =>
              lt (s13.2.2 + 1 : Int32) (fun v17 =>
              some (.inl (p15.1, p15.2, v17))))
            (fun j164 =>
            if (p8.2.1 264 (ix s13.2.2)) = 0 then
              j164 (s13.1, s13.2.1)
            else
              Option.bind (d_476 n s13.2.2 of p8.2) (fun v19 =>
              if v19 = 0 then
                j164 (s13.1, s13.2.1)
              else
                jn (fun p20 : Unit =>
                  lt (s13.1 + 1 : Int32) (fun v22 =>
                  j164 (v22, s13.2.2)))
                (fun j157 =>
                if (lg_cmp L 0) = 0 then
                  j157 ()
                else
                  if ib s13.2.2 12 then
                  if (lg_cmp (p8.2.2 265 (ix s13.2.2)) L) = 0 then
                    j157 ()
                  else
                    j164 (s13.1, s13.2.1)
                  else none)))
            else none) n (0, (-1), 0))
      (fun x26 : Int32 × Int32 =>
        jn (fun p27 : cS =>
          jn (fun p28 : cS =>
            jn (fun p29 : Unit =>
              some p28)
            (fun j207 =>
            if 0 < (p28.1 174 131) then
              j207 ()
            else
              if p8.1 = 0 then
                if ib x26.2 12 then
                jn (fun p31 : cS =>
                  some p31)
                (fun j244 =>
                if (p28.1 263 (ix x26.2)) = 0 then
                  if ib x26.2 12 then
                  if (p28.1 262 (ix x26.2)) = 0 then
                    Option.bind (d_478 rec n x26.2 p28) (fun r33 =>
                    j244 r33)
                  else
                    j244 p28
                  else none
                else
                  Option.bind (d_477 n 3 a2 a1 p28) (fun r34 =>
                  j244 r34))
                else none
              else
                j207 ()))
          (fun j195 =>
          if x26.1 ≤ 1 then
            j195 p27
          else
            Option.bind (d_477 n 2 a2 a1 p27) (fun r35 =>
            j195 r35)))
        (fun j182 =>
        if x26.1 = 0 then
          Option.bind (d_477 n 1 a2 a1 p8.2) (fun r36 =>
          j182 r36)
        else
          j182 p8.2))
theorem e480 {rec : Int32 → Int32 → cS → Option (cS)} {a1 a2 : Int32} {y : Nat} {K : cS → Prop} (hn : 1000 ≤ n) (hA : AG m u) (hE : EC c m) (hN : CN m) (ht : t < kcn m) (hy : efm m t (eff m t 13 p 0) 0 = some y) (hM : MR m y) (hk : ∀ (b : Int32) x, (b = 0 ↔ wlt m t p = false) → sx q79 u x → wp (r480 rec n a1 a2 (oI (wof m t p)) (wlb m t p) (b, x)) K) : wp (d_480 rec n a1 a2 (nI y) (nI t) u) K := by
  obtain ⟨k1, -, k3, k4, k5, k6, k7, -⟩ := id hE.2.1
  have hK := k4 t ht
  have n79 : nP q79 := by
    refine ⟨fun a i h => ?_, fun i h => ?_, fun i h => ?_, fun a i h1 h2 h3 => ?_, fun a i h1 h2 h3 => ?_⟩
    · have := PA_of h
      exact decide_eq_false (by omega)
    · have := PF_of h
      exact decide_eq_false (by omega)
    · exact decide_eq_false (by omega)
    · exact decide_eq_false (by omega)
    · exact decide_eq_false (by omega)
  unfold d_480
  refine wpc (e475 hn hA hE ht hy hM) (fun r hr => ?_)
  obtain ⟨r1, r2⟩ := hr
  refine wpjQ (fun z : Int32 × cS => z.1 = oI (wof m t p) ∧ sx q79 u z.2) ?_ ?_
  · rintro ⟨o, x⟩ ⟨x1, x2⟩
    dsimp only at x1 x2
    subst x1
    refine wpc (e474 hn (AG_sx hA x2 n79) hE ht hy hM) (fun q hq => ?_)
    obtain ⟨q1, q2⟩ := hq
    have x3 := sx_trans x2 q2
    have hA3 := AG_sx hA x3 n79
    refine wpe (e378 (n := n) (d := t) (v := 1818326117) (by omega) hA3 (by omega) hK.2.1 hK.2.2.1) ?_
    refine wpjQ (fun z : Int32 × cS => (z.1 = 0 ↔ wlt m t p = false) ∧ sx q79 u z.2) ?_ ?_
    · rintro ⟨b, z⟩ ⟨z1, z2⟩
      have := hk b z z1 z2
      rw [show wlb m t p = q.1 from q1.symm] at this
      exact this
    · intro Q' k' hk'
      refine wpj ?_
      cases hj : jOf m t 1818326117 with
      | none =>
        refine wpt (by decide) (hk' _ ⟨⟨fun _ => ?_, fun _ => rfl⟩, x3⟩)
        unfold wlt
        rw [mvx_n hj]
        rfl
      | some j =>
        have hjl : j < kn m t := (ff_some hj).1
        have h4 := hK.2.1
        refine wpf (by rw [oI_s]; simp (disch := first | omega | decide) only [↓neg1, nlit, rI, rL, rI2, rL1, nI_add, pk_mul, sbT, dvT, nmd, ixT, ↓ibT, ltT, ltF, leT, leF, eqT, eqF, nM_ltT, nM_ltF, nM_leT, nM_leF, nM_eqF, nM_eqF', nbT0, nbT1, oI_s, oI_n, natF, natT, nltT, nltF, nleT, nleF, ↓reduceIte, lgc, not_true_eq_false, not_false_eq_true, or_false, false_or, or_true, true_or, and_true, true_and, and_false, false_and, ne_eq, eq_self, or_self, and_self]) (wpe (e429 hn hA3 (by omega) hK hjl hM) ?_)
        have s4 : sx q79 u (pL q.2 174 79 (mbV m y t j)) := sx_pL x3 rfl
        by_cases e : mbS m y t j = nI 1
        · refine wpt e ?_
          dsimp only
          rw [show (pL q.2 174 79 (mbV m y t j)).2 174 79 = mbV m y t j by rw [rL, if_pos ⟨rfl, rfl⟩]]
          have hv : mvx m t p 1 1818326117 = mbV m y t j := by rw [mvx_s hj hy, if_pos e]
          by_cases e0 : mbV m y t j = 0
          · refine wpt (by rw [e0]; decide) (hk' _ ⟨⟨fun _ => ?_, fun _ => rfl⟩, s4⟩)
            unfold wlt
            rw [hv, e0]
            rfl
          · refine wpf (fun z => e0 (lg_eq z)) (hk' _ ⟨⟨fun z => absurd (show (1 : Int32) = 0 from z) (by decide), fun z => ?_⟩, s4⟩)
            unfold wlt at z
            rw [hv, decide_eq_true e0] at z
            cases z
        · refine wpf e (hk' _ ⟨⟨fun _ => ?_, fun _ => rfl⟩, s4⟩)
          unfold wlt
          rw [mvx_s hj hy, if_neg e]
          rfl
  · intro Q' k' hk'
    by_cases e : mht m t p 28518 = false
    · refine wpt (r1.mpr e) (hk' _ ⟨?_, r2⟩)
      rw [wof_f hN e]
      rfl
    · refine wpf (fun z => e (r1.mp z)) (wpc (e474 hn (AG_sx hA r2 n79) hE ht hy hM) (fun q hq => ?_))
      obtain ⟨q1, q2⟩ := hq
      have x3 := sx_trans r2 q2
      rw [q1]
      exact wpe (e375 (by omega) (AG_sx hA x3 n79) (CCS_p hE.2.2.1).1 hE.2.2.1.1.2.2.1) (hk' _ ⟨rfl, x3⟩)
end WNR
