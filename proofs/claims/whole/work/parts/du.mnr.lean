/-! READING MARKS: the NAME of a MARK, the reference -/
section MNR
variable {n i j N t k rc rr U w oc kc mc cc : Nat} {c d u : cS} {K P : Nat → Nat} {V : Nat → Int64} {b : Bool} {nm : Int64}
theorem mny_cg {u' : cS} (h : ∀ l, u'.1 197 l = u.1 197 l) : mny u' t = mny u t := by
  unfold mny
  rw [h]
theorem ftW_cg {u' : cS} (h : ∀ l, u'.1 195 l = u.1 195 l) : ftW u' t w = ftW u t w := by
  have : ∀ s, cst u' t s = cst u t s := fun s => by
    unfold cst kw
    rw [h]
  unfold ftW
  rw [this]
/-- whether it may stand there -/
theorem m3R_go {Q : cS → Prop} {v9 v11 : Int32} (hw : w ≤ 6) (hj : j ≤ 4000) (ht : (t < 12 ∧ v9 = nM ∧ v11 = nI t ∧ kw u t < 16 ∧ u.1 195 t = nI (kw u t)) ∨ (∃ o, o < 4 ∧ t = 100 + o ∧ v9 = nI o))
  (k0 : u.1 174 13 = nI 1 → Q u) (k1 : u.1 174 13 = nI 0 → ftW u t w = false → Q (flt u 7 (u.1 179 j))) (k2 : u.1 174 13 = nI 0 → ftW u t w = true → wp (Option.bind (d_393 n (nI rr) nm (bI b) u) (m5R n (nI rr) (bI b) v9 v11 (nI j))) Q) (h13 : u.1 174 13 = nI 0 ∨ u.1 174 13 = nI 1) : wp (m3R n (nI rr) (nI (aw w)) (bI b) v9 v11 (nI j) nm u) Q := by
  have hib : ib (nI j) 4001 := ib_n (by omega) (by decide)
  unfold m3R
  refine wpjQ (fun p : Int32 => p = bI (ftW u t w)) ?_ ?_
  · rintro p rfl
    refine wpj ?_
    rcases h13 with h13 | h13
    · cases hf : ftW u t w with
      | false =>
        refine wpt rfl (wpt hib ?_)
        rw [ix_n (by omega)]
        refine wpe (e97 h13) ?_
        unfold m4R
        exact wpf (by rw [(flt_at (u := u)).1]; decide) (k1 h13 hf)
      | true =>
        refine wpf (by decide) ?_
        unfold m4R
        exact wpt h13 (k2 h13 hf)
    · have hm4 : wp (m4R n (nI rr) (bI b) v9 v11 (nI j) nm u) Q := by
        unfold m4R
        exact wpf (by rw [h13]; decide) (k0 h13)
      cases hf : ftW u t w with
      | false => exact wpt rfl (wpt hib (wpe (e97w h13) hm4))
      | true => exact wpf (by decide) hm4
  · intro Q' k' hk'
    rcases ht with ⟨t1, rfl, rfl, t4, t5⟩ | ⟨o, o1, rfl, rfl⟩
    · have hct : ∀ s, cst u t s = (kw u t).testBit s := fun s => if_pos (by omega)
      refine wpt (by decide) (wpj ?_)
      by_cases e6 : w = 6
      · refine wpt (by rw [e6]; rfl) (hk' 0 ?_)
        unfold ftW
        rw [if_neg (by omega), if_pos e6, decide_eq_false (by omega)]
        rfl
      · have haw : aw w ≤ 15 := by
          unfold aw
          by_cases e4 : w = 4
          · rw [if_pos e4]
            decide
          · rw [if_neg e4]
            by_cases e5 : w = 5
            · rw [if_pos e5]
              decide
            · rw [if_neg e5, if_neg e6]
              have h3 : w ≤ 3 := by omega
              exact Nat.le_trans (Nat.pow_le_pow_right (by decide) h3) (by decide)
        refine wpf (fun z => ?_) (wpj ?_)
        · have := (nI_eq (a := aw w) (b := 16) (by omega) (by decide)).mp z
          omega
        by_cases e4 : w = 4
        · refine wpt (by rw [e4]; rfl) (hk' 1 ?_)
          unfold ftW
          rw [if_pos e4]
          rfl
        · have hs : ∃ s, s < 4 ∧ aw w = 2 ^ s ∧ ftW u t w = (kw u t).testBit s := by
            by_cases e5 : w = 5
            · refine ⟨0, by decide, by unfold aw; rw [if_neg e4, if_pos e5], ?_⟩
              unfold ftW
              rw [if_neg e4, if_neg e6, if_pos e5, hct]
            · refine ⟨w, by omega, by unfold aw; rw [if_neg e4, if_neg e5, if_neg e6], ?_⟩
              unfold ftW
              rw [if_neg e4, if_neg e6, if_neg e5, hct]
          obtain ⟨s, s1, s2, s3⟩ := hs
          have hpw : 2 ^ s ≤ 8 := Nat.le_trans (Nat.pow_le_pow_right (by decide) (show s ≤ 3 by omega)) (by decide)
          rw [s2]
          refine wpf (fun z => ?_) (wpt (ib_n t1 (by decide)) ?_)
          · have := (nI_eq (a := 2 ^ s) (b := 15) (by omega) (by decide)).mp z
            omega
          rw [ix_n (show t < 2147483648 by omega), t5]
          have hb := cst_and (K := kw u t) t4 s1
          rw [s3] at hk'
          cases hq : (kw u t).testBit s with
          | false => exact wpt (hb.mpr hq) (hk' 0 (by rw [hq]; rfl))
          | true => exact wpf (fun z => by rw [hb.mp z] at hq; cases hq) (hk' 1 (by rw [hq]; rfl))
    · have hct : ∀ s, cst u (100 + o) s = decide (s ≠ 0) := fun s => if_neg (by omega)
      refine wpf (nI_pos (by omega)) ?_
      by_cases e : aw w = 1
      · refine wpt (by rw [e]; rfl) (hk' 0 ?_)
        have hw0 : w = 0 ∨ w = 5 := by
          unfold aw at e
          by_cases e4 : w = 4
          · rw [if_pos e4] at e
            omega
          · rw [if_neg e4] at e
            by_cases e5 : w = 5
            · exact Or.inr e5
            · rw [if_neg e5] at e
              by_cases e6 : w = 6
              · rw [if_pos e6] at e
                omega
              · rw [if_neg e6] at e
                left
                have : ∀ w : Fin 4, 2 ^ w.1 = 1 → w.1 = 0 := by decide
                exact this ⟨w, by omega⟩ e
        unfold ftW
        rcases hw0 with rfl | rfl
        · rw [if_neg (by decide), if_neg (by decide), if_neg (by decide), hct]
          rfl
        · rw [if_neg (by decide), if_neg (by decide), if_pos rfl, hct]
          rfl
      · have haw : aw w ≤ 16 := by
          unfold aw
          by_cases e4 : w = 4
          · rw [if_pos e4]
            decide
          · rw [if_neg e4]
            by_cases e5 : w = 5
            · rw [if_pos e5]
              decide
            · rw [if_neg e5]
              by_cases e6 : w = 6
              · rw [if_pos e6]
                decide
              · rw [if_neg e6]
                have h3 : w ≤ 3 := by omega
                exact Nat.le_trans (Nat.pow_le_pow_right (by decide) h3) (by decide)
        refine wpf (fun z => e ((nI_eq (a := aw w) (b := 1) (by omega) (by decide)).mp z)) (hk' 1 ?_)
        have hw0 : w ≠ 0 ∧ w ≠ 5 := by
          refine ⟨fun z => e ?_, fun z => e ?_⟩
          · rw [z]
            rfl
          · rw [z]
            rfl
        unfold ftW
        by_cases e4 : w = 4
        · rw [if_pos e4]
          rfl
        · rw [if_neg e4]
          by_cases e6 : w = 6
          · rw [if_pos e6, decide_eq_true (by omega)]
            rfl
          · rw [if_neg e6, if_neg hw0.2, hct, decide_eq_true hw0.1]
            rfl
theorem m2R_go {Q : cS → Prop} (hn : 10000 ≤ n) (hP : PSI K P V N c u j) (hV : ENV c u oc kc mc cc) (h222 : u.1 222 rr = nI k) (hk : k ≤ 20) (hr : rr < 1219) (hw : w ≤ 6)
  (kA : ¬ K j = 1 → Q (flt u 2 (nI (P j)))) (kB : K j = 1 → tgt u oc kc (V j) = none → Q (flt (atR u (j + 1)) 5 (nI (P j)))) (kC : ∀ t, K j = 1 → tgt u oc kc (V j) = some t → dpl u rr k t (V j) = true → Q (flt (atR u (j + 1)) 3 (nI (P j)))) (kD : ∀ t, K j = 1 → tgt u oc kc (V j) = some t → dpl u rr k t (V j) = false → ftW u t w = false → Q (flt (atR u (j + 1)) 7 (nI (P j))))
  (kE : ∀ t, K j = 1 → tgt u oc kc (V j) = some t → dpl u rr k t (V j) = false → ftW u t w = true → wp (Option.bind (d_393 n (nI rr) (V j) (bI b) (atR u (j + 1))) (m5R n (nI rr) (bI b) (oI (fO u oc (V j))) (oI (fK u kc (V j))) (nI j))) Q) : wp (m2R n (nI rr) (nI (aw w)) (bI b, u)) Q := by
  have hkK := PSI_K hP
  have h381 := e381 (n := n) hP
  have hib : ib (nI j) 4001 := ib_n (by omega) (by decide)
  unfold m2R
  dsimp only
  rw [hP.2.2.2.1]
  refine wpl ?_
  by_cases e1 : K j = 1
  rotate_left
  · rw [if_neg e1] at h381
    exact wpe h381 (wpf (by rw [(flt_at (u := u)).1]; decide) (kA e1))
  rw [if_pos e1] at h381
  have hP1 := PSI_s hP (by omega)
  have hN1 := NMQ_at (i := j + 1) hV.1
  have u1f : ∀ A l, ¬ (A = 174 ∧ l = 67) → (atR u (j + 1)).1 A l = u.1 A l := fun A l z => by
    unfold atR
    rw [rI, if_neg z]
  have a9 : (atR u (j + 1)).1 179 j = nI (P j) := by
    rw [u1f _ _ (by omega)]
    exact (hP.1.2.2.1 j hP.2.1).2.2.1
  have h372 : d_372 n (V j) (atR u (j + 1)) = some (oI (fO u oc (V j))) := g372 (by omega) hN1
  have h373 : d_373 n (V j) (atR u (j + 1)) = some (oI (fK u kc (V j))) := g373 (by omega) hN1
  refine wpe h381 (wpt hP1.2.2.2.2 (wpe h372 (wpe h373 (wpj ?_))))
  dsimp only
  have f5 := (flt_at (u := atR u (j + 1)) (a := 5) (f := nI (P j))).1
  -- a KIND or ORDER is found
  have hsome : ∀ t, tgt u oc kc (V j) = some t → wp (if ((atR u (j + 1)).1 174 13) = 0 then
          jn (m3R n (nI rr) (nI (aw w)) (bI b) (oI (fO u oc (V j))) (oI (fK u kc (V j))) (nI j) (V j))
          (fun j143 =>
          jn (fun p68 : Unit =>
            if ib (nI rr) 1219 then
            Option.bind (d_395 n (nI rr) ((atR u (j + 1)).1 222 (ix (nI rr))) (V j) (atR u (j + 1))) (fun v70 =>
            if v70 = 0 then
              j143 (atR u (j + 1))
            else
              if ib (nI j) 4001 then
              Option.bind (d_97 n 3 ((atR u (j + 1)).1 179 (ix (nI j))) (atR u (j + 1))) (fun r72 =>
              j143 r72)
              else none)
            else none)
          (fun j115 =>
          if 0 ≤ oI (fO u oc (V j)) then
            j115 ()
          else
            if ib (oI (fK u kc (V j))) 12 then
            if ((atR u (j + 1)).1 197 (ix (oI (fK u kc (V j))))) = 0 then
              j115 ()
            else
              j143 (atR u (j + 1))
            else none))
        else
          some (atR u (j + 1))) Q := fun t ht => by
    have h12 := ENV_12 hV ht
    have m3t : ∀ {z : cS}, (∀ l, z.1 195 l = u.1 195 l) → (t < 12 ∧ oI (fO u oc (V j)) = nM ∧ oI (fK u kc (V j)) = nI t ∧ kw z t < 16 ∧ z.1 195 t = nI (kw z t)) ∨ (∃ o, o < 4 ∧ t = 100 + o ∧ oI (fO u oc (V j)) = nI o) := fun {z} hz => by
      have b1 := hV.1.1.1
      have b2 := hV.1.2.1
      have ekw : kw z t = kw u t := by
        unfold kw
        rw [hz]
      rcases ENV_t hV ht with ⟨z1, z2, z3⟩ | ⟨o, z1, z2, z3⟩
      · obtain ⟨-, -, -, -, -, q1, q2, -⟩ := hV.2.2 t z1
        rw [z2, z3, ekw, hz]
        exact Or.inl ⟨by omega, rfl, rfl, q1, q2⟩
      · rw [z3]
        exact Or.inr ⟨o, by omega, z2, rfl⟩
    have m3ok : dpl u rr k t (V j) = false → wp (m3R n (nI rr) (nI (aw w)) (bI b) (oI (fO u oc (V j))) (oI (fK u kc (V j))) (nI j) (V j) (atR u (j + 1))) Q := fun hd => by
      refine m3R_go (t := t) hw (by omega) (m3t (fun l => u1f _ _ (by omega))) (fun z => ?_) (fun _ z => ?_) (fun _ z => kE t e1 ht hd (by rw [← ftW_cg (u := u) (fun l => u1f _ _ (by omega))]; exact z)) (Or.inl hP1.2.2.2.2)
      · rw [hP1.2.2.2.2] at z
        exact absurd z (by decide)
      · rw [a9]
        exact kD t e1 ht hd (by rw [← ftW_cg (u := u) (fun l => u1f _ _ (by omega))]; exact z)
    have h395 : d_395 n (nI rr) ((atR u (j + 1)).1 222 (ix (nI rr))) (V j) (atR u (j + 1)) = some (bI (hnm u rr k (V j))) := by
      rw [ix_n (show rr < 2147483648 by omega), u1f _ _ (by omega), h222]
      exact e395 (by omega) hr hk
    have hlook : mny u t = false → wp (if ib (nI rr) 1219 then
            Option.bind (d_395 n (nI rr) ((atR u (j + 1)).1 222 (ix (nI rr))) (V j) (atR u (j + 1))) (fun v70 =>
            if v70 = 0 then
              m3R n (nI rr) (nI (aw w)) (bI b) (oI (fO u oc (V j))) (oI (fK u kc (V j))) (nI j) (V j) (atR u (j + 1))
            else
              if ib (nI j) 4001 then
              Option.bind (d_97 n 3 ((atR u (j + 1)).1 179 (ix (nI j))) (atR u (j + 1))) (fun r72 =>
              m3R n (nI rr) (nI (aw w)) (bI b) (oI (fO u oc (V j))) (oI (fK u kc (V j))) (nI j) (V j) r72)
              else none)
            else none) Q := fun hm => by
      refine wpt (ib_n hr (by decide)) (wpe h395 ?_)
      cases hh : hnm u rr k (V j) with
      | false => exact wpt rfl (m3ok (by unfold dpl; rw [hh]; rfl))
      | true =>
        have f3 := flt_at (u := atR u (j + 1)) (a := 3) (f := nI (P j))
        refine wpf (by decide) (wpt hib ?_)
        rw [ix_n (show j < 2147483648 by omega), a9]
        refine wpe (e97 hP1.2.2.2.2) (m3R_go (t := t) hw (by omega) (m3t (fun l => (f3.2.2.2 195 l (by omega)).trans (u1f _ _ (by omega)))) (fun _ => kC t e1 ht (by unfold dpl; rw [hh, hm]; rfl)) (fun z => ?_) (fun z => ?_) (Or.inr f3.1))
        · rw [f3.1] at z
          exact absurd z (by decide)
        · rw [f3.1] at z
          exact absurd z (by decide)
    refine wpt hP1.2.2.2.2 (wpj (wpj ?_))
    rcases ENV_t hV ht with ⟨z1, z2, z3⟩ | ⟨o, z1, z2, z3⟩
    · obtain ⟨-, -, -, -, -, -, -, -, -, -, q1, -⟩ := hV.2.2 t z1
      have b2 := hV.1.2.1
      have hlook' := hlook
      rw [z2, z3] at hlook' m3ok ⊢
      refine wpf (by decide) ?_
      rw [oI_s, ix_n (show t < 2147483648 by omega), u1f _ _ (by omega)]
      rw [oI_s] at hlook' m3ok
      refine wpt (ib_n (by omega) (by decide)) ?_
      rcases q1 with z | z
      · have hz : decide (u.1 197 t = nI 1) = false := decide_eq_false (by rw [z]; decide)
        exact wpt z (hlook' (by unfold mny; rw [hz, Bool.and_false]))
      · have hz : decide (u.1 197 t = nI 1) = true := decide_eq_true z
        have hz2 : decide (t < 100) = true := decide_eq_true (by omega)
        exact wpf (by rw [z]; decide) (m3ok (by unfold dpl mny; rw [hz, hz2]; simp))
    · have b1 := hV.1.1.1
      have hm : mny u t = false := by
        unfold mny
        rw [decide_eq_false (by omega)]
        rfl
      have := hlook hm
      rw [z3] at this ⊢
      exact wpt (nI_pos' (by omega)) this
  cases ht : tgt u oc kc (V j) with
  | none =>
    have z2 : fO u oc (V j) = none := by
      cases e : fO u oc (V j) with
      | none => rfl
      | some o =>
        rw [tgt_o e] at ht
        cases ht
    have z3 : fK u kc (V j) = none := by
      rw [tgt_n z2] at ht
      exact ht
    rw [z2, z3]
    refine wpf (by decide) (wpf (by decide) (wpt hib ?_))
    rw [ix_n (show j < 2147483648 by omega), a9]
    exact wpe (e97 hP1.2.2.2.2) (wpf (by rw [f5]; decide) (kB e1 ht))
  | some t =>
    have hs := hsome t ht
    rcases ENV_t hV ht with ⟨z1, z2, z3⟩ | ⟨o, z1, z2, z3⟩
    · have b2 := hV.1.2.1
      rw [z2, z3] at hs ⊢
      exact wpf (by decide) (wpt (nI_pos' (by omega)) hs)
    · have b1 := hV.1.1.1
      rw [z3] at hs ⊢
      exact wpt (nI_pos' (by omega)) hs
end MNR
