/-! RUN: a step's end for plain ACTS and branches -/
section NX
variable {n fr : Nat} {c m u : cS} {Mf If : Nat → Nat}
theorem RN_TOP (hG : PG c m) (hA : AG m u) (hJ : JI c u) (h : RN m c u 1 fr Mf If) : TOP m c u (fr - 1) (Mf (fr - 1)) (If (fr - 1)) := by
  obtain ⟨-, ⟨f1, f2⟩, -, -, -, -, -, t, hF, hS, hfl, -⟩ := h
  obtain ⟨m1, m2, m3, -, -, -, m7, m8, -⟩ := hF (fr - 1) (by omega)
  rw [if_pos (by omega)] at m8
  refine ⟨hG, hA, m1, m2, m3, by omega, m8, m7, fun q hq => hS q (by omega), hfl, t.2.2.2.2.2.2.1, hJ⟩
theorem RN_next {d w : cS} {i' : Nat} (hG : PG c m) (h : RN m c u 1 fr Mf If) (hP : PST m c u d w (fr - 1) (Mf (fr - 1)) (If (fr - 1)) i') (hi : i' < acn m (Mf (fr - 1))) (hr : RCH m (Mf (fr - 1)) i') (hd : dpn m (40 * Mf (fr - 1) + i') = dpb m (40 * Mf (fr - 1) + If (fr - 1))) : RN m (pI d 164 (fr - 1) (nI i')) w 1 fr Mf (upF1 If (fr - 1) i') ∧ JI (pI d 164 (fr - 1) (nI i')) w := by
  obtain ⟨a1, ⟨f1, f2⟩, a3, a4, a5, a6, a7, ⟨t1, t2, t3, t4, t5, t6, t7, t8⟩, hF, hS, hfl, a12, a13⟩ := h
  obtain ⟨⟨v1, v2, v3, v4⟩, p2, p3, p4, p5⟩ := hP
  have C1 : ∀ A i, ¬ (A = 165 ∨ A = 166 ∨ (A = 162 ∧ i = 10) ∨ (A = 159 ∧ i = 5) ∨ A = 161 ∨ (A = 164 ∧ i = fr - 1)) → (pI d 164 (fr - 1) (nI i')).1 A i = c.1 A i := fun A i z => by
    rw [rI, if_neg (by omega)]
    exact p2.1 A i (decide_eq_false (by omega))
  have C2 : ∀ A i, ¬ (A = 165 ∨ A = 166 ∨ (A = 162 ∧ i = 10) ∨ (A = 159 ∧ i = 5) ∨ A = 161) → (pI d 164 (fr - 1) (nI i')).2 A i = c.2 A i := fun A i z => p2.2 A i (decide_eq_false (by omega))
  have U1 : ∀ A i, ¬ ((A = 254 ∧ i = fr - 1) ∨ (A = 255 ∧ i = fr - 1) ∨ (256 ≤ A ∧ A ≤ 259) ∨ (A = 174 ∧ (i = 128 ∨ i = 110)) ∨ A = 252) → w.1 A i = u.1 A i := fun A i z => p3.1 A i (decide_eq_false z)
  refine ⟨⟨a1, ⟨f1, f2⟩, (C1 162 0 (by omega)).trans a3, (U1 174 111 (by omega)).trans a4, (C1 159 10 (by omega)).trans a5, (U1 174 113 (by omega)).trans a6, ?_, ⟨?_, ?_, ?_, ?_, ?_, ?_, ?_, ?_⟩, fun j hj => ?_, fun q hq => ?_, fun x y hx hy => ?_, (fun z => by cases z), ?_⟩, ?_⟩
  · rw [C1 159 12 (by omega), U1 174 112 (by omega)]
    exact a7
  · rw [C1 162 1 (by omega)]
    rw [if_neg (by decide)] at t1 ⊢
    exact t1
  · rw [C1 162 2 (by omega), U1 174 123 (by omega)]
    exact t2
  · rw [C1 162 6 (by omega), U1 174 124 (by omega)]
    exact t3
  · rw [C1 162 7 (by omega), U1 174 125 (by omega)]
    exact t4
  · rw [C1 162 8 (by omega), U1 174 126 (by omega)]
    exact t5
  · rw [C1 162 9 (by omega), U1 174 127 (by omega)]
    exact t6
  · rw [rI, if_neg (by omega)]
    exact v3
  · rw [C1 162 11 (by omega), U1 174 129 (by omega)]
    exact t8
  · by_cases e : j = fr - 1
    · subst e
      obtain ⟨m1, m2, m3, m4, m5, m6, m7, m8, m9⟩ := hF (fr - 1) hj
      refine ⟨m1, ?_, ?_, (C1 163 _ (by omega)).trans m4, (U1 253 _ (by omega)).trans m5, ?_, ?_, ?_, fun z => by omega⟩
      · show upF1 If (fr - 1) i' (fr - 1) < _
        unfold upF1
        rw [if_pos rfl]
        exact hi
      · show RCH m _ (upF1 If (fr - 1) i' (fr - 1))
        unfold upF1
        rw [if_pos rfl]
        exact hr
      · unfold upF1
        rw [if_pos rfl, rI, if_pos ⟨rfl, rfl⟩]
      · unfold upF1
        rw [if_pos rfl]
        exact p4
      · unfold upF1
        rw [if_pos rfl, if_pos (by omega), hd]
        exact p5
    · obtain ⟨m1, m2, m3, m4, m5, m6, m7, m8, m9⟩ := hF j hj
      have hu : upF1 If (fr - 1) i' j = If j := if_neg e
      unfold FRM
      rw [hu]
      exact ⟨m1, m2, m3, (C1 163 _ (by omega)).trans m4, (U1 253 _ (by omega)).trans m5, (C1 164 _ (by omega)).trans m6, (U1 254 _ (by omega)).trans m7, (U1 255 _ (by omega)).trans m8, m9⟩
  · exact v1 q (by omega)
  · exact v2 x y hx hy
  · unfold BLK
    rw [C2 159 14 (by omega)]
    exact a13
  · exact JI_sx (r := fun a i => decide (a = 164)) v4 (sx_pI sx_rfl rfl) (sx_rfl (r := fun _ _ => false)) rfl (fun i => rfl) rfl (fun i => rfl)
/-- plain ACTS -/
theorem plain_go {f M i : Nat} (hn : 1000 ≤ n) (hT : TOP m c u f M i) (h : opn m (40 * M + i) ≠ 20 ∧ opn m (40 * M + i) ≠ 21 ∧ opn m (40 * M + i) ≠ 27 ∧ opn m (40 * M + i) ≠ 28 ∧ opn m (40 * M + i) ≠ 29) : wp (d_313 n (nI (16 * f)) (nI (fa c M + i)) c) (fun d => wp (d_470 n (nI f) (nI (40 * M + i)) u) (fun w => PST m c u d w f M i (i + 1))) := by
  obtain ⟨a, ha, ha4, hb, c121, u211, c125, hR, hd8, htk, hgv, ho4, hl8, hop⟩ := TOP_x hT
  rcases op17 hop with e | e | e | e | e | e | e | e | e | e | e | e | e | e | e | e | e
  · exact go_14 hn hT e
  · exact go_15 hn hT e
  · exact go_16 hn hT e
  · exact go_17 hn hT e
  · exact go_18 hn hT e
  · exact go_19 hn hT e
  · exact absurd e h.1
  · exact absurd e h.2.1
  · exact go_22 hn hT (by omega)
  · exact go_22 hn hT (by omega)
  · exact go_22 hn hT (by omega)
  · exact go_25 hn hT e
  · exact go_26 hT e
  · exact absurd e h.2.2.1
  · exact absurd e h.2.2.2.1
  · exact absurd e h.2.2.2.2
  · exact go_30 hn hT e
end NX
