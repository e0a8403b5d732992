/-! RUNS WITHOUT FUEL: rules, an instruction a rule -/
section RV
variable {P : rx_P}
theorem rv_add {dc ds : Nat} {o o' : Option rx_R} {r : rx_R} (h : ∀ q, o = some q → o' = some q) (hr : rx_add dc ds o = some r) : rx_add dc ds o' = some r := by
  cases o with
  | none => cases hr
  | some q => rw [h q rfl]; exact hr
theorem rv_inv {rc rc' : rx_F} (h : ∀ mi F Lo pc lv st L r, rc mi F Lo pc lv st L = some r → rc' mi F Lo pc lv st L = some r) {th : Bool} {mi F Lo pc mj : Nat} {lv : rx_L} {as rest : List Value} {L : List va_E} {r : rx_R} (hr : rx_inv P rc th mi F Lo pc lv mj as rest L = some r) : rx_inv P rc' th mi F Lo pc lv mj as rest L = some r := by
  unfold rx_inv at hr ⊢
  split at hr
  · rename_i hc
    rw [if_pos hc]
    cases hcal : rc mj (F - 1) (Lo - (rx_ml P mj + 19)) 0 (lv_args 0 as) [] L with
    | none => rw [hcal] at hr; cases hr
    | some q =>
      rw [h _ _ _ _ _ _ _ _ hcal]
      rw [hcal] at hr
      obtain ⟨o, L1, c1, s1⟩ := q
      cases o with
      | inl v => exact rv_add (h _ _ _ _ _ _ _) hr
      | inr E =>
        simp only at hr ⊢
        split at hr
        · rename_i ht
          rw [if_pos ht]
          split at hr
          · exact rv_add (h _ _ _ _ _ _ _) hr
          · exact hr
        · cases hr
  · cases hr
theorem rv_go {rc rc' : rx_F} (h : ∀ mi F Lo pc lv st L r, rc mi F Lo pc lv st L = some r → rc' mi F Lo pc lv st L = some r) {mi F Lo pc : Nat} {lv : rx_L} {st : List Value} {L : List va_E} {r : rx_R} (hr : rx_go P rc mi F Lo pc lv st L = some r) : rx_go P rc' mi F Lo pc lv st L = some r := by
  unfold rx_go at hr ⊢
  split at hr
  · exact hr
  split at hr
  · cases hr
  split at hr
  · exact h _ _ _ _ _ _ _ _ hr
  split at hr
  · exact h _ _ _ _ _ _ _ _ hr
  split at hr
  · exact h _ _ _ _ _ _ _ _ hr
  split at hr
  · exact rv_add (h _ _ _ _ _ _ _) hr
  split at hr
  · exact hr
  unfold rx_call at hr ⊢
  split at hr
  · split at hr
    · split at hr
      · split at hr
        · rename_i hc
          rw [if_pos hc]
          exact rv_inv h hr
        · cases hr
      · cases hr
    · cases hr
  · split at hr
    · split at hr
      · split at hr
        · rename_i hc
          rw [if_pos hc]
          exact rv_inv h hr
        · rename_i hn
          rw [if_neg hn]
          split at hr
          · rename_i hc
            rw [if_pos hc]
            exact rv_inv h hr
          · cases hr
      · cases hr
    · split at hr
      · rename_i hc
        rw [if_pos hc]
        split at hr
        · split at hr
          · rename_i hc2
            rw [if_pos hc2]
            exact h _ _ _ _ _ _ _ _ hr
          · cases hr
        · cases hr
      · rename_i hn7
        rw [if_neg hn7]
        split at hr
        · rename_i hc
          rw [if_pos hc]
          split at hr
          · split at hr
            · rename_i hc2
              rw [if_pos hc2]
              exact h _ _ _ _ _ _ _ _ hr
            · cases hr
          · cases hr
        · rename_i hn8
          rw [if_neg hn8]
          split at hr
          · rename_i hc
            rw [if_pos hc]
            split at hr
            · split at hr
              · rename_i hc2
                rw [if_pos hc2]
                exact h _ _ _ _ _ _ _ _ hr
              · cases hr
            · cases hr
          · cases hr
  · split at hr
    · split at hr
      · rename_i hc
        rw [if_pos hc]
        split at hr
        · split at hr
          · rename_i hc2
            rw [if_pos hc2]
            exact h _ _ _ _ _ _ _ _ hr
          · cases hr
        · cases hr
      · rename_i hn
        rw [if_neg hn]
        split at hr
        · split at hr
          · rename_i hc
            rw [if_pos hc]
            exact rv_inv h hr
          · cases hr
        · cases hr
    · cases hr
  · cases hr
theorem rv_succ : ∀ (f mi F Lo pc : Nat) (lv : rx_L) (st : List Value) (L : List va_E) (r : rx_R), rx_run P f mi F Lo pc lv st L = some r → rx_run P (f + 1) mi F Lo pc lv st L = some r
  | 0, _, _, _, _, _, _, _, _, h => by cases h
  | f + 1, _, _, _, _, _, _, _, _, h => rv_go (rv_succ f) h
theorem rv_le {f g mi F Lo pc : Nat} {lv : rx_L} {st : List Value} {L : List va_E} {r : rx_R} (hfg : f ≤ g) (h : rx_run P f mi F Lo pc lv st L = some r) : rx_run P g mi F Lo pc lv st L = some r := by
  induction hfg with
  | refl => exact h
  | step _ ih => exact rv_succ _ _ _ _ _ _ _ _ _ ih
/-- a run, whatever the fuel -/
def rv (P : rx_P) (mi F Lo pc : Nat) (lv : rx_L) (st : List Value) (L : List va_E) (r : rx_R) : Prop := ∃ f, rx_run P f mi F Lo pc lv st L = some r
variable {mi F Lo pc : Nat} {lv : rx_L} {st : List Value} {L : List va_E} {r : rx_R}
theorem rv_pure {ins : Instr} {st' : List Value} (hx : rx_xt P mi pc = none) (hc : rx_cd P mi pc = some ins) (h : rx_pure ins st = some st') (k : rv P mi F Lo (pc + rx_len ins) lv st' L r) : rv P mi F Lo pc lv st L r := by
  obtain ⟨f, hf⟩ := k
  refine ⟨f + 1, ?_⟩
  show rx_go P (rx_run P f) mi F Lo pc lv st L = some r
  unfold rx_go
  rw [hx, hc]
  simp only [h]
  exact hf
theorem rv_loc {ins : Instr} {lv' : rx_L} {st' : List Value} (hx : rx_xt P mi pc = none) (hc : rx_cd P mi pc = some ins) (h0 : rx_pure ins st = none) (h : rx_loc ins (rx_ml P mi) lv st = some (lv', st')) (k : rv P mi F Lo (pc + rx_len ins) lv' st' L r) : rv P mi F Lo pc lv st L r := by
  obtain ⟨f, hf⟩ := k
  refine ⟨f + 1, ?_⟩
  show rx_go P (rx_run P f) mi F Lo pc lv st L = some r
  unfold rx_go
  rw [hx, hc]
  simp only [h0, h]
  exact hf
theorem rv_jmp {ins : Instr} {pc' : Nat} {st' : List Value} (hx : rx_xt P mi pc = none) (hc : rx_cd P mi pc = some ins) (h0 : rx_pure ins st = none) (h1 : rx_loc ins (rx_ml P mi) lv st = none) (h : rx_jmp ins pc st = some (pc', st')) (k : rv P mi F Lo pc' lv st' L r) : rv P mi F Lo pc lv st L r := by
  obtain ⟨f, hf⟩ := k
  refine ⟨f + 1, ?_⟩
  show rx_go P (rx_run P f) mi F Lo pc lv st L = some r
  unfold rx_go
  rw [hx, hc]
  simp only [h0, h1, h]
  exact hf
theorem rv_heap {ins : Instr} {st' : List Value} {L' : List va_E} {dc ds : Nat} {o : (Option Value) ⊕ String} {L2 : List va_E} {c2 s2 : Nat} (hx : rx_xt P mi pc = none) (hc : rx_cd P mi pc = some ins) (h0 : rx_pure ins st = none) (h1 : rx_loc ins (rx_ml P mi) lv st = none) (h2 : rx_jmp ins pc st = none) (h : rx_heap P mi ins st L = some (st', L', dc, ds)) (k : rv P mi F Lo (pc + rx_len ins) lv st' L' (o, L2, c2, s2)) : rv P mi F Lo pc lv st L (o, L2, dc + c2, ds + s2) := by
  obtain ⟨f, hf⟩ := k
  refine ⟨f + 1, ?_⟩
  show rx_go P (rx_run P f) mi F Lo pc lv st L = some _
  unfold rx_go
  rw [hx, hc]
  simp only [h0, h1, h2, h]
  rw [hf]
  rfl
theorem rv_ret {ins : Instr} {v : Option Value} (hx : rx_xt P mi pc = none) (hc : rx_cd P mi pc = some ins) (h0 : rx_pure ins st = none) (h1 : rx_loc ins (rx_ml P mi) lv st = none) (h2 : rx_jmp ins pc st = none) (h3 : rx_heap P mi ins st L = none) (h : rx_ret ins st (rx_rt P mi) = some v) : rv P mi F Lo pc lv st L (.inl v, L, 0, 0) := by
  refine ⟨1, ?_⟩
  show rx_go P (rx_run P 0) mi F Lo pc lv st L = some _
  unfold rx_go
  rw [hx, hc]
  simp only [h0, h1, h2, h3, h]
theorem rv_throw {E : String} {nf nl : Nat} (hx : rx_xt P mi pc = some (E, nf, nl)) (h1 : nf < F) (h2 : nl ≤ Lo) : rv P mi F Lo pc lv [] L (.inr E, L, 1, 6) := by
  refine ⟨1, ?_⟩
  show rx_go P (rx_run P 0) mi F Lo pc lv [] L = some _
  unfold rx_go
  rw [hx]
  simp only []
  rw [if_pos ⟨trivial, h1, h2⟩]
/-- an instance of a call that returns: the callee's run, then the rest -/
theorem rv_inv1 {th : Bool} {mj : Nat} {as rest : List Value} {v : Option Value} {L1 L2 : List va_E} {c1 s1 c2 s2 : Nat} {o : (Option Value) ⊕ String} (hc : 1 ≤ F ∧ rx_ml P mj + 19 ≤ Lo ∧ rx_words rest ≤ 8 ∧ (lg_sl as).length ≤ rx_ml P mj) (hcal : rv P mj (F - 1) (Lo - (rx_ml P mj + 19)) 0 (lv_args 0 as) [] L (.inl v, L1, c1, s1)) (k : rv P mi F Lo (pc + 3) lv (v.toList ++ rest) L1 (o, L2, c2, s2)) :
    ∃ f, rx_inv P (rx_run P f) th mi F Lo pc lv mj as rest L = some (o, L2, c1 + c2, s1 + s2) := by
  obtain ⟨f, hf⟩ := hcal
  obtain ⟨g, hg⟩ := k
  refine ⟨max f g, ?_⟩
  unfold rx_inv
  rw [if_pos hc, rv_le (Nat.le_max_left f g) hf]
  simp only []
  rw [rv_le (Nat.le_max_right f g) hg]
  rfl
theorem rv_callV {idx mj n b : Nat} {as rest : List Value} {v : Option Value} {L1 L2 : List va_E} {c1 s1 c2 s2 : Nat} {o : (Option Value) ⊕ String} (hx : rx_xt P mi pc = none) (hcd : rx_cd P mi pc = some (.invokevirtual idx)) (hct : rx_ct P mi idx = some (0, mj, n)) (htk : rx_take n st = some (as, .ref b :: rest)) (hisa : rx_isa P L b (rx_yn P mj).cls = true)
    (hc : 1 ≤ F ∧ rx_ml P mj + 19 ≤ Lo ∧ rx_words rest ≤ 8 ∧ (lg_sl (.ref b :: as)).length ≤ rx_ml P mj) (hcal : rv P mj (F - 1) (Lo - (rx_ml P mj + 19)) 0 (lv_args 0 (.ref b :: as)) [] L (.inl v, L1, c1, s1)) (k : rv P mi F Lo (pc + 3) lv (v.toList ++ rest) L1 (o, L2, c2, s2)) : rv P mi F Lo pc lv st L (o, L2, c1 + c2, s1 + s2) := by
  obtain ⟨f, hf⟩ := rv_inv1 (th := true) hc hcal k
  refine ⟨f + 1, ?_⟩
  show rx_go P (rx_run P f) mi F Lo pc lv st L = some _
  unfold rx_go
  rw [hx, hcd]
  show rx_call P (rx_run P f) mi F Lo pc lv st L (.invokevirtual idx) = _
  unfold rx_call
  simp only [hct, htk]
  rw [if_pos ⟨trivial, hisa⟩]
  exact hf
theorem rv_callS {idx kd mj n : Nat} {as rest : List Value} {v : Option Value} {L1 L2 : List va_E} {c1 s1 c2 s2 : Nat} {o : (Option Value) ⊕ String} (hx : rx_xt P mi pc = none) (hcd : rx_cd P mi pc = some (.invokestatic idx)) (hct : rx_ct P mi idx = some (kd, mj, n)) (hkd : kd = 1 ∨ kd = 3 ∨ kd = 11) (htk : rx_take n st = some (as, rest))
    (hc : 1 ≤ F ∧ rx_ml P mj + 19 ≤ Lo ∧ rx_words rest ≤ 8 ∧ (lg_sl as).length ≤ rx_ml P mj) (hcal : rv P mj (F - 1) (Lo - (rx_ml P mj + 19)) 0 (lv_args 0 as) [] L (.inl v, L1, c1, s1)) (k : rv P mi F Lo (pc + 3) lv (v.toList ++ rest) L1 (o, L2, c2, s2)) : rv P mi F Lo pc lv st L (o, L2, c1 + c2, s1 + s2) := by
  by_cases h13 : kd = 1 ∨ kd = 3
  · obtain ⟨f, hf⟩ := rv_inv1 (th := true) hc hcal k
    refine ⟨f + 1, ?_⟩
    show rx_go P (rx_run P f) mi F Lo pc lv st L = some _
    unfold rx_go
    rw [hx, hcd]
    show rx_call P (rx_run P f) mi F Lo pc lv st L (.invokestatic idx) = _
    unfold rx_call
    simp only [hct, htk]
    rw [if_pos h13]
    exact hf
  · obtain ⟨f, hf⟩ := rv_inv1 (th := false) hc hcal k
    refine ⟨f + 1, ?_⟩
    show rx_go P (rx_run P f) mi F Lo pc lv st L = some _
    unfold rx_go
    rw [hx, hcd]
    show rx_call P (rx_run P f) mi F Lo pc lv st L (.invokestatic idx) = _
    unfold rx_call
    simp only [hct, htk]
    rw [if_neg h13, if_pos (by omega)]
    exact hf
end RV
