/-! RUNS THAT ASK NO SCRIPT -/
section RN
variable {P P' : rx_P}
/-- P' is P, but for arrays that nobody writes, of which P has none -/
def rn_le (P P' : rx_P) : Prop := rx_yn P' = rx_yn P ∧ rx_ml P' = rx_ml P ∧ rx_rt P' = rx_rt P ∧ rx_cd P' = rx_cd P ∧ rx_ft P' = rx_ft P ∧ rx_pt P' = rx_pt P ∧ rx_ct P' = rx_ct P ∧ rx_kt P' = rx_kt P ∧ rx_nt P' = rx_nt P ∧ rx_qt P' = rx_qt P ∧ rx_gt P' = rx_gt P ∧ rx_xt P' = rx_xt P ∧ rx_sb P' = rx_sb P ∧ rx_hh P' = rx_hh P ∧ rx_ht P' = rx_ht P ∧ (∀ a, rx_ci P a = none) ∧ ∀ a bs, rx_sb P ((a - rx_B) / 2) = some bs → rx_ci P' a = none
theorem rn_heap (hle : rn_le P P') {mi : Nat} {ins : Instr} {st : List Value} {L : List va_E} {x : List Value × List va_E × Nat × Nat} (h : rx_heap P mi ins st L = some x) : rx_heap P' mi ins st L = some x := by
  obtain ⟨-, -, -, -, e5, e6, -, e8, e9, e10, e11, -, e13, -, -, hn, hs⟩ := hle
  unfold rx_heap at h ⊢
  rw [e5, e6, e8, e9, e10, e11, e13]
  cases ins
  case iaload =>
    simp only at h ⊢
    split at h
    · split at h
      · exact h
      · cases h
      · rw [hn] at h
        cases h
    · cases h
  case arraylength =>
    simp only at h ⊢
    split at h
    · split at h
      · exact h
      · cases h
      · rw [hn] at h
        simp only at h
        split at h
        · rename_i bs hb
          rw [hs _ _ hb]
          exact h
        · cases h
    · cases h
  all_goals exact h
theorem rn_isa (hle : rn_le P P') {L : List va_E} {b : Nat} {C : String} : rx_isa P' L b C = rx_isa P L b C := by
  unfold rx_isa
  rw [hle.2.2.2.2.2.2.2.2.2.2.2.2.1]
/-- what neither returns nor calls has a heap's answer in both -/
theorem rn_none {mi : Nat} {ins : Instr} {st : List Value} {L : List va_E} (h : (∃ v, rx_ret ins st (rx_rt P mi) = some v) ∨ ∃ (rc : rx_F) (F Lo pc : Nat) (lv : rx_L) (r : rx_R), rx_call P rc mi F Lo pc lv st L ins = some r) : rx_heap P' mi ins st L = none := by
  rcases h with ⟨v, h⟩ | ⟨rc, F, Lo, pc, lv, r, h⟩
  · unfold rx_ret at h
    split at h
    case h_5 => cases h
    all_goals rfl
  · unfold rx_call at h
    split at h
    case h_4 => cases h
    all_goals rfl
theorem rn_inv (hle : rn_le P P') {rc rc' : rx_F} (h : ∀ mi F Lo pc lv st L r, rc mi F Lo pc lv st L = some r → rc' mi F Lo pc lv st L = some r) {th : Bool} {mi F Lo pc mj : Nat} {lv : rx_L} {as rest : List Value} {L : List va_E} {r : rx_R} (hr : rx_inv P rc th mi F Lo pc lv mj as rest L = some r) : rx_inv P' rc' th mi F Lo pc lv mj as rest L = some r := by
  have h1 := rv_inv (P := P) h hr
  have e : rx_inv P' rc' th mi F Lo pc lv mj as rest L = rx_inv P rc' th mi F Lo pc lv mj as rest L := by
    obtain ⟨e1, e2, e3, e4, e5, e6, e7, e8, e9, e10, e11, e12, e13, e14, e15, -⟩ := hle
    unfold rx_inv
    rw [e2, e14, e15]
  rw [e]
  exact h1
theorem rn_go (hle : rn_le P P') {rc rc' : rx_F} (h : ∀ mi F Lo pc lv st L r, rc mi F Lo pc lv st L = some r → rc' mi F Lo pc lv st L = some r) {mi F Lo pc : Nat} {lv : rx_L} {st : List Value} {L : List va_E} {r : rx_R} (hr : rx_go P rc mi F Lo pc lv st L = some r) : rx_go P' rc' mi F Lo pc lv st L = some r := by
  have hle0 := hle
  obtain ⟨e1, e2, e3, e4, e5, e6, e7, e8, e9, e10, e11, e12, e13, e14, e15, -, -⟩ := hle
  unfold rx_go at hr ⊢
  rw [e12, e4, e2, e3]
  split at hr
  · exact hr
  split at hr
  · cases hr
  split at hr
  · exact h _ _ _ _ _ _ _ _ hr
  split at hr
  · exact h _ _ _ _ _ _ _ _ hr
  split at hr
  · exact h _ _ _ _ _ _ _ _ hr
  split at hr
  · rename_i hh
    rw [rn_heap hle0 hh]
    exact rv_add (h _ _ _ _ _ _ _) hr
  split at hr
  · rename_i v hv
    rw [rn_none (P := P) (P' := P') (Or.inl ⟨v, hv⟩)]
    exact hr
  rw [rn_none (P := P) (P' := P') (Or.inr ⟨_, _, _, _, _, _, hr⟩)]
  simp only
  unfold rx_call at hr ⊢
  rw [e7, e1, e10]
  simp only [rn_isa hle0]
  split at hr
  · split at hr
    · split at hr
      · split at hr
        · rename_i hc
          rw [if_pos hc]
          exact rn_inv hle0 h hr
        · cases hr
      · cases hr
    · cases hr
  · split at hr
    · split at hr
      · split at hr
        · rename_i hc
          rw [if_pos hc]
          exact rn_inv hle0 h hr
        · rename_i hn
          rw [if_neg hn]
          split at hr
          · rename_i hc
            rw [if_pos hc]
            exact rn_inv hle0 h hr
          · cases hr
      · cases hr
    · split at hr
      · rename_i hc
        rw [if_pos hc]
        split at hr
        · split at hr
          · rename_i hc2
            rw [if_pos hc2]
            exact h _ _ _ _ _ _ _ _ hr
          · cases hr
        · cases hr
      · rename_i hn7
        rw [if_neg hn7]
        split at hr
        · rename_i hc
          rw [if_pos hc]
          split at hr
          · split at hr
            · rename_i hc2
              rw [if_pos hc2]
              exact h _ _ _ _ _ _ _ _ hr
            · cases hr
          · cases hr
        · rename_i hn8
          rw [if_neg hn8]
          split at hr
          · rename_i hc
            rw [if_pos hc]
            split at hr
            · split at hr
              · rename_i hc2
                rw [if_pos hc2]
                exact h _ _ _ _ _ _ _ _ hr
              · cases hr
            · cases hr
          · cases hr
  · split at hr
    · split at hr
      · rename_i hc
        rw [if_pos hc]
        split at hr
        · split at hr
          · rename_i hc2
            rw [if_pos hc2]
            exact h _ _ _ _ _ _ _ _ hr
          · cases hr
        · cases hr
      · rename_i hn
        rw [if_neg hn]
        split at hr
        · split at hr
          · rename_i hc
            rw [if_pos hc]
            exact rn_inv hle0 h hr
          · cases hr
        · cases hr
    · cases hr
  · cases hr
theorem rn_run (hle : rn_le P P') : ∀ (f mi F Lo pc : Nat) (lv : rx_L) (st : List Value) (L : List va_E) (r : rx_R), rx_run P f mi F Lo pc lv st L = some r → rx_run P' f mi F Lo pc lv st L = some r
  | 0, _, _, _, _, _, _, _, _, h => by cases h
  | f + 1, _, _, _, _, _, _, _, _, h => rn_go hle (rn_run hle f) h
end RN
/-- the program without a script -/
def rt_Pn (fm : Value) : rx_P := (rt_yn, rt_cb, rt_ml, rt_rt, rt_cd, rt_ft, rt_pt, rt_ct, rt_kt, rt_nt, rt_qt, rt_gt fm, rt_xt, rt_sb, (fun _ => none), rt_hh, rt_ht)
theorem rt_Pn_le {fm : Value} {sc : Nat × (Nat → Int32)} : rn_le (rt_Pn fm) (rt_P sc fm) := by
  refine ⟨(rfl : rt_yn = rt_yn), (rfl : rt_ml = rt_ml), (rfl : rt_rt = rt_rt), (rfl : rt_cd = rt_cd), (rfl : rt_ft = rt_ft), (rfl : rt_pt = rt_pt), (rfl : rt_ct = rt_ct), (rfl : rt_kt = rt_kt), (rfl : rt_nt = rt_nt), (rfl : rt_qt = rt_qt), (rfl : rt_gt fm = rt_gt fm), (rfl : rt_xt = rt_xt), (rfl : rt_sb = rt_sb), (rfl : rt_hh = rt_hh), (rfl : rt_ht = rt_ht), fun _ => rfl, fun a bs h => ?_⟩
  have h : rt_sb ((a - rx_B) / 2) = some bs := h
  show rt_ci sc a = none
  have := rk_ST_lt h
  unfold rt_ci
  split
  · rename_i e
    have e := Nat.eq_of_beq_eq_true e
    rw [e] at this
    exact absurd this (by unfold rx_S; rw [Nat.add_sub_cancel_left]; decide)
  split
  · rename_i e
    have e := Nat.eq_of_beq_eq_true e
    rw [e] at this
    exact absurd this (by unfold rx_Tk; rw [Nat.add_sub_cancel_left]; decide)
  split
  · rename_i e
    have e := Nat.eq_of_beq_eq_true e
    rw [e] at this
    exact absurd this (by unfold rx_Gv; rw [Nat.add_sub_cancel_left]; decide)
  · rfl
