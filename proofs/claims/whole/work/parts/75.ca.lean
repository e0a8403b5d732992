/-! THE CLASS'S PROGRAM stays where only other places are written -/
def CA (c d : cS) : Prop := (∀ a, 8 ≤ a → a ≤ 144 → a ≠ 126 → d.1 a = c.1 a ∧ d.2 a = c.2 a) ∧ ∀ i, 1 ≤ i → d.1 7 i = c.1 7 i
def nC (r : Nat → Nat → Bool) : Prop := (∀ a i, 8 ≤ a → a ≤ 144 → a ≠ 126 → r a i = false) ∧ ∀ i, 1 ≤ i → r 7 i = false
theorem CA_rfl {c : cS} : CA c c := ⟨fun _ _ _ _ => ⟨rfl, rfl⟩, fun _ _ => rfl⟩
theorem CA_sx {c d : cS} {r : Nat → Nat → Bool} (h : sx r c d) (hr : nC r) : CA c d := ⟨fun a h1 h2 h3 => ⟨funext fun i => h.1 a i (hr.1 a i h1 h2 h3), funext fun i => h.2 a i (hr.1 a i h1 h2 h3)⟩, fun i hi => h.1 7 i (hr.2 i hi)⟩
section CAS
variable {c d m : cS} (hc : CA c d)
theorem CA_l {a : Nat} (hc : CA c d) (h1 : 8 ≤ a) (h2 : a ≤ 144) (h3 : a ≠ 126) : d.1 a = c.1 a := (hc.1 a h1 h2 h3).1
theorem CA_r {a : Nat} (hc : CA c d) (h1 : 8 ≤ a) (h2 : a ≤ 144) (h3 : a ≠ 126) : d.2 a = c.2 a := (hc.1 a h1 h2 h3).2
theorem ch_CA (hc : CA c d) {r : Nat} : ∀ k, ch d r k = ch c r k
  | 0 => congrFun (CA_l hc (a := 142) (by omega) (by omega) (by omega)) r
  | k + 1 => by
    unfold ch
    rw [ch_CA hc k, CA_l hc (a := 138) (by omega) (by omega) (by omega)]
theorem mi_CA (hc : CA c d) {r k : Nat} : mi d r k = mi c r k := by
  unfold mi
  rw [ch_CA hc]
theorem MKR_CA (hc : CA c d) {x y : Nat} (h : MKR c m x y) : MKR d m x y := by
  unfold MKR at h ⊢
  rw [CA_r hc (a := 134) (by omega) (by omega) (by omega), CA_l hc (a := 135) (by omega) (by omega) (by omega), CA_l hc (a := 136) (by omega) (by omega) (by omega), CA_r hc (a := 139) (by omega) (by omega) (by omega), CA_l hc (a := 140) (by omega) (by omega) (by omega), CA_r hc (a := 141) (by omega) (by omega) (by omega)]
  exact h
theorem RW_CA (hc : CA c d) {r : Nat} (h : RW c m r) : RW d m r := by
  obtain ⟨h1, h2, h3, h4⟩ := h
  refine ⟨h1, h2, ?_, fun i hi => ?_⟩
  · rw [CA_l hc (a := 144) (by omega) (by omega) (by omega)]
    exact h3
  · rw [ch_CA hc, mi_CA hc]
    exact ⟨(h4 i hi).1, MKR_CA hc (h4 i hi).2⟩
theorem RP_CA (hc : CA c d) {p : Nat} (h : RP c m p) : RP d m p := by
  refine ⟨RW_CA hc h.1, fun i hi => ?_⟩
  rw [mi_CA hc, CA_l hc (a := 137) (by omega) (by omega) (by omega)]
  exact h.2 i hi
theorem RQ_CA (hc : CA c d) {r : Nat} (h : RQ c m r) : RQ d m r := by
  refine ⟨RW_CA hc h.1, fun i hi => ?_⟩
  rw [mi_CA hc, CA_l hc (a := 137) (by omega) (by omega) (by omega)]
  exact h.2 i hi
theorem RO_CA (hc : CA c d) {o n : Nat} (ho : o < 4) (h : RO o n c m) : RO o n d m := by
  have e (j : Nat) (hj : j < 6) : d.1 (oA o + j) = c.1 (oA o + j) ∧ d.2 (oA o + j) = c.2 (oA o + j) := hc.1 (oA o + j) (by unfold oA; omega) (by unfold oA; omega) (by unfold oA; omega)
  have e0 : d.1 (oA o) = c.1 (oA o) ∧ d.2 (oA o) = c.2 (oA o) := e 0 (by omega)
  unfold RO at h ⊢
  rw [e0.1, e0.2, (e 1 (by omega)).2, (e 2 (by omega)).1, (e 3 (by omega)).1, (e 4 (by omega)).1, (e 5 (by omega)).1]
  exact h
theorem OOS_CA (hc : CA c d) (h : OOS c m) : OOS d m := by
  obtain ⟨h1, h2, h3, h4⟩ := h
  refine ⟨h1, ?_, h3, fun o ho => ?_⟩
  · rw [hc.2 2 (by omega)]
    exact h2
  · obtain ⟨N, hN⟩ := h4 o ho
    exact ⟨N, RO_CA hc (by omega) hN⟩
theorem kA_CA (hc : CA c d) {k : Nat} (hk : k < 12) (j : Nat) (hj : j < 6) : d.1 (kA k + j) = c.1 (kA k + j) ∧ d.2 (kA k + j) = c.2 (kA k + j) := hc.1 (kA k + j) (by unfold kA; omega) (by unfold kA; omega) (by unfold kA; omega)
theorem RK_CA (hc : CA c d) {k : Nat} (hk : k < 12) (h : RK c m k) : RK d m k := by
  have e := kA_CA hc hk
  have e0 : d.1 (kA k) = c.1 (kA k) ∧ d.2 (kA k) = c.2 (kA k) := e 0 (by omega)
  unfold RK at h ⊢
  rw [e0.1, e0.2, (e 1 (by omega)).2, (e 2 (by omega)).1, (e 3 (by omega)).1, (e 4 (by omega)).2]
  exact h
theorem RG_CA (hc : CA c d) {k t : Nat} (hk : k < 12) (h : RG c m k t) : RG d m k t := by
  have e := kA_CA hc hk
  unfold RG at h ⊢
  rw [(e 5 (by omega)).1]
  split at h
  · exact h
  · obtain ⟨d', i, q1, q2, q3, q4⟩ := h
    refine ⟨d', i, q1, q2, q3, ?_⟩
    rw [mi_CA hc]
    exact q4
theorem KKS_CA (hc : CA c d) (h : KKS c m) : KKS d m := by
  obtain ⟨h1, h2, h3, h4, h5, h6, h7, h8⟩ := h
  refine ⟨h1, ?_, h3, fun k hk => RK_CA hc (by omega) (h4 k hk), h5, fun k hk => RQ_CA hc (h6 k hk), h7, fun k t hk ht => RG_CA hc (by omega) (h8 k t hk ht)⟩
  rw [hc.2 4 (by omega)]
  exact h2
theorem MMS_CA (hc : CA c d) (h : MMS c m) : MMS d m := by
  obtain ⟨h1, h2, h3, h4⟩ := h
  refine ⟨h1, ?_, h3, fun k hk => ?_⟩
  · rw [hc.2 7 (by omega)]
    exact h2
  · rw [CA_r hc (a := 10) (by omega) (by omega) (by omega), CA_l hc (a := 11) (by omega) (by omega) (by omega)]
    exact ⟨(h4 k hk).1, (h4 k hk).2.1, RQ_CA hc (h4 k hk).2.2⟩
theorem CCS_CA (hc : CA c d) (h : CCS c m) : CCS d m := by
  unfold CCS PC at h ⊢
  rw [hc.2 10 (by omega), CA_l hc (a := 14) (by omega) (by omega) (by omega), CA_l hc (a := 17) (by omega) (by omega) (by omega), CA_l hc (a := 116) (by omega) (by omega) (by omega), CA_r hc (a := 12) (by omega) (by omega) (by omega), CA_l hc (a := 13) (by omega) (by omega) (by omega), CA_r hc (a := 15) (by omega) (by omega) (by omega), CA_l hc (a := 16) (by omega) (by omega) (by omega), CA_r hc (a := 115) (by omega) (by omega) (by omega)]
  exact h
theorem PPS_CA (hc : CA c d) (h : PPS c m) : PPS d m := fun p s hp => RP_CA hc (h p s hp)
theorem EC_CA (hc : CA c d) (h : EC c m) : EC d m := ⟨OOS_CA hc h.1, KKS_CA hc h.2.1, CCS_CA hc h.2.2.1, PPS_CA hc h.2.2.2⟩
end CAS
/-- what looking for EFFECTIVE MARKS writes in the class -/
def qS (a i : Nat) : Bool := decide (a = 146 ∧ 3 ≤ i ∧ i ≤ 5)
theorem nC_qS : nC qS := ⟨fun a i h1 h2 h3 => decide_eq_false (by omega), fun i h => decide_eq_false (by omega)⟩
/-- the class's MARK that is the reference's MARK y -/
def xi (c : cS) (y : Nat) : Nat := mi c (y / 20) (y % 20)
def oX (c : cS) : Option Nat → Int32
  | some y => nI (xi c y)
  | none => nM
theorem xi_at {c : cS} {r i : Nat} (hi : i < 20) : xi c (r * 20 + i) = mi c r i := by
  unfold xi
  rw [show (r * 20 + i) / 20 = r by omega, show (r * 20 + i) % 20 = i by omega]
theorem oX_CA {c d : cS} (hc : CA c d) {o : Option Nat} : oX d o = oX c o := by
  cases o with
  | none => rfl
  | some y =>
    show nI (mi d _ _) = nI (mi c _ _)
    rw [mi_CA hc]
