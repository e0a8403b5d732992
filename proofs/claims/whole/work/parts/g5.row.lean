/-! A PROGRAM in both where one row of MARKS is another -/
section GROWS
variable {c d m u u0 : cS} {r q k t M i j a b x y p s o V F V' F' : Nat} {v : Int64} {sz sz' : Nat → Nat} {X X' : Nat → Nat → Nat} {Y Y' : Nat → Nat} {Q : Nat → Nat → Bool}
/-- the snapshot whose MARKS are those of u -/
def gM (m u : cS) : cS := (fun a => bif (Nat.ble 222 a && Nat.ble a 228) then u.1 a else m.1 a, fun a => bif (Nat.ble 222 a && Nat.ble a 228) then u.2 a else m.2 a)
theorem ble_out (h : ¬ (222 ≤ a ∧ a ≤ 228)) : (Nat.ble 222 a && Nat.ble a 228) = false := by
  cases e : (Nat.ble 222 a && Nat.ble a 228) with
  | false => rfl
  | true =>
    rw [Bool.and_eq_true] at e
    exact absurd ⟨Nat.le_of_ble_eq_true e.1, Nat.le_of_ble_eq_true e.2⟩ h
theorem gM_o (h : ¬ (222 ≤ a ∧ a ≤ 228)) : (gM m u).1 a = m.1 a ∧ (gM m u).2 a = m.2 a := by
  unfold gM
  dsimp only
  rw [ble_out h]
  exact ⟨rfl, rfl⟩
/-- row q is the same in both snapshots; in both states of the class -/
def rM (m u : cS) (q : Nat) : Prop := u.1 222 q = m.1 222 q ∧ (∀ i, i < 20 → u.2 223 (q * 20 + i) = m.2 223 (q * 20 + i) ∧ u.1 224 (q * 20 + i) = m.1 224 (q * 20 + i) ∧ u.1 225 (q * 20 + i) = m.1 225 (q * 20 + i)) ∧ ∀ j, j < 80 → u.2 226 (q * 80 + j) = m.2 226 (q * 80 + j) ∧ u.1 227 (q * 80 + j) = m.1 227 (q * 80 + j) ∧ u.2 228 (q * 80 + j) = m.2 228 (q * 80 + j)
def rS (c d : cS) (q : Nat) : Prop := d.1 144 q = c.1 144 q ∧ ∀ i, i < ix (c.1 144 q) → ch d q i = ch c q i ∧ (∀ A, 134 ≤ A → A ≤ 137 → d.1 A (mi c q i) = c.1 A (mi c q i) ∧ d.2 A (mi c q i) = c.2 A (mi c q i)) ∧ ∀ A j, 139 ≤ A → A ≤ 141 → j < 4 → d.1 A (mi c q i * 4 + j) = c.1 A (mi c q i * 4 + j) ∧ d.2 A (mi c q i * 4 + j) = c.2 A (mi c q i * 4 + j)
/-- all else of the class's PROGRAM is the same -/
def CB (c d : cS) : Prop := (∀ a, 8 ≤ a → a ≤ 132 → a ≠ 126 → d.1 a = c.1 a ∧ d.2 a = c.2 a) ∧ ∀ i, 1 ≤ i → d.1 7 i = c.1 7 i ∧ d.2 7 i = c.2 7 i
theorem rM_p (h : rM m u q) (hi : i < 20) (hj : j < 4) : (gM m u).2 226 ((q * 20 + i) * 4 + j) = m.2 226 ((q * 20 + i) * 4 + j) ∧ (gM m u).1 227 ((q * 20 + i) * 4 + j) = m.1 227 ((q * 20 + i) * 4 + j) ∧ (gM m u).2 228 ((q * 20 + i) * 4 + j) = m.2 228 ((q * 20 + i) * 4 + j) := by
  have := h.2.2 (i * 4 + j) (by omega)
  rw [show q * 80 + (i * 4 + j) = (q * 20 + i) * 4 + j by omega] at this
  exact this
theorem rM_n (h : rM m u q) (hi : i < 20) : (gM m u).2 223 (q * 20 + i) = m.2 223 (q * 20 + i) ∧ (gM m u).1 224 (q * 20 + i) = m.1 224 (q * 20 + i) ∧ (gM m u).1 225 (q * 20 + i) = m.1 225 (q * 20 + i) := h.2.1 i hi
theorem mz_g (h : rM m u q) : mz (gM m u) q = mz m q := congrArg ix h.1
theorem prn_g (h : rM m u q) (hi : i < 20) : prn (gM m u) (q * 20 + i) = prn m (q * 20 + i) := congrArg ix (h.2.1 i hi).2.2
theorem tOf_g : tOf (gM m u) v = tOf m v := rfl
theorem pOf_g (h : rM m u q) (hi : i < 20) (h4 : prn m (q * 20 + i) ≤ 4) : pOf (gM m u) (q * 20 + i) v = pOf m (q * 20 + i) v := by
  unfold pOf
  rw [prn_g h hi]
  exact ff_congr (fun j hj => by
    rw [(rM_p h hi (j := j) (by omega)).1])
theorem elI_g (h : rM m u q) (hi : i < 20) (h4 : prn m (q * 20 + i) ≤ 4) : elI (gM m u) (q * 20 + i) o = elI m (q * 20 + i) o := by
  unfold elI
  rw [pOf_g h hi h4]
  cases e : pOf m (q * 20 + i) 24948 with
  | none => rfl
  | some z =>
    have hz : z < prn m (q * 20 + i) := (ff_some e).1
    obtain ⟨-, e1, e2⟩ := rM_p h hi (j := z) (by omega)
    dsimp only
    rw [e1, e2]
    rfl
theorem mbS_g (h : rM m u q) (hi : i < 20) (h4 : prn m (q * 20 + i) ≤ 4) : mbS (gM m u) (q * 20 + i) k j = mbS m (q * 20 + i) k j := by
  unfold mbS
  rw [show (gM m u).2 191 (4 * k + j) = m.2 191 (4 * k + j) from rfl, pOf_g h hi h4]
  cases e : pOf m (q * 20 + i) (m.2 191 (4 * k + j)) with
  | none => rfl
  | some z =>
    have hz : z < prn m (q * 20 + i) := (ff_some e).1
    obtain ⟨-, e1, -⟩ := rM_p h hi (j := z) (by omega)
    dsimp only
    rw [e1]
    rfl
theorem MKR_g (hM : rM m u q) (hi : i < 20) (h1 : ∀ A, 134 ≤ A → A ≤ 137 → d.1 A x = c.1 A x ∧ d.2 A x = c.2 A x) (h2 : ∀ A j, 139 ≤ A → A ≤ 141 → j < 4 → d.1 A (x * 4 + j) = c.1 A (x * 4 + j) ∧ d.2 A (x * 4 + j) = c.2 A (x * 4 + j)) (h : MKR c m x (q * 20 + i)) : MKR d (gM m u) x (q * 20 + i) := by
  obtain ⟨g1, g2, g3, g4, g5, g6, g7, g8, g9⟩ := h
  obtain ⟨e3, e4, e5⟩ := rM_n hM hi
  unfold MKR
  rw [e3, e4, e5, prn_g hM hi, tOf_g, (h1 134 (by omega) (by omega)).2, (h1 135 (by omega) (by omega)).1, (h1 136 (by omega) (by omega)).1]
  refine ⟨g1, g2, g3, g4, g5, g6, g7, g8, fun j hj => ?_⟩
  obtain ⟨p6, p7, p8⟩ := rM_p hM hi (j := j) (by omega)
  rw [p6, p7, p8, (h2 139 j (by omega) (by omega) (by omega)).2, (h2 140 j (by omega) (by omega) (by omega)).1, (h2 141 j (by omega) (by omega) (by omega)).2]
  exact g9 j hj
theorem RW_ix (h : RW c m q) : ix (c.1 144 q) = mz m q := by
  rw [h.2.2.1]
  exact ix_n (by have := h.1; omega)
theorem RW_g (hS : rS c d q) (hM : rM m u q) (h : RW c m q) : RW d (gM m u) q := by
  have e144 := RW_ix h
  obtain ⟨h1, h2, h3, h4⟩ := h
  obtain ⟨s1, s2⟩ := hS
  refine ⟨by rw [mz_g hM]; exact h1, ?_, ?_, fun i hi => ?_⟩
  · rw [mz_g hM]
    exact hM.1.trans h2
  · rw [mz_g hM, s1]
    exact h3
  · rw [mz_g hM] at hi
    obtain ⟨t1, t2, t3⟩ := s2 i (by rw [e144]; exact hi)
    obtain ⟨k1, k2⟩ := h4 i hi
    rw [show mi d q i = mi c q i from congrArg ix t1, t1]
    exact ⟨k1, MKR_g hM (by omega) t2 t3 k2⟩
theorem dcn_g (hM : rM m u q) (h20 : mz m q ≤ 20) (hi : i < mz m q) : dcn (gM m u) q i = dcn m q i := by
  have es : ∀ v, smn (gM m u) q v = smn m q v := fun v => by
    unfold smn
    rw [mz_g hM]
    exact cntN_cg _ (fun j hj => by rw [(rM_n hM (i := j) (by omega)).1])
  unfold dcn
  rw [(rM_n hM (i := i) (by omega)).1, tOf_g]
  cases e : tOf m (m.2 223 (q * 20 + i)) with
  | none => rfl
  | some t =>
    dsimp only
    rw [es]
    rfl
theorem RP_g (hS : rS c d q) (hM : rM m u q) (h : RP c m q) : RP d (gM m u) q := by
  obtain ⟨h1, h2⟩ := h
  refine ⟨RW_g hS hM h1, fun i hi => ?_⟩
  rw [mz_g hM] at hi
  obtain ⟨t1, t2, -⟩ := hS.2 i (by rw [RW_ix h1]; exact hi)
  rw [show mi d q i = mi c q i from congrArg ix t1, (t2 137 (by omega) (by omega)).1, dcn_g hM h1.1 hi]
  exact h2 i hi
theorem RQ_g (hS : rS c d q) (hM : rM m u q) (h : RQ c m q) : RQ d (gM m u) q := by
  obtain ⟨h1, h2⟩ := h
  refine ⟨RW_g hS hM h1, fun i hi => ?_⟩
  rw [mz_g hM] at hi
  have hi20 : i < 20 := by
    have := h1.1
    omega
  obtain ⟨t1, t2, -⟩ := hS.2 i (by rw [RW_ix h1]; exact hi)
  obtain ⟨-, k2⟩ := h1.2.2.2 i hi
  have h4 : prn m (q * 20 + i) ≤ 4 := k2.2.2.2.2.1
  obtain ⟨g1, g2, g3⟩ := h2 i hi
  obtain ⟨e3, e4, -⟩ := rM_n hM hi20
  refine ⟨?_, e4.trans g2, ?_⟩
  · rw [show mi d q i = mi c q i from congrArg ix t1, (t2 137 (by omega) (by omega)).1]
    exact g1
  · rw [e3]
    rcases g3 with ⟨o, e, y1, y2⟩ | ⟨k, y1, y2, y3⟩
    · exact Or.inl ⟨o, e, y1, by rw [elI_g hM hi20 h4]; exact y2⟩
    · exact Or.inr ⟨k, y1, y2, fun j hj => by
        rw [mbS_g hM hi20 h4]
        exact y3 j hj⟩
/-- what KINDS GIVE -/
theorem gv1_g {T : Nat → Option Nat} (hM : rM m u (1200 + k)) (h20 : mz m (1200 + k) ≤ 20) : gv1 (gM m u) v T k = gv1 m v T k := by
  have e3 : ∀ j, j < 20 → (gM m u).2 223 ((1200 + k) * 20 + j) = m.2 223 ((1200 + k) * 20 + j) := fun j hj => (rM_n hM hj).1
  unfold gv1
  rw [mz_g hM, ff_congr (n := mz m (1200 + k)) (p := fun i => decide ((gM m u).2 223 ((1200 + k) * 20 + i) = v)) (q := fun i => decide (m.2 223 ((1200 + k) * 20 + i) = v)) (fun j hj => by
    rw [e3 j (by omega)])]
  cases e : ff (fun i => decide (m.2 223 ((1200 + k) * 20 + i) = v)) (mz m (1200 + k)) with
  | some z => rfl
  | none =>
    dsimp only
    rw [ff_congr (n := mz m (1200 + k)) (p := fun i => ((kOf (gM m u) ((gM m u).2 223 ((1200 + k) * 20 + i))).bind T).isSome) (q := fun i => ((kOf m (m.2 223 ((1200 + k) * 20 + i))).bind T).isSome) (fun j hj => by
      rw [e3 j (by omega)]
      rfl)]
    cases e2 : ff (fun i => ((kOf m (m.2 223 ((1200 + k) * 20 + i))).bind T).isSome) (mz m (1200 + k)) with
    | none => rfl
    | some z =>
      have hz := (ff_some e2).1
      show (kOf (gM m u) ((gM m u).2 223 ((1200 + k) * 20 + z))).bind T = (kOf m (m.2 223 ((1200 + k) * 20 + z))).bind T
      rw [e3 z (by omega)]
      rfl
theorem gvt_g : ∀ K, (∀ k, k < K → rM m u (1200 + k) ∧ mz m (1200 + k) ≤ 20) → gvt (gM m u) v K = gvt m v K
  | 0, _ => rfl
  | K + 1, h => by
    funext k
    show (if k = K then gv1 (gM m u) v (gvt (gM m u) v K) K else gvt (gM m u) v K k) = (if k = K then gv1 m v (gvt m v K) K else gvt m v K k)
    rw [gvt_g K (fun k hk => h k (by omega)), gv1_g (h K (by omega)).1 (h K (by omega)).2]
theorem RG_n (e : gv m (kyN m t) k = none) (h : RG c m k t) : c.1 (kA k + 5) (kyS t) = nM := by
  unfold RG at h
  rw [e] at h
  exact h
theorem RG_n2 (e : gv m (kyN m t) k = none) (h : c.1 (kA k + 5) (kyS t) = nM) : RG c m k t := by
  unfold RG
  rw [e]
  exact h
theorem RG_s (e : gv m (kyN m t) k = some y) (h : RG c m k t) : ∃ d i, d < kcn m ∧ i < mz m (1200 + d) ∧ y = (1200 + d) * 20 + i ∧ c.1 (kA k + 5) (kyS t) = nI (mi c (1200 + d) i) := by
  unfold RG at h
  rw [e] at h
  exact h
theorem RG_s2 (e : gv m (kyN m t) k = some y) (h : ∃ d i, d < kcn m ∧ i < mz m (1200 + d) ∧ y = (1200 + d) * 20 + i ∧ c.1 (kA k + 5) (kyS t) = nI (mi c (1200 + d) i)) : RG c m k t := by
  unfold RG
  rw [e]
  exact h
theorem RG_g (hk : k < kcn m) (h12 : kcn m ≤ 12) (hB : CB c d) (hS : ∀ q, q < 2242 → q ≠ r → rS c d q) (hM : ∀ q, q < 1218 → q ≠ r → rM m u q) (hr : r < 1200) (hR : ∀ k, k < kcn m → RQ c m (1200 + k)) (h : RG c m k t) : RG d (gM m u) k t := by
  have eg : gv (gM m u) (kyN (gM m u) t) k = gv m (kyN m t) k := by
    show gvt (gM m u) (kyN m t) (kcn m) k = gvt m (kyN m t) (kcn m) k
    rw [gvt_g (kcn m) (fun k hk => ⟨hM (1200 + k) (by omega) (by omega), (hR k hk).1.1⟩)]
  have ek : d.1 (kA k + 5) = c.1 (kA k + 5) := (hB.1 (kA k + 5) (by unfold kA; omega) (by unfold kA; omega) (by unfold kA; omega)).1
  cases e : gv m (kyN m t) k with
  | none =>
    refine RG_n2 (eg.trans e) ?_
    rw [ek]
    exact RG_n e h
  | some y =>
    obtain ⟨d', i, q1, q2, q3, q4⟩ := RG_s e h
    have e144 := RW_ix (hR d' q1).1
    refine RG_s2 (eg.trans e) ⟨d', i, q1, ?_, q3, ?_⟩
    · rw [mz_g (hM (1200 + d') (by omega) (by omega))]
      exact q2
    · rw [ek, q4, show mi d (1200 + d') i = mi c (1200 + d') i from congrArg ix ((hS (1200 + d') (by omega) (by omega)).2 i (by rw [e144]; exact q2)).1]
theorem KKS_g (hB : CB c d) (hS : ∀ q, q < 2242 → q ≠ r → rS c d q) (hM : ∀ q, q < 1218 → q ≠ r → rM m u q) (hr : r < 1200) (h : KKS c m) : KKS d (gM m u) := by
  obtain ⟨h1, h2, h3, h4, h5, h6, h7, h8⟩ := h
  refine ⟨h1, by rw [(hB.2 4 (by omega)).1]; exact h2, h3, fun k (hk : k < kcn m) => RK_cg (h4 k hk) (fun A j y1 y2 => ?_) (fun A j y1 y2 => ?_), h5, fun k (hk : k < kcn m) => RQ_g (hS _ (by omega) (by omega)) (hM _ (by omega) (by omega)) (h6 k hk), fun k i d' (hk : k < kcn m) hi hd => ?_, fun k t (hk : k < kcn m) ht => RG_g hk h1 hB hS hM hr h6 (h8 k t hk ht)⟩
  · unfold kA at y1 y2
    have := hB.1 A (by omega) (by omega) (by omega)
    exact ⟨congrFun this.1 j, congrFun this.2 j⟩
  · exact ⟨congrFun (gM_o (by omega)).1 j, congrFun (gM_o (by omega)).2 j⟩
  · have hk' := hM (1200 + k) (by omega) (by omega)
    rw [mz_g hk'] at hi
    have h20 := (h6 k hk).1.1
    rw [(rM_n hk' (i := i) (by omega)).1] at hd
    exact h7 k i d' hk hi hd
theorem MMS_g (hB : CB c d) (hS : ∀ q, q < 2242 → q ≠ r → rS c d q) (hM : ∀ q, q < 1218 → q ≠ r → rM m u q) (hr : r < 1200) (h : MMS c m) : MMS d (gM m u) := by
  obtain ⟨h1, h2, h3, h4⟩ := h
  refine ⟨h1, by rw [(hB.2 7 (by omega)).1]; exact h2, h3, fun k (hk : k < mcn m) => ?_⟩
  obtain ⟨g1, g2, g3⟩ := h4 k hk
  refine ⟨?_, ?_, RQ_g (hS _ (by omega) (by omega)) (hM _ (by omega) (by omega)) g3⟩
  · rw [(hB.1 10 (by omega) (by omega) (by omega)).2]
    exact g1
  · rw [(hB.1 11 (by omega) (by omega) (by omega)).1]
    exact g2
theorem PPS_g (hE : EC c m) (hS : ∀ q, q < 2242 → q ≠ r → rS c d q) (hM : ∀ q, q < 1218 → q ≠ r → rM m u q) (hR : RP d (gM m u) r) : PPS d (gM m u) := fun p s hp => by
  by_cases e : p = r
  · rw [e]
    exact hR
  · have hp' : isP m p s := hp
    have := (EC_row hE hp').1
    exact RP_g (hS p (by omega) e) (hM p (by omega) e) (hE.2.2.2 p s hp')
theorem fa_B (hB : CB c d) : fa d M = fa c M := by
  unfold fa
  rw [(hB.1 119 (by omega) (by omega) (by omega)).1]
theorem MTR_g (hB : CB c d) (h : MTR c m M) : MTR d (gM m u) M := by
  unfold MTR at h ⊢
  rw [fa_B hB, (hB.1 120 (by omega) (by omega) (by omega)).1, (hB.1 117 (by omega) (by omega) (by omega)).1, (hB.1 118 (by omega) (by omega) (by omega)).2, (hB.1 119 (by omega) (by omega) (by omega)).1]
  exact h
theorem tlo_g : ∀ k, tlo (gM m u) b o k = tlo m b o k
  | 0 => rfl
  | k + 1 => by
    show (if toR (gM m u) b k = o then teR (gM m u) b k else tlo (gM m u) b o k) = (if toR m b k = o then teR m b k else tlo m b o k)
    rw [tlo_g k]
    rfl
theorem TLR_g (hB : CB c d) (hS : rS c d (1218 + a)) (h : TLR c m a b) : TLR d (gM m u) a b := by
  obtain ⟨h1, h2, h3, h4, h5⟩ := h
  have e144 : ix (c.1 144 (1218 + a)) = tdn m b := by
    rw [h3]
    exact ix_n (by omega)
  refine ⟨h1, h2, by rw [hS.1]; exact h3, fun k (hk : k < tdn m b) => ?_, ?_⟩
  · obtain ⟨t1, t2, t3⟩ := hS.2 k (by rw [e144]; exact hk)
    have x9 := (t3 139 0 (by omega) (by omega) (by omega)).2
    have x0 := (t3 140 0 (by omega) (by omega) (by omega)).1
    have x1 := (t3 141 0 (by omega) (by omega) (by omega)).2
    rw [Nat.add_zero] at x9 x0 x1
    rw [show mi d (1218 + a) k = mi c (1218 + a) k from congrArg ix t1, t1, (t2 134 (by omega) (by omega)).2, (t2 135 (by omega) (by omega)).1, (t2 136 (by omega) (by omega)).1, (t2 137 (by omega) (by omega)).1, x9, x0, x1]
    exact h4 k hk
  · rw [(hB.1 123 (by omega) (by omega) (by omega)).1]
    intro o ho
    rw [tlo_g]
    exact h5 o ho
theorem OPR_g (hB : CB c d) (hS : rS c d (1218 + a)) (h : OPR c m M a b) : OPR d (gM m u) M a b := by
  unfold OPR at h ⊢
  rw [(hB.1 122 (by omega) (by omega) (by omega)).1, (hB.1 123 (by omega) (by omega) (by omega)).1, (hB.1 128 (by omega) (by omega) (by omega)).2, (hB.1 129 (by omega) (by omega) (by omega)).2]
  exact ⟨h.1, fun z => TLR_g hB hS (h.2.1 z), h.2.2⟩
theorem ACR_g (hB : CB c d) (hS : rS c d (1218 + (fa c M + i))) (h : ACR c m M i) : ACR d (gM m u) M i := by
  obtain ⟨h1, h2, h3, h4, h5, h6, h7, h8⟩ := h
  unfold ACR
  rw [fa_B hB, (hB.1 121 (by omega) (by omega) (by omega)).1, (hB.1 127 (by omega) (by omega) (by omega)).2, (hB.1 124 (by omega) (by omega) (by omega)).1, (hB.1 125 (by omega) (by omega) (by omega)).1]
  exact ⟨h1, h2, h3, h4, h5, h6, OPR_g hB hS h7, h8⟩
theorem MTS_g (hB : CB c d) (hS : ∀ q, q < 2242 → q ≠ r → rS c d q) (hr : r < 1200) (h : MTS c m) : MTS d (gM m u) := by
  obtain ⟨⟨tot, h1, h2, h3⟩, h4, h5⟩ := h
  refine ⟨⟨tot, h1, ?_, fun M (hM : isMt m M) => ?_⟩, fun M (hM : isMt m M) => ⟨MTR_g hB (h4 M hM).1, (h4 M hM).2.1, fun i (hi : i < acn m M) => ?_⟩, fun M N (hM : isMt m M) (hN : isMt m N) hl => ?_⟩
  · rw [(hB.1 114 (by omega) (by omega) (by omega)).1]
    exact h2
  · rw [fa_B hB]
    exact h3 M hM
  · have := h3 M hM
    exact ACR_g hB (hS _ (by omega) (by omega)) ((h4 M hM).2.2 i hi)
  · rw [fa_B hB, fa_B hB]
    exact h5 M N hM hN hl
theorem OOS_g (hB : CB c d) (h : OOS c m) : OOS d (gM m u) := PO_cg h (fun A l z => by
    rcases z with z | ⟨rfl, rfl⟩
    · have := hB.1 A (by omega) (by omega) (by omega)
      exact ⟨congrFun this.1 l, congrFun this.2 l⟩
    · exact hB.2 2 (by omega)) (fun A l z => ⟨congrFun (gM_o (by omega)).1 l, congrFun (gM_o (by omega)).2 l⟩)
theorem CCS_g (hB : CB c d) (h : CCS c m) : CCS d (gM m u) := CCS_cg h (fun A l z => by
    rcases z with ⟨rfl, rfl⟩ | z
    · exact hB.2 10 (by omega)
    · have := hB.1 A (by omega) (by omega) (by omega)
      exact ⟨congrFun this.1 l, congrFun this.2 l⟩) (fun A l z => ⟨congrFun (gM_o (by omega)).1 l, congrFun (gM_o (by omega)).2 l⟩)
/-- the PROGRAM with another row r -/
theorem PG_g (h : PG c m) (hB : CB c d) (hS : ∀ q, q < 2242 → q ≠ r → rS c d q) (hM : ∀ q, q < 1218 → q ≠ r → rM m u q) (hr : r < 1200) (hR : RP d (gM m u) r) : PG d (gM m u) := by
  obtain ⟨hE, hMm, hT⟩ := h
  exact ⟨⟨OOS_g hB hE.1, KKS_g hB hS hM hr hE.2.1, CCS_g hB hE.2.2.1, PPS_g hE hS hM hR⟩, MMS_g hB hS hM hr hMm, MTS_g hB hS hr hT⟩
/-- what the reference may write -/
def nQr (r : Nat) (Q : Nat → Nat → Bool) : Prop := (∀ a i, PA a = true → Q a i = false) ∧ (∀ i, PF i = true → Q 174 i = false) ∧ (∀ q, q < 1218 → q ≠ r → Q 222 q = false) ∧ (∀ a q i, 223 ≤ a → a ≤ 225 → q < 1218 → q ≠ r → i < 20 → Q a (q * 20 + i) = false) ∧ ∀ a q j, 226 ≤ a → a ≤ 228 → q < 1218 → q ≠ r → j < 80 → Q a (q * 80 + j) = false
theorem PA_o (h : PA a = true) : ¬ (222 ≤ a ∧ a ≤ 228) := fun z => by
  have : a = 222 ∨ a = 223 ∨ a = 224 ∨ a = 225 ∨ a = 226 ∨ a = 227 ∨ a = 228 := by omega
  rcases this with rfl | rfl | rfl | rfl | rfl | rfl | rfl <;> exact absurd h (by decide)
theorem AG_g (hA : AG m u0) (hs : sx Q u0 u) (hQ : nQr r Q) : AG (gM m u) u ∧ ∀ q, q < 1218 → q ≠ r → rM m u q := by
  obtain ⟨a1, a2, a3, a4, a5, a6, a7, a8, a9, a10⟩ := hA
  obtain ⟨q1, q2, q3, q4, q5⟩ := hQ
  refine ⟨⟨fun a i h => ?_, fun a i h => ?_, fun i h => ?_, fun i _ => rfl, fun i _ => rfl, fun i _ => rfl, fun i _ => rfl, fun i _ => rfl, fun i _ => rfl, fun i _ => rfl⟩, fun q hq hqr => ⟨?_, fun i hi => ⟨?_, ?_, ?_⟩, fun j hj => ⟨?_, ?_, ?_⟩⟩⟩
  · rw [(gM_o (PA_o h)).1, hs.1 a i (q1 a i h)]
    exact a1 a i h
  · rw [(gM_o (PA_o h)).2, hs.2 a i (q1 a i h)]
    exact a2 a i h
  · exact (hs.1 174 i (q2 i h)).trans (a3 i h)
  · exact (hs.1 _ _ (q3 q hq hqr)).trans (a4 q hq)
  · exact (hs.2 _ _ (q4 223 q i (by omega) (by omega) hq hqr hi)).trans (a5 _ (by omega))
  · exact (hs.1 _ _ (q4 224 q i (by omega) (by omega) hq hqr hi)).trans (a6 _ (by omega))
  · exact (hs.1 _ _ (q4 225 q i (by omega) (by omega) hq hqr hi)).trans (a7 _ (by omega))
  · exact (hs.2 _ _ (q5 226 q j (by omega) (by omega) hq hqr hj)).trans (a8 _ (by omega))
  · exact (hs.1 _ _ (q5 227 q j (by omega) (by omega) hq hqr hj)).trans (a9 _ (by omega))
  · exact (hs.2 _ _ (q5 228 q j (by omega) (by omega) hq hqr hj)).trans (a10 _ (by omega))
theorem nQ_Gu (r : Nat) : nQr r (qGu r) := by
  refine ⟨fun a i h => decide_eq_false (fun z => ?_), fun i h => decide_eq_false (fun z => ?_), fun q h1 h2 => decide_eq_false (by omega), fun a q i h1 h2 h3 h4 h5 => decide_eq_false (by omega), fun a q j h1 h2 h3 h4 h5 => decide_eq_false (by omega)⟩
  · have h1 := PA_o h
    have : a = 174 := by omega
    subst this
    exact absurd h (by decide)
  · have : i = 0 ∨ i = 2 ∨ i = 80 ∨ i = 81 ∨ i = 82 ∨ i = 106 ∨ i = 111 ∨ i = 97 ∨ i = 102 ∨ i = 130 := by omega
    rcases this with rfl | rfl | rfl | rfl | rfl | rfl | rfl | rfl | rfl | rfl <;> exact absurd h (by decide)
/-- rows that stay, by their cells -/
theorem rS_of (h : ALO c V F sz X Y) (h' : ALO d V' F' sz' X' Y') (hq : q < 2242) (hz : sz' q = sz q) (hX : ∀ i, i < sz q → X' q i = X q i) (hk : KOT c d sz X r) (hqr : q ≠ r) : rS c d q := by
  have e144 : c.1 144 q = nI (sz q) := h.2.2.2.1 q hq
  have hsz := ALO_sz h hq
  have hV := h.1
  have eix : ix (c.1 144 q) = sz q := by
    rw [e144]
    exact ix_n (by omega)
  refine ⟨by rw [h'.2.2.2.1 q hq, e144, hz], fun i hi => ?_⟩
  rw [eix] at hi
  obtain ⟨y1, y2⟩ := ALO_ch h hq i hi
  obtain ⟨z1, z2⟩ := ALO_ch h' hq i (by rw [hz]; exact hi)
  rw [y2, z1, y1, hX i hi]
  exact ⟨rfl, hk q i hq hqr hi⟩
theorem CB_sx (h : sx Q c d) (hQ : ∀ a i, (8 ≤ a ∧ a ≤ 132 ∧ a ≠ 126) ∨ (a = 7 ∧ 1 ≤ i) → Q a i = false) : CB c d := ⟨fun a h1 h2 h3 => ⟨funext fun i => h.1 a i (hQ a i (Or.inl ⟨h1, h2, h3⟩)), funext fun i => h.2 a i (hQ a i (Or.inl ⟨h1, h2, h3⟩))⟩, fun i hi => ⟨h.1 7 i (hQ 7 i (Or.inr ⟨rfl, hi⟩)), h.2 7 i (hQ 7 i (Or.inr ⟨rfl, hi⟩))⟩⟩
end GROWS
