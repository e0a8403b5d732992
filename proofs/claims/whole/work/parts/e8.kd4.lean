/-! READING a KIND: behind where it may stand -/
section KD4
variable {n i j N k p b m U r oc kc oc' kc' mc cc : Nat} {c d u w v c' u' : cS} {K P : Nat → Nat} {V : Nat → Int64} {nm : Int64}
theorem jw_up {α β : Type} {x x' : Option α} {y y' : Option β} {R : α → β → Prop} (h : jw x y R) (hC : ∀ Q : α → Prop, wp x Q → wp x' Q) (hU : ∀ Q : β → Prop, wp y Q → wp y' Q) : jw x' y' R := by
  obtain ⟨a, b, h1, h2, h3⟩ := jw_ex h
  exact hC _ (wp_of h1 (hU _ (wp_of h2 h3)))
theorem RK_c2 (h : RK c u k) (hc : ∀ A j, (A = kA k ∧ j < 9) ∨ (kA k < A ∧ A ≤ kA k + 4) → c'.1 A j = c.1 A j ∧ c'.2 A j = c.2 A j) (hu : ∀ A j, ((A = 189 ∨ A = 190 ∨ (195 ≤ A ∧ A ≤ 197)) ∧ j = k) ∨ (191 ≤ A ∧ A ≤ 194 ∧ 4 * k ≤ j ∧ j < 4 * k + 4) → u'.1 A j = u.1 A j ∧ u'.2 A j = u.2 A j) : RK c' u' k := by
  have ekn : kn u' k = kn u k := by
    unfold kn
    rw [(hu _ _ (by omega)).1]
  have ekw : kw u' k = kw u k := by
    unfold kw
    rw [(hu _ _ (by omega)).1]
  obtain ⟨h1, h2, h3, h4, h5, h6, h7, h8, h9, h10, h11, h12⟩ := h
  unfold RK
  rw [ekn, ekw, (hc (kA k) 0 (by omega)).2, (hc (kA k) 1 (by omega)).1, (hc (kA k) 6 (by omega)).1, (hc (kA k) 7 (by omega)).1, (hc (kA k) 8 (by omega)).1, (hu 189 k (by omega)).2, (hu 190 k (by omega)).1, (hu 195 k (by omega)).1, (hu 196 k (by omega)).1, (hu 197 k (by omega)).1]
  refine ⟨h1, h2, h3, h4, fun j hj => ?_, h6, h7, h8, h9, h10, h11, h12⟩
  unfold txt
  rw [(hc (kA k + 1) j (by omega)).2, (hc (kA k + 2) j (by omega)).1, (hc (kA k + 3) j (by omega)).1, (hc (kA k + 4) j (by omega)).2, (hu 191 _ (by omega)).2, (hu 192 _ (by omega)).1, (hu 193 _ (by omega)).1, (hu 194 _ (by omega)).2]
  exact h5 j hj
theorem MBD_c2 (h : MBD c u k p) (hc : ∀ A l, (A = kA k ∧ l = 1) ∨ (kA k < A ∧ A ≤ kA k + 4) → c'.1 A l = c.1 A l ∧ c'.2 A l = c.2 A l) (hu : ∀ A l, (A = 190 ∧ l = k) ∨ (191 ≤ A ∧ A ≤ 194 ∧ 4 * k ≤ l ∧ l < 4 * k + 4) → u'.1 A l = u.1 A l ∧ u'.2 A l = u.2 A l) : MBD c' u' k p := by
  obtain ⟨h1, h2, h3, h4, h5⟩ := h
  refine ⟨h1, by rw [(hc _ _ (by omega)).1]; exact h2, by rw [(hu _ _ (by omega)).1]; exact h3, fun j hj => ?_, fun j hj => ?_⟩
  · unfold txt
    rw [(hc (kA k + 1) j (by omega)).2, (hc (kA k + 2) j (by omega)).1, (hc (kA k + 3) j (by omega)).1, (hc (kA k + 4) j (by omega)).2, (hu 191 _ (by omega)).2, (hu 192 _ (by omega)).1, (hu 193 _ (by omega)).1, (hu 194 _ (by omega)).2]
    exact h4 j hj
  · rw [← h5 j hj]
    exact ff_congr (fun l hl => by rw [(hu 191 _ (by omega)).2, (hu 191 _ (by omega)).2])
/-- MEMBERS have names of their own -/
def MDS (u : cS) (k : Nat) : Prop := ∀ j, j < kn u k → jOf u k (u.2 191 (4 * k + j)) = some j
theorem MDS_of (h : MBD c u k p) : MDS u k := by
  intro j hj
  have hkn := kn_of h
  rw [hkn] at hj
  unfold jOf
  rw [hkn]
  exact h.2.2.2.2 j hj
theorem RK_of {B1 B2 : Bool} (hM : MBD c u k p) (hnm : c.2 (kA k) 0 = u.2 189 k) (hb : b < 16) (h6 : c.1 (kA k) 6 = nI b) (h5 : u.1 195 k = nI b) (h7 : c.1 (kA k) 7 = bI B1) (h7' : u.1 196 k = bI B1) (h8 : c.1 (kA k) 8 = bI B2) (h8' : u.1 197 k = bI B2) : RK c u k := by
  have hkn := kn_of hM
  have hkw : kw u k = b := by
    unfold kw
    rw [h5, ix_n (by omega)]
  obtain ⟨m1, m2, m3, m4, m5⟩ := hM
  refine ⟨hnm, by omega, by rw [hkn]; exact m3, by rw [hkn]; exact m2, fun j hj => m4 j (by omega), by omega, by rw [hkw]; exact h5, by rw [hkw]; exact h6, by rw [h7']; exact bI_nb, by rw [h7, h7'], by rw [h8']; exact bI_nb, by rw [h8, h8']⟩
/-- the cells of the ORDERS and of the first k KINDS -/
def kcR (k A l : Nat) : Prop := (A = 7 ∧ (l = 2 ∨ l = 4)) ∨ (18 ≤ A ∧ A < kA k)
def kuR (k A l : Nat) : Prop := (181 ≤ A ∧ A ≤ 188) ∨ ((A = 189 ∨ A = 190 ∨ (195 ≤ A ∧ A ≤ 197)) ∧ l < k) ∨ (191 ≤ A ∧ A ≤ 194 ∧ l < 4 * k) ∨ (A = 174 ∧ (l = 15 ∨ l = 24))
theorem ENV_k (h : ENV c u oc k mc cc) (hc : ∀ A l, kcR k A l → c'.1 A l = c.1 A l ∧ c'.2 A l = c.2 A l) (hu : ∀ A l, kuR k A l → u'.1 A l = u.1 A l ∧ u'.2 A l = u.2 A l) : ENV c' u' oc k mc cc := by
  obtain ⟨e1, e2, e3⟩ := h
  have b1 := e1.1.1
  have b2 := e1.2.1
  unfold kcR at hc
  unfold kuR at hu
  refine ⟨NMQ_cg e1 (fun l _ => (hc _ _ (by omega)).1) (fun o _ => (hc _ _ (by unfold oA kA; omega)).2) (fun t _ => (hc _ _ (by unfold kA; omega)).2) (fun l _ => (hu _ _ (by omega)).1) (fun o _ => (hu _ _ (by omega)).2) (fun t _ => (hu _ _ (by omega)).2), PO_cg e2 (fun A l z => hc A l (by unfold kA; omega)) (fun A l z => hu A l (by omega)), fun t ht => RK_c2 (e3 t ht) (fun A l z => hc A l (by unfold kA at *; omega)) (fun A l z => hu A l (by omega))⟩
/-- a row that is read -/
def RWR (c u : cS) (oc kc r U m w : Nat) : Prop := m ≤ 20 ∧ U + m ≤ 4096 ∧ c.1 144 r = nI m ∧ u.1 222 r = nI m ∧ (0 < m → c.1 142 r = nI U ∧ c.1 143 r = nI (U + m - 1)) ∧ (∀ j, j < m → c.1 138 (U + j) = if j + 1 < m then nI (U + j + 1) else nM) ∧ (∀ j, j < m → c.2 134 (U + j) = u.2 223 (r * 20 + j)) ∧ ∀ j, j < m → MIN c u oc kc r (U + j) (r * 20 + j) w j
theorem RWR_of {w : Nat} (h : RWG c u oc kc r r U m w) (hU : U + m ≤ 4096) : RWR c u oc kc r U m w := by
  obtain ⟨⟨-, -, -, h4, h5, h6, h7, h8, h9⟩, h10⟩ := h
  exact ⟨h4, hU, h5, h6, h7, h8, h9, h10⟩
/-- its cells -/
def rcR (r U m A l : Nat) : Prop := ((142 ≤ A ∧ A ≤ 144) ∧ l = r) ∨ (134 ≤ A ∧ A ≤ 138 ∧ U ≤ l ∧ l < U + m) ∨ (139 ≤ A ∧ A ≤ 141 ∧ U * 4 ≤ l ∧ l < (U + m) * 4)
def ruR (r A l : Nat) : Prop := (A = 222 ∧ l = r) ∨ (223 ≤ A ∧ A ≤ 225 ∧ r * 20 ≤ l ∧ l < r * 20 + 20) ∨ (226 ≤ A ∧ A ≤ 228 ∧ r * 80 ≤ l ∧ l < r * 80 + 80)
theorem RWR_gr {w : Nat} (h : RWR c u oc kc r U m w) (hc : ∀ A l, rcR r U m A l → c'.1 A l = c.1 A l ∧ c'.2 A l = c.2 A l) (hu : ∀ A l, ruR r A l → u'.1 A l = u.1 A l ∧ u'.2 A l = u.2 A l) (hk : ∀ t nm, tgt u oc kc nm = some t → tgt u' oc' kc' nm = some t ∧ SAMT u u' t ∧ (t < 100 → kn u t ≤ 4) ∧ (100 ≤ t → eln u (t - 100) ≤ 12)) : RWR c' u' oc' kc' r U m w := by
  obtain ⟨h1, h2, h3, h4, h5, h6, h7, h8⟩ := h
  unfold rcR at hc
  unfold ruR at hu
  refine ⟨h1, h2, by rw [(hc _ _ (by omega)).1]; exact h3, by rw [(hu _ _ (by omega)).1]; exact h4, fun z => ⟨by rw [(hc _ _ (by omega)).1]; exact (h5 z).1, by rw [(hc _ _ (by omega)).1]; exact (h5 z).2⟩, fun j hj => by rw [(hc _ _ (by omega)).1]; exact h6 j hj, fun j hj => by rw [(hc _ _ (by omega)).2, (hu _ _ (by omega)).2]; exact h7 j hj, fun j hj => ?_⟩
  exact MIN_gr (h8 j hj) (fun A l z => hc A l (by omega)) (fun A l z => hu A l (by omega)) hk
/-- bounds of what is read -/
def ENB (u : cS) (oc kc : Nat) : Prop := oc ≤ 4 ∧ kc ≤ 12 ∧ (∀ t, t < kc → kn u t ≤ 4) ∧ ∀ o, o < oc → eln u o ≤ 12
theorem ENB_of (hV : ENV c u oc kc mc cc) : ENB u oc kc := by
  refine ⟨hV.1.1.1, hV.1.2.1, fun t ht => (hV.2.2 t ht).2.1, fun o ho => ?_⟩
  obtain ⟨E, hr⟩ := hV.2.1.2.2.2 o ho
  have hE := hr.1.1.2
  unfold eln
  rw [hr.1.2.1, ix_n (by omega)]
  exact hE
theorem tgt_t {t : Nat} (ht : tgt u oc kc nm = some t) : (t < kc ∧ fO u oc nm = none ∧ fK u kc nm = some t) ∨ (∃ o, o < oc ∧ t = 100 + o ∧ fO u oc nm = some o) := by
  cases e : fO u oc nm with
  | some o =>
    rw [tgt_o e] at ht
    cases ht
    exact Or.inr ⟨o, fO_lt e, rfl, rfl⟩
  | none =>
    rw [tgt_n e] at ht
    exact Or.inl ⟨(ff_some ht).1, rfl, ht⟩
theorem ENB_b {t : Nat} (hB : ENB u oc kc) (ht : tgt u oc kc nm = some t) : (t < 100 → kn u t ≤ 4) ∧ (100 ≤ t → eln u (t - 100) ≤ 12) := by
  have ht2 := tgt_t ht
  obtain ⟨b1, b2, b3, b4⟩ := hB
  refine ⟨fun z => ?_, fun z => ?_⟩
  · rcases ht2 with ⟨z1, -⟩ | ⟨o, z1, z2, -⟩
    · exact b3 t z1
    · omega
  · rcases ht2 with ⟨z1, -⟩ | ⟨o, z1, z2, -⟩
    · omega
    · rw [z2, show 100 + o - 100 = o by omega]
      exact b4 o z1
/-- it stays while the ORDERS and the first kc KINDS stay -/
theorem RWR_k {w : Nat} (h : RWR c u oc kc r U m w) (hB : ENB u oc kc) (hc : ∀ A l, rcR r U m A l → c'.1 A l = c.1 A l ∧ c'.2 A l = c.2 A l) (hu : ∀ A l, ruR r A l → u'.1 A l = u.1 A l ∧ u'.2 A l = u.2 A l) (hk : ∀ A l, 181 ≤ A → A ≤ 197 → kuR kc A l → u'.1 A l = u.1 A l ∧ u'.2 A l = u.2 A l) : RWR c' u' oc kc r U m w := by
  refine RWR_gr h hc hu (fun t nm' ht => ?_)
  have ht2 := tgt_t ht
  have hb := ENB_b hB ht
  have b1 := hB.1
  have b2 := hB.2.1
  unfold kuR at hk
  refine ⟨?_, ⟨fun z => ?_, fun z => ?_⟩, hb⟩
  · have e1 : fO u' oc nm' = fO u oc nm' := ff_congr (fun l hl => by rw [(hk 181 l (by omega) (by omega) (by omega)).2])
    have e2 : fK u' kc nm' = fK u kc nm' := ff_congr (fun l hl => by rw [(hk 189 l (by omega) (by omega) (by omega)).2])
    unfold tgt at ht ⊢
    rw [e1, e2]
    exact ht
  · rcases ht2 with ⟨z1, -⟩ | ⟨o, z1, z2, -⟩
    · exact ⟨(hk _ _ (by omega) (by omega) (by omega)).1, (hk _ _ (by omega) (by omega) (by omega)).1, (hk _ _ (by omega) (by omega) (by omega)).1, fun l hl => ⟨(hk _ _ (by omega) (by omega) (by omega)).2, (hk _ _ (by omega) (by omega) (by omega)).1, (hk _ _ (by omega) (by omega) (by omega)).1⟩⟩
    · omega
  · exact ⟨(hk _ _ (by omega) (by omega) (by omega)).1, fun e he => (hk _ _ (by omega) (by omega) (by omega)).2⟩
/-- what the reading of KIND k may change -/
def qKc (k U A l : Nat) : Bool := decide ((A = 145 ∧ l = 7) ∨ (A = 7 ∧ l = 4) ∨ (kA k ≤ A ∧ A ≤ kA k + 5) ∨ (A = 133 ∧ (l = 11 ∨ l = 13)) ∨ ((A = 142 ∨ A = 143 ∨ A = 144) ∧ l = 1200 + k) ∨ (134 ≤ A ∧ A ≤ 138 ∧ U ≤ l) ∨ (139 ≤ A ∧ A ≤ 141 ∧ U * 4 ≤ l))
def qKu (k A l : Nat) : Bool := decide ((A = 174 ∧ (l = 67 ∨ l = 68 ∨ l = 24)) ∨ ((A = 189 ∨ A = 190 ∨ (195 ≤ A ∧ A ≤ 197)) ∧ l = k) ∨ (191 ≤ A ∧ A ≤ 194 ∧ 4 * k ≤ l ∧ l < 4 * k + 4) ∨ (A = 222 ∧ l = 1200 + k) ∨ (223 ≤ A ∧ A ≤ 225 ∧ (1200 + k) * 20 ≤ l ∧ l < (1200 + k) * 20 + 20) ∨ (226 ≤ A ∧ A ≤ 228 ∧ (1200 + k) * 80 ≤ l ∧ l < (1200 + k) * 80 + 80))
theorem qKc_c (hk : k < 12) (h : sx (qKc k U) c d) : sx QRc c d := sx_wide h (fun A j z => by
  have := of_decide_eq_false z
  exact decide_eq_false (by unfold kA at *; omega))
theorem qKu_u (h : sx (qKu k) u d) : sx QRu u d := sx_wide h (fun A j z => by
  have := of_decide_eq_false z
  exact decide_eq_false (by omega))
/-- the code of a MARK -/
def cdX (c : cS) (U j : Nat) : Nat := ix (c.1 135 (U + j))
/-- KIND k as far as its MEMBERS and where it may stand -/
def KST (w v : cS) (k p b : Nat) (nm : Int64) : Prop := w.2 (kA k) 0 = nm ∧ MBD w v k p ∧ b < 16 ∧ w.1 (kA k) 6 = nI b ∧ v.1 195 k = nI b
theorem KST_cg (h : KST c u k p b nm) (hc : ∀ A l, (A = kA k ∧ l < 7) ∨ (kA k < A ∧ A ≤ kA k + 4) → c'.1 A l = c.1 A l ∧ c'.2 A l = c.2 A l) (hu : ∀ A l, ((A = 190 ∨ A = 195) ∧ l = k) ∨ (191 ≤ A ∧ A ≤ 194 ∧ 4 * k ≤ l ∧ l < 4 * k + 4) → u'.1 A l = u.1 A l ∧ u'.2 A l = u.2 A l) : KST c' u' k p b nm := by
  obtain ⟨h1, h2, h3, h4, h5⟩ := h
  exact ⟨by rw [(hc _ _ (by omega)).2]; exact h1, MBD_c2 h2 (fun A l z => hc A l (by omega)) (fun A l z => hu A l (by omega)), h3, by rw [(hc _ _ (by omega)).1]; exact h4, by rw [(hu _ _ (by omega)).1]; exact h5⟩
def KP4 (K P : Nat → Nat) (V : Nat → Int64) (N : Nat) (w v : cS) (oc k U j : Nat) (nm : Int64) (r : cS ⊕ cS) (q : cS) : Prop := (∃ d j' m, r = .inl d ∧ j + 2 * m + 1 ≤ j' ∧ PSI K P V N d q j' ∧ d.1 7 4 = nI (k + 1) ∧ q.1 174 24 = nI (k + 1) ∧ q.2 189 k = nm ∧ RK d q k ∧ MDS q k ∧ RWR d q oc k (1200 + k) U m 4 ∧ d.1 133 11 = nI (U + m) ∧ d.1 133 12 = nM ∧ d.1 133 13 = nI (U + m) ∧ GVC d k (cdX d U) U m ∧ GVE d k ∧ sx (qKc k U) w d ∧ sx (qKu k) v q) ∨ (∃ z, r = .inr z ∧ FLR w v z q)
/-- the end of a KIND -/
theorem kd5 {w0 v0 : cS} {j0 : Nat} {B1 B2 : Bool} (hk : k < 12) (hP : PSI K P V N w v j) (hV : ENV w v oc k mc cc) (hj : j0 + 2 * m ≤ j) (hS : KST w v k p b nm) (b1 : w.1 (kA k) 7 = bI B1) (b2 : v.1 196 k = bI B1) (b3 : w.1 (kA k) 8 = bI B2) (b4 : v.1 197 k = bI B2) (hR : RWR w v oc k (1200 + k) U m 4) (h11 : w.1 133 11 = nI (U + m)) (h12 : w.1 133 12 = nM) (h13 : w.1 133 13 = nI (U + m)) (hG : GVC w k (cdX w U) U m) (hE : GVE w k) (sc : sx (qKc k U) w0 w) (su : sx (qKu k) v0 v) : jw (kc5 n w) (kr5 n (nI k) nm v) (KP4 K P V N w0 v0 oc k U j0 nm) := by
  have hik : ib (nI k) 12 := ib_n hk (by decide)
  have ek : ix (nI k) = k := ix_n (by omega)
  have h74 : w.1 7 4 = nI k := hV.1.2.2.1
  have h24 : v.1 174 24 = nI k := hV.1.2.2.2.1
  rcases exp_s (n := n) (b := 59) hP (by decide) (by decide) with ⟨y1, y2, y3⟩ | ⟨y1, y2⟩
  · have hC : kc5 n w = some (.inl (pI (atC w (j + 1)) 7 4 (nI (k + 1)))) := by
      unfold kc5
      refine eq_wp (wpe y1 (wpSl ?_))
      rw [show (atC w (j + 1)).1 7 4 = nI k by unfold atC; rw [rI, if_neg (by omega)]; exact h74, nI_1]
      exact wpl rfl
    have hU : kr5 n (nI k) nm v = some (pI (pL (atR v (j + 1)) 189 k nm) 174 24 (nI (k + 1))) := by
      unfold kr5
      refine eq_wp (wpe y2 (wpt hik ?_))
      rw [ek]
      refine wpl ?_
      rw [show (pL (atR v (j + 1)) 189 k nm).1 174 24 = nI k by
        show (atR v (j + 1)).1 174 24 = _
        unfold atR
        rw [rI, if_neg (by omega)]
        exact h24, nI_1]
      exact wpl rfl
    obtain ⟨d, hd⟩ : ∃ d, d = pI (atC w (j + 1)) 7 4 (nI (k + 1)) := ⟨_, rfl⟩
    obtain ⟨q, hq⟩ : ∃ q, q = pI (pL (atR v (j + 1)) 189 k nm) 174 24 (nI (k + 1)) := ⟨_, rfl⟩
    rw [← hd] at hC
    rw [← hq] at hU
    have df : ∀ A l, ¬ (A = 7 ∧ l = 4) → ¬ (A = 145 ∧ l = 7) → d.1 A l = w.1 A l := fun A l z1 z2 => by
      rw [hd, rI, if_neg z1]
      unfold atC
      rw [rI, if_neg z2]
    have dl : ∀ A l, d.2 A l = w.2 A l := fun A l => by rw [hd]; rfl
    have qf : ∀ A l, ¬ (A = 174 ∧ (l = 24 ∨ l = 67)) → q.1 A l = v.1 A l := fun A l z => by
      rw [hq, rI, if_neg (by omega)]
      show (atR v (j + 1)).1 A l = _
      unfold atR
      rw [rI, if_neg (by omega)]
    have ql : ∀ A l, ¬ (A = 189 ∧ l = k) → q.2 A l = v.2 A l := fun A l z => by
      rw [hq]
      show (pL (atR v (j + 1)) 189 k nm).2 A l = _
      rw [rL, if_neg z]
      rfl
    have q189 : q.2 189 k = nm := by
      rw [hq]
      show (pL (atR v (j + 1)) 189 k nm).2 189 k = _
      rw [rL, if_pos ⟨rfl, rfl⟩]
    have hM2 : MBD d q k p := MBD_c2 hS.2.1 (fun A l z => ⟨df _ _ (by unfold kA at *; omega) (by unfold kA at *; omega), dl _ _⟩) (fun A l z => ⟨qf _ _ (by omega), ql _ _ (by omega)⟩)
    refine jw_of hC hU (Or.inl ⟨d, j + 1, m, rfl, by omega, ?_, ?_, ?_, q189, ?_, MDS_of hM2, ?_, ?_, ?_, ?_, ?_, ?_, ?_, ?_⟩)
    · rw [hd, hq]
      exact PSI_sx y3 (sx_pI (r := fun A _ => decide (A = 7)) sx_rfl rfl) (sx_pI (r := fun A l => decide (A = 189 ∨ (A = 174 ∧ l = 24))) (sx_pL sx_rfl rfl) rfl) (fun A l z => decide_eq_false (by omega)) (fun A l z => decide_eq_false (by omega))
    · rw [hd, rI, if_pos ⟨rfl, rfl⟩]
    · rw [hq, rI, if_pos ⟨rfl, rfl⟩]
    · refine RK_of (b := b) (B1 := B1) (B2 := B2) hM2 ?_ hS.2.2.1 ?_ ?_ ?_ ?_ ?_ ?_
      · rw [dl, q189]
        exact hS.1
      · rw [df _ _ (by unfold kA; omega) (by unfold kA; omega)]
        exact hS.2.2.2.1
      · rw [qf _ _ (by omega)]
        exact hS.2.2.2.2
      · rw [df _ _ (by unfold kA; omega) (by unfold kA; omega)]
        exact b1
      · rw [qf _ _ (by omega)]
        exact b2
      · rw [df _ _ (by unfold kA; omega) (by unfold kA; omega)]
        exact b3
      · rw [qf _ _ (by omega)]
        exact b4
    · exact RWR_k hR (ENB_of hV) (fun A l z => ⟨df _ _ (by unfold rcR at z; omega) (by unfold rcR at z; omega), dl _ _⟩) (fun A l z => ⟨qf _ _ (by unfold ruR at z; omega), ql _ _ (by unfold ruR at z; omega)⟩) (fun A l z1 z2 z => ⟨qf _ _ (by omega), ql _ _ (by unfold kuR at z; omega)⟩)
    · rw [df _ _ (by omega) (by omega)]
      exact h11
    · rw [df _ _ (by omega) (by omega)]
      exact h12
    · rw [df _ _ (by omega) (by omega)]
      exact h13
    · intro s hs
      have ecd : cdX d U = cdX w U := funext fun l => by
        unfold cdX
        rw [df _ _ (by omega) (by omega)]
      have hB : ∀ t, d.1 (kA t + 5) s = w.1 (kA t + 5) s := fun t => by
        by_cases e : kA t + 5 = 145
        · unfold kA at e
          omega
        · exact df _ _ (by unfold kA; omega) (by omega)
      rw [ecd, hB, hG s hs]
      unfold gvB
      simp only [hB]
    · intro s hs
      rw [df _ _ (by unfold kA; omega) (by unfold kA; omega)]
      exact hE s hs
    · rw [hd]
      exact sx_pI (sx_pI sc (decide_eq_true (by omega))) (decide_eq_true (by omega))
    · rw [hq]
      exact sx_pI (sx_pL (sx_pI su (decide_eq_true (by omega))) (decide_eq_true (by omega))) (decide_eq_true (by omega))
  · refine jw_of (a := .inr (flC w 2 (nI (P j)))) (b := pI (pL (flt v 2 (nI (P j))) 189 k nm) 174 24 ((flt v 2 (nI (P j))).1 174 24 + 1)) ?_ ?_ (Or.inr ⟨_, rfl, qKw_F (FLR_of (qKc_c hk sc) (qKu_u su)) (sx_pI (sx_pL sx_rfl rfl) rfl)⟩)
    · unfold kc5
      exact eq_wp (wpe y1 (wpSr rfl))
    · unfold kr5
      rw [ek]
      exact eq_wp (wpe y2 (wpt hik (wpl (wpl rfl))))
end KD4
