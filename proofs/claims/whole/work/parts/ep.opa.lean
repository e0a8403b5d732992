/-! READING the parts of an ACT: names -/
section OPA
variable {n i j N k M a b op L U oc kc mc : Nat} {c d u w v q c' u' : cS} {K P : Nat → Nat} {V : Nat → Int64} {nm : Int64}
/-- what the parts of ACT a (in the reference b) may change -/
def qOc (a M U A l : Nat) : Bool := decide ((A = 145 ∧ l = 7) ∨ ((A = 122 ∨ A = 123 ∨ A = 128 ∨ A = 129 ∨ A = 131 ∨ A = 132) ∧ l = a) ∨ (A = 117 ∧ l = M) ∨ (A = 118 ∧ M * 8 ≤ l ∧ l < M * 8 + 8) ∨ (A = 133 ∧ (l = 11 ∨ l = 13)) ∨ ((A = 142 ∨ A = 143 ∨ A = 144) ∧ l = 1218 + a) ∨ (134 ≤ A ∧ A ≤ 138 ∧ U ≤ l) ∨ (139 ≤ A ∧ A ≤ 141 ∧ U * 4 ≤ l))
def qOu (b M A l : Nat) : Bool := decide ((A = 174 ∧ (l = 67 ∨ l = 68)) ∨ ((A = 214 ∨ A = 215 ∨ A = 217 ∨ A = 218 ∨ A = 219) ∧ l = b) ∨ ((A = 220 ∨ A = 221) ∧ 4 * b ≤ l ∧ l < 4 * b + 4) ∨ (A = 208 ∧ l = M) ∨ (A = 209 ∧ 8 * M ≤ l ∧ l < 8 * M + 8) ∨ (A = 222 ∧ l = 1218) ∨ (223 ≤ A ∧ A ≤ 225 ∧ 1218 * 20 ≤ l) ∨ (226 ≤ A ∧ A ≤ 228 ∧ 1218 * 80 ≤ l))
theorem qOc_c (h : sx (qOc a M U) c d) : sx QRc c d := sx_wide h (fun A j z => by
  have := of_decide_eq_false z
  exact decide_eq_false (by omega))
theorem qOu_u (h : sx (qOu b M) u d) : sx QRu u d := sx_wide h (fun A j z => by
  have := of_decide_eq_false z
  exact decide_eq_false (by omega))
/-- the LOCALS of METHOD M, and the MARKS -/
def OPS (d q : cS) (M L U : Nat) : Prop := L ≤ 8 ∧ d.1 117 M = nI L ∧ q.1 208 M = nI L ∧ (∀ l, l < L → d.2 118 (M * 8 + l) = q.2 209 (8 * M + l)) ∧ d.1 133 11 = nI U ∧ d.1 133 12 = nM ∧ d.1 133 13 = nI U
theorem OPS_cg (h : OPS w v M L U) (hc : ∀ A l, A = 117 ∨ A = 118 ∨ A = 133 → c'.1 A l = w.1 A l ∧ c'.2 A l = w.2 A l) (hu : ∀ A l, A = 208 ∨ A = 209 → u'.1 A l = v.1 A l ∧ u'.2 A l = v.2 A l) : OPS c' u' M L U := by
  obtain ⟨h1, h2, h3, h4, h5, h6, h7⟩ := h
  exact ⟨h1, by rw [(hc _ _ (by omega)).1]; exact h2, by rw [(hu _ _ (by omega)).1]; exact h3, fun l hl => by rw [(hc _ _ (by omega)).2, (hu _ _ (by omega)).2]; exact h4 l hl, by rw [(hc _ _ (by omega)).1]; exact h5, by rw [(hc _ _ (by omega)).1]; exact h6, by rw [(hc _ _ (by omega)).1]; exact h7⟩
/-- a name that stands in an ACT: class and reference -/
def NMT (K P : Nat → Nat) (V : Nat → Int64) (N : Nat) (c : cS) (a t A B : Nat) : Prop := t < N ∧ K t = 1 ∧ c.2 A a = V t ∧ c.1 B a = nI (P t)
/-- the parts of an ACT as they are read -/
def ARO (K P : Nat → Nat) (V : Nat → Int64) (N : Nat) (c u : cS) (a b op L U oc : Nat) : Prop :=
  (op = 14 → c.1 122 a = u.1 214 b) ∧ (op ≤ 15 → TLR c u a b ∧ ∀ l, l < tdn u b → mi c (1218 + a) l < U) ∧ (op = 16 ∨ op = 17 → ∃ x, x < L ∧ u.1 214 b = nI x ∧ c.1 122 a = nI x) ∧
  (op = 18 ∨ op = 19 ∨ op = 20 → ∃ t, u.1 217 b = nI t ∧ NMT K P V N c a t 128 131 ∧ NMT K P V N c a (t + 2) 129 132) ∧
  (op = 27 ∨ op = 28 ∨ op = 29 → ∃ t, u.1 218 b = nI t ∧ NMT K P V N c a t 128 131) ∧
  (op = 29 ∨ op = 30 → ∃ x y, x < oc ∧ y < eln u x ∧ u.1 214 b = nI x ∧ u.1 215 b = nI y ∧ c.1 123 a = nI x ∧ c.1 122 a = nI y)
def OPZ (K P : Nat → Nat) (V : Nat → Int64) (N : Nat) (w v : cS) (a b M U L oc op j : Nat) (r : cS ⊕ cS) (q : cS) : Prop := (∃ d j' U' L', r = .inl d ∧ U ≤ U' ∧ L ≤ L' ∧ j + 2 * (U' - U) ≤ j' ∧ (op = 20 ∨ op = 29 ∨ op = 30 → j + 3 ≤ j') ∧ PSI K P V N d q j' ∧ ARO K P V N d q a b op L' U' oc ∧ OPS d q M L' U' ∧ sx (qOc a M U) w d ∧ sx (qOu b M) v q) ∨ (∃ z, r = .inr z ∧ FLR w v z q)
/-- nothing more to read -/
theorem op_0 (h1 : 21 ≤ op) (h2 : op ≤ 26) (hP : PSI K P V N w v j) (hS : OPS w v M L U) : OPZ K P V N w v a b M U L oc op j (.inl w) v :=
  Or.inl ⟨w, j, U, L, rfl, Nat.le_refl _, Nat.le_refl _, by omega, fun z => by omega, hP, ⟨fun z => by omega, fun z => by omega, fun z => by omega, fun z => by omega, fun z => by omega, fun z => by omega⟩, hS, sx_rfl, sx_rfl⟩
/-- a LABEL to go to -/
theorem lab_go (ha : a < 1024) (hb : b < 3840) (hP : PSI K P V N w v j) : (∃ z, d_284 n (nI a) w = some (.inr z) ∧ ∀ x : cS, x = pI v 218 b (nI j) ∨ x = pI v 217 b (nI j) → ∃ q, d_381 n x = some (0, q) ∧ FLR w v z q) ∨ (K j = 1 ∧ d_284 n (nI a) w = some (.inl (atC (pL (pI w 131 a (nI (P j))) 128 a (V j)) (j + 1))) ∧ (∀ x : cS, x = pI v 218 b (nI j) ∨ x = pI v 217 b (nI j) → d_381 n x = some (V j, atR x (j + 1)) ∧ PSI K P V N (atC (pL (pI w 131 a (nI (P j))) 128 a (V j)) (j + 1)) (atR x (j + 1)) (j + 1))) := by
  have hia : ib (nI a) 1024 := ib_n ha (by decide)
  have ea : ix (nI a) = a := ix_n (by omega)
  have hP1 : ∀ x : cS, x = pI v 218 b (nI j) ∨ x = pI v 217 b (nI j) → PSI K P V N (pI w 131 a (nI (P j))) x j := fun x hx => by
    rcases hx with rfl | rfl
    · exact PSI_sx hP (sx_pI (r := fun A _ => decide (A = 131)) sx_rfl rfl) (sx_pI (r := fun A _ => decide (A = 218)) sx_rfl rfl) (fun A l z => decide_eq_false (by omega)) (fun A l z => decide_eq_false (by omega))
    · exact PSI_sx hP (sx_pI (r := fun A _ => decide (A = 131)) sx_rfl rfl) (sx_pI (r := fun A _ => decide (A = 217)) sx_rfl rfl) (fun A l z => decide_eq_false (by omega)) (fun A l z => decide_eq_false (by omega))
  have h259 := e259 (n := n) (hP1 _ (Or.inl rfl))
  have hC : ∀ {r : (Int64 × cS) ⊕ cS} {Q : cS ⊕ cS → Prop}, d_259 n (pI w 131 a (nI (P j))) = some r → wp ((Sum.elim (fun r5 : Int64 × cS =>
  if ib (nI a) 1024 then
  lt (pL r5.2 128 (ix (nI a)) r5.1) (fun c8 =>
  lt (pI c8 145 7 ((c8.1 145 7) + 1)) (fun c10 =>
  some (.inl c10)))
  else none)
  (fun z6 : cS => some (.inr z6)) r : Option (cS ⊕ cS))) Q → wp (d_284 n (nI a) w) Q := fun {r Q} h1 h2 => by
    unfold d_284
    refine wpe (e42 hP) (wpt hia (wpl ?_))
    rw [ea]
    rw [ea] at h2
    exact wpe h1 h2
  by_cases e1 : K j = 1
  · rw [if_pos e1] at h259
    refine Or.inr ⟨e1, eq_wp (hC h259 (wpSl (wpt hia ?_))), fun x hx => ?_⟩
    · dsimp only
      rw [ea]
      refine wpl ?_
      rw [show (pL (pI w 131 a (nI (P j))) 128 a (V j)).1 145 7 = nI j by
        show (pI w 131 a (nI (P j))).1 145 7 = _
        rw [rI, if_neg (by omega)]
        exact hP.2.2.1, nI_1]
      exact wpl rfl
    · have h381 := e381 (n := n) (hP1 x hx)
      rw [if_pos e1] at h381
      refine ⟨h381, ?_⟩
      have := PSI_s (hP1 x hx) (by omega)
      exact PSI_sx this (r := fun A _ => decide (A = 128)) ⟨fun A l _ => rfl, fun A l z => by
        show (pL (pI w 131 a (nI (P j))) 128 a (V j)).2 A l = _
        rw [rL, if_neg (fun y => of_decide_eq_false z y.1)]
        rfl⟩ (show sx (fun _ _ => false) _ _ from sx_rfl) (fun A l z => decide_eq_false (by omega)) (fun _ _ _ => rfl)
  · rw [if_neg e1] at h259
    refine Or.inl ⟨_, eq_wp (hC h259 (wpSr rfl)), fun x hx => ?_⟩
    have h381 := e381 (n := n) (hP1 x hx)
    rw [if_neg e1] at h381
    refine ⟨_, h381, FLR_of (sx_pI sx_rfl (decide_eq_true (by omega))) ?_⟩
    rcases hx with rfl | rfl
    · exact sx_pI sx_rfl (decide_eq_true (by omega))
    · exact sx_pI sx_rfl (decide_eq_true (by omega))
end OPA
