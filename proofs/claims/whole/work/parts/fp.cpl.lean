/-! compile: both -/
section CPLS
variable {n i j N k L tot U oc kc mc cc : Nat} {c d u v w q z : cS} {K P : Nat → Nat} {V : Nat → Int64} {b : Nat → Nat}
theorem bb {α β γ δ : Type} {x : Option (α ⊕ β)} {f : α → Option (γ ⊕ β)} {g : γ → Option (δ ⊕ β)} : Option.bind x (Sum.elim (fun a => Option.bind (f a) (Sum.elim g (fun z => some (.inr z)))) (fun z => some (.inr z))) = Option.bind (Option.bind x (Sum.elim f (fun z => some (.inr z)))) (Sum.elim g (fun z => some (.inr z))) := by
  cases x with
  | none => rfl
  | some s => cases s <;> rfl
def e59 (n : Nat) (r10 : cS) : Option ((Int32 × cS) ⊕ cS) :=
  lt (pI r10 7 0 1) (fun c12 =>
  Option.bind (d_176 n c12) (fun r14 =>
  some (.inl ((r14.1 7 10), r14))))
def g59 (n : Nat) (r6 : cS) : Option ((Int32 × cS) ⊕ cS) :=
  Option.bind (d_286 n r6) (Sum.elim (fun r8 =>
  Option.bind (d_288 n r8) (Sum.elim (e59 n)
  (fun z11 => some (.inr z11))))
  (fun z9 => some (.inr z9)))
theorem d59_s : d_59 n c = Option.bind (d_90 n c) (fun r1 =>
  Option.bind (d_40 n r1) (Sum.elim (fun r2 =>
  Option.bind (Option.bind (d_44 n r2) (Sum.elim (d_45 n) (fun z => some (.inr z)))) (Sum.elim (g59 n) (fun z => some (.inr z))))
  (fun z3 => some (.inr z3)))) := by
  have h : d_59 n c = Option.bind (d_90 n c) (fun r1 =>
    Option.bind (d_40 n r1) (Sum.elim (fun r2 =>
    Option.bind (d_44 n r2) (Sum.elim (fun r4 =>
    Option.bind (d_45 n r4) (Sum.elim (g59 n)
    (fun z7 => some (.inr z7))))
    (fun z5 => some (.inr z5))))
    (fun z3 => some (.inr z3)))) := rfl
  rw [h]
  congr 1
  funext r1
  congr 1
  congr 1
  funext r2
  exact bb
theorem dmR_w (hn : 1 ≤ n) (h : v.1 174 13 = nI 1) : whl (dmR n) n (0, v) = some v := by
  obtain ⟨y, hy⟩ : ∃ y, n = y + 1 := ⟨n - 1, by omega⟩
  have : whl (dmR n) (y + 1) (0, v) = some v := whl_out (by
    unfold dmR
    dsimp only
    exact eq_wp (wpf (by decide) (wpf (ne13 h) rfl)))
  rw [← hy] at this
  exact this
theorem enR_w (h : v.1 174 13 = nI 1) : enR n v = some (0, pI v 174 0 1) := by
  unfold enR
  refine eq_wp (wpj (wpf (ne13 h) (wpl (wpf ?_ rfl))))
  rw [rI, if_neg (by omega)]
  exact ne13 h
/-- what compile may change -/
def qCc (A l : Nat) : Bool := decide ((A = 1 ∧ (l = 1 ∨ l = 6 ∨ l = 7)) ∨ (3 ≤ A ∧ A ≤ 5) ∨ (7 ≤ A ∧ A ≤ 145) ∨ A = 162 ∨ (A = 150 ∧ (l = 3 ∨ l = 6 ∨ l = 16)) ∨ (A = 167 ∧ 7 ≤ l ∧ l ≤ 9) ∨ (A = 146 ∧ l = 8) ∨ A = 148)
def qCu (A l : Nat) : Bool := decide ((A = 174 ∧ (l = 0 ∨ l = 2 ∨ l = 7 ∨ (11 ≤ l ∧ l ≤ 15) ∨ l = 24 ∨ l = 34 ∨ l = 37 ∨ l = 67 ∨ l = 68 ∨ l = 97 ∨ l = 102 ∨ l = 106 ∨ l = 111 ∨ l = 130)) ∨ (178 ≤ A ∧ A ≤ 231) ∨ A = 235)
/-- what both have behind compile, however it ended -/
def CPC (c u d w : cS) : Prop := (d.1 1 1 = nI 0 ∧ w.1 174 2 = nI 0) ∧ JF d w ∧ (∃ tot, tot ≤ 1024 ∧ d.1 114 7 = nI tot) ∧ (d.1 150 3 = nM ∧ d.1 150 16 = nI 0 ∧ (∀ j, j < 12 → d.1 162 j = if 7 ≤ j ∧ j < 10 then nM else nI 0) ∧ d.1 167 7 = nI 0 ∧ d.1 167 8 = nM ∧ d.1 167 9 = nM) ∧ FGR w ∧ sx qCc c d ∧ sx qCu u w
/-- a program that was just read -/
def CPG (L : Nat) (d w : cS) : Prop := d.1 7 0 = nI 1 ∧ w.1 174 14 = nI 1 ∧ PG d w ∧ WB w ∧ CN w ∧ TLS d w ∧ FD w d w ∧ BT w d (fun _ _ _ => False) ∧ ∃ V F sz X Y, ALO d V F sz X Y ∧ 2 * V ≤ L
def CPX (L : Nat) (c u : cS) (r : (Int32 × cS) ⊕ cS) (q : Int32 × cS) : Prop := (∃ k d w, r = .inl (k, d) ∧ q = (k, w) ∧ w.1 174 0 = nI 0 ∧ CPC c u d w ∧ CPG L d w) ∨ (∃ z w, r = .inr z ∧ q = (0, w) ∧ w.1 174 0 = nI 1 ∧ CPC c u z w ∧ z.1 7 0 = nI 0 ∧ w.1 174 14 = nI 0)
theorem ZJ_0 (h : NRD w) : ZJ w := by
  obtain ⟨-, h1, ⟨h2, h3, h3'⟩, h4, ⟨h5, h6, -⟩, -⟩ := h
  exact ⟨⟨⟨0, by omega, h1⟩, 0, 0, fun _ => 0, fun _ _ => 0, fun _ => 0, by omega, h2, h3', h4, fun r _ z => absurd z (Nat.not_lt_zero _), fun r i _ z => absurd z (Nat.not_lt_zero _), fun r i _ z => absurd z (Nat.not_lt_zero _), fun r i r' i' _ z => absurd z (Nat.not_lt_zero _), h3, fun k z => absurd z (Nat.not_lt_zero _), fun k k' z => absurd z (Nat.not_lt_zero _), fun k r i z => absurd z (Nat.not_lt_zero _)⟩, h5, h6⟩
/-- where both stand behind the cutting -/
def CPA (c u w v : cS) : Prop := NRD w ∧ (w.1 150 3 = nM ∧ w.1 150 16 = nI 0 ∧ (∀ j, j < 12 → w.1 162 j = if 7 ≤ j ∧ j < 10 then nM else nI 0) ∧ w.1 167 7 = nI 0 ∧ w.1 167 8 = nM ∧ w.1 167 9 = nM) ∧ FGR v ∧ v.1 174 2 = nI 0 ∧ v.1 174 14 = nI 0 ∧ sx qCc c w ∧ sx qCu u v
theorem CPA_C {x : Int32} (h : CPA c u w v) (hc : sx QRc w z) (hu : sx QRu v q) (hF : JF z q) (hZ : ZE z) : CPC c u z (pI q 174 0 x) := by
  obtain ⟨h1, ⟨a1, a2, a3, a4, a5, a6⟩, ⟨b1, b2, b3, b4, b5⟩, h4, h5, h6, h7⟩ := h
  have C : ∀ A l, ¬ (7 ≤ A ∧ A ≤ 145) → z.1 A l = w.1 A l := fun A l y => hc.1 _ _ (decide_eq_false (by omega))
  have R : ∀ l, ¬ ((11 ≤ l ∧ l ≤ 13) ∨ l = 15 ∨ l = 24 ∨ l = 34 ∨ l = 37 ∨ l = 67 ∨ l = 68 ∨ l = 0) → (pI q 174 0 x).1 174 l = v.1 174 l := fun l y => by
    rw [rI, if_neg (by omega)]
    exact hu.1 _ _ (decide_eq_false (by omega))
  refine ⟨⟨by rw [C _ _ (by omega)]; exact h1.2.2.2.2.2, by rw [R _ (by omega)]; exact h4⟩, ⟨?_, ?_⟩, hZ.1, ⟨by rw [C _ _ (by omega)]; exact a1, by rw [C _ _ (by omega)]; exact a2, fun j hj => by rw [C _ _ (by omega)]; exact a3 j hj, by rw [C _ _ (by omega)]; exact a4, by rw [C _ _ (by omega)]; exact a5, by rw [C _ _ (by omega)]; exact a6⟩, ⟨by rw [R _ (by omega)]; exact b1, by rw [R _ (by omega)]; exact b2, by rw [R _ (by omega)]; exact b3, by rw [R _ (by omega)]; exact b4, by rw [R _ (by omega)]; exact b5⟩, ?_, ?_⟩
  · rw [rI, if_neg (by omega)]
    exact hF.1
  · rw [rI, if_neg (by omega)]
    exact hF.2
  · exact sx_trans h6 (sx_wide hc (fun A l y => by
      have := of_decide_eq_false y
      exact decide_eq_false (by omega)))
  · exact sx_pI (sx_trans h7 (sx_wide hu (fun A l y => by
      have := of_decide_eq_false y
      exact decide_eq_false (by omega)))) (by decide)
theorem CPA_F (h : CPA c u w v) (hF : FLR w v z q) (hZ : ZE z) : CPX L c u (.inr z) (0, pI q 174 0 1) := by
  refine Or.inr ⟨z, _, rfl, rfl, by rw [rI, if_pos ⟨rfl, rfl⟩]; rfl, CPA_C h hF.2.2.2.1 hF.2.2.2.2 ⟨hF.1, hF.2.1⟩ hZ, ?_, ?_⟩
  · rw [hF.2.2.2.1.1 _ _ (decide_eq_false (by omega))]
    exact h.1.1.1
  · rw [rI, if_neg (by omega), hF.2.2.2.2.1 _ _ (decide_eq_false (by omega))]
    exact h.2.2.2.2.1
theorem fd_of (hcc : cc ≤ 12) (hP : PO oc d w) (ho : oc = ocn w) (hc : cc = ccn w) (h1 : ∀ o p, o < oc → p < 100 * cc → d.1 148 (p * 4 + o) = d.1 (oA o) 2) (h2 : ∀ o p, o < oc → p < 1200 → w.1 235 (1200 * o + p) = w.1 187 o) : FD w d w := by
  intro p s o hp hs ho'
  obtain ⟨E, hR⟩ := hP.2.2.2 o (by omega)
  obtain ⟨t, t1, t2, -⟩ := hR.1.2.2.2.2.2.2.2.2.1
  have hE := hR.1.1
  have hel : eln w o = E := by
    unfold eln
    rw [hR.1.2.1, ix_n (by omega)]
  have hpc := isP_c hp
  have e1 : d.1 148 (p * 4 + o) = nI t := by
    rw [h1 o p (by omega) (by omega), hR.2.2.2.2.2.2.2.2.1]
    exact t2
  have e2 : fdv d p o = t := by
    unfold fdv
    rw [e1, ix_n (by omega)]
  have hp12 : p < 1200 := by
    have := isP_100 hp
    omega
  rw [e2, hel]
  exact ⟨t1, e1, by rw [h2 o p (by omega) hp12]; exact t2⟩
end CPLS
