/-! WHAT READING KEEPS in the class, whatever it ends with: how many ACTS, where the rows of MARKS end -/
section ZCP
variable {α β S R : Type} {K : β → Prop} {U r : Nat} {c d w : cS}
def zc (x : Option β) (K : β → Prop) : Prop := ∀ a, x = some a → K a
theorem zcN : zc (none : Option β) K := fun _ h => by cases h
theorem zcS {a : β} (h : K a) : zc (some a) K := fun b e => by
  cases e
  exact h
theorem zcI {p : Prop} [Decidable p] {x y : Option β} (h1 : p → zc x K) (h2 : ¬ p → zc y K) : zc (if p then x else y) K := by
  by_cases e : p
  · rw [if_pos e]
    exact h1 e
  · rw [if_neg e]
    exact h2 e
theorem zcL {P : α → Prop} {a : α} {f : α → Option β} (h : P a) (hk : ∀ y, P y → zc (f y) K) : zc (lt a f) K := hk a h
theorem zcl {a : α} {f : α → Option β} (hk : ∀ y, zc (f y) K) : zc (lt a f) K := hk a
theorem zcB {P : α → Prop} {x : Option α} {f : α → Option β} (h : zc x P) (hk : ∀ y, P y → zc (f y) K) : zc (x.bind f) K := by
  cases x with
  | none => exact zcN
  | some a => exact hk a (h a rfl)
theorem zcB0 {x : Option α} {f : α → Option β} (hk : ∀ y, zc (f y) K) : zc (x.bind f) K := by
  cases x with
  | none => exact zcN
  | some a => exact hk a
theorem zcJ {P : α → Prop} {k : α → Option β} {f : (α → Option β) → Option β} (h1 : ∀ y, P y → zc (k y) K) (h2 : ∀ k', (∀ y, P y → zc (k' y) K) → zc (f k') K) : zc (jn k f) K := h2 k h1
theorem zcE {γ : Type} {P : α → Prop} {Q : γ → Prop} {f : α → Option β} {g : γ → Option β} {z : α ⊕ γ} (h : Sum.elim P Q z) (h1 : ∀ y, P y → zc (f y) K) (h2 : ∀ y, Q y → zc (g y) K) : zc (Sum.elim f g z) K := by
  cases z with
  | inl a => exact h1 a h
  | inr a => exact h2 a h
theorem zcE0 {γ : Type} {f : α → Option β} {g : γ → Option β} (h1 : ∀ y, zc (f y) K) (h2 : ∀ y, zc (g y) K) (z : α ⊕ γ) : zc (Sum.elim f g z) K := by
  cases z with
  | inl a => exact h1 a
  | inr a => exact h2 a
theorem zcV {I : S → Prop} {X : R → Prop} {f : S → Option (S ⊕ R)} (h : ∀ s, I s → zc (f s) (Sum.elim I X)) : ∀ {n : Nat} {s : S}, I s → zc (whl f n s) X
  | 0, _, _ => fun _ e => by cases e
  | n + 1, s, hs => zcB (h s hs) (fun z hz => by
    cases z with
    | inl s' => exact zcV h hz
    | inr r => exact zcS hz)
theorem zcW {I : S → Prop} {X : R → Prop} {f : S → Option (S ⊕ R)} {n : Nat} {s : S} (h : ∀ s, I s → zc (f s) (Sum.elim I X)) (hs : I s) : zc (whl f n s) X := zcV h hs
def ZM (c : cS) : Prop := ∃ V F sz X Y, ALO c V F sz X Y
/-- behind a FAULT; and where none was met -/
def ZE (c : cS) : Prop := (∃ tot, tot ≤ 1024 ∧ c.1 114 7 = nI tot) ∧ ZM c
def ZJ (c : cS) : Prop := ZE c ∧ c.1 145 4 = nI 0 ∧ c.1 145 5 = nI 0
theorem ZM_cg (h : ZM c) (hc : ∀ A l, (A = 133 ∧ 11 ≤ l ∧ l ≤ 13) ∨ A = 138 ∨ (142 ≤ A ∧ A ≤ 144) → d.1 A l = c.1 A l) : ZM d := by
  obtain ⟨V, F, sz, X, Y, h⟩ := h
  exact ⟨V, F, sz, X, Y, ALO_cg h hc⟩
theorem ZE_pI {A i : Nat} {v : Int32} (h : ZE c) (hA : A ≠ 114 ∧ A ≠ 133 ∧ A ≠ 138 ∧ A ≠ 142 ∧ A ≠ 143 ∧ A ≠ 144) : ZE (pI c A i v) := by
  obtain ⟨⟨tot, h1, h2⟩, h3⟩ := h
  exact ⟨⟨tot, h1, by rw [rI, if_neg (by omega)]; exact h2⟩, ZM_cg h3 (fun B l z => by rw [rI, if_neg (by omega)])⟩
theorem Z_pI {A i : Nat} {v : Int32} (h : ZJ c) (hA : A ≠ 114 ∧ A ≠ 133 ∧ A ≠ 138 ∧ A ≠ 142 ∧ A ≠ 143 ∧ A ≠ 144 ∧ A ≠ 145) : ZJ (pI c A i v) :=
  ⟨ZE_pI h.1 (by omega), by rw [rI, if_neg (by omega)]; exact h.2.1, by rw [rI, if_neg (by omega)]; exact h.2.2⟩
theorem Z_p5 {i : Nat} {v : Int32} (h : ZJ c) (hi : i ≠ 4 ∧ i ≠ 5) : ZJ (pI c 145 i v) :=
  ⟨ZE_pI h.1 (by decide), by rw [rI, if_neg (by omega)]; exact h.2.1, by rw [rI, if_neg (by omega)]; exact h.2.2⟩
theorem Z_pL {A i : Nat} {v : Int64} (h : ZJ c) : ZJ (pL c A i v) := h
theorem zk0 {k : Nat} (h : k < 12) : kA k ≠ 114 ∧ kA k ≠ 133 ∧ kA k ≠ 138 ∧ kA k ≠ 142 ∧ kA k ≠ 143 ∧ kA k ≠ 144 ∧ kA k ≠ 145 := by
  unfold kA
  omega
theorem zo0 {o : Nat} (h : o < 4) : oA o ≠ 114 ∧ oA o ≠ 133 ∧ oA o ≠ 138 ∧ oA o ≠ 142 ∧ oA o ≠ 143 ∧ oA o ≠ 144 ∧ oA o ≠ 145 := by
  unfold oA
  omega
theorem zk_ {k : Nat} (h : k < 12) (j : Nat) (hj : j ≤ 5) : kA k + j ≠ 114 ∧ kA k + j ≠ 133 ∧ kA k + j ≠ 138 ∧ kA k + j ≠ 142 ∧ kA k + j ≠ 143 ∧ kA k + j ≠ 144 ∧ kA k + j ≠ 145 := by
  unfold kA
  omega
theorem zo_ {o : Nat} (h : o < 4) (j : Nat) (hj : j ≤ 5) : oA o + j ≠ 114 ∧ oA o + j ≠ 133 ∧ oA o + j ≠ 138 ∧ oA o + j ≠ 142 ∧ oA o + j ≠ 143 ∧ oA o + j ≠ 144 ∧ oA o + j ≠ 145 := by
  unfold oA
  omega
theorem z_41 {n : Nat} {a1 a2 : Int32} (hc : ZJ c) : zc (d_41 n a1 a2 c) (Sum.elim ZJ ZE) := by
  unfold d_41
  exact zcL (P := ZE) (ZE_pI hc.1 (by decide)) (fun _ h1 => zcL (P := ZE) (ZE_pI h1 (by decide)) (fun _ h2 => zcS h2))
theorem z_164 {n : Nat} {a1 : Int32} {a2 : Int64} {a4 : Int32} (hc : ZJ c) : zc (d_164 n a1 a2 a4 c) (fun r => ZJ r.2) := by
  obtain ⟨⟨⟨tot, h1, h2⟩, h3⟩, f4, f5⟩ := hc
  unfold d_164
  rw [h2, nI_1]
  refine zcL (P := fun w : cS => w.1 114 7 = nI (tot + 1) ∧ ZM w ∧ w.1 145 4 = nI 0 ∧ w.1 145 5 = nI 0) ⟨by rw [rI, if_pos ⟨rfl, rfl⟩], ZM_cg h3 (fun A l z => by rw [rI, if_neg (by omega)]), by rw [rI, if_neg (by omega)]; exact f4, by rw [rI, if_neg (by omega)]; exact f5⟩ (fun w hw => ?_)
  refine zcL (P := fun v => v = nI tot) rfl (fun v hv => ?_)
  refine zcI (fun _ => zcI (fun _ => ?_) (fun _ => zcN)) (fun _ => zcN)
  refine zcL (P := fun w : cS => w.1 114 7 = nI (tot + 1) ∧ ZM w ∧ w.1 145 4 = nI 0 ∧ w.1 145 5 = nI 0) ⟨by rw [rI, if_neg (by omega)]; exact hw.1, ZM_cg hw.2.1 (fun A l z => by rw [rI, if_neg (by omega)]), by rw [rI, if_neg (by omega)]; exact hw.2.2.1, by rw [rI, if_neg (by omega)]; exact hw.2.2.2⟩ (fun w2 hw2 => ?_)
  refine zcI (fun hv4 => ?_) (fun _ => zcN)
  have ht : tot < 1024 := by
    have := ib_lt hv4
    rw [hv, ix_n (by omega)] at this
    exact this
  have hz : ZJ w2 := ⟨⟨⟨tot + 1, ht, hw2.1⟩, hw2.2.1⟩, hw2.2.2⟩
  exact zcL (P := ZJ) (Z_pI hz (by decide)) (fun _ h1 => zcI (fun _ => zcL (P := ZJ) (Z_pI h1 (by decide)) (fun _ h1 => zcI (fun _ => zcL (P := ZJ) (Z_pI h1 (by decide)) (fun _ h1 => zcI (fun _ => zcL (P := ZJ) (Z_pI h1 (by decide)) (fun _ h1 => zcI (fun _ => zcL (P := ZJ) (Z_pI h1 (by decide)) (fun _ h1 => zcI (fun _ => zcL (P := ZJ) (Z_pL h1) (fun _ h1 => zcI (fun _ => zcL (P := ZJ) (Z_pL h1) (fun _ h1 => zcI (fun _ => zcL (P := ZJ) (Z_pL h1) (fun _ h1 => zcI (fun _ => zcL (P := ZJ) (Z_pI h1 (by decide)) (fun _ h1 => zcS h1)) (fun _ => zcN))) (fun _ => zcN))) (fun _ => zcN))) (fun _ => zcN))) (fun _ => zcN))) (fun _ => zcN))) (fun _ => zcN))) (fun _ => zcN))
theorem z_224 {n : Nat} {a1 : Int32} {a2 : Int64} (hc : ZJ c) : zc (d_224 n a1 a2 c) (fun r => ZJ r.2) := by
  obtain ⟨⟨ht, V, F, sz, X, Y, hA⟩, f4, f5⟩ := id hc
  have hno : ¬ ib a1 2242 → zc (d_224 n a1 a2 c) (fun r => ZJ r.2) := fun hib => by
    unfold d_224
    exact zcJ (P := fun _ => True) (fun p1 _ => zcI (fun _ => zcJ (P := fun _ => True) (fun p3 _ => zcI (fun z => absurd z hib) (fun _ => zcN)) (fun k hk => zcI (fun _ => zcl (fun _ => hk _ trivial)) (fun _ => zcI (fun _ => zcl (fun _ => hk _ trivial)) (fun _ => zcN)))) (fun _ => zcS hc)) (fun k hk => zcI (fun _ => hk _ trivial) (fun _ => hk _ trivial))
  rcases pk_ix a1 (n := 2242) (by decide) with h | h | ⟨r, hr, rfl⟩
  · exact hno (fun z => z (Or.inl h))
  · refine hno (fun z => ?_)
    have h1 := ib_lt z
    have h2 : ¬ a1 < 0 := fun y => z (Or.inl y)
    have h3 := Int32.le_iff_toInt_le.mp h
    rw [nI_toInt (by decide)] at h3
    have h4 : ix a1 = a1.toInt.toNat := rfl
    omega
  · by_cases e : V < 4096
    · obtain ⟨d, e1, e2, -, -, -, -, -, -, e9⟩ := al_224 (n := n) (nm := a2) hA hr e
      intro q hq
      rw [e1] at hq
      cases hq
      obtain ⟨tot, t1, t2⟩ := ht
      have S : ∀ A l, ¬ ((A = 133 ∧ 11 ≤ l ∧ l ≤ 13) ∨ A = 138 ∨ (142 ≤ A ∧ A ≤ 144) ∨ (134 ≤ A ∧ A ≤ 137)) → d.1 A l = c.1 A l := fun A l z => e9.1 _ _ (decide_eq_false (by omega))
      exact ⟨⟨⟨tot, t1, by rw [S _ _ (by omega)]; exact t2⟩, _, _, _, _, _, e2⟩, by rw [S _ _ (by omega)]; exact f4, by rw [S _ _ (by omega)]; exact f5⟩
    · have h1 := hA.1
      have hF : F = 0 := by omega
      have h2 := hA.2.1
      have h9 := hA.2.2.2.2.2.2.2.2.1
      rw [if_pos hF] at h9
      unfold d_224
      rw [h9, h2]
      refine zcJ (P := fun p : Int32 => p = nI (V + F)) (fun p hp => ?_) (fun k hk => zcI (fun _ => hk _ rfl) (fun z => absurd (by decide) z))
      subst hp
      exact zcI (fun hlt => absurd hlt (nI_nlt (b := 4096) (by omega) (by omega))) (fun _ => zcS hc)
theorem z_153 {n : Nat} {r0 : Nat} {nr0 : Nat} {a1 : Int32} (hr0 : r0 ≠ 114 ∧ r0 ≠ 133 ∧ r0 ≠ 138 ∧ r0 ≠ 142 ∧ r0 ≠ 143 ∧ r0 ≠ 144 ∧ r0 ≠ 145) (hc : ZJ c) : zc (d_153 n r0 nr0 a1 c) ZJ := by
  unfold d_153
  exact (zcl (fun v3 =>
   (zcB (zcW (I := (fun r : Int32 × cS => ZJ r.2)) (X := ZJ) (fun s5 hq1 =>
    (zcI (fun hq2 =>
     (zcS hq1)) (fun _ =>
     (zcI (fun hq3 =>
      (zcL (P := ZJ) (Z_pI hq1 hr0) (fun c7 hq4 =>
       (zcl (fun v10 =>
        (zcS hq4)))))) (fun _ =>
      zcN))))) hc) (fun x12 hq5 =>
    (zcS hq5)))))
theorem z_162 {n : Nat} {a1 : Int32} {a2 : Int64}  (hc : ZJ c) : zc (d_162 n a1 a2 c) (fun r : Int32 × cS => ZJ r.2) := by
  unfold d_162
  exact (zcI (fun hq1 =>
   (zcI (fun hq2 =>
    (zcL (P := ZJ) (Z_pL hc) (fun c3 hq3 =>
     (zcI (fun hq4 =>
      (zcI (fun hq5 =>
       (zcL (P := ZJ) (Z_pI hq3 (by decide)) (fun c7 hq6 =>
        (zcS hq6)))) (fun _ =>
       zcN))) (fun _ =>
      zcN))))) (fun _ =>
    zcN))) (fun _ =>
   zcN))
theorem z_217 {n : Nat} {k0 : Nat} {a1 : Int64} (hk0 : k0 < 12) (hc : ZJ c) : zc (d_217 n k0 a1 c) ZJ := by
  unfold d_217
  exact (zcL (P := ZJ) (Z_pL hc) (fun c1 hq1 =>
   (zcL (P := ZJ) (Z_pI hq1 (zk0 hk0)) (fun c3 hq2 =>
    (zcL (P := ZJ) (Z_pI hq2 (zk0 hk0)) (fun c5 hq3 =>
     (zcL (P := ZJ) (Z_pI hq3 (zk0 hk0)) (fun c7 hq4 =>
      (zcL (P := ZJ) (Z_pI hq4 (zk0 hk0)) (fun c9 hq5 =>
       (zcB (z_153 (zk_ hk0 5 (by decide)) hq5) (fun r11 hq6 =>
        (zcS hq6)))))))))))))
theorem z_220 {n : Nat} {k0 : Nat} {a1 : Int32} {a2 : Int32} (hk0 : k0 < 12) (hc : ZJ c) : zc (d_220 n k0 a1 a2 c) ZJ := by
  unfold d_220
  exact (zcJ (P := fun y : Int32 => (fun _ : Int32 => True) y) (fun p1 hq1 =>
   (zcI (fun hq3 =>
    (zcJ (P := fun y : cS => ZJ y) (fun p4 hq4 =>
     (zcS hq4)) (fun j34 hq5 =>
     (zcI (fun hq6 =>
      (hq5 _ hc)) (fun _ =>
      (zcI (fun hq7 =>
       (zcL (P := ZJ) (Z_pI hc (zk_ hk0 5 (by decide))) (fun c6 hq8 =>
        (hq5 _ hq8)))) (fun _ =>
       zcN))))))) (fun _ =>
    zcN))) (fun j17 hq2 =>
   (zcI (fun hq9 =>
    (hq2 _ trivial)) (fun _ =>
    (hq2 _ trivial)))))
theorem z_221 {n : Nat} {k0 : Nat} {k1 : Nat} (hk0 : k0 < 12) (hk1 : k1 < 12) (hc : ZJ c) : zc (d_221 n k0 k1 c) ZJ := by
  unfold d_221
  exact (zcB (zcW (I := (fun r : Int32 × cS => ZJ r.2)) (X := ZJ) (fun s2 hq1 =>
   (zcI (fun hq2 =>
    (zcS hq1)) (fun _ =>
    (zcI (fun hq3 =>
     (zcJ (P := fun y : cS => ZJ y) (fun p4 hq4 =>
      (zcl (fun v6 =>
       (zcS hq4)))) (fun j32 hq5 =>
      (zcI (fun hq6 =>
       (hq5 _ hq1)) (fun _ =>
       (zcI (fun hq7 =>
        (zcI (fun hq8 =>
         (zcL (P := ZJ) (Z_pI hq1 (zk_ hk0 5 (by decide))) (fun c10 hq9 =>
          (hq5 _ hq9)))) (fun _ =>
         zcN))) (fun _ =>
        zcN))))))) (fun _ =>
     zcN))))) hc) (fun x12 hq10 =>
   (zcS hq10)))
theorem z_225 {n : Nat} {a1 : Int32} {a2 : Int64} {a4 : Int32} {a5 : Int64}  (hc : ZJ c) : zc (d_225 n a1 a2 a4 a5 c) ZJ := by
  unfold d_225
  exact (zcI (fun hq1 =>
   (zcJ (P := fun y : cS => ZJ y) (fun p2 hq2 =>
    (zcS hq2)) (fun j68 hq3 =>
    (zcI (fun hq4 =>
     (hq3 _ hc)) (fun _ =>
     (zcI (fun hq5 =>
      (zcI (fun hq6 =>
       (hq3 _ hc)) (fun _ =>
       (zcI (fun hq7 =>
        (zcl (fun v6 =>
         (zcI (fun hq8 =>
          (zcL (P := ZJ) (Z_pL hc) (fun c9 hq9 =>
           (zcI (fun hq10 =>
            (zcL (P := ZJ) (Z_pI hq9 (by decide)) (fun c12 hq11 =>
             (zcI (fun hq12 =>
              (zcL (P := ZJ) (Z_pL hq11) (fun c15 hq13 =>
               (zcI (fun hq14 =>
                (zcI (fun hq15 =>
                 (zcL (P := ZJ) (Z_pI hq13 (by decide)) (fun c19 hq16 =>
                  (hq3 _ hq16)))) (fun _ =>
                 zcN))) (fun _ =>
                zcN))))) (fun _ =>
              zcN))))) (fun _ =>
            zcN))))) (fun _ =>
          zcN))))) (fun _ =>
        zcN))))) (fun _ =>
      zcN))))))) (fun _ =>
   zcN))
theorem z_234 {n : Nat} {o0 : Nat} {a1 : Int64} (ho0 : o0 < 4) (hc : ZJ c) : zc (d_234 n o0 a1 c) ZJ := by
  unfold d_234
  exact (zcL (P := ZJ) (Z_pL hc) (fun c1 hq1 =>
   (zcL (P := ZJ) (Z_pI hq1 (zo0 ho0)) (fun c3 hq2 =>
    (zcS hq2)))))
theorem z_236 {n : Nat} {o0 : Nat} {a1 : Int64} (ho0 : o0 < 4) (hc : ZJ c) : zc (d_236 n o0 a1 c) (fun r : Int32 × cS => ZJ r.2) := by
  unfold d_236
  exact (zcI (fun hq1 =>
   (zcL (P := ZJ) (Z_pL hc) (fun c2 hq2 =>
    (zcI (fun hq3 =>
     (zcL (P := ZJ) (Z_pI hq2 (zo_ ho0 2 (by decide))) (fun c5 hq4 =>
      (zcL (P := ZJ) (Z_pI hq4 (zo0 ho0)) (fun c7 hq5 =>
       (zcS hq5)))))) (fun _ =>
     zcN))))) (fun _ =>
   zcN))
theorem z_242 {n : Nat} {o0 : Nat} (ho0 : o0 < 4) (hc : ZJ c) : zc (d_242 n o0 c) ZJ := by
  unfold d_242
  exact (zcB (zcW (I := (fun r : Int32 × cS => ZJ r.2)) (X := ZJ) (fun s2 hq1 =>
   (zcI (fun hq2 =>
    (zcS hq1)) (fun _ =>
    (zcB (zcW (I := (fun r : Int32 × cS => ZJ r.2)) (X := ZJ) (fun s4 hq3 =>
     (zcI (fun hq4 =>
      (zcS hq3)) (fun _ =>
      (zcB0 (fun v5 =>
       (zcJ (P := fun y : cS => ZJ y) (fun p6 hq5 =>
        (zcl (fun v8 =>
         (zcS hq5)))) (fun j44 hq6 =>
        (zcI (fun hq7 =>
         (hq6 _ hq3)) (fun _ =>
         (zcI (fun hq8 =>
          (zcI (fun hq9 =>
           (zcI (fun hq10 =>
            (zcL (P := ZJ) (Z_pI hq3 (zo_ ho0 2 (by decide))) (fun c13 hq11 =>
             (hq6 _ hq11)))) (fun _ =>
            zcN))) (fun _ =>
           zcN))) (fun _ =>
          zcN))))))))))) hq1) (fun x15 hq12 =>
     (zcl (fun v17 =>
      (zcS hq12)))))))) hc) (fun x19 hq13 =>
   (zcB (zcW (I := (fun r : Int32 × cS => ZJ r.2)) (X := ZJ) (fun s21 hq14 =>
    (zcI (fun hq15 =>
     (zcS hq14)) (fun _ =>
     (zcI (fun hq16 =>
      (zcL (P := ZJ) (Z_pI hq14 (zo_ ho0 3 (by decide))) (fun c23 hq17 =>
       (zcB (zcW (I := (fun r : Int32 × cS => ZJ r.2)) (X := ZJ) (fun s26 hq18 =>
        (zcI (fun hq19 =>
         (zcS hq18)) (fun _ =>
         (zcI (fun hq20 =>
          (zcB0 (fun v28 =>
           (zcJ (P := fun y : Int32 => (fun _ : Int32 => True) y) (fun p29 hq21 =>
            (zcI (fun hq23 =>
             (zcL (P := ZJ) (Z_pI hq18 (zo_ ho0 3 (by decide))) (fun c31 hq24 =>
              (zcl (fun v34 =>
               (zcS hq24)))))) (fun _ =>
             zcN))) (fun j106 hq22 =>
            (zcI (fun hq25 =>
             (hq22 _ trivial)) (fun _ =>
             (hq22 _ trivial)))))))) (fun _ =>
          zcN))))) hq17) (fun x36 hq26 =>
        (zcl (fun v38 =>
         (zcS hq26)))))))) (fun _ =>
      zcN))))) hq13) (fun x40 hq27 =>
    (zcS hq27)))))
theorem z_241 {n : Nat} {o0 : Nat} (ho0 : o0 < 4) (hc : ZJ c) : zc (d_241 n o0 c) (fun r : Int32 × cS => ZJ r.2) := by
  unfold d_241
  exact (zcB (z_242 ho0 hc) (fun r1 hq1 =>
   (zcB (zcW (I := (fun r : Int32 × cS => ZJ r.2)) (X := (Sum.elim ZJ ZJ)) (fun s3 hq2 =>
    (zcI (fun hq3 =>
     (zcS hq2)) (fun _ =>
     (zcB (zcW (I := (fun r : Int32 × cS => ZJ r.2)) (X := (Sum.elim ZJ ZJ)) (fun s5 hq4 =>
      (zcI (fun hq5 =>
       (zcS hq4)) (fun _ =>
       (zcI (fun hq6 =>
        (zcI (fun hq7 =>
         (zcB0 (fun v8 =>
          (zcI (fun hq8 =>
           (zcI (fun hq9 =>
            (zcB0 (fun v12 =>
             (zcI (fun hq10 =>
              (zcS hq4)) (fun _ =>
              (zcI (fun hq11 =>
               (zcS hq4)) (fun _ =>
               (zcJ (P := fun y : Unit => (fun _ : Unit => True) y) (fun p14 hq12 =>
                (zcI (fun hq14 =>
                 (zcL (P := ZJ) (Z_pI hq4 (zo_ ho0 4 (by decide))) (fun c16 hq15 =>
                  (zcI (fun hq16 =>
                   (zcL (P := ZJ) (Z_pI hq15 (zo_ ho0 5 (by decide))) (fun c19 hq17 =>
                    (zcl (fun v22 =>
                     (zcS hq17)))))) (fun _ =>
                   zcN))))) (fun _ =>
                 zcN))) (fun j103 hq13 =>
                (zcI (fun hq18 =>
                 (hq13 _ trivial)) (fun _ =>
                 (zcB0 (fun v24 =>
                  (zcI (fun hq19 =>
                   (hq13 _ trivial)) (fun _ =>
                   (zcB0 (fun v25 =>
                    (zcI (fun hq20 =>
                     (hq13 _ trivial)) (fun _ =>
                     (zcS hq4)))))))))))))))))))) (fun _ =>
            zcN))) (fun _ =>
           zcN))))) (fun _ =>
         zcN))) (fun _ =>
        zcN))))) hq2) (fun zq21 hq22 =>
      (zcE hq22 (fun x26 hq23 =>
       (zcl (fun v28 =>
        (zcS hq23)))) (fun x30 hq24 =>
       (zcS hq24)))))))) hq1) (fun zq25 hq26 =>
    (zcE hq26 (fun x31 hq27 =>
     (zcL (P := ZJ) (Z_pI hq27 (zo0 ho0)) (fun c32 hq28 =>
      (zcL (P := ZJ) (Z_pI hq28 (zo0 ho0)) (fun c34 hq29 =>
       (zcB (zcW (I := (fun r : Int32 × cS => ZJ r.2)) (X := ZJ) (fun s37 hq30 =>
        (zcI (fun hq31 =>
         (zcS hq30)) (fun _ =>
         (zcB0 (fun v38 =>
          (zcL (P := ZJ) (Z_pI hq30 (zo0 ho0)) (fun c39 hq32 =>
           (zcB0 (fun v41 =>
            (zcL (P := ZJ) (Z_pI hq32 (zo0 ho0)) (fun c42 hq33 =>
             (zcl (fun v45 =>
              (zcS hq33)))))))))))))) hq29) (fun x47 hq34 =>
        (zcS hq34)))))))) (fun x48 hq35 =>
     (zcS hq35)))))))
theorem z_257 {n : Nat} {a1 : Int32}  (hc : ZJ c) : zc (d_257 n a1 c) (Sum.elim ZJ ZE) := by
  unfold d_257
  exact (zcI (fun hq1 =>
   (zcJ (P := fun y : cS => ZJ y) (fun p2 hq2 =>
    (zcL (P := ZJ) (Z_p5 hq2 (by decide)) (fun c3 hq4 =>
     (zcS hq4)))) (fun j25 hq3 =>
    (zcI (fun hq5 =>
     (hq3 _ hc)) (fun _ =>
     (zcB0 (fun v5 =>
      (zcB (z_41 hc) (fun zq6 hq7 =>
       (zcE hq7 (fun r6 hq8 =>
        (hq3 _ hq8)) (fun z7 hq9 =>
        (zcS hq9)))))))))))) (fun _ =>
   zcN))
theorem z_258 {n : Nat} {a1 : Int32}  (hc : ZJ c) : zc (d_258 n a1 c) (fun r : Int32 × cS => ZJ r.2) := by
  unfold d_258
  exact (zcI (fun hq1 =>
   (zcJ (P := fun y : Int32 => (fun _ : Int32 => True) y) (fun p2 hq2 =>
    (zcJ (P := fun y : Int32 => (fun _ : Int32 => True) y) (fun p4 hq4 =>
     (zcL (P := ZJ) (Z_p5 hc (by decide)) (fun c5 hq6 =>
      (zcI (fun hq7 =>
       (zcS hq6)) (fun _ =>
       zcN))))) (fun j36 hq5 =>
     (zcI (fun hq8 =>
      (hq5 _ trivial)) (fun _ =>
      (hq5 _ trivial)))))) (fun j21 hq3 =>
    (zcI (fun hq9 =>
     (hq3 _ trivial)) (fun _ =>
     (hq3 _ trivial)))))) (fun _ =>
   zcN))
theorem z_259 {n : Nat}   (hc : ZJ c) : zc (d_259 n c) (Sum.elim (fun r : Int64 × cS => ZJ r.2) ZE) := by
  unfold d_259
  exact (zcB0 (fun v1 =>
   (zcJ (P := fun y : cS => ZJ y) (fun p2 hq1 =>
    (zcI (fun hq3 =>
     (zcS hq1)) (fun _ =>
     zcN))) (fun j17 hq2 =>
    (zcI (fun hq4 =>
     (hq2 _ hc)) (fun _ =>
     (zcB0 (fun v4 =>
      (zcB (z_41 hc) (fun zq5 hq6 =>
       (zcE hq6 (fun r5 hq7 =>
        (hq2 _ hq7)) (fun z6 hq8 =>
        (zcS hq8)))))))))))))
theorem z_260 {n : Nat} {a1 : Int32} {a2 : Int32}  (hc : ZJ c) : zc (d_260 n a1 a2 c) (Sum.elim (fun r : Int64 × cS => ZJ r.2) ZE) := by
  unfold d_260
  exact (zcB (z_259 hc) (fun zq1 hq2 =>
   (zcE hq2 (fun r1 hq3 =>
    (zcJ (P := fun y : cS => ZJ y) (fun p4 hq4 =>
     (zcJ (P := fun y : cS => ZJ y) (fun p5 hq6 =>
      (zcL (P := ZJ) (Z_p5 hq6 (by decide)) (fun c6 hq8 =>
       (zcS hq8)))) (fun j32 hq7 =>
      (zcI (fun hq9 =>
       (hq7 _ hq4)) (fun _ =>
       (zcB0 (fun v8 =>
        (zcB (z_41 hq4) (fun zq10 hq11 =>
         (zcE hq11 (fun r9 hq12 =>
          (hq7 _ hq12)) (fun z10 hq13 =>
          (zcS hq13)))))))))))) (fun j18 hq5 =>
     (zcI (fun hq14 =>
      (hq5 _ hq3)) (fun _ =>
      (zcB0 (fun v11 =>
       (zcB (z_41 hq3) (fun zq15 hq16 =>
        (zcE hq16 (fun r12 hq17 =>
         (hq5 _ hq17)) (fun z13 hq18 =>
         (zcS hq18)))))))))))) (fun z2 hq19 =>
    (zcS hq19)))))
theorem z_263 {n : Nat} {o1 : Nat} (ho1 : o1 < 4) (hc : ZJ c) : zc (d_263 n o1 c) (Sum.elim (fun r : Int32 × cS => ZJ r.2) ZE) := by
  unfold d_263
  exact (zcB (z_259 hc) (fun zq1 hq2 =>
   (zcE hq2 (fun r1 hq3 =>
    (zcB0 (fun v3 =>
     (zcJ (P := fun y : cS => ZJ y) (fun p5 hq4 =>
      (zcL (P := ZJ) (Z_p5 hq4 (by decide)) (fun c6 hq6 =>
       (zcJ (P := fun y : Int32 × cS => (fun r : Int32 × cS => ZJ r.2) y) (fun p8 hq7 =>
        (zcS hq7)) (fun j68 hq8 =>
        (zcI (fun hq9 =>
         (zcI (fun hq10 =>
          (zcB (z_236 ho1 hq6) (fun r10 hq11 =>
           (hq8 _ hq11)))) (fun _ =>
          zcN))) (fun _ =>
         (hq8 _ hq6)))))))) (fun j32 hq5 =>
      (zcI (fun hq12 =>
       (hq5 _ hq3)) (fun _ =>
       (zcI (fun hq13 =>
        (hq5 _ hq3)) (fun _ =>
        (zcB0 (fun v11 =>
         (zcB (z_41 hq3) (fun zq14 hq15 =>
          (zcE hq15 (fun r12 hq16 =>
           (hq5 _ hq16)) (fun z13 hq17 =>
           (zcS hq17)))))))))))))))) (fun z2 hq18 =>
    (zcS hq18)))))
theorem z_262 {n : Nat}   (hc : ZJ c) : zc (d_262 n c) (Sum.elim ZJ ZE) := by
  unfold d_262
  exact (zcL (P := ZJ) (Z_p5 hc (by decide)) (fun c1 hq1 =>
   (zcB0 (fun v3 =>
    (zcB0 (fun v5 =>
     (zcJ (P := fun y : Int32 => (fun _ : Int32 => True) y) (fun p6 hq2 =>
      (zcB (z_260 hq1) (fun zq4 hq5 =>
       (zcE hq5 (fun r7 hq6 =>
        (zcI (fun hq7 =>
         (zcB (z_234 (ib_lt hq7) hq6) (fun r12 hq8 =>
          (zcB (z_257 hq8) (fun zq9 hq10 =>
           (zcE hq10 (fun r13 hq11 =>
            (zcB (zcW (I := (fun r : Int32 × Int32 × cS => ZJ r.2.2)) (X := (Sum.elim ZJ (Sum.elim ZJ ZE))) (fun s17 hq12 =>
             (zcI (fun hq13 =>
              (zcS hq12)) (fun _ =>
              (zcI (fun hq14 =>
               (zcS hq12)) (fun _ =>
               (zcB (z_263 (ib_lt hq7) hq12) (fun zq15 hq16 =>
                (zcE hq16 (fun r18 hq17 =>
                 (zcB (z_258 hq17) (fun r21 hq18 =>
                  (zcJ (P := fun y : cS => ZJ y) (fun p22 hq19 =>
                   (zcB (z_258 hq19) (fun r23 hq21 =>
                    (zcl (fun v26 =>
                     (zcS hq21)))))) (fun j124 hq20 =>
                   (zcI (fun hq22 =>
                    (hq20 _ hq18)) (fun _ =>
                    (zcI (fun hq23 =>
                     (zcB (z_263 (ib_lt hq7) hq18) (fun zq24 hq25 =>
                      (zcE hq25 (fun r29 hq26 =>
                       (zcI (fun hq27 =>
                        (zcL (P := ZJ) (Z_pI hq26 (zo_ (ib_lt hq7) 2 (by decide))) (fun c32 hq28 =>
                         (hq20 _ hq28)))) (fun _ =>
                        zcN))) (fun z30 hq29 =>
                       (zcS hq29)))))) (fun _ =>
                     zcN))))))))) (fun z19 hq30 =>
                 (zcS hq30)))))))))) hq11) (fun zq31 hq32 =>
             (zcE hq32 (fun x34 hq33 =>
              (zcB (z_257 hq33) (fun zq34 hq35 =>
               (zcE hq35 (fun r35 hq36 =>
                (zcB (z_241 (ib_lt hq7) hq36) (fun r37 hq37 =>
                 (zcJ (P := fun y : cS => ZJ y) (fun p38 hq38 =>
                  (zcL (P := ZJ) (Z_pI hq38 (by decide)) (fun c39 hq40 =>
                   (zcS hq40)))) (fun j158 hq39 =>
                  (zcI (fun hq41 =>
                   (zcB (z_41 hq37) (fun zq42 hq43 =>
                    (zcE hq43 (fun r41 hq44 =>
                     (hq39 _ hq44)) (fun z42 hq45 =>
                     (zcS hq45)))))) (fun _ =>
                   (hq39 _ hq37)))))))) (fun z36 hq46 =>
                (zcS hq46)))))) (fun x43 hq47 =>
              (zcS hq47)))))) (fun z14 hq48 =>
            (zcS hq48)))))))) (fun _ =>
         zcN))) (fun z8 hq49 =>
        (zcS hq49)))))) (fun j36 hq3 =>
      (zcI (fun hq50 =>
       (hq3 _ trivial)) (fun _ =>
       (hq3 _ trivial)))))))))))
theorem z_278 {n : Nat} {a1 : Int32}  (hc : ZJ c) : zc (d_278 n a1 c) (Sum.elim (fun r : Int64 × cS => ZJ r.2) ZE) := by
  unfold d_278
  exact (zcB0 (fun v1 =>
   (zcJ (P := fun y : cS => ZJ y) (fun p3 hq1 =>
    (zcJ (P := fun y : Int32 => (fun _ : Int32 => True) y) (fun p4 hq3 =>
     (zcJ (P := fun y : Int32 => (fun _ : Int32 => True) y) (fun p5 hq5 =>
      (zcJ (P := fun y : cS => ZJ y) (fun p6 hq7 =>
       (zcB (z_258 hq7) (fun r7 hq9 =>
        (zcJ (P := fun y : cS => ZJ y) (fun p9 hq10 =>
         (zcI (fun hq12 =>
          (zcl (fun v12 =>
           (zcL (P := ZJ) (Z_p5 hq10 (by decide)) (fun c14 hq13 =>
            (zcJ (P := fun y : Int64 => (fun _ : Int64 => True) y) (fun p16 hq14 =>
             (zcS hq13)) (fun j127 hq15 =>
             (zcI (fun hq16 =>
              (hq15 _ trivial)) (fun _ =>
              (hq15 _ trivial)))))))))) (fun _ =>
          zcN))) (fun j91 hq11 =>
         (zcI (fun hq17 =>
          (hq11 _ hq9)) (fun _ =>
          (zcB0 (fun v17 =>
           (zcI (fun hq18 =>
            (hq11 _ hq9)) (fun _ =>
            (zcB0 (fun v18 =>
             (zcB (z_41 hq9) (fun zq19 hq20 =>
              (zcE hq20 (fun r19 hq21 =>
               (hq11 _ hq21)) (fun z20 hq22 =>
               (zcS hq22)))))))))))))))))) (fun j63 hq8 =>
       (zcI (fun hq23 =>
        (hq8 _ hq1)) (fun _ =>
        (zcB0 (fun v21 =>
         (zcB (z_41 hq1) (fun zq24 hq25 =>
          (zcE hq25 (fun r22 hq26 =>
           (hq8 _ hq26)) (fun z23 hq27 =>
           (zcS hq27)))))))))))) (fun j50 hq6 =>
      (zcI (fun hq28 =>
       (hq6 _ trivial)) (fun _ =>
       (hq6 _ trivial)))))) (fun j40 hq4 =>
     (zcI (fun hq29 =>
      (hq4 _ trivial)) (fun _ =>
      (hq4 _ trivial)))))) (fun j30 hq2 =>
    (zcI (fun hq30 =>
     (hq2 _ hc)) (fun _ =>
     (zcI (fun hq31 =>
      (hq2 _ hc)) (fun _ =>
      (zcI (fun hq32 =>
       (hq2 _ hc)) (fun _ =>
       (zcB0 (fun v24 =>
        (zcB (z_41 hc) (fun zq33 hq34 =>
         (zcE hq34 (fun r25 hq35 =>
          (hq2 _ hq35)) (fun z26 hq36 =>
          (zcS hq36)))))))))))))))))
theorem z_265 {n : Nat} {k1 : Nat} (hk1 : k1 < 12) (hc : ZJ c) : zc (d_265 n k1 c) (Sum.elim ZJ ZE) := by
  unfold d_265
  exact (zcB (zcW (I := (fun r : Int32 × Int32 × cS => ZJ r.2.2)) (X := (Sum.elim ZJ (Sum.elim ZJ ZE))) (fun s3 hq1 =>
   (zcI (fun hq2 =>
    (zcS hq1)) (fun _ =>
    (zcI (fun hq3 =>
     (zcS hq1)) (fun _ =>
     (zcI (fun hq4 =>
      (zcB0 (fun v5 =>
       (zcJ (P := fun y : Int32 => (fun _ : Int32 => True) y) (fun p6 hq5 =>
        (zcJ (P := fun y : Int32 => (fun _ : Int32 => True) y) (fun p7 hq7 =>
         (zcB (z_260 hq1) (fun zq9 hq10 =>
          (zcE hq10 (fun r8 hq11 =>
           (zcB (z_257 hq11) (fun zq12 hq13 =>
            (zcE hq13 (fun r11 hq14 =>
             (zcB0 (fun v13 =>
              (zcJ (P := fun y : cS => ZJ y) (fun p14 hq15 =>
               (zcB0 (fun v15 =>
                (zcJ (P := fun y : Int32 => (fun _ : Int32 => True) y) (fun p16 hq17 =>
                 (zcL (P := ZJ) (Z_p5 hq15 (by decide)) (fun c18 hq19 =>
                  (zcB (z_258 hq19) (fun r20 hq20 =>
                   (zcJ (P := fun y : Int64 × cS => (fun r : Int64 × cS => ZJ r.2) y) (fun p22 hq21 =>
                    (zcI (fun hq23 =>
                     (zcL (P := ZJ) (Z_pL hq21) (fun c24 hq24 =>
                      (zcI (fun hq25 =>
                       (zcL (P := ZJ) (Z_pI hq24 (zk_ hk1 3 (by decide))) (fun c27 hq26 =>
                        (zcI (fun hq27 =>
                         (zcL (P := ZJ) (Z_pI hq26 (zk_ hk1 2 (by decide))) (fun c30 hq28 =>
                          (zcI (fun hq29 =>
                           (zcL (P := ZJ) (Z_pL hq28) (fun c33 hq30 =>
                            (zcL (P := ZJ) (Z_pI hq30 (zk0 hk1)) (fun c35 hq31 =>
                             (zcB (z_258 hq31) (fun r37 hq32 =>
                              (zcl (fun v40 =>
                               (zcS hq32)))))))))) (fun _ =>
                           zcN))))) (fun _ =>
                         zcN))))) (fun _ =>
                       zcN))))) (fun _ =>
                     zcN))) (fun j149 hq22 =>
                    (zcI (fun hq33 =>
                     (hq22 _ hq20)) (fun _ =>
                     (zcB (z_278 hq20) (fun zq34 hq35 =>
                      (zcE hq35 (fun r42 hq36 =>
                       (hq22 _ hq36)) (fun z43 hq37 =>
                       (zcS hq37)))))))))))))) (fun j106 hq18 =>
                 (zcI (fun hq38 =>
                  (hq18 _ trivial)) (fun _ =>
                  (hq18 _ trivial)))))))) (fun j91 hq16 =>
               (zcI (fun hq39 =>
                (hq16 _ hq14)) (fun _ =>
                (zcB0 (fun v44 =>
                 (zcI (fun hq40 =>
                  (hq16 _ hq14)) (fun _ =>
                  (zcB0 (fun v45 =>
                   (zcB (z_41 hq14) (fun zq41 hq42 =>
                    (zcE hq42 (fun r46 hq43 =>
                     (hq16 _ hq43)) (fun z47 hq44 =>
                     (zcS hq44)))))))))))))))))) (fun z12 hq45 =>
             (zcS hq45)))))) (fun z9 hq46 =>
           (zcS hq46)))))) (fun j51 hq8 =>
         (zcI (fun hq47 =>
          (hq8 _ trivial)) (fun _ =>
          (hq8 _ trivial)))))) (fun j38 hq6 =>
        (zcI (fun hq48 =>
         (hq6 _ trivial)) (fun _ =>
         (hq6 _ trivial)))))))) (fun _ =>
      zcN))))))) hc) (fun zq49 hq50 =>
   (zcE hq50 (fun x48 hq51 =>
    (zcB (z_257 hq51) (fun zq52 hq53 =>
     (zcE hq53 (fun r49 hq54 =>
      (zcS hq54)) (fun z50 hq55 =>
      (zcS hq55)))))) (fun x51 hq56 =>
    (zcS hq56)))))
theorem z_266 {n : Nat} {k1 : Nat} (hk1 : k1 < 12) (hc : ZJ c) : zc (d_266 n k1 c) (Sum.elim ZJ ZE) := by
  unfold d_266
  exact (zcL (P := ZJ) (Z_pI hc (zk0 hk1)) (fun c1 hq1 =>
   (zcB (zcW (I := (fun r : Int32 × cS => ZJ r.2)) (X := ZJ) (fun s4 hq2 =>
    (zcI (fun hq3 =>
     (zcS hq2)) (fun _ =>
     (zcB0 (fun v5 =>
      (zcI (fun hq4 =>
       (zcS hq2)) (fun _ =>
       (zcB0 (fun v6 =>
        (zcI (fun hq5 =>
         (zcS hq2)) (fun _ =>
         (zcB0 (fun v7 =>
          (zcL (P := ZJ) (Z_pI hq2 (zk0 hk1)) (fun c8 hq6 =>
           (zcL (P := ZJ) (Z_p5 hq6 (by decide)) (fun c10 hq7 =>
            (zcl (fun v13 =>
             (zcS hq7)))))))))))))))))))) hq1) (fun x15 hq8 =>
    (zcJ (P := fun y : cS => ZJ y) (fun p16 hq9 =>
     (zcS hq9)) (fun j85 hq10 =>
     (zcI (fun hq11 =>
      (zcB0 (fun v17 =>
       (zcB (z_41 hq8) (fun zq12 hq13 =>
        (zcE hq13 (fun r18 hq14 =>
         (hq10 _ hq14)) (fun z19 hq15 =>
         (zcS hq15)))))))) (fun _ =>
      (hq10 _ hq8)))))))))
theorem z_267 {n : Nat} {k1 : Nat} {a2 : Int32} (hk1 : k1 < 12) (hc : ZJ c) : zc (d_267 n k1 a2 c) ZJ := by
  unfold d_267
  exact (zcI (fun hq1 =>
   (zcl (fun v3 =>
    (zcB (zcW (I := (fun r : Int32 × Int32 × cS => ZJ r.2.2)) (X := ZJ) (fun s6 hq2 =>
     (zcI (fun hq3 =>
      (zcI (fun hq4 =>
       (zcS hq2)) (fun _ =>
       (zcI (fun hq5 =>
        (zcB (z_220 hk1 hq2) (fun r9 hq6 =>
         (zcI (fun hq7 =>
          (zcl (fun v12 =>
           (zcl (fun v15 =>
            (zcS hq6)))))) (fun _ =>
          zcN))))) (fun _ =>
        zcN))))) (fun _ =>
      zcN))) hc) (fun x17 hq8 =>
     (zcI (fun hq9 =>
      (zcl (fun v20 =>
       (zcB (zcW (I := (fun r : Int32 × Int32 × cS => ZJ r.2.2)) (X := ZJ) (fun s23 hq10 =>
        (zcI (fun hq11 =>
         (zcI (fun hq12 =>
          (zcS hq10)) (fun _ =>
          (zcI (fun hq13 =>
           (zcJ (P := fun y : cS => ZJ y) (fun p26 hq14 =>
            (zcI (fun hq16 =>
             (zcl (fun v29 =>
              (zcl (fun v32 =>
               (zcS hq14)))))) (fun _ =>
             zcN))) (fun j119 hq15 =>
            (zcI (fun hq17 =>
             (hq15 _ hq10)) (fun _ =>
             (zcI (fun hq18 =>
              (zcI (fun hq19 =>
               (zcB (z_221 hk1 (ib_lt hq19) hq10) (fun r36 hq20 =>
                (hq15 _ hq20)))) (fun _ =>
               zcN))) (fun _ =>
              zcN))))))) (fun _ =>
           zcN))))) (fun _ =>
         zcN))) hq8) (fun x37 hq21 =>
        (zcS hq21)))))) (fun _ =>
      zcN))))))) (fun _ =>
   zcN))
theorem z_276 {n : Nat} {o1 : Nat} (ho1 : o1 < 4) (hc : ZJ c) : zc (d_276 n o1 c) (Sum.elim (fun r : Int32 × cS => ZJ r.2) ZE) := by
  unfold d_276
  exact (zcB (z_259 hc) (fun zq1 hq2 =>
   (zcE hq2 (fun r1 hq3 =>
    (zcB0 (fun v3 =>
     (zcJ (P := fun y : cS => ZJ y) (fun p5 hq4 =>
      (zcL (P := ZJ) (Z_p5 hq4 (by decide)) (fun c6 hq6 =>
       (zcS hq6)))) (fun j22 hq5 =>
      (zcI (fun hq7 =>
       (hq5 _ hq3)) (fun _ =>
       (zcB0 (fun v8 =>
        (zcB (z_41 hq3) (fun zq8 hq9 =>
         (zcE hq9 (fun r9 hq10 =>
          (hq5 _ hq10)) (fun z10 hq11 =>
          (zcS hq11)))))))))))))) (fun z2 hq12 =>
    (zcS hq12)))))
theorem z_277 {n : Nat} {a1 : Int32} {k2 : Nat} (hk2 : k2 < 12) (hc : ZJ c) : zc (d_277 n a1 k2 c) (Sum.elim ZJ ZE) := by
  unfold d_277
  exact (zcI (fun hq1 =>
   (zcl (fun v3 =>
    (zcB (z_258 hc) (fun r5 hq2 =>
     (zcJ (P := fun y : cS => ZJ y) (fun p6 hq3 =>
      (zcB (zcW (I := (fun r : Int32 × cS => ZJ r.2)) (X := (Sum.elim ZJ (Sum.elim ZJ ZE))) (fun s8 hq5 =>
       (zcI (fun hq6 =>
        (zcS hq5)) (fun _ =>
        (zcB0 (fun v9 =>
         (zcJ (P := fun y : cS => ZJ y) (fun p10 hq7 =>
          (zcl (fun v12 =>
           (zcS hq7)))) (fun j190 hq8 =>
          (zcI (fun hq9 =>
           (zcB (z_41 hq5) (fun zq10 hq11 =>
            (zcE hq11 (fun r14 hq12 =>
             (hq8 _ hq12)) (fun z15 hq13 =>
             (zcS hq13)))))) (fun _ =>
           (hq8 _ hq5)))))))))) hq3) (fun zq14 hq15 =>
       (zcE hq15 (fun x16 hq16 =>
        (zcS hq16)) (fun x17 hq17 =>
        (zcS hq17)))))) (fun j155 hq4 =>
      (zcI (fun hq18 =>
       (hq4 _ hq2)) (fun _ =>
       (zcB (zcW (I := (fun r : Int32 × Int32 × cS => ZJ r.2.2)) (X := (Sum.elim ZJ (Sum.elim ZJ ZE))) (fun s20 hq19 =>
        (zcI (fun hq20 =>
         (zcS hq19)) (fun _ =>
         (zcI (fun hq21 =>
          (zcS hq19)) (fun _ =>
          (zcB (z_259 hq19) (fun zq22 hq23 =>
           (zcE hq23 (fun r21 hq24 =>
            (zcB0 (fun v24 =>
             (zcJ (P := fun y : cS => ZJ y) (fun p26 hq25 =>
              (zcB0 (fun v27 =>
               (zcJ (P := fun y : cS => ZJ y) (fun p28 hq27 =>
                (zcL (P := ZJ) (Z_p5 hq27 (by decide)) (fun c29 hq29 =>
                 (zcB (z_257 hq29) (fun zq30 hq31 =>
                  (zcE hq31 (fun r31 hq32 =>
                   (zcI (fun hq33 =>
                    (zcI (fun hq34 =>
                     (zcB (z_278 hq32) (fun zq35 hq36 =>
                      (zcE hq36 (fun r35 hq37 =>
                       (zcB (z_225 hq37) (fun r37 hq38 =>
                        (zcB (z_258 hq38) (fun r38 hq39 =>
                         (zcl (fun v41 =>
                          (zcS hq39)))))))) (fun z36 hq40 =>
                       (zcS hq40)))))) (fun _ =>
                     zcN))) (fun _ =>
                    zcN))) (fun z32 hq41 =>
                   (zcS hq41)))))))) (fun j91 hq28 =>
                (zcI (fun hq42 =>
                 (hq28 _ hq25)) (fun _ =>
                 (zcB0 (fun v43 =>
                  (zcB (z_41 hq25) (fun zq43 hq44 =>
                   (zcE hq44 (fun r44 hq45 =>
                    (hq28 _ hq45)) (fun z45 hq46 =>
                    (zcS hq46)))))))))))))) (fun j69 hq26 =>
              (zcI (fun hq47 =>
               (hq26 _ hq24)) (fun _ =>
               (zcB0 (fun v46 =>
                (zcB (z_41 hq24) (fun zq48 hq49 =>
                 (zcE hq49 (fun r47 hq50 =>
                  (hq26 _ hq50)) (fun z48 hq51 =>
                  (zcS hq51)))))))))))))) (fun z22 hq52 =>
            (zcS hq52)))))))))) hq2) (fun zq53 hq54 =>
        (zcE hq54 (fun x49 hq55 =>
         (zcB (z_257 hq55) (fun zq56 hq57 =>
          (zcE hq57 (fun r50 hq58 =>
           (hq4 _ hq58)) (fun z51 hq59 =>
           (zcS hq59)))))) (fun x52 hq60 =>
         (zcS hq60)))))))))))))) (fun _ =>
   zcN))
theorem z_274 {n : Nat} {a1 : Int32} {a2 : Int32}  (hc : ZJ c) : zc (d_274 n a1 a2 c) (Sum.elim (fun r : Int32 × cS => ZJ r.2) ZE) := by
  unfold d_274
  exact (zcI (fun hq1 =>
   (zcJ (P := fun y : cS => ZJ y) (fun p2 hq2 =>
    (zcL (P := ZJ) (Z_p5 hq2 (by decide)) (fun c3 hq4 =>
     (zcJ (P := fun y : Int32 × cS => (fun r : Int32 × cS => ZJ r.2) y) (fun p5 hq5 =>
      (zcB (z_259 hq5) (fun zq7 hq8 =>
       (zcE hq8 (fun r7 hq9 =>
        (zcB0 (fun v10 =>
         (zcJ (P := fun y : cS => ZJ y) (fun p12 hq10 =>
          (zcB0 (fun v13 =>
           (zcJ (P := fun y : cS => ZJ y) (fun p14 hq12 =>
            (zcB0 (fun v15 =>
             (zcJ (P := fun y : cS => ZJ y) (fun p16 hq14 =>
              (zcB (z_224 hq14) (fun r17 hq16 =>
               (zcJ (P := fun y : cS => ZJ y) (fun p19 hq17 =>
                (zcI (fun hq19 =>
                 (zcL (P := ZJ) (Z_pI hq17 (by decide)) (fun c21 hq20 =>
                  (zcJ (P := fun y : Int32 => (fun _ : Int32 => True) y) (fun p23 hq21 =>
                   (zcI (fun hq23 =>
                    (zcL (P := ZJ) (Z_pI hq20 (by decide)) (fun c25 hq24 =>
                     (zcL (P := ZJ) (Z_p5 hq24 (by decide)) (fun c27 hq25 =>
                      (zcS hq25)))))) (fun _ =>
                    zcN))) (fun j197 hq22 =>
                   (zcI (fun hq26 =>
                    (hq22 _ trivial)) (fun _ =>
                    (hq22 _ trivial)))))))) (fun _ =>
                 zcN))) (fun j167 hq18 =>
                (zcI (fun hq27 =>
                 (hq18 _ hq16)) (fun _ =>
                 (zcB0 (fun v29 =>
                  (zcB (z_41 hq16) (fun zq28 hq29 =>
                   (zcE hq29 (fun r30 hq30 =>
                    (hq18 _ hq30)) (fun z31 hq31 =>
                    (zcS hq31)))))))))))))) (fun j140 hq15 =>
              (zcI (fun hq32 =>
               (zcB0 (fun v32 =>
                (zcB (z_41 hq12) (fun zq33 hq34 =>
                 (zcE hq34 (fun r33 hq35 =>
                  (hq15 _ hq35)) (fun z34 hq36 =>
                  (zcS hq36)))))))) (fun _ =>
               (hq15 _ hq12)))))))) (fun j120 hq13 =>
            (zcI (fun hq37 =>
             (hq13 _ hq10)) (fun _ =>
             (zcB0 (fun v35 =>
              (zcI (fun hq38 =>
               (zcB0 (fun v36 =>
                (zcB (z_41 hq10) (fun zq39 hq40 =>
                 (zcE hq40 (fun r37 hq41 =>
                  (hq13 _ hq41)) (fun z38 hq42 =>
                  (zcS hq42)))))))) (fun _ =>
               (hq13 _ hq10)))))))))))) (fun j86 hq11 =>
          (zcI (fun hq43 =>
           (hq11 _ hq9)) (fun _ =>
           (zcB0 (fun v39 =>
            (zcB (z_41 hq9) (fun zq44 hq45 =>
             (zcE hq45 (fun r40 hq46 =>
              (hq11 _ hq46)) (fun z41 hq47 =>
              (zcS hq47)))))))))))))) (fun z8 hq48 =>
        (zcS hq48)))))) (fun j54 hq6 =>
      (zcJ (P := fun y : cS => ZJ y) (fun p42 hq49 =>
       (hq6 _ hq49)) (fun j53 hq50 =>
       (zcI (fun hq51 =>
        (hq50 _ hq4)) (fun _ =>
        (zcB (z_258 hq4) (fun r43 hq52 =>
         (zcI (fun hq53 =>
          (hq50 _ hq52)) (fun _ =>
          (hq6 _ hq52)))))))))))))) (fun j24 hq3 =>
    (zcI (fun hq54 =>
     (hq3 _ hc)) (fun _ =>
     (zcB0 (fun v44 =>
      (zcB (z_41 hc) (fun zq55 hq56 =>
       (zcE hq56 (fun r45 hq57 =>
        (hq3 _ hq57)) (fun z46 hq58 =>
        (zcS hq58)))))))))))) (fun _ =>
   zcN))
theorem z_273 {n : Nat} {a1 : Int32} {a2 : Int32}  (hc : ZJ c) : zc (d_273 n a1 a2 c) (Sum.elim ZJ ZE) := by
  unfold d_273
  exact (zcB (zcW (I := (fun r : Int32 × cS => ZJ r.2)) (X := (Sum.elim ZJ (Sum.elim ZJ ZE))) (fun s2 hq1 =>
   (zcI (fun hq2 =>
    (zcS hq1)) (fun _ =>
    (zcB0 (fun v3 =>
     (zcI (fun hq3 =>
      (zcB (z_274 hq1) (fun zq4 hq5 =>
       (zcE hq5 (fun r4 hq6 =>
        (zcB0 (fun v7 =>
         (zcJ (P := fun y : cS => ZJ y) (fun p8 hq7 =>
          (zcl (fun v10 =>
           (zcS hq7)))) (fun j144 hq8 =>
          (zcI (fun hq9 =>
           (zcI (fun hq10 =>
            (zcI (fun hq11 =>
             (zcI (fun hq12 =>
              (zcI (fun hq13 =>
               (zcB (z_277 (ib_lt hq13) hq6) (fun zq14 hq15 =>
                (zcE hq15 (fun r15 hq16 =>
                 (hq8 _ hq16)) (fun z16 hq17 =>
                 (zcS hq17)))))) (fun _ =>
               zcN))) (fun _ =>
              zcN))) (fun _ =>
             (zcB (z_257 hq6) (fun zq18 hq19 =>
              (zcE hq19 (fun r17 hq20 =>
               (zcI (fun hq21 =>
                (zcI (fun hq22 =>
                 (zcB (z_276 (ib_lt hq22) hq20) (fun zq23 hq24 =>
                  (zcE hq24 (fun r21 hq25 =>
                   (zcB0 (fun v23 =>
                    (zcI (fun hq26 =>
                     (zcB (z_225 hq25) (fun r25 hq27 =>
                      (hq8 _ hq27)))) (fun _ =>
                     zcN))))) (fun z22 hq28 =>
                   (zcS hq28)))))) (fun _ =>
                 zcN))) (fun _ =>
                zcN))) (fun z18 hq29 =>
               (zcS hq29)))))))) (fun _ =>
            zcN))) (fun _ =>
           (hq8 _ hq6)))))))) (fun z5 hq30 =>
        (zcS hq30)))))) (fun _ =>
      (zcS hq1)))))))) hc) (fun zq31 hq32 =>
   (zcE hq32 (fun x26 hq33 =>
    (zcS hq33)) (fun x27 hq34 =>
    (zcS hq34)))))
theorem z_272 {n : Nat} {a1 : Int32} {a2 : Int32}  (hc : ZJ c) : zc (d_272 n a1 a2 c) (Sum.elim ZJ ZE) := by
  unfold d_272
  exact (zcB0 (fun v1 =>
   (zcJ (P := fun y : cS => ZJ y) (fun p2 hq1 =>
    (zcB (z_273 hq1) (fun zq3 hq4 =>
     (zcE hq4 (fun r3 hq5 =>
      (zcS hq5)) (fun z4 hq6 =>
      (zcS hq6)))))) (fun j18 hq2 =>
    (zcI (fun hq7 =>
     (hq2 _ hc)) (fun _ =>
     (zcB0 (fun v5 =>
      (zcB (z_41 hc) (fun zq8 hq9 =>
       (zcE hq9 (fun r6 hq10 =>
        (hq2 _ hq10)) (fun z7 hq11 =>
        (zcS hq11)))))))))))))
theorem z_264 {n : Nat}   (hc : ZJ c) : zc (d_264 n c) (Sum.elim ZJ ZE) := by
  unfold d_264
  exact (zcL (P := ZJ) (Z_p5 hc (by decide)) (fun c1 hq1 =>
   (zcB0 (fun v3 =>
    (zcJ (P := fun y : Int32 => (fun _ : Int32 => True) y) (fun p4 hq2 =>
     (zcB (z_260 hq1) (fun zq4 hq5 =>
      (zcE hq5 (fun r5 hq6 =>
       (zcI (fun hq7 =>
        (zcB (z_217 (ib_lt hq7) hq6) (fun r10 hq8 =>
         (zcB (z_258 hq8) (fun r11 hq9 =>
          (zcJ (P := fun y : cS => ZJ y) (fun p12 hq10 =>
           (zcB (z_258 hq10) (fun r13 hq12 =>
            (zcJ (P := fun y : cS => ZJ y) (fun p14 hq13 =>
             (zcB (z_258 hq13) (fun r15 hq15 =>
              (zcI (fun hq16 =>
               (zcL (P := ZJ) (Z_pI hq15 (zk0 (ib_lt hq7))) (fun c17 hq17 =>
                (zcB (z_258 hq17) (fun r19 hq18 =>
                 (zcI (fun hq19 =>
                  (zcL (P := ZJ) (Z_pI hq18 (zk0 (ib_lt hq7))) (fun c21 hq20 =>
                   (zcB (z_258 hq20) (fun r23 hq21 =>
                    (zcJ (P := fun y : cS => ZJ y) (fun p24 hq22 =>
                     (zcB (z_257 hq22) (fun zq24 hq25 =>
                      (zcE hq25 (fun r25 hq26 =>
                       (zcL (P := ZJ) (Z_pI hq26 (by decide)) (fun c27 hq27 =>
                        (zcS hq27)))) (fun z26 hq28 =>
                       (zcS hq28)))))) (fun j149 hq23 =>
                     (zcI (fun hq29 =>
                      (hq23 _ hq21)) (fun _ =>
                      (zcB (z_272 hq21) (fun zq30 hq31 =>
                       (zcE hq31 (fun r29 hq32 =>
                        (zcB (z_267 (ib_lt hq7) hq32) (fun r31 hq33 =>
                         (hq23 _ hq33)))) (fun z30 hq34 =>
                        (zcS hq34)))))))))))))) (fun _ =>
                  zcN))))))) (fun _ =>
               zcN))))) (fun j86 hq14 =>
             (zcI (fun hq35 =>
              (hq14 _ hq12)) (fun _ =>
              (zcB (z_266 (ib_lt hq7) hq12) (fun zq36 hq37 =>
               (zcE hq37 (fun r32 hq38 =>
                (hq14 _ hq38)) (fun z33 hq39 =>
                (zcS hq39)))))))))))) (fun j71 hq11 =>
           (zcI (fun hq40 =>
            (hq11 _ hq9)) (fun _ =>
            (zcB (z_265 (ib_lt hq7) hq9) (fun zq41 hq42 =>
             (zcE hq42 (fun r34 hq43 =>
              (hq11 _ hq43)) (fun z35 hq44 =>
              (zcS hq44)))))))))))))) (fun _ =>
        zcN))) (fun z6 hq45 =>
       (zcS hq45)))))) (fun j32 hq3 =>
     (zcI (fun hq46 =>
      (hq3 _ trivial)) (fun _ =>
      (hq3 _ trivial)))))))))
theorem z_268 {n : Nat}   (hc : ZJ c) : zc (d_268 n c) (Sum.elim ZJ ZE) := by
  unfold d_268
  exact (zcL (P := ZJ) (Z_p5 hc (by decide)) (fun c1 hq1 =>
   (zcB0 (fun v3 =>
    (zcJ (P := fun y : Int32 => (fun _ : Int32 => True) y) (fun p4 hq2 =>
     (zcB (z_260 hq1) (fun zq4 hq5 =>
      (zcE hq5 (fun r5 hq6 =>
       (zcB (z_257 hq6) (fun zq7 hq8 =>
        (zcE hq8 (fun r8 hq9 =>
         (zcB (z_259 hq9) (fun zq10 hq11 =>
          (zcE hq11 (fun r10 hq12 =>
           (zcB0 (fun v12 =>
            (zcJ (P := fun y : cS => ZJ y) (fun p14 hq13 =>
             (zcL (P := ZJ) (Z_p5 hq13 (by decide)) (fun c15 hq15 =>
              (zcB (z_257 hq15) (fun zq16 hq17 =>
               (zcE hq17 (fun r17 hq18 =>
                (zcB (z_272 hq18) (fun zq19 hq20 =>
                 (zcE hq20 (fun r19 hq21 =>
                  (zcB (z_257 hq21) (fun zq22 hq23 =>
                   (zcE hq23 (fun r21 hq24 =>
                    (zcI (fun hq25 =>
                     (zcL (P := ZJ) (Z_pL hq24) (fun c24 hq26 =>
                      (zcI (fun hq27 =>
                       (zcL (P := ZJ) (Z_pI hq26 (by decide)) (fun c27 hq28 =>
                        (zcL (P := ZJ) (Z_pI hq28 (by decide)) (fun c29 hq29 =>
                         (zcS hq29)))))) (fun _ =>
                       zcN))))) (fun _ =>
                     zcN))) (fun z22 hq30 =>
                    (zcS hq30)))))) (fun z20 hq31 =>
                  (zcS hq31)))))) (fun z18 hq32 =>
                (zcS hq32)))))))) (fun j67 hq14 =>
             (zcI (fun hq33 =>
              (hq14 _ hq12)) (fun _ =>
              (zcB0 (fun v31 =>
               (zcB (z_41 hq12) (fun zq34 hq35 =>
                (zcE hq35 (fun r32 hq36 =>
                 (hq14 _ hq36)) (fun z33 hq37 =>
                 (zcS hq37)))))))))))))) (fun z11 hq38 =>
           (zcS hq38)))))) (fun z9 hq39 =>
         (zcS hq39)))))) (fun z6 hq40 =>
       (zcS hq40)))))) (fun j32 hq3 =>
     (zcI (fun hq41 =>
      (hq3 _ trivial)) (fun _ =>
      (hq3 _ trivial)))))))))
theorem z_269 {n : Nat}   (hc : ZJ c) : zc (d_269 n c) (Sum.elim ZJ ZE) := by
  unfold d_269
  exact (zcL (P := ZJ) (Z_p5 hc (by decide)) (fun c1 hq1 =>
   (zcB0 (fun v3 =>
    (zcJ (P := fun y : Int32 => (fun _ : Int32 => True) y) (fun p4 hq2 =>
     (zcB (z_260 hq1) (fun zq4 hq5 =>
      (zcE hq5 (fun r5 hq6 =>
       (zcB (z_258 hq6) (fun r9 hq7 =>
        (zcJ (P := fun y : Int32 × cS => (fun r : Int32 × cS => ZJ r.2) y) (fun p10 hq8 =>
         (zcL (P := ZJ) (Z_p5 hq8 (by decide)) (fun c11 hq10 =>
          (zcI (fun hq11 =>
           (zcL (P := ZJ) (Z_pL hq10) (fun c14 hq12 =>
            (zcI (fun hq13 =>
             (zcL (P := ZJ) (Z_pI hq12 (by decide)) (fun c17 hq14 =>
              (zcI (fun hq15 =>
               (zcL (P := ZJ) (Z_pI hq14 (by decide)) (fun c20 hq16 =>
                (zcI (fun hq17 =>
                 (zcL (P := ZJ) (Z_pI hq16 (by decide)) (fun c23 hq18 =>
                  (zcL (P := ZJ) (Z_pI hq18 (by decide)) (fun c25 hq19 =>
                   (zcB (z_273 hq19) (fun zq20 hq21 =>
                    (zcE hq21 (fun r27 hq22 =>
                     (zcB (z_257 hq22) (fun zq23 hq24 =>
                      (zcE hq24 (fun r29 hq25 =>
                       (zcS hq25)) (fun z30 hq26 =>
                       (zcS hq26)))))) (fun z28 hq27 =>
                     (zcS hq27)))))))))) (fun _ =>
                 zcN))))) (fun _ =>
               zcN))))) (fun _ =>
             zcN))))) (fun _ =>
           zcN))))) (fun j82 hq9 =>
         (zcI (fun hq28 =>
          (hq9 _ hq7)) (fun _ =>
          (zcB (z_259 hq7) (fun zq29 hq30 =>
           (zcE hq30 (fun r31 hq31 =>
            (zcB0 (fun v33 =>
             (zcJ (P := fun y : cS => ZJ y) (fun p35 hq32 =>
              (zcL (P := ZJ) (Z_p5 hq32 (by decide)) (fun c36 hq34 =>
               (hq9 _ hq34)))) (fun j72 hq33 =>
              (zcI (fun hq35 =>
               (hq33 _ hq31)) (fun _ =>
               (zcB0 (fun v38 =>
                (zcB (z_41 hq31) (fun zq36 hq37 =>
                 (zcE hq37 (fun r39 hq38 =>
                  (hq33 _ hq38)) (fun z40 hq39 =>
                  (zcS hq39)))))))))))))) (fun z32 hq40 =>
            (zcS hq40)))))))))))) (fun z6 hq41 =>
       (zcS hq41)))))) (fun j32 hq3 =>
     (zcI (fun hq42 =>
      (hq3 _ trivial)) (fun _ =>
      (hq3 _ trivial)))))))))
theorem z_270 {n : Nat}   (hc : ZJ c) : zc (d_270 n c) (Sum.elim ZJ ZE) := by
  unfold d_270
  exact (zcL (P := ZJ) (Z_p5 hc (by decide)) (fun c1 hq1 =>
   (zcI (fun hq2 =>
    (zcl (fun v5 =>
     (zcI (fun hq3 =>
      (zcB0 (fun v8 =>
       (zcJ (P := fun y : Int32 => (fun _ : Int32 => True) y) (fun p9 hq4 =>
        (zcJ (P := fun y : Int32 => (fun _ : Int32 => True) y) (fun p10 hq6 =>
         (zcB (z_260 hq1) (fun zq8 hq9 =>
          (zcE hq9 (fun r11 hq10 =>
           (zcI (fun hq11 =>
            (zcL (P := ZJ) (Z_pL hq10) (fun c15 hq12 =>
             (zcB (z_273 hq12) (fun zq13 hq14 =>
              (zcE hq14 (fun r17 hq15 =>
               (zcB (z_258 hq15) (fun r19 hq16 =>
                (zcJ (P := fun y : Int32 × cS => (fun r : Int32 × cS => ZJ r.2) y) (fun p20 hq17 =>
                 (zcI (fun hq19 =>
                  (zcL (P := ZJ) (Z_pI hq17 (by decide)) (fun c22 hq20 =>
                   (zcB (z_257 hq20) (fun zq21 hq22 =>
                    (zcE hq22 (fun r24 hq23 =>
                     (zcI (fun hq24 =>
                      (zcI (fun hq25 =>
                       (zcL (P := ZJ) (Z_pI hq23 (by decide)) (fun c28 hq26 =>
                        (zcS hq26)))) (fun _ =>
                       zcN))) (fun _ =>
                      zcN))) (fun z25 hq27 =>
                     (zcS hq27)))))))) (fun _ =>
                  zcN))) (fun j139 hq18 =>
                 (zcI (fun hq28 =>
                  (hq18 _ hq16)) (fun _ =>
                  (zcB (z_278 hq16) (fun zq29 hq30 =>
                   (zcE hq30 (fun r30 hq31 =>
                    (hq18 _ hq31)) (fun z31 hq32 =>
                    (zcS hq32)))))))))))) (fun z18 hq33 =>
               (zcS hq33)))))))) (fun _ =>
            zcN))) (fun z12 hq34 =>
           (zcS hq34)))))) (fun j66 hq7 =>
         (zcI (fun hq35 =>
          (hq7 _ trivial)) (fun _ =>
          (hq7 _ trivial)))))) (fun j55 hq5 =>
        (zcI (fun hq36 =>
         (hq5 _ trivial)) (fun _ =>
         (hq5 _ trivial)))))))) (fun _ =>
      zcN))))) (fun _ =>
    zcN))))
theorem z_271 {n : Nat}   (hc : ZJ c) : zc (d_271 n c) (Sum.elim ZJ ZE) := by
  unfold d_271
  exact (zcL (P := ZJ) (Z_p5 hc (by decide)) (fun c1 hq1 =>
   (zcI (fun hq2 =>
    (zcl (fun v5 =>
     (zcI (fun hq3 =>
      (zcB0 (fun v8 =>
       (zcJ (P := fun y : Int32 => (fun _ : Int32 => True) y) (fun p9 hq4 =>
        (zcJ (P := fun y : Int32 => (fun _ : Int32 => True) y) (fun p10 hq6 =>
         (zcB (z_260 hq1) (fun zq8 hq9 =>
          (zcE hq9 (fun r11 hq10 =>
           (zcL (P := ZJ) (Z_p5 hq10 (by decide)) (fun c14 hq11 =>
            (zcI (fun hq12 =>
             (zcL (P := ZJ) (Z_pL hq11) (fun c17 hq13 =>
              (zcI (fun hq14 =>
               (zcL (P := ZJ) (Z_pI hq13 (by decide)) (fun c20 hq15 =>
                (zcI (fun hq16 =>
                 (zcL (P := ZJ) (Z_pI hq15 (by decide)) (fun c23 hq17 =>
                  (zcI (fun hq18 =>
                   (zcL (P := ZJ) (Z_pI hq17 (by decide)) (fun c26 hq19 =>
                    (zcI (fun hq20 =>
                     (zcL (P := ZJ) (Z_pI hq19 (by decide)) (fun c29 hq21 =>
                      (zcI (fun hq22 =>
                       (zcI (fun hq23 =>
                        (zcL (P := ZJ) (Z_pI hq21 (by decide)) (fun c33 hq24 =>
                         (zcB (z_257 hq24) (fun zq25 hq26 =>
                          (zcE hq26 (fun r35 hq27 =>
                           (zcB0 (fun v37 =>
                            (zcJ (P := fun y : Int32 => (fun _ : Int32 => True) y) (fun p38 hq28 =>
                             (zcB (zcW (I := (fun r : Int32 × Int32 × cS => ZJ r.2.2)) (X := (Sum.elim ZJ (Sum.elim ZJ ZE))) (fun s41 hq30 =>
                              (zcI (fun hq31 =>
                               (zcS hq30)) (fun _ =>
                               (zcI (fun hq32 =>
                                (zcS hq30)) (fun _ =>
                                (zcI (fun hq33 =>
                                 (zcB0 (fun v43 =>
                                  (zcJ (P := fun y : Int32 => (fun _ : Int32 => True) y) (fun p44 hq34 =>
                                   (zcJ (P := fun y : Int32 => (fun _ : Int32 => True) y) (fun p45 hq36 =>
                                    (zcB (z_260 hq30) (fun zq38 hq39 =>
                                     (zcE hq39 (fun r46 hq40 =>
                                      (zcB (z_162 hq40) (fun r48 hq41 =>
                                       (zcI (fun hq42 =>
                                        (zcI (fun hq43 =>
                                         (zcL (P := ZJ) (Z_pI hq41 (by decide)) (fun c51 hq44 =>
                                          (zcB0 (fun v53 =>
                                           (zcB (z_273 hq44) (fun zq45 hq46 =>
                                            (zcE hq46 (fun r54 hq47 =>
                                             (zcB (z_258 hq47) (fun r56 hq48 =>
                                              (zcl (fun v59 =>
                                               (zcS hq48)))))) (fun z55 hq49 =>
                                             (zcS hq49)))))))))) (fun _ =>
                                         zcN))) (fun _ =>
                                        zcN))))) (fun z47 hq50 =>
                                      (zcS hq50)))))) (fun j257 hq37 =>
                                    (zcI (fun hq51 =>
                                     (hq37 _ trivial)) (fun _ =>
                                     (hq37 _ trivial)))))) (fun j246 hq35 =>
                                   (zcI (fun hq52 =>
                                    (hq35 _ trivial)) (fun _ =>
                                    (hq35 _ trivial)))))))) (fun _ =>
                                 zcN))))))) hq27) (fun zq53 hq54 =>
                              (zcE hq54 (fun x61 hq55 =>
                               (zcB (z_257 hq55) (fun zq56 hq57 =>
                                (zcE hq57 (fun r62 hq58 =>
                                 (zcB0 (fun v64 =>
                                  (zcB (z_273 hq58) (fun zq59 hq60 =>
                                   (zcE hq60 (fun r65 hq61 =>
                                    (zcB (z_257 hq61) (fun zq62 hq63 =>
                                     (zcE hq63 (fun r67 hq64 =>
                                      (zcS hq64)) (fun z68 hq65 =>
                                      (zcS hq65)))))) (fun z66 hq66 =>
                                    (zcS hq66)))))))) (fun z63 hq67 =>
                                 (zcS hq67)))))) (fun x69 hq68 =>
                               (zcS hq68)))))) (fun j190 hq29 =>
                             (zcI (fun hq69 =>
                              (hq29 _ trivial)) (fun _ =>
                              (hq29 _ trivial)))))))) (fun z36 hq70 =>
                           (zcS hq70)))))))) (fun _ =>
                        zcN))) (fun _ =>
                       zcN))))) (fun _ =>
                     zcN))))) (fun _ =>
                   zcN))))) (fun _ =>
                 zcN))))) (fun _ =>
               zcN))))) (fun _ =>
             zcN))))) (fun z12 hq71 =>
           (zcS hq71)))))) (fun j66 hq7 =>
         (zcI (fun hq72 =>
          (hq7 _ trivial)) (fun _ =>
          (hq7 _ trivial)))))) (fun j55 hq5 =>
        (zcI (fun hq73 =>
         (hq5 _ trivial)) (fun _ =>
         (hq5 _ trivial)))))))) (fun _ =>
      zcN))))) (fun _ =>
    zcN))))
theorem z_283 {n : Nat} {a1 : Int32}  (hc : ZJ c) : zc (d_283 n a1 c) (Sum.elim ZJ ZE) := by
  unfold d_283
  exact (zcB (z_259 hc) (fun zq1 hq2 =>
   (zcE hq2 (fun r1 hq3 =>
    (zcB0 (fun v4 =>
     (zcJ (P := fun y : cS => ZJ y) (fun p6 hq4 =>
      (zcJ (P := fun y : cS => ZJ y) (fun p7 hq6 =>
       (zcJ (P := fun y : Int32 × cS => (fun r : Int32 × cS => ZJ r.2) y) (fun p8 hq8 =>
        (zcI (fun hq10 =>
         (zcL (P := ZJ) (Z_pI hq8 (by decide)) (fun c10 hq11 =>
          (zcL (P := ZJ) (Z_p5 hq11 (by decide)) (fun c12 hq12 =>
           (zcS hq12)))))) (fun _ =>
         zcN))) (fun j110 hq9 =>
        (zcI (fun hq13 =>
         (hq9 _ hq6)) (fun _ =>
         (zcB (z_162 hq6) (fun r14 hq14 =>
          (hq9 _ hq14)))))))) (fun j80 hq7 =>
       (zcI (fun hq15 =>
        (hq7 _ hq4)) (fun _ =>
        (zcI (fun hq16 =>
         (zcI (fun hq17 =>
          (hq7 _ hq4)) (fun _ =>
          (zcB0 (fun v16 =>
           (zcB (z_41 hq4) (fun zq18 hq19 =>
            (zcE hq19 (fun r17 hq20 =>
             (hq7 _ hq20)) (fun z18 hq21 =>
             (zcS hq21)))))))))) (fun _ =>
         zcN))))))) (fun j48 hq5 =>
      (zcI (fun hq22 =>
       (hq5 _ hq3)) (fun _ =>
       (zcI (fun hq23 =>
        (zcI (fun hq24 =>
         (zcB0 (fun v20 =>
          (zcB (z_41 hq3) (fun zq25 hq26 =>
           (zcE hq26 (fun r21 hq27 =>
            (hq5 _ hq27)) (fun z22 hq28 =>
            (zcS hq28)))))))) (fun _ =>
         (hq5 _ hq3)))) (fun _ =>
        zcN))))))))) (fun z2 hq29 =>
    (zcS hq29)))))
theorem z_284 {n : Nat} {a1 : Int32}  (hc : ZJ c) : zc (d_284 n a1 c) (Sum.elim ZJ ZE) := by
  unfold d_284
  exact (zcB0 (fun v1 =>
   (zcI (fun hq1 =>
    (zcL (P := ZJ) (Z_pI hc (by decide)) (fun c3 hq2 =>
     (zcB (z_259 hq2) (fun zq3 hq4 =>
      (zcE hq4 (fun r5 hq5 =>
       (zcI (fun hq6 =>
        (zcL (P := ZJ) (Z_pL hq5) (fun c8 hq7 =>
         (zcL (P := ZJ) (Z_p5 hq7 (by decide)) (fun c10 hq8 =>
          (zcS hq8)))))) (fun _ =>
        zcN))) (fun z6 hq9 =>
       (zcS hq9)))))))) (fun _ =>
    zcN))))
theorem z_285 {n : Nat} {a1 : Int32}  (hc : ZJ c) : zc (d_285 n a1 c) (Sum.elim ZJ ZE) := by
  unfold d_285
  exact (zcB (z_259 hc) (fun zq1 hq2 =>
   (zcE hq2 (fun r1 hq3 =>
    (zcB0 (fun v3 =>
     (zcJ (P := fun y : cS => ZJ y) (fun p5 hq4 =>
      (zcL (P := ZJ) (Z_p5 hq4 (by decide)) (fun c6 hq6 =>
       (zcB (z_257 hq6) (fun zq7 hq8 =>
        (zcE hq8 (fun r8 hq9 =>
         (zcI (fun hq10 =>
          (zcL (P := ZJ) (Z_pI hq9 (by decide)) (fun c11 hq11 =>
           (zcI (fun hq12 =>
            (zcB (z_276 (ib_lt hq12) hq11) (fun zq13 hq14 =>
             (zcE hq14 (fun r14 hq15 =>
              (zcI (fun hq16 =>
               (zcL (P := ZJ) (Z_pI hq15 (by decide)) (fun c17 hq17 =>
                (zcS hq17)))) (fun _ =>
               zcN))) (fun z15 hq18 =>
              (zcS hq18)))))) (fun _ =>
            zcN))))) (fun _ =>
          zcN))) (fun z9 hq19 =>
         (zcS hq19)))))))) (fun j25 hq5 =>
      (zcI (fun hq20 =>
       (hq5 _ hq3)) (fun _ =>
       (zcB0 (fun v19 =>
        (zcB (z_41 hq3) (fun zq21 hq22 =>
         (zcE hq22 (fun r20 hq23 =>
          (hq5 _ hq23)) (fun z21 hq24 =>
          (zcS hq24)))))))))))))) (fun z2 hq25 =>
    (zcS hq25)))))
theorem z_281 {n : Nat} {a1 : Int32}  (hc : ZJ c) : zc (d_281 n a1 c) (Sum.elim ZJ ZE) := by
  unfold d_281
  exact (zcI (fun hq1 =>
   (zcJ (P := fun y : cS => ZJ y) (fun p2 hq2 =>
    (zcS hq2)) (fun j258 hq3 =>
    (zcJ (P := fun y : Unit => (fun _ : Unit => True) y) (fun p3 hq4 =>
     (zcB (z_283 hc) (fun zq6 hq7 =>
      (zcE hq7 (fun r4 hq8 =>
       (hq3 _ hq8)) (fun z5 hq9 =>
       (zcS hq9)))))) (fun j171 hq5 =>
     (zcJ (P := fun y : Unit => (fun _ : Unit => True) y) (fun p6 hq10 =>
      (zcB (z_284 hc) (fun zq12 hq13 =>
       (zcE hq13 (fun r7 hq14 =>
        (zcB (z_257 hq14) (fun zq15 hq16 =>
         (zcE hq16 (fun r9 hq17 =>
          (zcB0 (fun v11 =>
           (zcI (fun hq18 =>
            (zcL (P := ZJ) (Z_pI hq17 (by decide)) (fun c13 hq19 =>
             (zcB (z_259 hq19) (fun zq20 hq21 =>
              (zcE hq21 (fun r15 hq22 =>
               (zcI (fun hq23 =>
                (zcL (P := ZJ) (Z_pL hq22) (fun c18 hq24 =>
                 (zcL (P := ZJ) (Z_p5 hq24 (by decide)) (fun c20 hq25 =>
                  (hq3 _ hq25)))))) (fun _ =>
                zcN))) (fun z16 hq26 =>
               (zcS hq26)))))))) (fun _ =>
            zcN))))) (fun z10 hq27 =>
          (zcS hq27)))))) (fun z8 hq28 =>
        (zcS hq28)))))) (fun j179 hq11 =>
      (zcJ (P := fun y : Unit => (fun _ : Unit => True) y) (fun p22 hq29 =>
       (zcB (z_284 hc) (fun zq31 hq32 =>
        (zcE hq32 (fun r23 hq33 =>
         (hq3 _ hq33)) (fun z24 hq34 =>
         (zcS hq34)))))) (fun j229 hq30 =>
       (zcI (fun hq35 =>
        (zcB (z_278 hc) (fun zq36 hq37 =>
         (zcE hq37 (fun r26 hq38 =>
          (zcI (fun hq39 =>
           (zcL (P := ZJ) (Z_pI hq38 (by decide)) (fun c29 hq40 =>
            (zcB (z_273 hq40) (fun zq41 hq42 =>
             (zcE hq42 (fun r31 hq43 =>
              (zcB0 (fun v33 =>
               (zcI (fun hq44 =>
                (zcL (P := ZJ) (Z_pI hq43 (by decide)) (fun c35 hq45 =>
                 (hq3 _ hq45)))) (fun _ =>
                zcN))))) (fun z32 hq46 =>
              (zcS hq46)))))))) (fun _ =>
           zcN))) (fun z27 hq47 =>
          (zcS hq47)))))) (fun _ =>
        (zcI (fun hq48 =>
         (zcB (z_273 hc) (fun zq49 hq50 =>
          (zcE hq50 (fun r38 hq51 =>
           (zcB0 (fun v40 =>
            (zcI (fun hq52 =>
             (zcL (P := ZJ) (Z_pI hq51 (by decide)) (fun c42 hq53 =>
              (hq3 _ hq53)))) (fun _ =>
             zcN))))) (fun z39 hq54 =>
           (zcS hq54)))))) (fun _ =>
         (zcI (fun hq55 =>
          (hq5 _ trivial)) (fun _ =>
          (zcI (fun hq56 =>
           (hq5 _ trivial)) (fun _ =>
           (zcI (fun hq57 =>
            (hq11 _ trivial)) (fun _ =>
            (zcI (fun hq58 =>
             (hq11 _ trivial)) (fun _ =>
             (zcI (fun hq59 =>
              (hq11 _ trivial)) (fun _ =>
              (zcI (fun hq60 =>
               (hq3 _ hc)) (fun _ =>
               (zcI (fun hq61 =>
                (hq3 _ hc)) (fun _ =>
                (zcI (fun hq62 =>
                 (hq3 _ hc)) (fun _ =>
                 (zcI (fun hq63 =>
                  (hq3 _ hc)) (fun _ =>
                  (zcI (fun hq64 =>
                   (hq3 _ hc)) (fun _ =>
                   (zcI (fun hq65 =>
                    (hq3 _ hc)) (fun _ =>
                    (zcI (fun hq66 =>
                     (hq30 _ trivial)) (fun _ =>
                     (zcI (fun hq67 =>
                      (hq30 _ trivial)) (fun _ =>
                      (zcI (fun hq68 =>
                       (zcB (z_285 hc) (fun zq69 hq70 =>
                        (zcE hq70 (fun r58 hq71 =>
                         (zcB (z_284 hq71) (fun zq72 hq73 =>
                          (zcE hq73 (fun r60 hq74 =>
                           (hq3 _ hq74)) (fun z61 hq75 =>
                           (zcS hq75)))))) (fun z59 hq76 =>
                         (zcS hq76)))))) (fun _ =>
                       (zcI (fun hq77 =>
                        (zcB (z_285 hc) (fun zq78 hq79 =>
                         (zcE hq79 (fun r63 hq80 =>
                          (hq3 _ hq80)) (fun z64 hq81 =>
                          (zcS hq81)))))) (fun _ =>
                        (hq3 _ hc)))))))))))))))))))))))))))))))))))))))))))) (fun _ =>
   zcN))
theorem z_279 {n : Nat}   (hc : ZJ c) : zc (d_279 n c) (Sum.elim ZJ ZE) := by
  unfold d_279
  exact (zcB0 (fun v1 =>
   (zcB0 (fun v3 =>
    (zcJ (P := fun y : Int32 => (fun _ : Int32 => True) y) (fun p4 hq1 =>
     (zcJ (P := fun y : cS => ZJ y) (fun p6 hq3 =>
      (zcJ (P := fun y : Int64 => (fun _ : Int64 => True) y) (fun p7 hq5 =>
       (zcJ (P := fun y : cS => ZJ y) (fun p9 hq7 =>
        (zcI (fun hq9 =>
         (zcJ (P := fun y : cS => ZJ y) (fun p11 hq10 =>
          (zcJ (P := fun y : cS => ZJ y) (fun p12 hq12 =>
           (zcB0 (fun v13 =>
            (zcB0 (fun v14 =>
             (zcJ (P := fun y : cS => ZJ y) (fun p15 hq14 =>
              (zcB (z_164 hq14) (fun r16 hq16 =>
               (zcB0 (fun v18 =>
                (zcI (fun hq17 =>
                 (zcL (P := ZJ) (Z_pI hq16 (by decide)) (fun c20 hq18 =>
                  (zcL (P := ZJ) (Z_p5 hq18 (by decide)) (fun c22 hq19 =>
                   (zcB (z_281 hq19) (fun zq20 hq21 =>
                    (zcE hq21 (fun r24 hq22 =>
                     (zcB (z_257 hq22) (fun zq23 hq24 =>
                      (zcE hq24 (fun r26 hq25 =>
                       (zcS hq25)) (fun z27 hq26 =>
                       (zcS hq26)))))) (fun z25 hq27 =>
                     (zcS hq27)))))))))) (fun _ =>
                 zcN))))))) (fun j161 hq15 =>
              (zcI (fun hq28 =>
               (zcB0 (fun v28 =>
                (zcB (z_41 hq12) (fun zq29 hq30 =>
                 (zcE hq30 (fun r29 hq31 =>
                  (hq15 _ hq31)) (fun z30 hq32 =>
                  (zcS hq32)))))))) (fun _ =>
               (hq15 _ hq12)))))))))) (fun j142 hq13 =>
           (zcI (fun hq33 =>
            (hq13 _ hq10)) (fun _ =>
            (zcL (P := ZJ) (Z_p5 hq10 (by decide)) (fun c31 hq34 =>
             (zcB (z_257 hq34) (fun zq35 hq36 =>
              (zcE hq36 (fun r33 hq37 =>
               (hq13 _ hq37)) (fun z34 hq38 =>
               (zcS hq38)))))))))))) (fun j122 hq11 =>
          (zcJ (P := fun y : Unit => (fun _ : Unit => True) y) (fun p35 hq39 =>
           (zcB (z_41 hq7) (fun zq41 hq42 =>
            (zcE hq42 (fun r36 hq43 =>
             (hq11 _ hq43)) (fun z37 hq44 =>
             (zcS hq44)))))) (fun j115 hq40 =>
           (zcI (fun hq45 =>
            (hq40 _ trivial)) (fun _ =>
            (zcI (fun hq46 =>
             (hq11 _ hq7)) (fun _ =>
             (hq40 _ trivial)))))))))) (fun _ =>
         zcN))) (fun j85 hq8 =>
        (zcI (fun hq47 =>
         (hq8 _ hq3)) (fun _ =>
         (zcB0 (fun v38 =>
          (zcI (fun hq48 =>
           (hq8 _ hq3)) (fun _ =>
           (zcB (z_41 hq3) (fun zq49 hq50 =>
            (zcE hq50 (fun r39 hq51 =>
             (hq8 _ hq51)) (fun z40 hq52 =>
             (zcS hq52)))))))))))))) (fun j59 hq6 =>
       (zcI (fun hq53 =>
        (hq6 _ trivial)) (fun _ =>
        (zcI (fun hq54 =>
         (hq6 _ trivial)) (fun _ =>
         zcN))))))) (fun j39 hq4 =>
      (zcI (fun hq55 =>
       (zcB0 (fun v42 =>
        (zcB0 (fun v43 =>
         (zcI (fun hq56 =>
          (zcB (z_41 hc) (fun zq57 hq58 =>
           (zcE hq58 (fun r44 hq59 =>
            (hq4 _ hq59)) (fun z45 hq60 =>
            (zcS hq60)))))) (fun _ =>
          (hq4 _ hc)))))))) (fun _ =>
       (hq4 _ hc)))))) (fun j18 hq2 =>
     (zcI (fun hq61 =>
      (hq2 _ trivial)) (fun _ =>
      (hq2 _ trivial)))))))))
theorem z_44 {n : Nat}   (hc : ZJ c) : zc (d_44 n c) (Sum.elim ZJ ZE) := by
  unfold d_44
  exact (zcB (zcW (I := (fun r : Int32 × cS => ZJ r.2)) (X := (Sum.elim ZJ (Sum.elim ZJ ZE))) (fun s2 hq1 =>
   (zcI (fun hq2 =>
    (zcS hq1)) (fun _ =>
    (zcB0 (fun v3 =>
     (zcI (fun hq3 =>
      (zcB (z_262 hq1) (fun zq4 hq5 =>
       (zcE hq5 (fun r4 hq6 =>
        (zcl (fun v7 =>
         (zcS hq6)))) (fun z5 hq7 =>
        (zcS hq7)))))) (fun _ =>
      (zcS hq1)))))))) hc) (fun zq8 hq9 =>
   (zcE hq9 (fun x9 hq10 =>
    (zcB (zcW (I := (fun r : Int32 × cS => ZJ r.2)) (X := (Sum.elim ZJ (Sum.elim ZJ ZE))) (fun s11 hq11 =>
     (zcI (fun hq12 =>
      (zcS hq11)) (fun _ =>
      (zcB0 (fun v12 =>
       (zcI (fun hq13 =>
        (zcB (z_264 hq11) (fun zq14 hq15 =>
         (zcE hq15 (fun r13 hq16 =>
          (zcl (fun v16 =>
           (zcS hq16)))) (fun z14 hq17 =>
          (zcS hq17)))))) (fun _ =>
        (zcS hq11)))))))) hq10) (fun zq18 hq19 =>
     (zcE hq19 (fun x18 hq20 =>
      (zcB (zcW (I := (fun r : Int32 × cS => ZJ r.2)) (X := (Sum.elim ZJ (Sum.elim ZJ ZE))) (fun s20 hq21 =>
       (zcI (fun hq22 =>
        (zcS hq21)) (fun _ =>
        (zcB0 (fun v21 =>
         (zcI (fun hq23 =>
          (zcB (z_268 hq21) (fun zq24 hq25 =>
           (zcE hq25 (fun r22 hq26 =>
            (zcl (fun v25 =>
             (zcS hq26)))) (fun z23 hq27 =>
            (zcS hq27)))))) (fun _ =>
          (zcS hq21)))))))) hq20) (fun zq28 hq29 =>
       (zcE hq29 (fun x27 hq30 =>
        (zcS hq30)) (fun x28 hq31 =>
        (zcS hq31)))))) (fun x29 hq32 =>
      (zcS hq32)))))) (fun x30 hq33 =>
    (zcS hq33)))))
theorem z_45 {n : Nat}   (hc : ZJ c) : zc (d_45 n c) (Sum.elim ZJ ZE) := by
  unfold d_45
  exact (zcB (zcW (I := (fun r : Int32 × cS => ZJ r.2)) (X := (Sum.elim ZJ (Sum.elim ZJ ZE))) (fun s2 hq1 =>
   (zcI (fun hq2 =>
    (zcS hq1)) (fun _ =>
    (zcB0 (fun v3 =>
     (zcI (fun hq3 =>
      (zcB (z_269 hq1) (fun zq4 hq5 =>
       (zcE hq5 (fun r4 hq6 =>
        (zcB (zcW (I := (fun r : Int32 × cS => ZJ r.2)) (X := (Sum.elim ZJ (Sum.elim ZJ ZE))) (fun s7 hq7 =>
         (zcI (fun hq8 =>
          (zcS hq7)) (fun _ =>
          (zcB0 (fun v8 =>
           (zcJ (P := fun y : Unit => (fun _ : Unit => True) y) (fun p9 hq9 =>
            (zcB0 (fun v10 =>
             (zcJ (P := fun y : cS => ZJ y) (fun p11 hq11 =>
              (zcl (fun v13 =>
               (zcS hq11)))) (fun j110 hq12 =>
              (zcI (fun hq13 =>
               (zcB (z_270 hq7) (fun zq14 hq15 =>
                (zcE hq15 (fun r30 hq16 =>
                 (hq12 _ hq16)) (fun z31 hq17 =>
                 (zcS hq17)))))) (fun _ =>
               (zcB (z_271 hq7) (fun zq18 hq19 =>
                (zcE hq19 (fun r15 hq20 =>
                 (zcB (zcW (I := (fun r : Int32 × cS => ZJ r.2)) (X := (Sum.elim ZJ (Sum.elim ZJ ZE))) (fun s18 hq21 =>
                  (zcI (fun hq22 =>
                   (zcS hq21)) (fun _ =>
                   (zcJ (P := fun y : Unit => (fun _ : Unit => True) y) (fun p19 hq23 =>
                    (zcB (z_279 hq21) (fun zq25 hq26 =>
                     (zcE hq26 (fun r20 hq27 =>
                      (zcl (fun v23 =>
                       (zcS hq27)))) (fun z21 hq28 =>
                      (zcS hq28)))))) (fun j94 hq24 =>
                    (zcI (fun hq29 =>
                     (hq24 _ trivial)) (fun _ =>
                     (zcB0 (fun v25 =>
                      (zcI (fun hq30 =>
                       (zcS hq21)) (fun _ =>
                       (hq24 _ trivial)))))))))))) hq20) (fun zq31 hq32 =>
                  (zcE hq32 (fun x26 hq33 =>
                   (zcB (z_257 hq33) (fun zq34 hq35 =>
                    (zcE hq35 (fun r27 hq36 =>
                     (hq12 _ hq36)) (fun z28 hq37 =>
                     (zcS hq37)))))) (fun x29 hq38 =>
                   (zcS hq38)))))) (fun z16 hq39 =>
                 (zcS hq39)))))))))))) (fun j52 hq10 =>
            (zcI (fun hq40 =>
             (hq10 _ trivial)) (fun _ =>
             (zcB0 (fun v32 =>
              (zcI (fun hq41 =>
               (hq10 _ trivial)) (fun _ =>
               (zcS hq7)))))))))))))) hq6) (fun zq42 hq43 =>
         (zcE hq43 (fun x33 hq44 =>
          (zcB (z_257 hq44) (fun zq45 hq46 =>
           (zcE hq46 (fun r34 hq47 =>
            (zcl (fun v37 =>
             (zcS hq47)))) (fun z35 hq48 =>
            (zcS hq48)))))) (fun x39 hq49 =>
          (zcS hq49)))))) (fun z5 hq50 =>
        (zcS hq50)))))) (fun _ =>
      (zcS hq1)))))))) hc) (fun zq51 hq52 =>
   (zcE hq52 (fun x40 hq53 =>
    (zcJ (P := fun y : cS => ZJ y) (fun p41 hq54 =>
     (zcS hq54)) (fun j154 hq55 =>
     (zcJ (P := fun y : Unit => (fun _ : Unit => True) y) (fun p42 hq56 =>
      (zcB0 (fun v43 =>
       (zcB (z_41 hq53) (fun zq58 hq59 =>
        (zcE hq59 (fun r44 hq60 =>
         (hq55 _ hq60)) (fun z45 hq61 =>
         (zcS hq61)))))))) (fun j145 hq57 =>
      (zcI (fun hq62 =>
       (hq57 _ trivial)) (fun _ =>
       (zcB0 (fun v46 =>
        (zcI (fun hq63 =>
         (hq55 _ hq53)) (fun _ =>
         (hq57 _ trivial)))))))))))) (fun x47 hq64 =>
    (zcS hq64)))))
theorem z_287 {n : Nat} {a1 : Int32} {a2 : Int32}  (hc : ZJ c) : zc (d_287 n a1 a2 c) (Sum.elim ZJ ZE) := by
  unfold d_287
  exact (zcI (fun hq1 =>
   (zcl (fun v3 =>
    (zcJ (P := fun y : cS => ZJ y) (fun p5 hq2 =>
     (zcJ (P := fun y : cS => ZJ y) (fun p6 hq4 =>
      (zcS hq4)) (fun j263 hq5 =>
      (zcJ (P := fun y : Unit => (fun _ : Unit => True) y) (fun p7 hq6 =>
       (zcI (fun hq8 =>
        (zcB0 (fun v9 =>
         (zcJ (P := fun y : cS => ZJ y) (fun p11 hq9 =>
          (zcI (fun hq11 =>
           (zcl (fun v14 =>
            (zcJ (P := fun y : Int32 => (fun _ : Int32 => True) y) (fun p16 hq12 =>
             (zcI (fun hq14 =>
              (zcL (P := ZJ) (Z_pI hq9 (by decide)) (fun c18 hq15 =>
               (zcI (fun hq16 =>
                (zcJ (P := fun y : cS => ZJ y) (fun p21 hq17 =>
                 (zcJ (P := fun y : Int32 => (fun _ : Int32 => True) y) (fun p22 hq19 =>
                  (zcI (fun hq21 =>
                   (zcL (P := ZJ) (Z_pI hq17 (by decide)) (fun c24 hq22 =>
                    (hq5 _ hq22)))) (fun _ =>
                   zcN))) (fun j262 hq20 =>
                  (zcI (fun hq23 =>
                   (zcI (fun hq24 =>
                    (zcB0 (fun v27 =>
                     (zcI (fun hq25 =>
                      (hq20 _ trivial)) (fun _ =>
                      zcN))))) (fun _ =>
                    zcN))) (fun _ =>
                   (hq20 _ trivial)))))) (fun j219 hq18 =>
                 (zcI (fun hq26 =>
                  (hq18 _ hq15)) (fun _ =>
                  (zcI (fun hq27 =>
                   (zcB (z_41 hq15) (fun zq28 hq29 =>
                    (zcE hq29 (fun r30 hq30 =>
                     (hq18 _ hq30)) (fun z31 hq31 =>
                     (zcS hq31)))))) (fun _ =>
                   zcN))))))) (fun _ =>
                zcN))))) (fun _ =>
              zcN))) (fun j192 hq13 =>
             (zcI (fun hq32 =>
              (zcB0 (fun v33 =>
               (hq13 _ trivial)))) (fun _ =>
              (zcB0 (fun v32 =>
               (hq13 _ trivial)))))))))) (fun _ =>
           zcN))) (fun j141 hq10 =>
          (zcI (fun hq33 =>
           (hq10 _ hq2)) (fun _ =>
           (zcI (fun hq34 =>
            (zcB (z_41 hq2) (fun zq35 hq36 =>
             (zcE hq36 (fun r35 hq37 =>
              (hq10 _ hq37)) (fun z36 hq38 =>
              (zcS hq38)))))) (fun _ =>
            zcN))))))))) (fun _ =>
        zcN))) (fun j104 hq7 =>
       (zcI (fun hq39 =>
        (hq7 _ trivial)) (fun _ =>
        (zcI (fun hq40 =>
         (hq7 _ trivial)) (fun _ =>
         (zcI (fun hq41 =>
          (hq7 _ trivial)) (fun _ =>
          (hq5 _ hq2)))))))))))) (fun j83 hq3 =>
     (zcJ (P := fun y : Unit => (fun _ : Unit => True) y) (fun p37 hq42 =>
      (zcI (fun hq44 =>
       (zcB0 (fun v39 =>
        (zcI (fun hq45 =>
         (zcL (P := ZJ) (Z_pI hc (by decide)) (fun c41 hq46 =>
          (zcI (fun hq47 =>
           (zcI (fun hq48 =>
            (hq3 _ hq46)) (fun _ =>
            (zcI (fun hq49 =>
             (zcB (z_41 hq46) (fun zq50 hq51 =>
              (zcE hq51 (fun r45 hq52 =>
               (hq3 _ hq52)) (fun z46 hq53 =>
               (zcS hq53)))))) (fun _ =>
             zcN))))) (fun _ =>
           zcN))))) (fun _ =>
         zcN))))) (fun _ =>
       zcN))) (fun j31 hq43 =>
      (zcI (fun hq54 =>
       (hq43 _ trivial)) (fun _ =>
       (zcI (fun hq55 =>
        (hq43 _ trivial)) (fun _ =>
        (zcI (fun hq56 =>
         (hq43 _ trivial)) (fun _ =>
         (hq3 _ hc)))))))))))))) (fun _ =>
   zcN))
theorem z_286 {n : Nat}   (hc : ZJ c) : zc (d_286 n c) (Sum.elim ZJ ZE) := by
  unfold d_286
  exact (zcB (zcW (I := (fun r : Int32 × cS => ZJ r.2)) (X := (Sum.elim ZJ (Sum.elim ZJ ZE))) (fun s2 hq1 =>
   (zcB0 (fun v3 =>
    (zcI (fun hq2 =>
     (zcS hq1)) (fun _ =>
     (zcB (zcW (I := (fun r : Int32 × cS => ZJ r.2)) (X := (Sum.elim ZJ (Sum.elim ZJ ZE))) (fun s5 hq3 =>
      (zcB0 (fun v6 =>
       (zcI (fun hq4 =>
        (zcS hq3)) (fun _ =>
        (zcI (fun hq5 =>
         (zcI (fun hq6 =>
          (zcS hq3)) (fun _ =>
          (zcI (fun hq7 =>
           (zcB (z_287 hq3) (fun zq8 hq9 =>
            (zcE hq9 (fun r9 hq10 =>
             (zcl (fun v12 =>
              (zcS hq10)))) (fun z10 hq11 =>
             (zcS hq11)))))) (fun _ =>
           zcN))))) (fun _ =>
         zcN))))))) hq1) (fun zq12 hq13 =>
      (zcE hq13 (fun x14 hq14 =>
       (zcl (fun v16 =>
        (zcS hq14)))) (fun x18 hq15 =>
       (zcS hq15)))))))))) hc) (fun zq16 hq17 =>
   (zcE hq17 (fun x19 hq18 =>
    (zcS hq18)) (fun x20 hq19 =>
    (zcS hq19)))))
theorem z_291 {n : Nat} {a1 : Int32} {a2 : Int32} {a3 : Int32}  (hc : ZJ c) : zc (d_291 n a1 a2 a3 c) (Sum.elim (fun r : Int64 × cS => ZJ r.2) ZE) := by
  unfold d_291
  exact (zcl (fun v2 =>
   (zcI (fun hq1 =>
    (zcJ (P := fun y : cS => ZJ y) (fun p5 hq2 =>
     (zcI (fun hq4 =>
      (zcJ (P := fun y : Int32 => (fun _ : Int32 => True) y) (fun p7 hq5 =>
       (zcI (fun hq7 =>
        (zcL (P := ZJ) (Z_pI hq2 (by decide)) (fun c10 hq8 =>
         (zcJ (P := fun y : Int64 => (fun _ : Int64 => True) y) (fun p12 hq9 =>
          (zcS hq8)) (fun j91 hq10 =>
          (zcI (fun hq11 =>
           (hq10 _ trivial)) (fun _ =>
           (hq10 _ trivial)))))))) (fun _ =>
        zcN))) (fun j66 hq6 =>
       (zcI (fun hq12 =>
        (hq6 _ trivial)) (fun _ =>
        (hq6 _ trivial)))))) (fun _ =>
      zcN))) (fun j48 hq3 =>
     (zcI (fun hq13 =>
      (hq3 _ hc)) (fun _ =>
      (zcI (fun hq14 =>
       (zcI (fun hq15 =>
        (hq3 _ hc)) (fun _ =>
        (zcI (fun hq16 =>
         (zcB (z_41 hc) (fun zq17 hq18 =>
          (zcE hq18 (fun r15 hq19 =>
           (hq3 _ hq19)) (fun z16 hq20 =>
           (zcS hq20)))))) (fun _ =>
         zcN))))) (fun _ =>
       zcN))))))) (fun _ =>
    zcN))))
theorem z_290 {n : Nat} {a1 : Int32} {a2 : Int32} {a3 : Int32}  (hc : ZJ c) : zc (d_290 n a1 a2 a3 c) (Sum.elim (fun r : Int64 × cS => ZJ r.2) ZE) := by
  unfold d_290
  exact (zcl (fun v2 =>
   (zcI (fun hq1 =>
    (zcB0 (fun v5 =>
     (zcB0 (fun v6 =>
      (zcl (fun v8 =>
       (zcB0 (fun v10 =>
        (zcJ (P := fun y : Int32 => (fun _ : Int32 => True) y) (fun p11 hq2 =>
         (zcB0 (fun v13 =>
          (zcI (fun hq4 =>
           (zcJ (P := fun y : cS => ZJ y) (fun p15 hq5 =>
            (zcB0 (fun v16 =>
             (zcJ (P := fun y : Int64 × cS => (fun r : Int64 × cS => ZJ r.2) y) (fun p17 hq7 =>
              (zcI (fun hq9 =>
               (zcJ (P := fun y : Int64 × cS => (fun r : Int64 × cS => ZJ r.2) y) (fun p20 hq10 =>
                (zcS hq10)) (fun j179 hq11 =>
                (zcI (fun hq12 =>
                 (zcI (fun hq13 =>
                  (zcB (z_291 hq7) (fun zq14 hq15 =>
                   (zcE hq15 (fun r22 hq16 =>
                    (hq11 _ hq16)) (fun z23 hq17 =>
                    (zcS hq17)))))) (fun _ =>
                  zcN))) (fun _ =>
                 (hq11 _ hq7)))))) (fun _ =>
               zcN))) (fun j139 hq8 =>
              (zcI (fun hq18 =>
               (hq8 _ hq5)) (fun _ =>
               (zcB (z_291 hq5) (fun zq19 hq20 =>
                (zcE hq20 (fun r24 hq21 =>
                 (hq8 _ hq21)) (fun z25 hq22 =>
                 (zcS hq22)))))))))))) (fun j113 hq6 =>
            (zcJ (P := fun y : Unit => (fun _ : Unit => True) y) (fun p26 hq23 =>
             (zcI (fun hq25 =>
              (zcB (z_41 hc) (fun zq26 hq27 =>
               (zcE hq27 (fun r28 hq28 =>
                (hq6 _ hq28)) (fun z29 hq29 =>
                (zcS hq29)))))) (fun _ =>
              zcN))) (fun j97 hq24 =>
             (zcI (fun hq30 =>
              (hq24 _ trivial)) (fun _ =>
              (zcI (fun hq31 =>
               (hq24 _ trivial)) (fun _ =>
               (zcI (fun hq32 =>
                (hq6 _ hc)) (fun _ =>
                (hq24 _ trivial)))))))))))) (fun _ =>
           zcN))))) (fun j61 hq3 =>
         (zcJ (P := fun y : Unit => (fun _ : Unit => True) y) (fun p30 hq33 =>
          (hq3 _ trivial)) (fun j60 hq34 =>
          (zcI (fun hq35 =>
           (hq34 _ trivial)) (fun _ =>
           (zcI (fun hq36 =>
            (hq34 _ trivial)) (fun _ =>
            (hq3 _ trivial)))))))))))))))))) (fun _ =>
    zcN))))
theorem z_289 {n : Nat} {a1 : Int32} {a2 : Int32}  (hc : ZJ c) : zc (d_289 n a1 a2 c) (Sum.elim ZJ ZE) := by
  unfold d_289
  exact (zcI (fun hq1 =>
   (zcL (P := ZJ) (Z_pI hc (by decide)) (fun c2 hq2 =>
    (zcB (zcW (I := (fun r : Int64 × Int32 × cS => ZJ r.2.2)) (X := (Sum.elim ZJ (Sum.elim ZJ ZE))) (fun s6 hq3 =>
     (zcI (fun hq4 =>
      (zcS hq3)) (fun _ =>
      (zcI (fun hq5 =>
       (zcS hq3)) (fun _ =>
       (zcB0 (fun v7 =>
        (zcl (fun v10 =>
         (zcB (z_290 hq3) (fun zq6 hq7 =>
          (zcE hq7 (fun r12 hq8 =>
           (zcl (fun v15 =>
            (zcl (fun v18 =>
             (zcS hq8)))))) (fun z13 hq9 =>
           (zcS hq9)))))))))))))) hq2) (fun zq10 hq11 =>
     (zcE hq11 (fun x20 hq12 =>
      (zcS hq12)) (fun x21 hq13 =>
      (zcS hq13)))))))) (fun _ =>
   zcN))
theorem z_288 {n : Nat}   (hc : ZJ c) : zc (d_288 n c) (Sum.elim ZJ ZE) := by
  unfold d_288
  exact (zcB (zcW (I := (fun r : Int32 × cS => ZJ r.2)) (X := (Sum.elim ZJ (Sum.elim ZJ ZE))) (fun s2 hq1 =>
   (zcB0 (fun v3 =>
    (zcI (fun hq2 =>
     (zcS hq1)) (fun _ =>
     (zcB0 (fun v4 =>
      (zcJ (P := fun y : cS => ZJ y) (fun p5 hq3 =>
       (zcl (fun v7 =>
        (zcS hq3)))) (fun j46 hq4 =>
       (zcI (fun hq5 =>
        (hq4 _ hq1)) (fun _ =>
        (zcI (fun hq6 =>
         (zcI (fun hq7 =>
          (zcB (z_289 hq1) (fun zq8 hq9 =>
           (zcE hq9 (fun r11 hq10 =>
            (hq4 _ hq10)) (fun z12 hq11 =>
            (zcS hq11)))))) (fun _ =>
          zcN))) (fun _ =>
         zcN))))))))))))) hc) (fun zq12 hq13 =>
   (zcE hq13 (fun x13 hq14 =>
    (zcS hq14)) (fun x14 hq15 =>
    (zcS hq15)))))
end ZCP
