/-! FLOW: solutions; the class's STATES -/
def CLO (m : cS) (o M : Nat) (K ent : Nat → Nat) (Y : Nat → Option (Nat → Nat)) : Prop := (∃ g, Y 0 = some g ∧ lfF m o 8 ent g) ∧ ∀ i g, i < acn m M → Y i = some g →
  (goesN m (40 * M + i) → ∃ h, Y (i + 1) = some h ∧ lfF m o (8 + dpb m (40 * M + i)) (trN m o K (40 * M + i) g) h) ∧ (∀ t, m.1 216 (40 * M + i) = nI t → t < acn m M → ∃ h, Y t = some h ∧ lfF m o (8 + dpb m (40 * M + i)) (trL m o K (40 * M + i) g) h)
def GOO (m : cS) (o M : Nat) (Y : Nat → Option (Nat → Nat)) : Prop := ∀ i g, i < acn m M → Y i = some g → RCH m M i ∧ okF (eln m o) (8 + dpn m (40 * M + i)) g
def LEA (m : cS) (o M : Nat) (K ent : Nat → Nat) (X : Nat → Option (Nat → Nat)) : Prop := ∀ Y, GOO m o M Y → CLO m o M K ent Y → ∀ i f, i < acn m M → X i = some f → ∃ g, Y i = some g ∧ lfF m o (8 + dpn m (40 * M + i)) f g
/-- the least solution -/
def SOL (m : cS) (o M : Nat) (K ent : Nat → Nat) (X : Nat → Option (Nat → Nat)) : Prop := GOO m o M X ∧ CLO m o M K ent X ∧ LEA m o M K ent X
theorem SOL_eq {m : cS} {o M N : Nat} {K ent : Nat → Nat} {X Y : Nat → Option (Nat → Nat)} (hN : eln m o = N) (hL : LA o N m) (hX : SOL m o M K ent X) (hY : SOL m o M K ent Y) (i : Nat) (hi : i < acn m M) : (X i = none ∧ Y i = none) ∨ ∃ f g, X i = some f ∧ Y i = some g ∧ ∀ s, s < 8 + dpn m (40 * M + i) → f s = g s := by
  cases hx : X i with
  | none =>
    cases hy : Y i with
    | none => exact Or.inl ⟨rfl, rfl⟩
    | some g =>
      obtain ⟨f, hf, -⟩ := hY.2.2 X hX.1 hX.2.1 i g hi hy
      rw [hx] at hf
      cases hf
  | some f =>
    obtain ⟨g, hg, h1⟩ := hX.2.2 Y hY.1 hY.2.1 i f hi hx
    obtain ⟨f', hf', h2⟩ := hY.2.2 X hX.1 hX.2.1 i g hi hg
    rw [hx] at hf'
    cases hf'
    refine Or.inr ⟨f, g, rfl, hg, fun s hs => ?_⟩
    have o1 := (hX.1 i f hi hx).2 s hs
    have o2 := (hY.1 i g hi hg).2 s hs
    rw [hN] at o1 o2
    exact LA_anti hL o1 o2 (h1 s hs) (h2 s hs)
section RC
variable {c m : cS} {M i : Nat}
theorem RCH_of (h : DPR m M i) (hne : m.1 230 (40 * M + i) ≠ nM) : RCH m M i := by
  rcases h with h | ⟨h1, h2, h3, h4, -⟩
  · exact absurd h hne
  · exact ⟨h1, h2, h3, h4⟩
theorem RCH_ne (h : RCH m M i) : m.1 230 (40 * M + i) ≠ nM := fun z => by
  have h1 := h.1
  have h3 := h.2.2.1
  rw [z] at h1
  have := nM_eqF' (k := dpn m (40 * M + i)) (by omega)
  rw [this] at h1
  exact h1
theorem MTS_ac (h : MTS c m) (hM : isMt m M) (hi : i < acn m M) : ACR c m M i := (h.2.1 M hM).2.2 i hi
theorem RCH_0 (h : MTS c m) (hM : isMt m M) : RCH m M 0 ∧ dpn m (40 * M + 0) = 0 := by
  obtain ⟨h1, h2, h3⟩ := h.2.1 M hM
  have ha := h3 0 (by have := h1.1.1; omega)
  have hd : dpn m (40 * M + 0) = 0 := by
    unfold dpn
    rw [Nat.add_zero, h2]
    rfl
  refine ⟨RCH_of ha.2.2.2.2.2.2.2 ?_, hd⟩
  rw [Nat.add_zero, h2]
  decide
theorem RCH_nx (h : MTS c m) (hM : isMt m M) (hi : i < acn m M) (hr : RCH m M i) (hg : goesN m (40 * M + i)) : i + 1 < acn m M ∧ RCH m M (i + 1) ∧ dpn m (40 * M + (i + 1)) = dpb m (40 * M + i) := by
  have ha := MTS_ac h hM hi
  rcases ha.2.2.2.2.2.2.2 with hz | ⟨-, -, -, h4, h5, -⟩
  · exact absurd hz (RCH_ne hr)
  · obtain ⟨q1, q2⟩ := h5 hg
    have hb := hr.2.2.2
    refine ⟨q1, RCH_of (MTS_ac h hM q1).2.2.2.2.2.2.2 ?_, ?_⟩
    · rw [q2]
      intro z
      rw [nM_eqF (by omega)] at z
      exact z
    · unfold dpn dpb
      rw [q2, ix_n (by omega)]
theorem RCH_lb (h : MTS c m) (hM : isMt m M) (hi : i < acn m M) (hr : RCH m M i) {t : Nat} (ht : m.1 216 (40 * M + i) = nI t) (ht2 : t < acn m M) : RCH m M t ∧ dpn m (40 * M + t) = dpb m (40 * M + i) := by
  have ha := MTS_ac h hM hi
  rcases ha.2.2.2.2.2.2.2 with hz | ⟨-, -, -, h4, -, h6⟩
  · exact absurd hz (RCH_ne hr)
  · have q2 := h6 t ht ht2
    refine ⟨RCH_of (MTS_ac h hM ht2).2.2.2.2.2.2.2 ?_, ?_⟩
    · rw [q2]
      intro z
      rw [nM_eqF (by omega)] at z
      exact z
    · unfold dpn dpb
      rw [q2, ix_n (by omega)]
end RC
/-- a STATE as the class keeps it: l LOCALS, d on the stack, all else 0 -/
def WFs (E l d : Nat) (s : Int64) : Prop := ∀ j, j < 16 → if j < l ∨ (8 ≤ j ∧ j < 8 + d) then nbl s j < E else nbl s j = 0
def av (l bt : Nat) (s : Int64) (j : Nat) : Nat := if l ≤ j ∧ j < 8 then bt else nbl s j
theorem av_ok {E l d bt : Nat} {s : Int64} (h : WFs E l d s) (hd : d ≤ 8) (hb : bt < E) : okF E (8 + d) (av l bt s) := by
  intro j hj
  unfold av
  by_cases hc : l ≤ j ∧ j < 8
  · rw [if_pos hc]
    exact hb
  · rw [if_neg hc]
    have := h j (by omega)
    rwa [if_pos (by omega)] at this
/-- equal STATES -/
theorem WFs_eq {E l d bt : Nat} {s t : Int64} (hl8 : l ≤ 8) (hs : WFs E l d s) (ht : WFs E l d t) (h : ∀ j, j < 8 + d → av l bt s j = av l bt t j) : s = t := by
  refine nb_ext fun j hj => ?_
  have h1 := hs j hj
  have h2 := ht j hj
  by_cases hc : j < l ∨ (8 ≤ j ∧ j < 8 + d)
  · have h3 : ∀ x : Int64, av l bt x j = nbl x j := by
      intro x
      unfold av
      by_cases hl : l ≤ j ∧ j < 8
      · omega
      · rw [if_neg hl]
    by_cases hj8 : j < 8 + d
    · rw [← h3, ← h3]
      exact h j hj8
    · rw [if_pos hc] at h1 h2
      by_cases hl : j < 8
      · rw [← h3, ← h3]
        exact h j (by omega)
      · omega
  · rw [if_neg hc] at h1 h2
    rw [h1, h2]
/-- what the class needs for FLOW -/
def FC (c m u : cS) (o : Nat) : Prop := PG c m ∧ TLS c m ∧ c.1 146 8 = nI 0 ∧ FD m c u ∧ c.1 150 3 = nI o ∧ o < ocn m
theorem FC_K {c m u : cS} {o n p s : Nat} (h : FC c m u o) (hP : isP m p s) (hs : 1 ≤ s) : d_190 n (nI p) (nI o) c = some (nI (TM m c p o)) ∧ TM m c p o < eln m o := by
  obtain ⟨h1, h2, h3, h4, h5, h6⟩ := h
  exact e190 h1.1.1 hP hs h6 (EC_row h1.1 hP).1 h3 h2 h4
/-- places cleared -/
def clr (s : Int64) (f : Nat) : Nat → Int64
  | 0 => s
  | k + 1 => wn (clr s f k) (f + k) 0
theorem nbl_clr {s : Int64} {f j : Nat} : ∀ k, f + k ≤ 16 → j < 16 → nbl (clr s f k) j = if f ≤ j ∧ j < f + k then 0 else nbl s j
  | 0, _, _ => by
    rw [if_neg (by omega)]
    rfl
  | k + 1, h1, h2 => by
    unfold clr
    rw [nbl_wn (by omega) (by omega) h2, nbl_clr k (by omega) h2]
    by_cases e : j = f + k
    · rw [if_pos e, if_pos (by omega)]
    · rw [if_neg e]
      by_cases e2 : f ≤ j ∧ j < f + k
      · rw [if_pos e2, if_pos (by omega)]
      · rw [if_neg e2, if_neg (by omega)]
