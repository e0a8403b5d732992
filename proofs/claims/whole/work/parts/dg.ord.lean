/-! READING an ORDER -/
section ORD
variable {n i N o E oc kc mc cc : Nat} {c d u w : cS} {K P : Nat → Nat} {V : Nat → Int64} {R W : Nat → Nat → Bool}
theorem RO_cg {c' m m' : cS} (h : RO o E c m) (hc : ∀ A j, oA o ≤ A → A ≤ oA o + 5 → c'.1 A j = c.1 A j ∧ c'.2 A j = c.2 A j) (h2 : m'.1 182 o = m.1 182 o ∧ m'.1 187 o = m.1 187 o ∧ m'.1 188 o = m.1 188 o ∧ m'.2 181 o = m.2 181 o) (h3 : ∀ A j, 184 ≤ A → A ≤ 186 → 144 * o ≤ j → j < 144 * o + 144 → m'.1 A j = m.1 A j) (h4 : ∀ j, 12 * o ≤ j → j < 12 * o + 12 → m'.2 183 j = m.2 183 j) : RO o E c' m' := by
  obtain ⟨⟨⟨l1, l1'⟩, l2, l3, l4, l5, l6, l7, l8, l9, l10⟩, r1, r2, r3, r4, r5, r6, r7, r8, r9⟩ := h
  obtain ⟨g1, g2, g3, g4⟩ := h2
  have eB : ∀ a b, a < E → b < E → m'.1 184 ((12 * o + a) * 12 + b) = m.1 184 ((12 * o + a) * 12 + b) := fun a b ha hb => h3 184 _ (by omega) (by omega) (by omega) (by omega)
  have eM : ∀ a b, a < E → b < E → (mB m' o a b ↔ mB m o a b) := fun a b ha hb => by
    unfold mB
    rw [eB a b ha hb]
  have eJ : ∀ a b, a < E → b < E → mJ m' o a b = mJ m o a b := fun a b ha hb => h3 185 _ (by omega) (by omega) (by omega) (by omega)
  have eK : ∀ a b, a < E → b < E → mM m' o a b = mM m o a b := fun a b ha hb => h3 186 _ (by omega) (by omega) (by omega) (by omega)
  refine ⟨⟨⟨l1, l1'⟩, by rw [g1]; exact l2, fun a b ha hb => by rw [eB a b ha hb]; exact l3 a b ha hb, fun a ha => (eM a a ha ha).mpr (l4 a ha), fun a b ha hb z1 z2 => l5 a b ha hb ((eM a b ha hb).mp z1) ((eM b a hb ha).mp z2), fun a b d ha hb hd z1 z2 => (eM a d ha hd).mpr (l6 a b d ha hb hd ((eM a b ha hb).mp z1) ((eM b d hb hd).mp z2)), fun a b ha hb => ?_, fun a b ha hb => ?_, ?_, ?_⟩, ?_, ?_, fun e he => ?_, fun a ha => ?_, fun b hb => ?_, fun a b ha hb => ?_, fun a b ha hb => ?_, ?_, ?_⟩
  · obtain ⟨j, j1, j2, j3, j4, j5⟩ := l7 a b ha hb
    exact ⟨j, j1, by rw [eJ a b ha hb]; exact j2, (eM a j ha j1).mpr j3, (eM b j hb j1).mpr j4, fun d hd z1 z2 => (eM j d j1 hd).mpr (j5 d hd ((eM a d ha hd).mp z1) ((eM b d hb hd).mp z2))⟩
  · obtain ⟨j, j1, j2, j3, j4, j5⟩ := l8 a b ha hb
    exact ⟨j, j1, by rw [eK a b ha hb]; exact j2, (eM j a j1 ha).mpr j3, (eM j b j1 hb).mpr j4, fun d hd z1 z2 => (eM d j hd j1).mpr (j5 d hd ((eM d a hd ha).mp z1) ((eM d b hd hb).mp z2))⟩
  · obtain ⟨t, t1, t2, t3⟩ := l9
    exact ⟨t, t1, by rw [g2]; exact t2, fun d hd => (eM d t hd t1).mpr (t3 d hd)⟩
  · obtain ⟨t, t1, t2, t3⟩ := l10
    exact ⟨t, t1, by rw [g3]; exact t2, fun d hd => (eM t d t1 hd).mpr (t3 d hd)⟩
  · rw [(hc _ _ (by omega) (by omega)).1]
    exact r1
  · rw [(hc _ _ (by omega) (by omega)).2, g4]
    exact r2
  · rw [(hc _ _ (by omega) (by omega)).2, h4 _ (by omega) (by omega)]
    exact r3 e he
  · rw [(hc _ _ (by omega) (by omega)).1]
    obtain ⟨x, x1, x2, x3⟩ := r4 a ha
    exact ⟨x, x1, x2, fun b hb => (x3 b hb).trans (eM a b ha hb).symm⟩
  · rw [(hc _ _ (by omega) (by omega)).1]
    obtain ⟨x, x1, x2, x3⟩ := r5 b hb
    exact ⟨x, x1, x2, fun a ha => (x3 a ha).trans (eM a b ha hb).symm⟩
  · rw [(hc _ _ (by omega) (by omega)).1, eJ a b ha hb]
    exact r6 a b ha hb
  · rw [(hc _ _ (by omega) (by omega)).1, eK a b ha hb]
    exact r7 a b ha hb
  · rw [(hc _ _ (by omega) (by omega)).1, g2]
    exact r8
  · rw [(hc _ _ (by omega) (by omega)).1, g3]
    exact r9
/-- a settled ORDER is one in both -/
theorem RO_of (hE1 : 1 ≤ E) (hE : E ≤ 12) (hor : isOr W E = true) (hr : ∀ a, a < E → W a a = true) (ht : ∀ a b d, a < E → b < E → d < E → W a b = true → W b d = true → W a d = true) (c1 : c.1 (oA o) 1 = nI E) (c0 : c.2 (oA o) 0 = u.2 181 o) (ce : ∀ e, e < E → c.2 (oA o + 1) e = u.2 183 (12 * o + e)) (cu : ROWb c (oA o + 2) E W) (cd : ROWb c (oA o + 3) E (trn W)) (ct : OTB c o E W (fun _ _ => True)) (cp : c.1 (oA o) 2 = nI (tpF W E (E - 1))) (cb : c.1 (oA o) 3 = nI (tpF (trn W) E (E - 1))) (u2 : u.1 182 o = nI E) (uB : BLW u o E W) (uT : RTB u o E W (fun _ _ => True)) (up : ∀ e, e < E → topP W E e = true → u.1 187 o = nI e) (ub : ∀ e, e < E → topP (trn W) E e = true → u.1 188 o = nI e) : RO o E c u := by
  have hor' := isOr_trn hor
  obtain ⟨p1, p2⟩ := tpF_ok hor hr ht (E - 1) (by omega)
  obtain ⟨b1, b2⟩ := tpF_ok hor' hr (fun a b d ha hb hd z1 z2 => ht d b a hd hb ha z2 z1) (E - 1) (by omega)
  have hp := up _ p1 (allN_iff.mpr (fun d hd => p2 d (by omega)))
  have hb := ub _ b1 (allN_iff.mpr (fun d hd => b2 d (by omega)))
  have eM : ∀ a b, a < E → b < E → (mB u o a b ↔ W a b = true) := fun a b ha hb => by
    unfold mB
    rw [show u.1 184 ((12 * o + a) * 12 + b) = bI (W a b) from uB a b ha hb]
    cases W a b
    · exact ⟨fun z => absurd z (by decide), fun z => by cases z⟩
    · exact ⟨fun _ => rfl, fun _ => rfl⟩
  have eJ : ∀ a b, a < E → b < E → mJ u o a b = oI (lbO W E a b) := fun a b ha hb => (uT a b ha hb trivial).2.1
  have eK : ∀ a b, a < E → b < E → mM u o a b = oI (lbO (trn W) E a b) := fun a b ha hb => (uT a b ha hb trivial).2.2
  refine ⟨⟨⟨hE1, hE⟩, u2, fun a b ha hb => ?_, fun a ha => (eM a a ha ha).mpr (hr a ha), fun a b ha hb z1 z2 => (isOr_at hor ha hb).1 ((eM a b ha hb).mp z1) ((eM b a hb ha).mp z2), fun a b d ha hb hd z1 z2 => (eM a d ha hd).mpr (ht a b d ha hb hd ((eM a b ha hb).mp z1) ((eM b d hb hd).mp z2)), fun a b ha hb => ?_, fun a b ha hb => ?_, ⟨_, p1, hp, fun d hd => (eM d _ hd p1).mpr (p2 d (by omega))⟩, ⟨_, b1, hb, fun d hd => (eM _ d b1 hd).mpr (b2 d (by omega))⟩⟩, c1, c0, ce, fun a ha => ?_, fun b hb => ?_, fun a b ha hb => ?_, fun a b ha hb => ?_, cp.trans hp.symm, cb.trans hb.symm⟩
  · rw [show u.1 184 ((12 * o + a) * 12 + b) = bI (W a b) from uB a b ha hb]
    exact bI_nb
  · obtain ⟨-, ⟨j, j1, j2, j3, j4, j5⟩, -⟩ := isOr_at hor ha hb
    exact ⟨j, j1, by rw [eJ a b ha hb, j2]; rfl, (eM a j ha j1).mpr j3, (eM b j hb j1).mpr j4, fun d hd z1 z2 => (eM j d j1 hd).mpr (j5 d hd ((eM a d ha hd).mp z1) ((eM b d hb hd).mp z2))⟩
  · obtain ⟨-, -, ⟨j, j1, j2, j3, j4, j5⟩⟩ := isOr_at hor ha hb
    exact ⟨j, j1, by rw [eK a b ha hb, j2]; rfl, (eM j a j1 ha).mpr j3, (eM j b j1 hb).mpr j4, fun d hd z1 z2 => (eM d j hd j1).mpr (j5 d hd ((eM d a hd ha).mp z1) ((eM d b hd hb).mp z2))⟩
  · obtain ⟨x, x1, x2, x3⟩ := cu a ha
    refine ⟨x, x1, x2, fun b hb => ?_⟩
    rw [x3 b hb]
    exact (eM a b ha hb).symm
  · obtain ⟨x, x1, x2, x3⟩ := cd b hb
    refine ⟨x, x1, x2, fun a ha => ?_⟩
    rw [x3 a ha]
    exact (eM a b ha hb).symm
  · rw [(ct a b ha hb trivial).2.1, eJ a b ha hb]
  · rw [(ct a b ha hb trivial).2.2, eK a b ha hb]
end ORD
