/-! give: a MARK of the FILE, in both; a row -/
section GVRS
variable {n r V F x y : Nat} {c d w m : cS} {sz : Nat → Nat} {X : Nat → Nat → Nat} {Y : Nat → Nat}
/-- values of sort 1 are ints -/
def fIv (k : Int64 × Option (List (Int64 × Nat × Int64))) : Prop := ∀ l, k.2 = some l → ∀ e, e ∈ l → e.2.1 = 1 → iv e.2.2
theorem MKR_gv {k : Int64 × Option (List (Int64 × Nat × Int64))} (hx : x < 4096) (hc : MKc c x k) (hu : MKu m y k) (hO : fOk k) (hI : fIv k) (h5 : c.1 135 x = oI (tOf m (m.2 223 y))) : MKR c m x y := by
  obtain ⟨c1, c2, c3⟩ := hc
  obtain ⟨u1, u2, u3, u4⟩ := hu
  refine ⟨hx, by rw [c1, u1], h5, by rw [u2]; exact bI_nb, ?_⟩
  cases e : k.2 with
  | none =>
    have e0 : m.1 225 y = nI 0 := u3 e
    have ep : prn m y = 0 := by
      unfold prn
      rw [e0]
      rfl
    rw [e] at u2
    have u2' : m.1 224 y = nI 1 := u2
    rw [ep]
    refine ⟨by omega, e0, fun _ => rfl, ?_, fun q hq => absurd hq (Nat.not_lt_zero _)⟩
    rw [u2', if_neg (by decide)]
    exact c2 e
  | some l =>
    obtain ⟨g1, g2⟩ := c3 l e
    obtain ⟨v1, v2⟩ := u4 l e
    obtain ⟨o1, o2⟩ := hO l e
    have ep : prn m y = l.length := by
      unfold prn
      rw [v1]
      exact ix_n (by omega)
    rw [e] at u2
    have u2' : m.1 224 y = nI 0 := u2
    rw [ep, u2', if_pos rfl]
    refine ⟨o1, v1, fun z => absurd z (by decide), g1, fun q hq => ?_⟩
    obtain ⟨z, hz⟩ : ∃ z, l[q]? = some z := ⟨l[q], List.getElem?_eq_getElem hq⟩
    have hm : z ∈ l := List.mem_of_getElem? hz
    obtain ⟨a1, a2, a3⟩ := g2 q z hz
    obtain ⟨b1, b2, b3⟩ := v2 q z hz
    obtain ⟨s1, s2⟩ := o2 z hm
    refine ⟨by rw [a1, b1], by rw [a2, b2], ⟨z.2.1, s1, s2, b2⟩, by rw [a3, b3], fun h => ?_⟩
    rw [b3]
    exact hI l e z hm ((nI_eq (by omega) (by decide)).mp (show nI z.2.1 = nI 1 by rw [← b2]; exact h))
/-- a row of a PLACE behind give -/
theorem RP_gv {l : List (Int64 × Option (List (Int64 × Nat × Int64)))} (hA : ALO c V F sz X Y) (hr : r < 2242) (hl : sz r = l.length) (h20 : l.length ≤ 20) (hC : CRW c X r l) (hU : URW m r l) (hO : ∀ k, k ∈ l → fOk k) (hI : ∀ k, k ∈ l → fIv k) (h5 : ∀ i, i < sz r → c.1 135 (X r i) = oI (tOf m (m.2 223 (r * 20 + i))) ∧ c.1 137 (X r i) = bI (dcn m r i)) : RP c m r := by
  have ez : mz m r = sz r := by
    unfold mz
    rw [hU.1, hl]
    exact ix_n (by omega)
  have hch := ALO_ch hA hr
  refine ⟨⟨by omega, by rw [ez, hl]; exact hU.1, by rw [ez]; exact hA.2.2.2.1 r hr, fun i hi => ?_⟩, fun i hi => ?_⟩
  · rw [ez] at hi
    obtain ⟨y1, y2⟩ := hch i hi
    have hi' : i < l.length := by omega
    obtain ⟨z, hz⟩ : ∃ z, l[i]? = some z := ⟨l[i], List.getElem?_eq_getElem hi'⟩
    have hm : z ∈ l := List.mem_of_getElem? hz
    refine ⟨by rw [y2]; exact y1, ?_⟩
    rw [y2]
    have hx := hA.2.2.2.2.2.1 r i hr hi
    have h0 := hA.1
    exact MKR_gv (by omega) (hC i z hz) (hU.2 i z hz) (hO z hm) (hI z hm) (h5 i hi).1
  · rw [ez] at hi
    rw [(hch i hi).2, (h5 i hi).2]
    rfl
end GVRS
