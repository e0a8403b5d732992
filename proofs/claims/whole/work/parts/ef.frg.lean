/-! READING ORDERS, KINDS and MAKERS: one behind the other -/
section FRG
variable {n i N U oc kc mc : Nat} {c d u q c0 u0 v : cS} {K P : Nat → Nat} {V : Nat → Int64}
theorem d44_s : d_44 n c = Option.bind (whl (lpC n 200 (d_262 n)) n (0, c))
  (Sum.elim (fun x9 : cS =>
    Option.bind (whl (lpC n 201 (d_264 n)) n (0, x9))
    (Sum.elim (fun x18 : cS =>
      Option.bind (whl (lpC n 206 (d_268 n)) n (0, x18))
      (Sum.elim (fun x27 : cS =>
        some (.inl x27))
      (fun x28 : (cS) ⊕ cS =>
        some x28)))
    (fun x29 : (cS) ⊕ cS =>
      some x29)))
  (fun x30 : (cS) ⊕ cS =>
    some x30)) := rfl
def frR (n : Nat) (x19 : cS) : Option cS :=
  Option.bind (whl (lpR n 0 (d_386 n)) n x19) (fun x23 =>
  Option.bind (whl (lpR n 1 (d_400 n)) n x23) (fun x27 =>
  whl (lpR n 6 (d_402 n)) n x27))
def FRX (K P : Nat → Nat) (V : Nat → Int64) (N : Nat) (c u : cS) (r : cS ⊕ cS) (q : cS) : Prop := (∃ d i oc kc mc U, r = .inl d ∧ ¬ K i = 206 ∧ RDF K P V N c u oc kc mc U d q i) ∨ (∃ z, r = .inr z ∧ FLR c u z q)
theorem frt_go (hn : 10000 ≤ n) (h : RDF K P V N c0 u0 0 0 0 0 c u i) : jw (d_44 n c) (frR n u) (FRX K P V N c0 u0) := by
  rw [d44_s]
  unfold frR
  have h1 : jw (whl (lpC n 200 (d_262 n)) n (0, c)) (whl (lpR n 0 (d_386 n)) n u) _ := stm_lp (b := 0) (I := fun c u i => ∃ oc, RDF K P V N c0 u0 oc 0 0 0 c u i) hn (by decide) (fun c u i ⟨oc, hI⟩ => ⟨hI.1, hI.2.2.2.2.2.2⟩) (fun c u i ⟨oc, hI⟩ hk => RDF_o hn hI hk) ⟨0, h⟩
  refine jwb h1 (fun r q hr => ?_)
  rcases hr with ⟨d, i1, rfl, a1, ⟨oc, a2⟩, a3⟩ | ⟨z, rfl, hf⟩
  rotate_left
  · refine wp_of rfl ?_
    rw [lpR_ww (by omega) hf.2.2.1]
    show wp (Option.bind (some q) _) _
    refine wpe rfl ?_
    exact wp_of (lpR_ww (by omega) hf.2.2.1) (Or.inr ⟨z, rfl, hf⟩)
  have h2 : jw (whl (lpC n 201 (d_264 n)) n (0, d)) (whl (lpR n 1 (d_400 n)) n q) _ := stm_lp (b := 1) (I := fun c u i => ∃ kc U, RDF K P V N c0 u0 oc kc 0 U c u i) hn (by decide) (fun c u i ⟨kc, U, hI⟩ => ⟨hI.1, hI.2.2.2.2.2.2⟩) (fun c u i ⟨kc, U, hI⟩ hk => RDF_k hn hI hk) ⟨0, 0, a2⟩
  refine jwb h2 (fun r q hr => ?_)
  rcases hr with ⟨d, i2, rfl, b1, ⟨kc, U, b2⟩, b3⟩ | ⟨z, rfl, hf⟩
  rotate_left
  · exact wp_of rfl (wp_of (lpR_ww (by omega) hf.2.2.1) (Or.inr ⟨z, rfl, hf⟩))
  have h3 : jw (whl (lpC n 206 (d_268 n)) n (0, d)) (whl (lpR n 6 (d_402 n)) n q) _ := stm_lp (b := 6) (I := fun c u i => ∃ mc U, RDF K P V N c0 u0 oc kc mc U c u i) hn (by decide) (fun c u i ⟨mc, U, hI⟩ => ⟨hI.1, hI.2.2.2.2.2.2⟩) (fun c u i ⟨mc, U, hI⟩ hk => RDF_m hn hI hk) ⟨0, U, b2⟩
  obtain ⟨r, q, y1, y2, y3⟩ := jw_ex h3
  rcases y3 with ⟨d, i3, rfl, c1, ⟨mc, U, c2⟩, c3⟩ | ⟨z, rfl, hf⟩
  · exact wpe y1 (wp_of rfl (wp_of y2 (Or.inl ⟨d, i3, oc, kc, mc, U, rfl, c3, c2⟩)))
  · exact wpe y1 (wp_of rfl (wp_of y2 (Or.inr ⟨z, rfl, hf⟩)))
end FRG
