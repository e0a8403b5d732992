/-! READING the parts of an ACT: which parts an ACT has -/
section RED
variable {n M a b op : Nat} {w v : cS} {Q : cS ⊕ cS → Prop} {Q' : cS → Prop}
/-- the class: a LOCAL -/
theorem c281_l (ha : a < 1024) (ho : op = 16 ∨ op = 17) (h : w.1 121 a = nI (200 + op)) (hQ : wp (Option.bind (d_283 n (nI a) w) (Sum.elim (fun r4 => some (.inl r4)) (fun z5 => some (.inr z5)))) Q) : wp (d_281 n (nI a) w) Q := by
  have hia : ib (nI a) 1024 := ib_n ha (by decide)
  unfold d_281
  rw [show ix (nI a) = a from ix_n (by omega), h]
  rcases ho with rfl | rfl
  · refine wpt hia (wpj (wpj (wpj (wpj ?_))))
    repeat (first | ((with_reducible refine wpf ?_ ?_); · decide) | ((with_reducible refine wpt ?_ ?_); · rfl))
    exact hQ
  · refine wpt hia (wpj (wpj (wpj (wpj ?_))))
    repeat (first | ((with_reducible refine wpf ?_ ?_); · decide) | ((with_reducible refine wpt ?_ ?_); · rfl))
    exact hQ
theorem c281_d (ha : a < 1024) (ho : op = 18 ∨ op = 19 ∨ op = 20) (h : w.1 121 a = nI (200 + op)) (hQ : wp (Option.bind (d_284 n (nI a) w) (Sum.elim (fun r7 =>
    Option.bind (d_257 n 46 r7) (Sum.elim (fun r9 =>
    Option.bind (d_42 n r9) (fun v11 =>
    if ib (nI a) 1024 then
    lt (pI r9 132 a v11) (fun c13 =>
    Option.bind (d_259 n c13) (Sum.elim (fun r15 =>
    if ib (nI a) 1024 then
    lt (pL r15.2 129 a r15.1) (fun c18 =>
    lt (pI c18 145 7 ((c18.1 145 7) + 1)) (fun c20 =>
    some (.inl c20)))
    else none)
    (fun z16 => some (.inr z16))))
    else none))
    (fun z10 => some (.inr z10))))
    (fun z8 => some (.inr z8)))) Q) : wp (d_281 n (nI a) w) Q := by
  have hia : ib (nI a) 1024 := ib_n ha (by decide)
  unfold d_281
  rw [show ix (nI a) = a from ix_n (by omega), h]
  rcases ho with rfl | rfl | rfl
  all_goals
    refine wpt hia (wpj (wpj (wpj (wpj ?_))))
    repeat (first | ((with_reducible refine wpf ?_ ?_); · decide) | ((with_reducible refine wpt ?_ ?_); · rfl))
    exact hQ
theorem c281_0 (ha : a < 1024) (h1 : 21 ≤ op) (h2 : op ≤ 26) (h : w.1 121 a = nI (200 + op)) (hQ : Q (.inl w)) : wp (d_281 n (nI a) w) Q := by
  have hia : ib (nI a) 1024 := ib_n ha (by decide)
  unfold d_281
  rw [show ix (nI a) = a from ix_n (by omega), h]
  obtain rfl | rfl | rfl | rfl | rfl | rfl : op = 21 ∨ op = 22 ∨ op = 23 ∨ op = 24 ∨ op = 25 ∨ op = 26 := by omega
  all_goals
    refine wpt hia (wpj (wpj (wpj (wpj ?_))))
    repeat (first | ((with_reducible refine wpf ?_ ?_); · decide) | ((with_reducible refine wpt ?_ ?_); · rfl))
    exact hQ
theorem c281_j (ha : a < 1024) (ho : op = 27 ∨ op = 28) (h : w.1 121 a = nI (200 + op)) (hQ : wp (Option.bind (d_284 n (nI a) w) (Sum.elim (fun r23 => some (.inl r23)) (fun z24 => some (.inr z24)))) Q) : wp (d_281 n (nI a) w) Q := by
  have hia : ib (nI a) 1024 := ib_n ha (by decide)
  unfold d_281
  rw [show ix (nI a) = a from ix_n (by omega), h]
  rcases ho with rfl | rfl
  all_goals
    refine wpt hia (wpj (wpj (wpj (wpj ?_))))
    repeat (first | ((with_reducible refine wpf ?_ ?_); · decide) | ((with_reducible refine wpt ?_ ?_); · rfl))
    exact hQ
theorem c281_e (ha : a < 1024) (h : w.1 121 a = nI (200 + 29)) (hQ : wp (Option.bind (d_285 n (nI a) w) (Sum.elim (fun r58 =>
    Option.bind (d_284 n (nI a) r58) (Sum.elim (fun r60 =>
    some (.inl r60))
    (fun z61 => some (.inr z61))))
    (fun z59 => some (.inr z59)))) Q) : wp (d_281 n (nI a) w) Q := by
  have hia : ib (nI a) 1024 := ib_n ha (by decide)
  unfold d_281
  rw [show ix (nI a) = a from ix_n (by omega), h]
  refine wpt hia (wpj (wpj (wpj (wpj ?_))))
  repeat (first | ((with_reducible refine wpf ?_ ?_); · decide) | ((with_reducible refine wpt ?_ ?_); · rfl))
  exact hQ
theorem c281_f (ha : a < 1024) (h : w.1 121 a = nI (200 + 30)) (hQ : wp (Option.bind (d_285 n (nI a) w) (Sum.elim (fun r63 => some (.inl r63)) (fun z64 => some (.inr z64)))) Q) : wp (d_281 n (nI a) w) Q := by
  have hia : ib (nI a) 1024 := ib_n ha (by decide)
  unfold d_281
  rw [show ix (nI a) = a from ix_n (by omega), h]
  refine wpt hia (wpj (wpj (wpj (wpj ?_))))
  repeat (first | ((with_reducible refine wpf ?_ ?_); · decide) | ((with_reducible refine wpt ?_ ?_); · rfl))
  exact hQ
/-- MARKS told, the class -/
def tlC (n a : Nat) (w : cS) : Option (cS ⊕ cS) :=
    Option.bind (d_273 n (1218 + nI a) 6 w) (Sum.elim (fun r38 =>
    Option.bind (d_282 n (1218 + nI a) r38) (fun v40 =>
    if ib (nI a) 1024 then
    lt (pI r38 123 a v40) (fun c42 =>
    some (.inl c42))
    else none))
    (fun z39 => some (.inr z39)))
theorem c281_p (ha : a < 1024) (h : w.1 121 a = nI (200 + 14)) (hQ : wp (Option.bind (d_278 n 1 w) (Sum.elim (fun r26 =>
    if ib (nI a) 1024 then
    lt (pI r26.2 122 a ((r26.1 : Int64).toInt32)) (tlC n a)
    else none)
    (fun z27 => some (.inr z27)))) Q) : wp (d_281 n (nI a) w) Q := by
  have hia : ib (nI a) 1024 := ib_n ha (by decide)
  unfold d_281
  rw [show ix (nI a) = a from ix_n (by omega), h]
  refine wpt hia (wpj (wpj (wpj (wpj (wpt rfl ?_)))))
  exact hQ
theorem c281_t (ha : a < 1024) (h : w.1 121 a = nI (200 + 15)) (hQ : wp (tlC n a w) Q) : wp (d_281 n (nI a) w) Q := by
  have hia : ib (nI a) 1024 := ib_n ha (by decide)
  unfold d_281
  rw [show ix (nI a) = a from ix_n (by omega), h]
  refine wpt hia (wpj (wpj (wpj (wpj (wpf (by decide) (wpt rfl ?_))))))
  exact hQ
/-- the reference -/
theorem r409_l (hb : b < 3840) (ho : op = 16 ∨ op = 17) (h : v.1 211 b = nI op) (hQ : wp (d_412 n (nI M) (nI b) v) Q') : wp (d_409 n (nI M) (nI b) v) Q' := by
  have hib : ib (nI b) 3840 := ib_n hb (by decide)
  obtain ⟨q, h1, h2⟩ := wp_ex hQ
  unfold d_409
  rw [show ix (nI b) = b from ix_n (by omega), h]
  rcases ho with rfl | rfl
  all_goals
    refine wpt hib (wpj (wpj (wpj (wpj ?_))))
    repeat (first | ((with_reducible refine wpf ?_ ?_); · decide) | ((with_reducible refine wpt ?_ ?_); · rfl))
    exact wpe h1 h2
theorem r409_d (hb : b < 3840) (ho : op = 18 ∨ op = 19 ∨ op = 20) (h : v.1 211 b = nI op) (hQ : wp (Option.bind (d_381 n (pI v 217 b (v.1 174 67))) (fun r8 =>
    Option.bind (d_380 n 46 r8.2) (fun r10 =>
    Option.bind (d_381 n r10) (fun r11 =>
    some r11.2)))) Q') : wp (d_409 n (nI M) (nI b) v) Q' := by
  have hib : ib (nI b) 3840 := ib_n hb (by decide)
  unfold d_409
  rw [show ix (nI b) = b from ix_n (by omega), h]
  rcases ho with rfl | rfl | rfl
  all_goals
    refine wpt hib (wpj (wpj (wpj (wpj ?_))))
    repeat (first | ((with_reducible refine wpf ?_ ?_); · decide) | ((with_reducible refine wpt ?_ ?_); · rfl))
    exact wpt hib (wpl hQ)
theorem r409_0 (hb : b < 3840) (h1 : 21 ≤ op) (h2 : op ≤ 26) (h : v.1 211 b = nI op) (hQ : Q' v) : wp (d_409 n (nI M) (nI b) v) Q' := by
  have hib : ib (nI b) 3840 := ib_n hb (by decide)
  unfold d_409
  rw [show ix (nI b) = b from ix_n (by omega), h]
  obtain rfl | rfl | rfl | rfl | rfl | rfl : op = 21 ∨ op = 22 ∨ op = 23 ∨ op = 24 ∨ op = 25 ∨ op = 26 := by omega
  all_goals
    refine wpt hib (wpj (wpj (wpj (wpj ?_))))
    repeat (first | ((with_reducible refine wpf ?_ ?_); · decide) | ((with_reducible refine wpt ?_ ?_); · rfl))
    exact hQ
theorem r409_j (hb : b < 3840) (ho : op = 27 ∨ op = 28) (h : v.1 211 b = nI op) (hQ : wp (Option.bind (d_381 n (pI v 218 b (v.1 174 67))) (fun r18 =>
    some r18.2)) Q') : wp (d_409 n (nI M) (nI b) v) Q' := by
  have hib : ib (nI b) 3840 := ib_n hb (by decide)
  unfold d_409
  rw [show ix (nI b) = b from ix_n (by omega), h]
  rcases ho with rfl | rfl
  all_goals
    refine wpt hib (wpj (wpj (wpj (wpj ?_))))
    repeat (first | ((with_reducible refine wpf ?_ ?_); · decide) | ((with_reducible refine wpt ?_ ?_); · rfl))
    exact wpt hib (wpl hQ)
theorem r409_e (hb : b < 3840) (h : v.1 211 b = nI 29) (hQ : wp (Option.bind (d_410 n (nI b) v) (fun r42 =>
    Option.bind (d_381 n (pI r42 218 b (r42.1 174 67))) (fun r46 =>
    some r46.2))) Q') : wp (d_409 n (nI M) (nI b) v) Q' := by
  have hib : ib (nI b) 3840 := ib_n hb (by decide)
  obtain ⟨q, h1⟩ : ∃ q, d_410 n (nI b) v = some q := by
    cases e : d_410 n (nI b) v with
    | none =>
      rw [e] at hQ
      exact absurd hQ id
    | some q => exact ⟨q, rfl⟩
  rw [h1] at hQ
  unfold d_409
  rw [show ix (nI b) = b from ix_n (by omega), h]
  refine wpt hib (wpj (wpj (wpj (wpj ?_))))
  repeat (first | ((with_reducible refine wpf ?_ ?_); · decide) | ((with_reducible refine wpt ?_ ?_); · rfl))
  exact wpe h1 (wpt hib (wpl hQ))
theorem r409_f (hb : b < 3840) (h : v.1 211 b = nI 30) (hQ : wp (d_410 n (nI b) v) Q') : wp (d_409 n (nI M) (nI b) v) Q' := by
  have hib : ib (nI b) 3840 := ib_n hb (by decide)
  obtain ⟨q, h1, h2⟩ := wp_ex hQ
  unfold d_409
  rw [show ix (nI b) = b from ix_n (by omega), h]
  refine wpt hib (wpj (wpj (wpj (wpj ?_))))
  repeat (first | ((with_reducible refine wpf ?_ ?_); · decide) | ((with_reducible refine wpt ?_ ?_); · rfl))
  exact wpe h1 h2
theorem r409_p (hb : b < 3840) (h : v.1 211 b = nI 14) (hQ : wp (Option.bind (d_382 n 0 1 v) (fun r21 => d_411 n (nI b) (pI r21 214 b (((r21.2 174 68) : Int64).toInt32)))) Q') : wp (d_409 n (nI M) (nI b) v) Q' := by
  have hib : ib (nI b) 3840 := ib_n hb (by decide)
  obtain ⟨q, h1, h2⟩ := wp_ex hQ
  unfold d_409
  rw [show ix (nI b) = b from ix_n (by omega), h]
  refine wpt hib (wpj (wpj (wpj (wpj (wpt rfl ?_)))))
  cases e : d_382 n 0 1 v with
  | none =>
    rw [e] at h1
    cases h1
  | some r =>
    rw [e] at h1
    refine wpe rfl (wpt hib (wpl (wpe (a := q) h1 h2)))
theorem r409_t (hb : b < 3840) (h : v.1 211 b = nI 15) (hQ : wp (d_411 n (nI b) v) Q') : wp (d_409 n (nI M) (nI b) v) Q' := by
  have hib : ib (nI b) 3840 := ib_n hb (by decide)
  obtain ⟨q, h1, h2⟩ := wp_ex hQ
  unfold d_409
  rw [show ix (nI b) = b from ix_n (by omega), h]
  refine wpt hib (wpj (wpj (wpj (wpj (wpf (by decide) (wpt rfl (wpe h1 h2)))))))
end RED
