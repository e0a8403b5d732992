/-! FLOW: both find the same; the call flow -/
theorem erK_eq {m : cS} {o M i : Nat} {K f g : Nat → Nat} (hr : RCH m M i) (h : ∀ s, s < 8 + dpn m (40 * M + i) → f s = g s) : ∀ k, k ≤ wnt m (40 * M + i) → erK m o K M (40 * M + i) i f k = erK m o K M (40 * M + i) i g k
  | 0, _ => rfl
  | k + 1, hk => by
    have hb := wts_b hr (k := k) (by omega)
    show erK m o K M (40 * M + i) i f k ++ _ = erK m o K M (40 * M + i) i g k ++ _
    rw [erK_eq hr h k (by omega), h _ hb.2.1]
theorem erI_eq {c m : cS} {o M : Nat} {K ent : Nat → Nat} {X Y : Nat → Option (Nat → Nat)} (hF : FX c m o M K) (hX : SOL m o M K ent X) (hY : SOL m o M K ent Y) : ∀ i, i ≤ acn m M → erI m o K X M i = erI m o K Y M i
  | 0, _ => rfl
  | i + 1, hi => by
    show erI m o K X M i ++ erX m o K X M i = erI m o K Y M i ++ erX m o K Y M i
    rw [erI_eq hF hX hY i (by omega)]
    congr 1
    unfold erX
    rcases SOL_eq rfl (FX_L hF).1 hX hY i (by omega) with ⟨h1, h2⟩ | ⟨f, g, h1, h2, h3⟩
    · rw [h1, h2]
    · rw [h1, h2]
      exact erK_eq (hX.1 i f (by omega) h1).1 h3 _ (Nat.le_refl _)
theorem erM_eq {c m : cS} {o : Nat} {K : Nat → Nat} {X Y : Nat → Nat → Option (Nat → Nat)} (hF : ∀ M, isMt m M → FX c m o M K) (hX : ∀ M, isMt m M → SOL m o M K (entV m o M K) (X M)) (hY : ∀ M, isMt m M → SOL m o M K (entV m o M K) (Y M)) : ∀ N, erM m o K X N = erM m o K Y N
  | 0 => rfl
  | N + 1 => by
    show erM m o K X N ++ _ = erM m o K Y N ++ _
    rw [erM_eq hF hX hY N]
    by_cases e : mtb m N = true
    · have hN := mtb_t.mp e
      rw [if_pos e, if_pos e, erI_eq (hF N hN) (hX N hN) (hY N hN) _ (Nat.le_refl _)]
    · rw [if_neg e, if_neg e]
/-- what is in the list of ERRORS -/
def ERP (m : cS) (o : Nat) (K : Nat → Nat) (X : Nat → Nat → Option (Nat → Nat)) (x : Nat × Nat × Nat × Nat × Nat) : Prop := isMt m x.1 ∧ x.2.1 < acn m x.1 ∧ x.2.2.1 < wnt m (40 * x.1 + x.2.1) ∧ ∃ f, X x.1 x.2.1 = some f ∧ x.2.2.2.1 = f (wts m (40 * x.1 + x.2.1) x.2.2.1) ∧ x.2.2.2.2 = K (wtp m x.1 (40 * x.1 + x.2.1) x.2.2.1)
theorem erK_in {m : cS} {o M b i : Nat} {K f : Nat → Nat} {x : Nat × Nat × Nat × Nat × Nat} : ∀ k, x ∈ erK m o K M b i f k → x.1 = M ∧ x.2.1 = i ∧ x.2.2.1 < k ∧ x.2.2.2.1 = f (wts m b x.2.2.1) ∧ x.2.2.2.2 = K (wtp m M b x.2.2.1)
  | 0, h => by cases h
  | k + 1, h => by
    have h' : x ∈ erK m o K M b i f k ++ (if mBb m o (f (wts m b k)) (K (wtp m M b k)) then [] else [(M, i, k, f (wts m b k), K (wtp m M b k))]) := h
    rcases List.mem_append.mp h' with h1 | h1
    · obtain ⟨a1, a2, a3, a4, a5⟩ := erK_in k h1
      exact ⟨a1, a2, by omega, a4, a5⟩
    · by_cases e : mBb m o (f (wts m b k)) (K (wtp m M b k)) = true
      · rw [if_pos e] at h1
        cases h1
      · rw [if_neg e] at h1
        rw [List.mem_singleton.mp h1]
        exact ⟨rfl, rfl, Nat.lt_succ_self k, rfl, rfl⟩
theorem erI_in {m : cS} {o M : Nat} {K : Nat → Nat} {X : Nat → Nat → Option (Nat → Nat)} {x : Nat × Nat × Nat × Nat × Nat} (hM : isMt m M) : ∀ i, i ≤ acn m M → x ∈ erI m o K (X M) M i → ERP m o K X x ∧ x.1 < M + 1
  | 0, _, h => by cases h
  | i + 1, hi, h => by
    have h' : x ∈ erI m o K (X M) M i ++ erX m o K (X M) M i := h
    rcases List.mem_append.mp h' with h1 | h1
    · exact erI_in hM i (by omega) h1
    · unfold erX at h1
      cases hx : X M i with
      | none =>
        rw [hx] at h1
        cases h1
      | some f =>
        rw [hx] at h1
        obtain ⟨a1, a2, a3, a4, a5⟩ := erK_in _ h1
        unfold ERP
        rw [a1, a2]
        exact ⟨⟨hM, by omega, a3, f, hx, a4, a5⟩, by omega⟩
theorem erM_in {m : cS} {o : Nat} {K : Nat → Nat} {X : Nat → Nat → Option (Nat → Nat)} {x : Nat × Nat × Nat × Nat × Nat} : ∀ N, x ∈ erM m o K X N → ERP m o K X x
  | 0, h => by cases h
  | N + 1, h => by
    have h' : x ∈ erM m o K X N ++ (if mtb m N then erI m o K (X N) N (acn m N) else []) := h
    rcases List.mem_append.mp h' with h1 | h1
    · exact erM_in N h1
    · by_cases e : mtb m N = true
      · rw [if_pos e] at h1
        exact (erI_in (mtb_t.mp e) _ (Nat.le_refl _) h1).1
      · rw [if_neg e] at h1
        cases h1
/-- FLOW as both keep it -/
def SPS (c u : cS) : Prop := ∃ k, k ≤ 400 ∧ c.1 150 16 = nI k ∧ u.1 174 102 = nI k ∧ ∀ j, j < k → c.1 158 j = u.1 249 j
def FLW (m c u : cS) : Prop := (c.1 150 3 = nM ∧ u.1 174 97 = nM ∧ c.1 150 16 = nI 0) ∨ ∃ o, o < ocn m ∧ c.1 150 3 = nI o ∧ u.1 174 97 = nI o ∧ c.1 146 8 = nI 0 ∧ FOL c m o c ∧ FOR m o (fun p => TM m c p o) u ∧ SPS c u
