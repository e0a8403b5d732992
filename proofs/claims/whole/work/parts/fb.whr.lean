/-! two loops; the first may end before the second -/
section WHR
variable {S T A B : Type}
theorem jw_whr {f : S → Option (S ⊕ A)} {g : T → Option (T ⊕ B)} {X : A → B → Prop} (F : Nat) (I : Nat → S → T → Prop) (h : ∀ m s t, I m s t → (∃ s' t' m', f s = some (.inl s') ∧ g t = some (.inl t') ∧ m' < m ∧ I m' s' t') ∨ (∃ r q, f s = some (.inr r) ∧ (∀ x, F < x → whl g x t = some q) ∧ X r q)) : ∀ (n n' m : Nat) (s : S) (t : T), m < n → m + F < n' → I m s t → jw (whl f n s) (whl g n' t) X
  | 0, _, _, _, _, h1, _, _ => absurd h1 (Nat.not_lt_zero _)
  | _ + 1, 0, _, _, _, _, h2, _ => absurd h2 (Nat.not_lt_zero _)
  | n + 1, n' + 1, m, s, t, h1, h2, hi => by
    rcases h m s t hi with ⟨s', t', m', e1, e2, hm, hi'⟩ | ⟨r, q, e1, e2, hX⟩
    · rw [whl_in e1, whl_in e2]
      exact jw_whr F I h n n' m' s' t' (by omega) (by omega) hi'
    · exact wp_of (whl_out e1) (wp_of (e2 (n' + 1) (by omega)) hX)
end WHR
