/-! TOOLS: numbers, searches, loops, two programs side by side -/
def nM : Int32 := -1
theorem obs {α β : Type} {a : α} {f : α → Option β} : Option.bind (some a) f = f a := rfl
theorem neg1 : (-1 : Int32) = nM := rfl
theorem nlit (k : Nat) : (no_index (OfNat.ofNat k) : Int32) = nI (OfNat.ofNat k : Nat) := rfl
theorem ltT {a b : Nat} (h : a < b) (hb : b < 2147483648) : (nI a < nI b) = True := eq_true (nI_lt h hb)
theorem ltF {a b : Nat} (h : b ≤ a) (ha : a < 2147483648) : (nI a < nI b) = False := eq_false (nI_nlt h ha)
theorem leT {a b : Nat} (h : a ≤ b) (hb : b < 2147483648) : (nI a ≤ nI b) = True := eq_true (nI_le h hb)
theorem leF {a b : Nat} (h : b < a) (ha : a < 2147483648) : (nI a ≤ nI b) = False := eq_false (nI_ge h ha)
theorem eqT {a b : Nat} (h : a = b) : (nI a = nI b) = True := by
  subst h
  exact eq_true rfl
theorem eqF {a b : Nat} (h : a ≠ b) (ha : a < 2147483648) (hb : b < 2147483648) : (nI a = nI b) = False := eq_false (fun z => h ((nI_eq ha hb).mp z))
theorem ibT {k n : Nat} (h : k < n) (hn : n < 2147483648) : ib (nI k) n = True := eq_true (ib_n h hn)
theorem ixT {k : Nat} (h : k < 2147483648) : ix (nI k) = k := ix_n h
theorem sbT {a b : Nat} (h : b ≤ a) : nI a - nI b = nI (a - b) := pk_sub h
theorem dvT {a d : Nat} (ha : a < 2147483648) (h0 : 0 < d) (hd : d < 2147483648) : nI a / nI d = nI (a / d) := pk_div ha h0 hd
theorem nmd (a d : Nat) : a - a / d * d = a % d := by
  have := Nat.div_add_mod a d
  rw [Nat.mul_comm] at this
  omega
theorem nM_ltT {k : Nat} (h : k < 2147483648) : (nM < nI k) = True := eq_true (Int32.lt_iff_toInt_lt.mpr (by rw [nI_toInt h]; show (-1 : Int32).toInt < _; rw [show (-1 : Int32).toInt = -1 by decide]; omega))
theorem nM_ltF {k : Nat} (h : k < 2147483648) : (nI k < nM) = False := eq_false (fun z => by have := Int32.lt_iff_toInt_lt.mp z; rw [nI_toInt h, show nM.toInt = -1 by decide] at this; omega)
theorem nM_leT {k : Nat} (h : k < 2147483648) : (nM ≤ nI k) = True := eq_true (Int32.le_iff_toInt_le.mpr (by rw [nI_toInt h, show nM.toInt = -1 by decide]; omega))
theorem nM_leF {k : Nat} (h : k < 2147483648) : (nI k ≤ nM) = False := eq_false (fun z => by have := Int32.le_iff_toInt_le.mp z; rw [nI_toInt h, show nM.toInt = -1 by decide] at this; omega)
theorem nM_eqF {k : Nat} (h : k < 2147483648) : (nI k = nM) = False := eq_false (fun z => by have := congrArg Int32.toInt z; rw [nI_toInt h, show nM.toInt = -1 by decide] at this; omega)
theorem nM_eqF' {k : Nat} (h : k < 2147483648) : (nM = nI k) = False := eq_false (fun z => by have := congrArg Int32.toInt z; rw [nI_toInt h, show nM.toInt = -1 by decide] at this; omega)
theorem natF {a b : Nat} (h : a ≠ b) : (a = b) = False := eq_false h
theorem natT {a b : Nat} (h : a = b) : (a = b) = True := eq_true h
theorem nltT {a b : Nat} (h : a < b) : (a < b) = True := eq_true h
theorem nltF {a b : Nat} (h : b ≤ a) : (a < b) = False := eq_false (by omega)
theorem nleT {a b : Nat} (h : a ≤ b) : (a ≤ b) = True := eq_true h
theorem nleF {a b : Nat} (h : b < a) : (a ≤ b) = False := eq_false (by omega)
theorem nbT0 : nb (nI 0) = True := eq_true (Or.inl rfl)
theorem nbT1 : nb (nI 1) = True := eq_true (Or.inr rfl)
theorem lgc {x y : Int64} : (lg_cmp x y = nI 0) = (x = y) := by
  unfold lg_cmp
  by_cases h : x = y
  · subst h
    rw [if_neg (fun z => Int64.lt_irrefl z), if_pos rfl]
    exact (eq_true rfl).trans (eq_true rfl).symm
  · rw [if_neg h]
    refine Eq.trans ?_ (eq_false h).symm
    split
    · exact eq_false (by decide)
    · exact eq_false (by decide)
/-- the first place from k on, of t, where p holds -/
def fnd (p : Nat → Bool) : Nat → Nat → Option Nat
  | 0, _ => none
  | t + 1, k => if p k = true then some k else fnd p t (k + 1)
def ff (p : Nat → Bool) (n : Nat) : Option Nat := fnd p n 0
def oI : Option Nat → Int32
  | some k => nI k
  | none => nM
theorem oI_s {k : Nat} : oI (some k) = nI k := rfl
theorem oI_n : oI none = nM := rfl
section FND
variable {p q : Nat → Bool}
theorem fnd_some : ∀ {t k j : Nat}, fnd p t k = some j → k ≤ j ∧ j < k + t ∧ p j = true ∧ ∀ i, k ≤ i → i < j → p i = false
  | 0, _, _, h => by cases h
  | t + 1, k, j, h => by
    unfold fnd at h
    by_cases hp : p k = true
    · rw [if_pos hp] at h
      cases h
      exact ⟨Nat.le_refl _, by omega, hp, fun i h1 h2 => by omega⟩
    · rw [if_neg hp] at h
      obtain ⟨h1, h2, h3, h4⟩ := fnd_some h
      refine ⟨by omega, by omega, h3, fun i g1 g2 => ?_⟩
      by_cases e : i = k
      · rw [e]
        simpa using hp
      · exact h4 i (by omega) g2
theorem fnd_none : ∀ {t k : Nat}, fnd p t k = none → ∀ i, k ≤ i → i < k + t → p i = false
  | 0, _, _, i, h1, h2 => by omega
  | t + 1, k, h, i, h1, h2 => by
    unfold fnd at h
    by_cases hp : p k = true
    · rw [if_pos hp] at h
      cases h
    · rw [if_neg hp] at h
      by_cases e : i = k
      · rw [e]
        simpa using hp
      · exact fnd_none h i (by omega) (by omega)
theorem fnd_congr : ∀ {t k : Nat}, (∀ i, k ≤ i → i < k + t → p i = q i) → fnd p t k = fnd q t k
  | 0, _, _ => rfl
  | t + 1, k, h => by
    unfold fnd
    rw [h k (Nat.le_refl _) (by omega), fnd_congr (fun i h1 h2 => h i (by omega) (by omega))]
theorem ff_some {n j : Nat} (h : ff p n = some j) : j < n ∧ p j = true ∧ ∀ i, i < j → p i = false := by
  obtain ⟨h1, h2, h3, h4⟩ := fnd_some h
  exact ⟨by omega, h3, fun i hi => h4 i (by omega) hi⟩
theorem ff_none {n : Nat} (h : ff p n = none) : ∀ i, i < n → p i = false := fun i hi => fnd_none h i (by omega) (by omega)
theorem ff_congr {n : Nat} (h : ∀ i, i < n → p i = q i) : ff p n = ff q n := fnd_congr (fun i _ h2 => h i (by omega))
theorem ff_no {n : Nat} (h : ∀ i, i < n → p i = false) : ff p n = none := by
  cases e : ff p n with
  | none => rfl
  | some j =>
    obtain ⟨h1, h2, -⟩ := ff_some e
    rw [h j h1] at h2
    cases h2
theorem ff_is {n j : Nat} (hj : j < n) (hp : p j = true) (h : ∀ i, i < j → p i = false) : ff p n = some j := by
  cases e : ff p n with
  | none =>
    have := ff_none e j hj
    rw [hp] at this
    cases this
  | some k =>
    obtain ⟨h1, h2, h3⟩ := ff_some e
    by_cases hk : k < j
    · rw [h k hk] at h2
      cases h2
    · by_cases hk2 : j < k
      · rw [h3 j hk2] at hp
        cases hp
      · exact congrArg some (by omega)
end FND
section LOOPS
variable {S R T Q α β γ δ : Type}
theorem whl_fnd {f : S → Option (S ⊕ R)} (st : Nat → S) (e : R) (g : Nat → R) (p : Nat → Bool) {cnt : Nat} (h1 : f (st cnt) = some (.inr e)) (h2 : ∀ j, j < cnt → f (st j) = some (if p j = true then .inr (g j) else .inl (st (j + 1)))) : ∀ (t k n : Nat), k + t = cnt → t < n → whl f n (st k) = some ((fnd p t k).elim e g)
  | 0, k, n + 1, hk, _ => by
    have : k = cnt := by omega
    subst this
    show (f (st k)).bind _ = _
    rw [h1]
    rfl
  | t + 1, k, n + 1, hk, hn => by
    show (f (st k)).bind _ = _
    rw [h2 k (by omega)]
    unfold fnd
    by_cases hp : p k = true
    · rw [if_pos hp, if_pos hp]
      rfl
    · rw [if_neg hp, if_neg hp]
      exact whl_fnd st e g p h1 h2 t (k + 1) n (by omega) (by omega)
theorem whl_ff {f : S → Option (S ⊕ R)} {n : Nat} (st : Nat → S) (e : R) (g : Nat → R) (p : Nat → Bool) {cnt : Nat} (hn : cnt < n) (h1 : f (st cnt) = some (.inr e)) (h2 : ∀ j, j < cnt → f (st j) = some (if p j = true then .inr (g j) else .inl (st (j + 1)))) : whl f n (st 0) = some ((ff p cnt).elim e g) := whl_fnd st e g p h1 h2 cnt 0 n (by omega) hn
theorem whl_fold {f : S → Option (S ⊕ R)} {n : Nat} (st : Nat → S) (e : R) {cnt : Nat} (hn : cnt < n) (h1 : f (st cnt) = some (.inr e)) (h2 : ∀ j, j < cnt → f (st j) = some (.inl (st (j + 1)))) : whl f n (st 0) = some e := by
  rw [whl_ff st e (fun _ => e) (fun _ => false) hn h1 (fun j hj => by rw [h2 j hj]; rfl), ff_no (fun _ _ => rfl)]
  rfl
theorem bwf {f : S → Option (S ⊕ R)} {G : R → Option α} {n cnt : Nat} {s0 : S} {r : Option α} (st : Nat → S) (e : R) (g : Nat → R) (p : Nat → Bool) (hn : cnt < n) (hs : s0 = st 0) (h1 : f (st cnt) = some (.inr e)) (h2 : ∀ j, j < cnt → f (st j) = some (if p j = true then .inr (g j) else .inl (st (j + 1)))) (hr : G ((ff p cnt).elim e g) = r) : Option.bind (whl f n s0) G = r := by
  rw [hs, whl_ff st e g p hn h1 h2]
  exact hr
theorem bwo {f : S → Option (S ⊕ R)} {G : R → Option α} {n cnt : Nat} {s0 : S} {r : Option α} (st : Nat → S) (e : R) (hn : cnt < n) (hs : s0 = st 0) (h1 : f (st cnt) = some (.inr e)) (h2 : ∀ j, j < cnt → f (st j) = some (.inl (st (j + 1)))) (hr : G e = r) : Option.bind (whl f n s0) G = r := by
  rw [hs, whl_fold st e hn h1 h2]
  exact hr
theorem eq_wp {x : Option α} {a : α} (h : wp x (fun r => r = a)) : x = some a := by
  cases x with
  | none => exact h.elim
  | some b => exact congrArg some h
theorem bnd {x : Option α} {a : α} {f : α → Option β} (e : x = some a) : Option.bind x f = f a := by
  rw [e]
  rfl
theorem wbf {f : S → Option (S ⊕ R)} {G : R → Option α} {K : α → Prop} {n cnt : Nat} {s0 : S} (st : Nat → S) (e : R) (g : Nat → R) (p : Nat → Bool) (hn : cnt < n) (hs : s0 = st 0) (h1 : f (st cnt) = some (.inr e)) (h2 : ∀ j, j < cnt → f (st j) = some (if p j = true then .inr (g j) else .inl (st (j + 1)))) (hr : wp (G ((ff p cnt).elim e g)) K) : wp (Option.bind (whl f n s0) G) K := by
  rw [bwf st e g p hn hs h1 h2 rfl]
  exact hr
theorem wbo {f : S → Option (S ⊕ R)} {G : R → Option α} {K : α → Prop} {n cnt : Nat} {s0 : S} (st : Nat → S) (e : R) (hn : cnt < n) (hs : s0 = st 0) (h1 : f (st cnt) = some (.inr e)) (h2 : ∀ j, j < cnt → f (st j) = some (.inl (st (j + 1)))) (hr : wp (G e) K) : wp (Option.bind (whl f n s0) G) K := by
  rw [bwo st e hn hs h1 h2 rfl]
  exact hr
/-- a loop that is gone through N times at most -/
theorem whl_cnt {f : S → Option (S ⊕ R)} {X : R → Prop} (I : Nat → S → Prop) (N : Nat) (h : ∀ k s, k < N → I k s → wp (f s) (Sum.elim (I (k + 1)) X)) (hx : ∀ s, I N s → wp (f s) (Sum.elim (fun _ => False) X)) {n : Nat} {s : S} (hn : N < n) (h0 : I 0 s) : wp (whl f n s) X := by
  refine whl_run (fun m s => ∃ k, k ≤ N ∧ m = N - k ∧ I k s) ?_ n N s hn ⟨0, by omega, rfl, h0⟩
  rintro m s ⟨k, hk, rfl, hi⟩
  by_cases e : k = N
  · subst e
    refine wp_mono (hx s hi) (fun a ha => ?_)
    cases a with
    | inl _ => exact ha.elim
    | inr _ => exact ha
  · refine wp_mono (h k s (by omega) hi) (fun a ha => ?_)
    cases a with
    | inl s' => exact ⟨N - (k + 1), by omega, k + 1, by omega, rfl, ha⟩
    | inr _ => exact ha
/-- two programs side by side -/
def jw (x : Option α) (y : Option β) (P : α → β → Prop) : Prop := wp x (fun r => wp y (fun q => P r q))
variable {x : Option α} {y : Option β} {P : α → β → Prop}
theorem jw_of {a : α} {b : β} (hx : x = some a) (hy : y = some b) (h : P a b) : jw x y P := wp_of hx (wp_of hy h)
theorem jw_ex (h : jw x y P) : ∃ a b, x = some a ∧ y = some b ∧ P a b := by
  obtain ⟨a, h1, h2⟩ := wp_ex h
  obtain ⟨b, h3, h4⟩ := wp_ex h2
  exact ⟨a, b, h1, h3, h4⟩
theorem jw_swap (h : jw y x (fun q r => P r q)) : jw x y P := by
  obtain ⟨a, b, h1, h2, h3⟩ := jw_ex h
  exact jw_of h2 h1 h3
theorem jw_mono {P' : α → β → Prop} (h : jw x y P') (hk : ∀ a b, P' a b → P a b) : jw x y P := by
  obtain ⟨a, b, h1, h2, h3⟩ := jw_ex h
  exact jw_of h1 h2 (hk a b h3)
theorem jwb {f : α → Option γ} {g : β → Option δ} {P' : γ → δ → Prop} (h : jw x y P) (hk : ∀ r q, P r q → jw (f r) (g q) P') : jw (x.bind f) (y.bind g) P' := by
  obtain ⟨a, b, h1, h2, h3⟩ := jw_ex h
  rw [h1, h2]
  exact hk a b h3
theorem jw_whl {f : S → Option (S ⊕ R)} {g : T → Option (T ⊕ Q)} {X : R → Q → Prop} (I : Nat → S → T → Prop) (h : ∀ m s t, I m s t → jw (f s) (g t) (fun a b => (∃ s' t' m', a = .inl s' ∧ b = .inl t' ∧ m' < m ∧ I m' s' t') ∨ (∃ r q, a = .inr r ∧ b = .inr q ∧ X r q))) : ∀ (n n' m : Nat) (s : S) (t : T), m < n → m < n' → I m s t → jw (whl f n s) (whl g n' t) X
  | 0, _, _, _, _, h1, _, _ => absurd h1 (Nat.not_lt_zero _)
  | _ + 1, 0, _, _, _, _, h2, _ => absurd h2 (Nat.not_lt_zero _)
  | n + 1, n' + 1, m, s, t, h1, h2, hi => by
    refine jwb (h m s t hi) (fun a b hab => ?_)
    rcases hab with ⟨s', t', m', rfl, rfl, hm, hi'⟩ | ⟨r, q, rfl, rfl, hX⟩
    · exact jw_whl I h n n' m' s' t' (by omega) (by omega) hi'
    · exact hX
theorem wpS {a : γ} {K : γ → Prop} (h : K a) : wp (some a) K := h
theorem wpSl {f : α → Option γ} {g : β → Option γ} {p : α} {K : γ → Prop} (h : wp (f p) K) : wp (Sum.elim f g (.inl p)) K := h
theorem wpSr {f : α → Option γ} {g : β → Option γ} {p : β} {K : γ → Prop} (h : wp (g p) K) : wp (Sum.elim f g (.inr p)) K := h
end LOOPS
theorem rng (a : Int32) {N : Nat} (hN : N < 2147483648) : ((a < nI 0) = True ∧ (nI 0 ≤ a) = False ∧ (nI N ≤ a) = False ∧ ∀ j, j < 2147483648 → (a = nI j) = False) ∨ ((a < nI 0) = False ∧ (nI 0 ≤ a) = True ∧ (nI N ≤ a) = True ∧ (a < nI N) = False ∧ ∀ j, j < N → (a = nI j) = False) ∨ ∃ j, j < N ∧ a = nI j := by
  rcases pk_ix a (n := N) hN with h | h | ⟨j, h1, h2⟩
  · have h : a < nI 0 := h
    have hi := Int32.lt_iff_toInt_lt.mp h
    rw [nI_toInt (by decide)] at hi
    refine Or.inl ⟨eq_true h, eq_false (fun z => ?_), eq_false (fun z => ?_), fun j hj => eq_false (fun z => ?_)⟩
    · have := Int32.le_iff_toInt_le.mp z
      rw [nI_toInt (by decide)] at this
      omega
    · have := Int32.le_iff_toInt_le.mp z
      rw [nI_toInt hN] at this
      omega
    · rw [z, nI_toInt hj] at hi
      omega
  · have hi := Int32.le_iff_toInt_le.mp h
    rw [nI_toInt hN] at hi
    refine Or.inr (Or.inl ⟨eq_false (fun z => ?_), eq_true ?_, eq_true h, eq_false (fun z => ?_), fun j hj => eq_false (fun z => ?_)⟩)
    · have := Int32.lt_iff_toInt_lt.mp z
      rw [nI_toInt (by decide)] at this
      omega
    · refine Int32.le_iff_toInt_le.mpr ?_
      rw [nI_toInt (by decide)]
      omega
    · have := Int32.lt_iff_toInt_lt.mp z
      rw [nI_toInt hN] at this
      omega
    · rw [z, nI_toInt (by omega)] at hi
      omega
  · exact Or.inr (Or.inr ⟨j, h1, h2⟩)
/-- a number that is an int -/
def iv (v : Int64) : Prop := v.toInt32.toInt64 = v
