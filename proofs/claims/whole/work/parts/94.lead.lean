/-! FLOW: STATES joined, brought, led on -/
def jnK (m : cS) (o : Nat) (x y : Int64) : Nat → Int64
  | 0 => x
  | k + 1 => wn (jnK m o x y k) k (Jo m o (nbl x k) (nbl y k))
def jnS (m : cS) (o : Nat) (x y : Int64) : Int64 := jnK m o x y 16
theorem WF_lt {E l d j : Nat} {s : Int64} (h : WFs E l d s) (hE : 1 ≤ E) (hj : j < 16) : nbl s j < E := by
  have := h j hj
  by_cases hc : j < l ∨ (8 ≤ j ∧ j < 8 + d)
  · rwa [if_pos hc] at this
  · rw [if_neg hc] at this
    omega
theorem WF_ne {E l d : Nat} {s : Int64} (h : WFs E l d s) (hE : 1 ≤ E ∧ E ≤ 12) : s ≠ -1 := fun z => by
  have h1 := WF_lt h hE.1 (j := 0) (by omega)
  rw [z, show nbl (-1) 0 = 15 by decide +kernel] at h1
  omega
theorem nbl_jnK {m : cS} {o N j : Nat} {x y : Int64} (hL : LA o N m) (hx : ∀ j, j < 16 → nbl x j < N) (hy : ∀ j, j < 16 → nbl y j < N) (hj : j < 16) : ∀ k, k ≤ 16 → nbl (jnK m o x y k) j = if j < k then Jo m o (nbl x j) (nbl y j) else nbl x j
  | 0, _ => by
    rw [if_neg (by omega)]
    rfl
  | k + 1, hk => by
    have h1 := (LA_J hL (hx k (by omega)) (hy k (by omega))).1
    have h2 := hL.1.2
    unfold jnK
    rw [nbl_wn (by omega) (by omega) hj, nbl_jnK hL hx hy hj k (by omega)]
    by_cases e : j = k
    · rw [if_pos e, if_pos (by omega), e]
    · rw [if_neg e]
      by_cases e2 : j < k
      · rw [if_pos e2, if_pos (by omega)]
      · rw [if_neg e2, if_neg (by omega)]
theorem nbl_jnS {m : cS} {o N j : Nat} {x y : Int64} (hL : LA o N m) (hx : ∀ j, j < 16 → nbl x j < N) (hy : ∀ j, j < 16 → nbl y j < N) (hj : j < 16) : nbl (jnS m o x y) j = Jo m o (nbl x j) (nbl y j) := by
  unfold jnS
  rw [nbl_jnK hL hx hy hj 16 (by omega), if_pos hj]
theorem Jo_self {m : cS} {o N a : Nat} (hL : LA o N m) (ha : a < N) : Jo m o a a = a := (LA_Jid hL ha ha).mpr (LA_refl hL ha)
theorem jnS_self {m : cS} {o N : Nat} {x : Int64} (hL : LA o N m) (hx : ∀ j, j < 16 → nbl x j < N) : jnS m o x x = x := nb_ext fun j hj => by
  rw [nbl_jnS hL hx hx hj, Jo_self hL (hx j hj)]
theorem jnS_WF {m : cS} {o l d : Nat} {x y : Int64} (hL : LA o (eln m o) m) (hx : WFs (eln m o) l d x) (hy : WFs (eln m o) l d y) : WFs (eln m o) l d (jnS m o x y) := by
  have h1 := hL.1.1
  intro j hj
  have hx' := fun j hj => WF_lt (j := j) hx h1 hj
  have hy' := fun j hj => WF_lt (j := j) hy h1 hj
  rw [nbl_jnS hL hx' hy' hj]
  by_cases hc : j < l ∨ (8 ≤ j ∧ j < 8 + d)
  · rw [if_pos hc]
    exact (LA_J hL (hx' j hj) (hy' j hj)).1
  · have a1 := hx j hj
    have a2 := hy j hj
    rw [if_neg hc] at a1 a2 ⊢
    rw [a1, a2]
    exact Jo_self hL h1
theorem e201 {n o l d : Nat} {x y : Int64} {c m : cS} (hn : 1000 ≤ n) (hO : OOS c m) (ho : o < ocn m) (h3 : c.1 150 3 = nI o) (hx : WFs (eln m o) l d x) (hy : WFs (eln m o) l d y) : d_201 n x y c = some (jnS m o x y) := by
  have hRO := OOS_at hO ho
  have hL := hRO.1
  have ho4 := hO.1
  have hx' := fun j hj => WF_lt (j := j) hx hL.1.1 hj
  have hy' := fun j hj => WF_lt (j := j) hy hL.1.1 hj
  have h12 := hL.1.2
  unfold d_201
  by_cases e : x = y
  · subst e
    rw [jnS_self hL hx']
    refine bwo (fun k => (x, nI k)) x (cnt := 0) (by omega) rfl ?_ (fun k hk => by omega) rfl
    simp (disch := first | omega | decide) only [↓neg1, nlit, rI, rL, rI2, rL1, nI_add, pk_mul, sbT, dvT, nmd, ixT, ↓ibT, ltT, ltF, leT, leF, eqT, eqF, nM_ltT, nM_ltF, nM_leT, nM_leF, nM_eqF, nM_eqF', nbT0, nbT1, oI_s, oI_n, natF, natT, nltT, nltF, nleT, nleF, ↓reduceIte, lgc, not_true_eq_false, not_false_eq_true, or_false, false_or, or_true, true_or, and_true, true_and, and_false, false_and, ne_eq, eq_self, or_self, and_self, obs, ↓jn, ↓lt, ↓reduceIte, decide_true, decide_false, Bool.false_eq_true, Bool.and_true, Bool.and_false, Bool.true_and, Bool.false_and, Bool.or_false, Bool.false_or, Bool.or_true, Bool.true_or]
  · refine bwo (fun k => (jnK m o x y k, nI k)) (jnS m o x y) (cnt := 16) (by omega) rfl ?_ (fun k hk => ?_) rfl
    · simp (disch := first | omega | decide) only [↓neg1, nlit, rI, rL, rI2, rL1, nI_add, pk_mul, sbT, dvT, nmd, ixT, ↓ibT, ltT, ltF, leT, leF, eqT, eqF, nM_ltT, nM_ltF, nM_leT, nM_leF, nM_eqF, nM_eqF', nbT0, nbT1, oI_s, oI_n, natF, natT, nltT, nltF, nleT, nleF, ↓reduceIte, lgc, not_true_eq_false, not_false_eq_true, or_false, false_or, or_true, true_or, and_true, true_and, and_false, false_and, ne_eq, eq_self, or_self, and_self, obs, ↓jn, ↓lt, ↓reduceIte, decide_true, decide_false, Bool.false_eq_true, Bool.and_true, Bool.and_false, Bool.true_and, Bool.false_and, Bool.or_false, Bool.false_or, Bool.or_true, Bool.true_or, jnS]
    · have a1 := hx' k hk
      have a2 := hy' k hk
      obtain ⟨j1, j2, -⟩ := LA_J hL a1 a2
      have hj := hRO.2.2.2.2.2.2.1 _ _ a1 a2
      have h238 : d_238 n o (nI (nbl x k)) (nI (nbl y k)) c = some (nI (Jo m o (nbl x k) (nbl y k))) := by
        rw [e238 (by omega) (by omega), hj, j2]
      have h356 : d_356 n (jnK m o x y k) (nI k) (nI (Jo m o (nbl x k) (nbl y k))) = some (wn (jnK m o x y k) k (Jo m o (nbl x k) (nbl y k))) := e356 (by omega) (by omega)
      simp (disch := first | omega | decide) only [↓neg1, nlit, rI, rL, rI2, rL1, nI_add, pk_mul, sbT, dvT, nmd, ixT, ↓ibT, ltT, ltF, leT, leF, eqT, eqF, nM_ltT, nM_ltF, nM_leT, nM_leF, nM_eqF, nM_eqF', nbT0, nbT1, oI_s, oI_n, natF, natT, nltT, nltF, nleT, nleF, ↓reduceIte, lgc, not_true_eq_false, not_false_eq_true, or_false, false_or, or_true, true_or, and_true, true_and, and_false, false_and, ne_eq, eq_self, or_self, and_self, obs, ↓jn, ↓lt, ↓reduceIte, decide_true, decide_false, Bool.false_eq_true, Bool.and_true, Bool.and_false, Bool.true_and, Bool.false_and, Bool.or_false, Bool.false_or, Bool.or_true, Bool.true_or, e, h3, e355, h238, h356, jnK]
/-- one STATE brought to an ACT -/
def brS (m : cS) (o : Nat) (b s : Int64) : Int64 := if b = -1 then s else jnS m o b s
theorem e200 {n f i o l d : Nat} {s : Int64} {c m : cS} (hn : 1000 ≤ n) (hO : OOS c m) (ho : o < ocn m) (h3 : c.1 150 3 = nI o) (hf : f + i < 1024) (hs : WFs (eln m o) l d s) (hb : c.2 151 (f + i) = -1 ∨ WFs (eln m o) l d (c.2 151 (f + i))) : d_200 n (nI f) (nI i) s c = some (if brS m o (c.2 151 (f + i)) s = c.2 151 (f + i) then 0 else (1 : Int64) <<< ((nI i).toInt64 &&& 63), pL c 151 (f + i) (brS m o (c.2 151 (f + i)) s)) := by
  have hE := (OOS_at hO ho).1.1
  refine eq_wp ?_
  unfold d_200
  rw [nI_add, ix_n (by omega)]
  unfold brS
  rcases hb with hb | hb
  · rw [hb, if_pos rfl]
    have hne := WF_ne hs hE
    rw [if_neg hne]
    (try dsimp only); repeat (first | with_reducible refine wpl ?_ | with_reducible refine wpj ?_ | with_reducible refine wpSl ?_ | with_reducible refine wpSr ?_ | with_reducible refine wpS ?_ | ((with_reducible refine wpt ?_ ?_); · simp (disch := first | omega | decide) only [↓neg1, nlit, rI, rL, rI2, rL1, nI_add, pk_mul, sbT, dvT, nmd, ixT, ↓ibT, ltT, ltF, leT, leF, eqT, eqF, nM_ltT, nM_ltF, nM_leT, nM_leF, nM_eqF, nM_eqF', nbT0, nbT1, oI_s, oI_n, natF, natT, nltT, nltF, nleT, nleF, ↓reduceIte, lgc, not_true_eq_false, not_false_eq_true, or_false, false_or, or_true, true_or, and_true, true_and, and_false, false_and, ne_eq, eq_self, or_self, and_self, hb, hne]; done) | ((with_reducible refine wpf ?_ ?_); · simp (disch := first | omega | decide) only [↓neg1, nlit, rI, rL, rI2, rL1, nI_add, pk_mul, sbT, dvT, nmd, ixT, ↓ibT, ltT, ltF, leT, leF, eqT, eqF, nM_ltT, nM_ltF, nM_leT, nM_leF, nM_eqF, nM_eqF', nbT0, nbT1, oI_s, oI_n, natF, natT, nltT, nltF, nleT, nleF, ↓reduceIte, lgc, not_true_eq_false, not_false_eq_true, or_false, false_or, or_true, true_or, and_true, true_and, and_false, false_and, ne_eq, eq_self, or_self, and_self, hb, hne]; done))
    rfl
  · have hne := WF_ne hb hE
    rw [if_neg hne]
    refine wpt (by simp (disch := first | omega | decide) only [↓neg1, nlit, rI, rL, rI2, rL1, nI_add, pk_mul, sbT, dvT, nmd, ixT, ↓ibT, ltT, ltF, leT, leF, eqT, eqF, nM_ltT, nM_ltF, nM_leT, nM_leF, nM_eqF, nM_eqF', nbT0, nbT1, oI_s, oI_n, natF, natT, nltT, nltF, nleT, nleF, ↓reduceIte, lgc, not_true_eq_false, not_false_eq_true, or_false, false_or, or_true, true_or, and_true, true_and, and_false, false_and, ne_eq, eq_self, or_self, and_self]) (wpl (wpj ?_))
    refine wpf ?_ ?_
    · show ¬ lg_cmp _ _ = nI 0
      rw [lgc]
      exact hne
    refine wpe (e201 hn hO ho h3 hb hs) ?_
    by_cases e : jnS m o (c.2 151 (f + i)) s = c.2 151 (f + i)
    · (try dsimp only); repeat (first | with_reducible refine wpl ?_ | with_reducible refine wpj ?_ | with_reducible refine wpSl ?_ | with_reducible refine wpSr ?_ | with_reducible refine wpS ?_ | ((with_reducible refine wpt ?_ ?_); · simp (disch := first | omega | decide) only [↓neg1, nlit, rI, rL, rI2, rL1, nI_add, pk_mul, sbT, dvT, nmd, ixT, ↓ibT, ltT, ltF, leT, leF, eqT, eqF, nM_ltT, nM_ltF, nM_leT, nM_leF, nM_eqF, nM_eqF', nbT0, nbT1, oI_s, oI_n, natF, natT, nltT, nltF, nleT, nleF, ↓reduceIte, lgc, not_true_eq_false, not_false_eq_true, or_false, false_or, or_true, true_or, and_true, true_and, and_false, false_and, ne_eq, eq_self, or_self, and_self, e]; done) | ((with_reducible refine wpf ?_ ?_); · simp (disch := first | omega | decide) only [↓neg1, nlit, rI, rL, rI2, rL1, nI_add, pk_mul, sbT, dvT, nmd, ixT, ↓ibT, ltT, ltF, leT, leF, eqT, eqF, nM_ltT, nM_ltF, nM_leT, nM_leF, nM_eqF, nM_eqF', nbT0, nbT1, oI_s, oI_n, natF, natT, nltT, nltF, nleT, nleF, ↓reduceIte, lgc, not_true_eq_false, not_false_eq_true, or_false, false_or, or_true, true_or, and_true, true_and, and_false, false_and, ne_eq, eq_self, or_self, and_self, e]; done))
      rw [if_pos e]
    · (try dsimp only); repeat (first | with_reducible refine wpl ?_ | with_reducible refine wpj ?_ | with_reducible refine wpSl ?_ | with_reducible refine wpSr ?_ | with_reducible refine wpS ?_ | ((with_reducible refine wpt ?_ ?_); · simp (disch := first | omega | decide) only [↓neg1, nlit, rI, rL, rI2, rL1, nI_add, pk_mul, sbT, dvT, nmd, ixT, ↓ibT, ltT, ltF, leT, leF, eqT, eqF, nM_ltT, nM_ltF, nM_leT, nM_leF, nM_eqF, nM_eqF', nbT0, nbT1, oI_s, oI_n, natF, natT, nltT, nltF, nleT, nleF, ↓reduceIte, lgc, not_true_eq_false, not_false_eq_true, or_false, false_or, or_true, true_or, and_true, true_and, and_false, false_and, ne_eq, eq_self, or_self, and_self, e]; done) | ((with_reducible refine wpf ?_ ?_); · simp (disch := first | omega | decide) only [↓neg1, nlit, rI, rL, rI2, rL1, nI_add, pk_mul, sbT, dvT, nmd, ixT, ↓ibT, ltT, ltF, leT, leF, eqT, eqF, nM_ltT, nM_ltF, nM_leT, nM_leF, nM_eqF, nM_eqF', nbT0, nbT1, oI_s, oI_n, natF, natT, nltT, nltF, nleT, nleF, ↓reduceIte, lgc, not_true_eq_false, not_false_eq_true, or_false, false_or, or_true, true_or, and_true, true_and, and_false, false_and, ne_eq, eq_self, or_self, and_self, e]; done))
      rw [if_neg e]
/-! the STATES of a METHOD: S i, a long for each ACT -/
section ST
variable {m : cS} {o M l bt : Nat} {K ent : Nat → Nat} {S : Nat → Int64}
def GD (m : cS) (o M l : Nat) (S : Nat → Int64) : Prop := ∀ i, i < acn m M → S i = -1 ∨ (RCH m M i ∧ WFs (eln m o) l (dpn m (40 * M + i)) (S i))
def LSs (m : cS) (o M l bt : Nat) (K ent : Nat → Nat) (S : Nat → Int64) : Prop := ∀ Y, GOO m o M Y → CLO m o M K ent Y → ∀ i, i < acn m M → S i ≠ -1 → ∃ g, Y i = some g ∧ lfF m o (8 + dpn m (40 * M + i)) (av l bt (S i)) g
def EN (m : cS) (o l bt : Nat) (ent : Nat → Nat) (S : Nat → Int64) : Prop := S 0 ≠ -1 ∧ lfF m o 8 ent (av l bt (S 0))
def ED1 (m : cS) (o M l bt : Nat) (K : Nat → Nat) (S : Nat → Int64) (i : Nat) (f : Nat → Nat) : Prop := goesN m (40 * M + i) → S (i + 1) ≠ -1 ∧ lfF m o (8 + dpb m (40 * M + i)) (trN m o K (40 * M + i) f) (av l bt (S (i + 1)))
def ED2 (m : cS) (o M l bt : Nat) (K : Nat → Nat) (S : Nat → Int64) (i : Nat) (f : Nat → Nat) : Prop := ∀ t, m.1 216 (40 * M + i) = nI t → t < acn m M → S t ≠ -1 ∧ lfF m o (8 + dpb m (40 * M + i)) (trL m o K (40 * M + i) f) (av l bt (S t))
def upS (S : Nat → Int64) (j : Nat) (r : Int64) : Nat → Int64 := fun i => if i = j then r else S i
def sumH (m : cS) (o : Nat) (s : Int64) : Nat → Nat
  | 0 => 0
  | k + 1 => sumH m o s k + hgt m o (eln m o) (nbl s k)
def pot (m : cS) (o : Nat) (s : Int64) : Nat := if s = -1 then 200 else 192 - sumH m o s 16
theorem sumH_le {s : Int64} (h12 : eln m o ≤ 12) : ∀ k, sumH m o s k ≤ 12 * k
  | 0 => Nat.le_refl _
  | k + 1 => by
    have := sumH_le (s := s) h12 k
    have h2 : hgt m o (eln m o) (nbl s k) ≤ eln m o := cntN_le _
    unfold sumH
    omega
theorem sumH_mono {x y : Int64} (hL : LA o (eln m o) m) (hx : ∀ j, j < 16 → nbl x j < eln m o) (hy : ∀ j, j < 16 → nbl y j < eln m o) (h : ∀ j, j < 16 → mB m o (nbl x j) (nbl y j)) : ∀ k, k ≤ 16 → sumH m o x k ≤ sumH m o y k ∧ ((∃ j, j < k ∧ nbl x j ≠ nbl y j) → sumH m o x k < sumH m o y k)
  | 0, _ => ⟨Nat.le_refl _, fun ⟨j, hj, _⟩ => by omega⟩
  | k + 1, hk => by
    obtain ⟨h1, h2⟩ := sumH_mono hL hx hy h k (by omega)
    have h3 := hgt_le hL (hx k (by omega)) (hy k (by omega)) (h k (by omega))
    unfold sumH
    refine ⟨by omega, fun ⟨j, hj, hne⟩ => ?_⟩
    by_cases e : j = k
    · subst e
      have := hgt_lt hL (hx j (by omega)) (hy j (by omega)) (h j (by omega)) hne
      omega
    · have := h2 ⟨j, by omega, hne⟩
      omega
/-- what is brought: above both, the least such, and nearer to the top -/
theorem brS_ok {d : Nat} {b s : Int64} (hL : LA o (eln m o) m) (hl : l ≤ 8) (hd : d ≤ 8) (hbt : bt < eln m o) (hb : b = -1 ∨ WFs (eln m o) l d b) (hs : WFs (eln m o) l d s) :
    WFs (eln m o) l d (brS m o b s) ∧ lfF m o (8 + d) (av l bt s) (av l bt (brS m o b s)) ∧ (b ≠ -1 → lfF m o (8 + d) (av l bt b) (av l bt (brS m o b s))) ∧
    (∀ g, okF (eln m o) (8 + d) g → lfF m o (8 + d) (av l bt s) g → (b ≠ -1 → lfF m o (8 + d) (av l bt b) g) → lfF m o (8 + d) (av l bt (brS m o b s)) g) ∧ pot m o (brS m o b s) ≤ pot m o b ∧ (brS m o b s ≠ b → pot m o (brS m o b s) < pot m o b) := by
  have hE := hL.1
  have hs' := fun j hj => WF_lt (j := j) hs hE.1 hj
  have hsn := WF_ne hs hE
  have okv : ∀ {x : Int64}, WFs (eln m o) l d x → ∀ j, j < 8 + d → av l bt x j < eln m o := fun hx j hj => av_ok hx hd hbt j hj
  rcases hb with hb | hb
  · have e : brS m o b s = s := if_pos hb
    have p1 : pot m o b = 200 := if_pos hb
    have p2 : pot m o s = 192 - sumH m o s 16 := if_neg hsn
    rw [e, p1, p2]
    exact ⟨hs, fun j hj => LA_refl hL (okv hs j hj), fun z => absurd hb z, fun g _ h _ => h, by omega, fun _ => by omega⟩
  · have hbn := WF_ne hb hE
    have hb' := fun j hj => WF_lt (j := j) hb hE.1 hj
    have e : brS m o b s = jnS m o b s := if_neg hbn
    have hj := jnS_WF hL hb hs
    have hjn := WF_ne hj hE
    have hj' := fun j hjj => WF_lt (j := j) hj hE.1 hjj
    rw [e]
    have hav : ∀ j, j < 8 + d → av l bt (jnS m o b s) j = Jo m o (av l bt b j) (av l bt s j) := by
      intro j hjj
      unfold av
      by_cases hc : l ≤ j ∧ j < 8
      · rw [if_pos hc, if_pos hc, if_pos hc, Jo_self hL hbt]
      · rw [if_neg hc, if_neg hc, if_neg hc, nbl_jnS hL hb' hs' (by omega)]
    have hmono := sumH_mono (x := b) (y := jnS m o b s) hL hb' hj' (fun j hjj => by rw [nbl_jnS hL hb' hs' hjj]; exact (LA_J hL (hb' j hjj) (hs' j hjj)).2.2.1) 16 (by omega)
    have p1 : pot m o b = 192 - sumH m o b 16 := if_neg hbn
    have p2 : pot m o (jnS m o b s) = 192 - sumH m o (jnS m o b s) 16 := if_neg hjn
    have hle := sumH_le (m := m) (o := o) (s := jnS m o b s) hE.2 16
    refine ⟨hj, fun j hjj => ?_, fun _ j hjj => ?_, fun g hg h1 h2 j hjj => ?_, by omega, fun hne => ?_⟩
    · rw [hav j hjj]
      exact (LA_J hL (okv hb j hjj) (okv hs j hjj)).2.2.2.1
    · rw [hav j hjj]
      exact (LA_J hL (okv hb j hjj) (okv hs j hjj)).2.2.1
    · rw [hav j hjj]
      exact (LA_J hL (okv hb j hjj) (okv hs j hjj)).2.2.2.2 _ (hg j hjj) (h2 hbn j hjj) (h1 j hjj)
    · have : ∃ j, j < 16 ∧ nbl b j ≠ nbl (jnS m o b s) j := by
        apply Classical.byContradiction
        intro hno
        refine hne (nb_ext fun j hjj => ?_)
        apply Classical.byContradiction
        intro z
        exact hno ⟨j, hjj, fun z2 => z z2.symm⟩
      have := hmono.2 this
      omega
/-- one more STATE is brought to ACT j -/
theorem up1 {j : Nat} {s : Int64} {T : (Nat → Nat) → Nat → Nat} {i : Nat} (hL : LA o (eln m o) m) (hl : l ≤ 8) (hbt : bt < eln m o) (hG : GD m o M l S) (hLS : LSs m o M l bt K ent S) (hi : i < acn m M) (hSi : S i ≠ -1) (hj : j < acn m M) (hr : RCH m M j) (hs : WFs (eln m o) l (dpn m (40 * M + j)) s)
    (hT : ∀ x, x < 8 + dpn m (40 * M + j) → av l bt s x = T (av l bt (S i)) x) (hmono : ∀ g, okF (eln m o) (8 + dpn m (40 * M + i)) g → lfF m o (8 + dpn m (40 * M + i)) (av l bt (S i)) g → lfF m o (8 + dpn m (40 * M + j)) (T (av l bt (S i))) (T g))
    (hcl : ∀ Y, GOO m o M Y → CLO m o M K ent Y → ∀ g, Y i = some g → ∃ h, Y j = some h ∧ lfF m o (8 + dpn m (40 * M + j)) (T g) h) (hTok : ∀ g, okF (eln m o) (8 + dpn m (40 * M + i)) g → okF (eln m o) (8 + dpn m (40 * M + j)) (T g)) :
    GD m o M l (upS S j (brS m o (S j) s)) ∧ LSs m o M l bt K ent (upS S j (brS m o (S j) s)) := by
  have hb : S j = -1 ∨ WFs (eln m o) l (dpn m (40 * M + j)) (S j) := by
    rcases hG j hj with h | h
    · exact Or.inl h
    · exact Or.inr h.2
  obtain ⟨b1, b2, b3, b4, -⟩ := brS_ok hL hl hr.2.2.1 hbt hb hs
  refine ⟨fun x hx => ?_, fun Y hY hC x hx hne => ?_⟩
  · unfold upS
    by_cases e : x = j
    · rw [if_pos e, e]
      exact Or.inr ⟨hr, b1⟩
    · rw [if_neg e]
      exact hG x hx
  · unfold upS at hne ⊢
    by_cases e : x = j
    · subst e
      rw [if_pos rfl]
      obtain ⟨g, g1, g2⟩ := hLS Y hY hC i hi hSi
      have gok := (hY i g hi g1).2
      obtain ⟨h, h1, h2⟩ := hcl Y hY hC g g1
      have hok := (hY x h hx h1).2
      refine ⟨h, h1, b4 h hok (fun y hy => ?_) (fun hn y hy => ?_)⟩
      · rw [hT y hy]
        have hsok := av_ok hs hr.2.2.1 hbt y hy
        rw [hT y hy] at hsok
        exact LA_tr hL hsok (hTok g gok y hy) (hok y hy) (hmono g gok g2 y hy) (h2 y hy)
      · obtain ⟨h', h1', h2'⟩ := hLS Y hY hC x hx hn
        rw [h1] at h1'
        cases h1'
        exact h2' y hy
    · rw [if_neg e] at hne ⊢
      exact hLS Y hY hC x hx hne
end ST
