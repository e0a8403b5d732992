/-! FIND: the class -/
def FDc (m c : cS) : Prop := ∀ p s o, isP m p s → 1 ≤ s → o < ocn m → fdv c p o < eln m o ∧ c.1 148 (p * 4 + o) = nI (fdv c p o)
def gu (c : cS) : cS := (fun a i => if a = 235 then nI (fdv c (i % 1200) (i / 1200)) else 0, c.2)
def Fc (o : Nat) (c : cS) (p : Nat) : Nat := fdv c p o
def STc (m : cS) (o : Nat) (c : cS) : Prop := PG c m ∧ TLS c m ∧ c.1 146 8 = nI 0 ∧ FDc m c ∧ c.1 150 3 = nI o ∧ o < ocn m
theorem STc_FC {m c : cS} {o : Nat} (h : STc m o c) : FC c m (gu c) o := by
  obtain ⟨h1, h2, h3, h4, h5, h6⟩ := h
  refine ⟨h1, h2, h3, fun p s o' hp hs ho => ?_, h5, h6⟩
  obtain ⟨a1, a2⟩ := h4 p s o' hp hs ho
  have hp12 := (EC_row h1.1 hp).1
  refine ⟨a1, a2, ?_⟩
  show (if (235 : Nat) = 235 then nI (fdv c ((1200 * o' + p) % 1200) ((1200 * o' + p) / 1200)) else 0) = _
  rw [if_pos rfl, show (1200 * o' + p) % 1200 = p by omega, show (1200 * o' + p) / 1200 = o' by omega]
theorem TM_Kf {m c : cS} {o : Nat} : (fun p => TM m c p o) = Kf m o (Fc o c) := rfl
theorem okT_of {m c : cS} {o : Nat} (hG : PG c m) (hT : TLS c m) (h8 : c.1 146 8 = nI 0) (hF : FDc m c) (ho : o < ocn m) : okT m o := by
  intro p s e hp hs ht
  have hu : FD m c (gu c) := fun p s o' hp hs ho => by
    obtain ⟨a1, a2⟩ := hF p s o' hp hs ho
    have hp12 := (EC_row hG.1 hp).1
    refine ⟨a1, a2, ?_⟩
    show (if (235 : Nat) = 235 then nI (fdv c ((1200 * o' + p) % 1200) ((1200 * o' + p) / 1200)) else 0) = _
    rw [if_pos rfl, show (1200 * o' + p) % 1200 = p by omega, show (1200 * o' + p) / 1200 = o' by omega]
  have h := (e190 (n := 0) hG.1.1 hp hs ho (EC_row hG.1 hp).1 h8 hT hu).2
  unfold TM at h
  rw [ht] at h
  exact h
def q48 (o : Nat) (a i : Nat) : Bool := decide (a = 148 ∧ i % 4 = o)
theorem STc_sx {m c d : cS} {o : Nat} {r : Nat → Nat → Bool} (h : STc m o c) (hs : sx r c d) (hr : nC r) (h1 : ∀ i, r 146 i = false) (h2 : ∀ i, r 147 i = false) (h3 : r 150 3 = false) (hF : FDc m d) : STc m o d := by
  obtain ⟨a1, a2, a3, a4, a5, a6⟩ := h
  refine ⟨PG_CA (CA_sx hs hr) a1, ?_, (hs.1 146 8 (h1 8)).trans a3, hF, (hs.1 150 3 h3).trans a5, a6⟩
  refine ⟨by rw [hs.1 146 8 (h1 8)]; exact a2.1, fun z p s o hp hs' ho => ?_⟩
  rw [hs.1 146 8 (h1 8)] at z
  rw [hs.1 147 _ (h2 _)]
  exact a2.2 z p s o hp hs' ho
theorem FDc_148 {m c d : cS} (h : FDc m c) (hd : ∀ i, d.1 148 i = c.1 148 i) : FDc m d := by
  intro p s o hp hs ho
  have hf : fdv d p o = fdv c p o := congrArg ix (hd _)
  rw [hf, hd]
  exact h p s o hp hs ho
theorem STc_up {m c : cS} {o p s v : Nat} (h : STc m o c) (hp : isP m p s) (hs : 1 ≤ s) (hv : v < eln m o) : STc m o (pI c 148 (p * 4 + o) (nI v)) ∧ Fc o (pI c 148 (p * 4 + o) (nI v)) = upF1 (Fc o c) p v := by
  have ho4 := h.1.1.1.1
  have ho := h.2.2.2.2.2
  have hel := OOS_el h.1.1.1 ho
  have hval : ∀ q o', o' < 4 → (pI c 148 (p * 4 + o) (nI v)).1 148 (q * 4 + o') = if q = p ∧ o' = o then nI v else c.1 148 (q * 4 + o') := by
    intro q o' ho'
    rw [rI]
    by_cases e : q = p ∧ o' = o
    · rw [if_pos ⟨rfl, by rw [e.1, e.2]⟩, if_pos e]
    · rw [if_neg (fun z => e ⟨by omega, by omega⟩), if_neg e]
  refine ⟨STc_sx (r := q48 o) h (sx_pI sx_rfl (decide_eq_true ⟨rfl, by omega⟩)) ⟨fun a i h1 h2 h3 => decide_eq_false (by omega), fun i h => decide_eq_false (by omega)⟩ (fun i => decide_eq_false (by omega)) (fun i => decide_eq_false (by omega)) (decide_eq_false (by omega)) ?_, ?_⟩
  · intro q t o' hq ht ho'
    unfold fdv
    rw [hval q o' (by omega)]
    by_cases e : q = p ∧ o' = o
    · rw [if_pos e, ix_n (by omega), e.2]
      exact ⟨hv, rfl⟩
    · rw [if_neg e]
      exact h.2.2.2.1 q t o' hq ht ho'
  · funext q
    show ix ((pI c 148 (p * 4 + o) (nI v)).1 148 (q * 4 + o)) = if q = p then v else ix (c.1 148 (q * 4 + o))
    rw [hval q o (by omega)]
    by_cases e : q = p
    · rw [if_pos ⟨e, rfl⟩, if_pos e, ix_n (by omega)]
    · rw [if_neg (fun z => e z.1), if_neg e]
section FC1
variable {n M o : Nat} {c m : cS}
/-- one found MARK raised -/
theorem e192 {p s v : Nat} (h : STc m o c) (hp : isP m p s) (hs : 1 ≤ s) (hv : v < eln m o) : d_192 n (nI p) (nI o) (nI v) c = some (if tld m p o = none ∧ Jo m o (Fc o c p) v ≠ Fc o c p then (nI 1, pI c 148 (p * 4 + o) (nI (Jo m o (Fc o c p) v))) else (nI 0, c)) := by
  obtain ⟨h1, h2, h3, h4, h5, h6⟩ := id h
  have ho4 := h1.1.1.1
  have hel := OOS_el h1.1.1 h6
  have hRO := OOS_at h1.1.1 h6
  obtain ⟨f1, f2⟩ := h4 p s o hp hs h6
  have h147 := h2.2 h3 p s o hp hs h6
  have hp12 := (EC_row h1.1 hp).1
  obtain ⟨j1, j2, -⟩ := LA_J hRO.1 f1 hv
  have hfc : Fc o c p = fdv c p o := rfl
  rw [hfc]
  generalize hR : (if tld m p o = none ∧ Jo m o (fdv c p o) v ≠ fdv c p o then (nI 1, pI c 148 (p * 4 + o) (nI (Jo m o (fdv c p o) v))) else (nI 0, c)) = R
  have hRt : tld m p o = none ∧ Jo m o (fdv c p o) v ≠ fdv c p o → R = (nI 1, pI c 148 (p * 4 + o) (nI (Jo m o (fdv c p o) v))) := fun z => by
    rw [← hR]
    exact if_pos z
  have hRf : ¬ (tld m p o = none ∧ Jo m o (fdv c p o) v ≠ fdv c p o) → R = (nI 0, c) := fun z => by
    rw [← hR]
    exact if_neg z
  clear hR
  unfold d_192
  refine eq_wp (wpl ?_)
  rw [show nI p * 4 + nI o = nI (p * 4 + o) by rw [show (4 : Int32) = nI 4 from rfl, pk_mul, nI_add]]
  refine wpt (by simp (disch := first | omega | decide) only [↓neg1, nlit, rI, rL, rI2, rL1, nI_add, pk_mul, sbT, dvT, nmd, ixT, ↓ibT, ltT, ltF, leT, leF, eqT, eqF, nM_ltT, nM_ltF, nM_leT, nM_leF, nM_eqF, nM_eqF', nbT0, nbT1, oI_s, oI_n, natF, natT, nltT, nltF, nleT, nleF, ↓reduceIte, lgc, not_true_eq_false, not_false_eq_true, or_false, false_or, or_true, true_or, and_true, true_and, and_false, false_and, ne_eq, eq_self, or_self, and_self]) (wpt (by simp (disch := first | omega | decide) only [↓neg1, nlit, rI, rL, rI2, rL1, nI_add, pk_mul, sbT, dvT, nmd, ixT, ↓ibT, ltT, ltF, leT, leF, eqT, eqF, nM_ltT, nM_ltF, nM_leT, nM_leF, nM_eqF, nM_eqF', nbT0, nbT1, oI_s, oI_n, natF, natT, nltT, nltF, nleT, nleF, ↓reduceIte, lgc, not_true_eq_false, not_false_eq_true, or_false, false_or, or_true, true_or, and_true, true_and, and_false, false_and, ne_eq, eq_self, or_self, and_self]) ?_)
  rw [ix_n (by omega), ix_n (by omega), f2]
  refine wpe (e238 (by omega) (by omega)) (wpt (by simp (disch := first | omega | decide) only [↓neg1, nlit, rI, rL, rI2, rL1, nI_add, pk_mul, sbT, dvT, nmd, ixT, ↓ibT, ltT, ltF, leT, leF, eqT, eqF, nM_ltT, nM_ltF, nM_leT, nM_leF, nM_eqF, nM_eqF', nbT0, nbT1, oI_s, oI_n, natF, natT, nltT, nltF, nleT, nleF, ↓reduceIte, lgc, not_true_eq_false, not_false_eq_true, or_false, false_or, or_true, true_or, and_true, true_and, and_false, false_and, ne_eq, eq_self, or_self, and_self]) ?_)
  rw [hRO.2.2.2.2.2.2.1 _ _ f1 hv, j2, h147]
  refine wpj ?_
  cases ht : tld m p o with
  | some e =>
    have he := okT_of h1 h2 h3 h4 h6 p s e hp hs ht
    exact wpt (nI_pos' (by omega)) (hRf (fun z => by rw [ht] at z; cases z.1)).symm
  | none =>
    refine wpf (by decide) (wpt (by simp (disch := first | omega | decide) only [↓neg1, nlit, rI, rL, rI2, rL1, nI_add, pk_mul, sbT, dvT, nmd, ixT, ↓ibT, ltT, ltF, leT, leF, eqT, eqF, nM_ltT, nM_ltF, nM_leT, nM_leF, nM_eqF, nM_eqF', nbT0, nbT1, oI_s, oI_n, natF, natT, nltT, nltF, nleT, nleF, ↓reduceIte, lgc, not_true_eq_false, not_false_eq_true, or_false, false_or, or_true, true_or, and_true, true_and, and_false, false_and, ne_eq, eq_self, or_self, and_self]) ?_)
    by_cases e : Jo m o (fdv c p o) v = fdv c p o
    · exact wpt (by rw [e]) (hRf (fun z => z.2 e)).symm
    · exact wpf (fun z => e ((nI_eq (by omega) (by omega)).mp z)) (wpt (by simp (disch := first | omega | decide) only [↓neg1, nlit, rI, rL, rI2, rL1, nI_add, pk_mul, sbT, dvT, nmd, ixT, ↓ibT, ltT, ltF, leT, leF, eqT, eqF, nM_ltT, nM_ltF, nM_leT, nM_leF, nM_eqF, nM_eqF', nbT0, nbT1, oI_s, oI_n, natF, natT, nltT, nltF, nleT, nleF, ↓reduceIte, lgc, not_true_eq_false, not_false_eq_true, or_false, false_or, or_true, true_or, and_true, true_and, and_false, false_and, ne_eq, eq_self, or_self, and_self]) (wpl (hRt ⟨ht, e⟩).symm))
/-- low, and as it was where MARKS are told -/
def TKp (m : cS) (o : Nat) (Fb F : Nat → Nat) : Prop := ∀ p, tld m p o ≠ none → F p = Fb p
theorem TKp_up {Fb F : Nat → Nat} {p v : Nat} (h : TKp m o Fb F) (hp : tld m p o = none) : TKp m o Fb (upF1 F p v) := fun q hq => by
  unfold upF1
  rw [if_neg (fun z => hq (by rw [z]; exact hp))]
  exact h q hq
def LWT (m : cS) (o : Nat) (Fb F : Nat → Nat) : Prop := LOW m o F ∧ TKp m o Fb F
/-- how far a sweep has come -/
def SWP (m : cS) (o : Nat) (F0 : Nat → Nat) (C : Prop) (fl : Int32) (F : Nat → Nat) : Prop := (fl = nI 0 ∧ F = F0 ∧ C) ∨ (fl = nI 1 ∧ ptF m o F < ptF m o F0)
theorem or01 {a b : Int32} (ha : a = nI 0 ∨ a = nI 1) (hb : b = nI 0 ∨ b = nI 1) : (a = nI 0 → a ||| b = b) ∧ (a = nI 1 → a ||| b = nI 1) := by
  rcases ha with rfl | rfl <;> rcases hb with rfl | rfl <;> decide
theorem e210 {Fb : Nat → Nat} (hn : 1100000 ≤ n) (h : STc m o c) (hM : isMt m M) (hl : LWT m o Fb (Fc o c)) : wp (d_210 n (nI M) c) (fun r => SWP m o (Fc o c) (∃ X, CLM m o M (Fc o c) X) r.1 (Fc o r.2) ∧ LWT m o Fb (Fc o r.2) ∧ STc m o r.2 ∧ sx (fun a i => decide ((a = 148 ∧ i % 4 = o) ∨ a = 151)) c r.2) := by
  obtain ⟨h1, h2, h3, h4, h5, h6⟩ := id h
  have hC := h1.1.2.2.1
  have hM96 := isMt_lt hC hM
  have ho4 := h1.1.1.1
  have hmt := (h1.2.2.2.1 M hM).1
  have hF1 := hmt.2.2.2.2.2.2.2.2
  have h119 := hmt.2.2.2.2.2.2.2.1
  have h120 := hmt.2.2.1
  have hn40 := hmt.1.2
  have hT := okT_of h1 h2 h3 h4 h6
  have okc : ∀ {d : cS}, STc m o d → okD m o (Fc o d) := fun hd p s hp hs => (hd.2.2.2.1 p s o hp hs h6).1
  unfold d_210
  refine wpc (e197 hn (STc_FC h) hM) (fun w hw => ?_)
  obtain ⟨w1, w2, w3⟩ := hw
  rw [TM_Kf] at w2
  have hbt := (bot_lt h1.1.1 h6).1
  have nc151 : nC (q151 (fa c M) (acn m M)) := nC_151
  have hw148 : ∀ i, w.1 148 i = c.1 148 i := fun i => w1.1 148 i (decide_eq_false (by omega))
  have hSw : STc m o w := STc_sx h w1 nc151 (fun i => decide_eq_false (by omega)) (fun i => decide_eq_false (by omega)) (decide_eq_false (by omega)) (FDc_148 h4 hw148)
  have hFw : Fc o w = Fc o c := funext fun p => congrArg ix (hw148 _)
  refine wpt (by simp (disch := first | omega | decide) only [↓neg1, nlit, rI, rL, rI2, rL1, nI_add, pk_mul, sbT, dvT, nmd, ixT, ↓ibT, ltT, ltF, leT, leF, eqT, eqF, nM_ltT, nM_ltF, nM_leT, nM_leF, nM_eqF, nM_eqF', nbT0, nbT1, oI_s, oI_n, natF, natT, nltT, nltF, nleT, nleF, ↓reduceIte, lgc, not_true_eq_false, not_false_eq_true, or_false, false_or, or_true, true_or, and_true, true_and, and_false, false_and, ne_eq, eq_self, or_self, and_self]) ?_
  have g119 : ∀ {d : cS}, sx (q48 o) w d → d.1 119 M = nI (fa c M) ∧ d.1 120 M = nI (acn m M) ∧ fa d M = fa c M := by
    intro d hd
    have e1 : d.1 119 M = nI (fa c M) := (hd.1 119 M (decide_eq_false (by omega))).trans ((w1.1 119 M (decide_eq_false (by omega))).trans h119)
    refine ⟨e1, (hd.1 120 M (decide_eq_false (by omega))).trans ((w1.1 120 M (decide_eq_false (by omega))).trans h120), ?_⟩
    unfold fa
    rw [e1, ix_n (by omega)]
    rfl
  rw [ix_n (by omega), (g119 sx_rfl).1]
  refine wpl ?_
  generalize hX : CX (lcn m M) (ix (m.1 188 o)) (fun x => w.2 151 (fa c M + x)) = X at w2
  -- a wish of an ACT
  refine wpc (K' := fun r : Int32 × cS => SWP m o (Fc o c) (∃ X, CLM m o M (Fc o c) X) r.1 (Fc o r.2) ∧ LWT m o Fb (Fc o r.2) ∧ STc m o r.2 ∧ sx (q48 o) w r.2) (whl_cnt (fun i (st : Int32 × Int32 × cS) => st.2.1 = nI (fa c M + i) ∧ SWP m o (Fc o c) (∀ j k f, j < i → k < wnt m (40 * M + j) → X j = some f → tld m (wtp m M (40 * M + j) k) o = none → mB m o (f (wts m (40 * M + j) k)) (Fc o c (wtp m M (40 * M + j) k))) st.1 (Fc o st.2.2) ∧ LWT m o Fb (Fc o st.2.2) ∧ STc m o st.2.2 ∧ sx (q48 o) w st.2.2) (acn m M) ?_ ?_ (by omega) ⟨rfl, Or.inl ⟨rfl, hFw, fun j k f hj => by omega⟩, by rw [hFw]; exact hl, hSw, sx_rfl⟩) ?_
  · rintro i ⟨f0, i0, x⟩ hi ⟨g1, g2, g3, g4, g5⟩
    dsimp only at g1 g2 g3 g4 g5
    subst g1
    dsimp only
    have hac := MTS_ac h1.2.2 hM hi
    refine wpt (by simp (disch := first | omega | decide) only [↓neg1, nlit, rI, rL, rI2, rL1, nI_add, pk_mul, sbT, dvT, nmd, ixT, ↓ibT, ltT, ltF, leT, leF, eqT, eqF, nM_ltT, nM_ltF, nM_leT, nM_leF, nM_eqF, nM_eqF', nbT0, nbT1, oI_s, oI_n, natF, natT, nltT, nltF, nleT, nleF, ↓reduceIte, lgc, not_true_eq_false, not_false_eq_true, or_false, false_or, or_true, true_or, and_true, true_and, and_false, false_and, ne_eq, eq_self, or_self, and_self]) (wpt (by simp (disch := first | omega | decide) only [↓neg1, nlit, rI, rL, rI2, rL1, nI_add, pk_mul, sbT, dvT, nmd, ixT, ↓ibT, ltT, ltF, leT, leF, eqT, eqF, nM_ltT, nM_ltF, nM_leT, nM_leF, nM_eqF, nM_eqF', nbT0, nbT1, oI_s, oI_n, natF, natT, nltT, nltF, nleT, nleF, ↓reduceIte, lgc, not_true_eq_false, not_false_eq_true, or_false, false_or, or_true, true_or, and_true, true_and, and_false, false_and, ne_eq, eq_self, or_self, and_self]) ?_)
    rw [ix_n (by omega), (g119 g5).1, (g119 g5).2.1, nI_add]
    refine wpf (by simp (disch := first | omega | decide) only [↓neg1, nlit, rI, rL, rI2, rL1, nI_add, pk_mul, sbT, dvT, nmd, ixT, ↓ibT, ltT, ltF, leT, leF, eqT, eqF, nM_ltT, nM_ltF, nM_leT, nM_leF, nM_eqF, nM_eqF', nbT0, nbT1, oI_s, oI_n, natF, natT, nltT, nltF, nleT, nleF, ↓reduceIte, lgc, not_true_eq_false, not_false_eq_true, or_false, false_or, or_true, true_or, and_true, true_and, and_false, false_and, ne_eq, eq_self, or_self, and_self]) ?_
    have h151 : ∀ {d : cS}, sx (q48 o) w d → d.2 151 (fa c M + i) = w.2 151 (fa c M + i) := fun hd => hd.2 151 _ (decide_eq_false (by omega))
    have fin : ∀ (d : cS) (fl : Int32), SWP m o (Fc o c) (∀ j k f, j < i → k < wnt m (40 * M + j) → X j = some f → tld m (wtp m M (40 * M + j) k) o = none → mB m o (f (wts m (40 * M + j) k)) (Fc o c (wtp m M (40 * M + j) k))) fl (Fc o d) → (fl = nI 0 → ∀ k f, k < wnt m (40 * M + i) → X i = some f → tld m (wtp m M (40 * M + i) k) o = none → mB m o (f (wts m (40 * M + i) k)) (Fc o c (wtp m M (40 * M + i) k))) → SWP m o (Fc o c) (∀ j k f, j < i + 1 → k < wnt m (40 * M + j) → X j = some f → tld m (wtp m M (40 * M + j) k) o = none → mB m o (f (wts m (40 * M + j) k)) (Fc o c (wtp m M (40 * M + j) k))) fl (Fc o d) := by
      intro d fl hs hz
      rcases hs with ⟨a1, a2, a3⟩ | hs
      · refine Or.inl ⟨a1, a2, fun j k f hj => ?_⟩
        by_cases ej : j = i
        · subst ej
          exact hz a1 k f
        · exact a3 j k f (by omega)
      · exact Or.inr hs
    refine wpc (K' := fun r : Int32 × cS => SWP m o (Fc o c) (∀ j k f, j < i + 1 → k < wnt m (40 * M + j) → X j = some f → tld m (wtp m M (40 * M + j) k) o = none → mB m o (f (wts m (40 * M + j) k)) (Fc o c (wtp m M (40 * M + j) k))) r.1 (Fc o r.2) ∧ LWT m o Fb (Fc o r.2) ∧ STc m o r.2 ∧ sx (q48 o) w r.2) (whl_cnt (fun k (st : Int32 × Int32 × cS) => st.2.1 = nI k ∧ SWP m o (Fc o c) ((∀ j k f, j < i → k < wnt m (40 * M + j) → X j = some f → tld m (wtp m M (40 * M + j) k) o = none → mB m o (f (wts m (40 * M + j) k)) (Fc o c (wtp m M (40 * M + j) k))) ∧ ∀ k' f, k' < k → X i = some f → tld m (wtp m M (40 * M + i) k') o = none → mB m o (f (wts m (40 * M + i) k')) (Fc o c (wtp m M (40 * M + i) k'))) st.1 (Fc o st.2.2) ∧ LWT m o Fb (Fc o st.2.2) ∧ STc m o st.2.2 ∧ sx (q48 o) w st.2.2) (wnt m (40 * M + i)) ?_ ?_ ?_ ⟨rfl, ?_, g3, g4, g5⟩) (fun r hr => wpl ⟨?_, hr.1, hr.2.1, hr.2.2.1, hr.2.2.2⟩)
    · rintro k ⟨f1, k0, y⟩ hk ⟨q1, q2, q3, q4, q5⟩
      dsimp only at q1 q2 q3 q4 q5
      subst q1
      dsimp only
      have hw4 := wnt_le hC hac.2.2.2.2.2.2.1
      refine wpe (e168 q4.1.2.2 hM hi (by rw [(g119 q5).2.2])) (wpf (by simp (disch := first | omega | decide) only [↓neg1, nlit, rI, rL, rI2, rL1, nI_add, pk_mul, sbT, dvT, nmd, ixT, ↓ibT, ltT, ltF, leT, leF, eqT, eqF, nM_ltT, nM_ltF, nM_leT, nM_leF, nM_eqF, nM_eqF', nbT0, nbT1, oI_s, oI_n, natF, natT, nltT, nltF, nleT, nleF, ↓reduceIte, lgc, not_true_eq_false, not_false_eq_true, or_false, false_or, or_true, true_or, and_true, true_and, and_false, false_and, ne_eq, eq_self, or_self, and_self]) (wpt (by simp (disch := first | omega | decide) only [↓neg1, nlit, rI, rL, rI2, rL1, nI_add, pk_mul, sbT, dvT, nmd, ixT, ↓ibT, ltT, ltF, leT, leF, eqT, eqF, nM_ltT, nM_ltF, nM_leT, nM_leF, nM_eqF, nM_eqF', nbT0, nbT1, oI_s, oI_n, natF, natT, nltT, nltF, nleT, nleF, ↓reduceIte, lgc, not_true_eq_false, not_false_eq_true, or_false, false_or, or_true, true_or, and_true, true_and, and_false, false_and, ne_eq, eq_self, or_self, and_self]) ?_))
      rw [h151 q5]
      by_cases e : w.2 151 (fa c M + i) = -1
      · have hXi : X i = none := by
          rw [← hX]
          exact if_pos e
        refine wpt (by simp (disch := first | omega | decide) only [↓neg1, nlit, rI, rL, rI2, rL1, nI_add, pk_mul, sbT, dvT, nmd, ixT, ↓ibT, ltT, ltF, leT, leF, eqT, eqF, nM_ltT, nM_ltF, nM_leT, nM_leF, nM_eqF, nM_eqF', nbT0, nbT1, oI_s, oI_n, natF, natT, nltT, nltF, nleT, nleF, ↓reduceIte, lgc, not_true_eq_false, not_false_eq_true, or_false, false_or, or_true, true_or, and_true, true_and, and_false, false_and, ne_eq, eq_self, or_self, and_self, e]) ⟨?_, q3, q4, q5⟩
        rcases q2 with ⟨a1, a2, a3⟩ | q2
        · refine fin y f1 (Or.inl ⟨a1, a2, a3.1⟩) (fun _ k f hk hf => ?_)
          rw [hXi] at hf
          cases hf
        · exact Or.inr q2
      · obtain ⟨z1, z2, z3⟩ := GD_ok w3 hbt hi e
        have hXi : X i = some (av (lcn m M) (ix (m.1 188 o)) (w.2 151 (fa c M + i))) := by
          rw [← hX]
          exact if_neg e
        have hwb := wts_b z1 hk
        have hav : av (lcn m M) (ix (m.1 188 o)) (w.2 151 (fa c M + i)) (wts m (40 * M + i) k) = nbl (w.2 151 (fa c M + i)) (wts m (40 * M + i) k) := if_neg (by omega)
        have hd8 := z1.2.2.1
        refine wpf (by simp (disch := first | omega | decide) only [↓neg1, nlit, rI, rL, rI2, rL1, nI_add, pk_mul, sbT, dvT, nmd, ixT, ↓ibT, ltT, ltF, leT, leF, eqT, eqF, nM_ltT, nM_ltF, nM_leT, nM_leF, nM_eqF, nM_eqF', nbT0, nbT1, oI_s, oI_n, natF, natT, nltT, nltF, nleT, nleF, ↓reduceIte, lgc, not_true_eq_false, not_false_eq_true, or_false, false_or, or_true, true_or, and_true, true_and, and_false, false_and, ne_eq, eq_self, or_self, and_self, e]) (wpt (by simp (disch := first | omega | decide) only [↓neg1, nlit, rI, rL, rI2, rL1, nI_add, pk_mul, sbT, dvT, nmd, ixT, ↓ibT, ltT, ltF, leT, leF, eqT, eqF, nM_ltT, nM_ltF, nM_leT, nM_leF, nM_eqF, nM_eqF', nbT0, nbT1, oI_s, oI_n, natF, natT, nltT, nltF, nleT, nleF, ↓reduceIte, lgc, not_true_eq_false, not_false_eq_true, or_false, false_or, or_true, true_or, and_true, true_and, and_false, false_and, ne_eq, eq_self, or_self, and_self]) ?_)
        refine wpe (e170 q4.1.2.2 hM hi z1 (by rw [(g119 q5).2.2]) hk) (wpe (e355 (by omega)) (wpe (e169 q4.1.2.2 q4.1.1.2.2.1 hM hi (by rw [(g119 q5).2.2]) hk) ?_))
        obtain ⟨s', hP, hs'⟩ := wtp_P hC hM hac.2.2.2.2.2.2.1 hk
        have hv := z3 (wts m (40 * M + i) k) (by omega)
        rw [hav] at hv
        rw [q4.2.2.2.2.1]
        refine wpe (e192 q4 hP hs' hv) ?_
        have hp12 := (EC_row h1.1 hP).1
        have hLA := (OOS_at h1.1.1 h6).1
        generalize hv2 : nbl (w.2 151 (fa c M + i)) (wts m (40 * M + i) k) = v at *
        by_cases er : tld m (wtp m M (40 * M + i) k) o = none ∧ Jo m o (Fc o y (wtp m M (40 * M + i) k)) v ≠ Fc o y (wtp m M (40 * M + i) k)
        · rw [if_pos er]
          have hfy := okc q4 _ _ hP hs'
          have hJ := (LA_J hLA hfy hv).1
          obtain ⟨u1, u2⟩ := STc_up q4 hP hs' hJ
          have hlow := low_up h1 hT h6 hM (okc h) hl.1 (okc q4) q3.1 w2 hi hk hXi er.1
          rw [hav] at hlow
          have hpf := ptF_up hLA hp12 hfy hv er.2
          have hf01 : f1 = nI 0 ∨ f1 = nI 1 := by
            rcases q2 with q2 | q2
            · exact Or.inl q2.1
            · exact Or.inr q2.1
          have hor : f1 ||| nI 1 = nI 1 := by
            rcases hf01 with z | z
            · exact (or01 (Or.inl z) (Or.inr rfl)).1 z
            · exact (or01 (Or.inr z) (Or.inr rfl)).2 z
          refine wpl (wpl ⟨nI_1 _, Or.inr ⟨hor, ?_⟩, ?_, u1, sx_trans q5 (sx_pI sx_rfl (decide_eq_true ⟨rfl, by omega⟩))⟩)
          · dsimp only
            rw [u2]
            rcases q2 with ⟨-, a2, -⟩ | ⟨-, a2⟩
            · rw [← a2]
              exact hpf
            · exact Nat.lt_trans hpf a2
          · dsimp only
            rw [u2]
            exact ⟨hlow.2, TKp_up q3.2 er.1⟩
        · rw [if_neg er]
          have hor : f1 ||| nI 0 = f1 := by
            rcases q2 with z | z
            · rw [z.1]
              rfl
            · rw [z.1]
              rfl
          refine wpl (wpl ⟨nI_1 _, ?_, q3, q4, q5⟩)
          dsimp only
          rw [hor]
          rcases q2 with ⟨a1, a2, a3, a4⟩ | q2
          · refine Or.inl ⟨a1, a2, a3, fun k' f hk' hf ht => ?_⟩
            by_cases ek : k' = k
            · subst ek
              rw [hXi] at hf
              cases hf
              rw [hav]
              have : Jo m o (Fc o y (wtp m M (40 * M + i) k')) v = Fc o y (wtp m M (40 * M + i) k') := by
                apply Classical.byContradiction
                intro z
                exact er ⟨ht, z⟩
              rw [a2] at this
              exact (LA_Jid hLA (okc h _ _ hP hs') hv).mp this
            · exact a4 k' f (by omega) hf ht
          · exact Or.inr q2
    · rintro ⟨f1, k0, y⟩ ⟨q1, q2, q3, q4, q5⟩
      dsimp only at q1 q2 q3 q4 q5
      subst q1
      dsimp only
      have hw4 := wnt_le hC hac.2.2.2.2.2.2.1
      refine wpe (e168 q4.1.2.2 hM hi (by rw [(g119 q5).2.2])) (wpt (by simp (disch := first | omega | decide) only [↓neg1, nlit, rI, rL, rI2, rL1, nI_add, pk_mul, sbT, dvT, nmd, ixT, ↓ibT, ltT, ltF, leT, leF, eqT, eqF, nM_ltT, nM_ltF, nM_leT, nM_leF, nM_eqF, nM_eqF', nbT0, nbT1, oI_s, oI_n, natF, natT, nltT, nltF, nleT, nleF, ↓reduceIte, lgc, not_true_eq_false, not_false_eq_true, or_false, false_or, or_true, true_or, and_true, true_and, and_false, false_and, ne_eq, eq_self, or_self, and_self]) ⟨?_, q3, q4, q5⟩)
      rcases q2 with ⟨a1, a2, a3, a4⟩ | q2
      · exact fin y f1 (Or.inl ⟨a1, a2, a3⟩) (fun _ k f hk hf ht => a4 k f hk hf ht)
      · exact Or.inr q2
    · have hw4 := wnt_le hC hac.2.2.2.2.2.2.1
      omega
    · rcases g2 with ⟨a1, a2, a3⟩ | g2
      · exact Or.inl ⟨a1, a2, a3, fun k' f hk' => by omega⟩
      · exact Or.inr g2
    · dsimp only
      rw [nI_1]
      congr 1
  · rintro ⟨f0, i0, x⟩ ⟨g1, g2, g3, g4, g5⟩
    dsimp only at g1 g2 g3 g4 g5
    subst g1
    dsimp only
    refine wpt (by simp (disch := first | omega | decide) only [↓neg1, nlit, rI, rL, rI2, rL1, nI_add, pk_mul, sbT, dvT, nmd, ixT, ↓ibT, ltT, ltF, leT, leF, eqT, eqF, nM_ltT, nM_ltF, nM_leT, nM_leF, nM_eqF, nM_eqF', nbT0, nbT1, oI_s, oI_n, natF, natT, nltT, nltF, nleT, nleF, ↓reduceIte, lgc, not_true_eq_false, not_false_eq_true, or_false, false_or, or_true, true_or, and_true, true_and, and_false, false_and, ne_eq, eq_self, or_self, and_self]) (wpt (by simp (disch := first | omega | decide) only [↓neg1, nlit, rI, rL, rI2, rL1, nI_add, pk_mul, sbT, dvT, nmd, ixT, ↓ibT, ltT, ltF, leT, leF, eqT, eqF, nM_ltT, nM_ltF, nM_leT, nM_leF, nM_eqF, nM_eqF', nbT0, nbT1, oI_s, oI_n, natF, natT, nltT, nltF, nleT, nleF, ↓reduceIte, lgc, not_true_eq_false, not_false_eq_true, or_false, false_or, or_true, true_or, and_true, true_and, and_false, false_and, ne_eq, eq_self, or_self, and_self]) ?_)
    rw [ix_n (by omega), (g119 g5).1, (g119 g5).2.1, nI_add]
    refine wpt (by simp (disch := first | omega | decide) only [↓neg1, nlit, rI, rL, rI2, rL1, nI_add, pk_mul, sbT, dvT, nmd, ixT, ↓ibT, ltT, ltF, leT, leF, eqT, eqF, nM_ltT, nM_ltF, nM_leT, nM_leF, nM_eqF, nM_eqF', nbT0, nbT1, oI_s, oI_n, natF, natT, nltT, nltF, nleT, nleF, ↓reduceIte, lgc, not_true_eq_false, not_false_eq_true, or_false, false_or, or_true, true_or, and_true, true_and, and_false, false_and, ne_eq, eq_self, or_self, and_self]) ⟨?_, g3, g4, g5⟩
    rcases g2 with ⟨a1, a2, a3⟩ | g2
    · exact Or.inl ⟨a1, a2, X, w2, fun i k f hi hk hf ht => a3 i k f hi hk hf ht⟩
    · exact Or.inr g2
  · rintro ⟨fl, x⟩ ⟨g1, g2, g3, g4⟩
    dsimp only at g1 g2 g3 g4
    have hnb : nb fl := by
      rcases g1 with g1 | g1
      · exact Or.inl g1.1
      · exact Or.inr g1.1
    refine wpt hnb ⟨g1, g2, g3, sx_trans (sx_wide w1 (fun a i z => ?_)) (sx_wide g4 (fun a i z => ?_))⟩
    · have := of_decide_eq_false z
      exact decide_eq_false (by omega)
    · have := of_decide_eq_false z
      exact decide_eq_false (by omega)
end FC1
