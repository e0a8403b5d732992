/-! FLOW: the calls flow, error, step -/
/-- places that FLOW of the class stands on -/
def nF (r : Nat → Nat → Bool) : Prop := nC r ∧ (∀ i, r 148 i = false) ∧ r 150 3 = false ∧ r 150 6 = false ∧ (∀ i, r 151 i = false) ∧ ∀ i, r 152 i = false
theorem FOL_sx {c c' m w w' : cS} {o : Nat} {r q : Nat → Nat → Bool} (h : FOL c m o w) (hc : sx r c c') (hr : ∀ i, r 148 i = false) (hw : sx q w w') (hq : nF q) : FOL c' m o w' := by
  obtain ⟨h1, h2, h3⟩ := h
  obtain ⟨q1, q2, q3, q4, q5, q6⟩ := hq
  have hf : ∀ p, TM m c' p o = TM m c p o := fun p => by
    unfold TM
    rw [show fdv c' p o = fdv c p o from congrArg ix (hc.1 148 _ (hr _))]
  have hK : (fun p => TM m c' p o) = (fun p => TM m c p o) := funext hf
  have hfa : ∀ N, fa w' N = fa w N := fun N => FC_fa hw q1
  have hst : ∀ N, (fun x => w'.2 151 (fa w' N + x)) = (fun x => w.2 151 (fa w N + x)) := fun N => funext fun i => by
    rw [hfa N]
    exact hw.2 151 _ (q5 _)
  have hX : XC m o w' = XC m o w := funext fun N => by
    unfold XC
    rw [hst N]
  unfold FOL
  rw [hK, hX]
  refine ⟨(hw.1 150 3 q3).trans h1, fun M hM => ?_, (hw.1 150 6 q4).trans h3.1, fun j x hx => (hw.1 152 j (q6 j)).trans (h3.2 j x hx)⟩
  rw [hst M]
  exact h2 M hM
def nG (r : Nat → Nat → Bool) : Prop := r 174 91 = false ∧ ∀ a i, 236 ≤ a → a ≤ 245 → a ≠ 240 → r a i = false
theorem FOR_sx {m w w' : cS} {o : Nat} {K : Nat → Nat} {q : Nat → Nat → Bool} (h : FOR m o K w) (hw : sx q w w') (hq : nG q) : FOR m o K w' := by
  obtain ⟨h1, h2, h3, h4⟩ := h
  obtain ⟨q1, q2⟩ := hq
  have hX : RX w' = RX w := funext fun N => funext fun i => RX_s hw (q2 239 _ (by omega) (by omega) (by omega)) (fun s hs => q2 238 _ (by omega) (by omega) (by omega))
  refine ⟨fun p s hp hs => (hw.1 236 p (q2 236 _ (by omega) (by omega) (by omega))).trans (h1 p s hp hs), fun p s hp hs => (hw.1 237 p (q2 237 _ (by omega) (by omega) (by omega))).trans (h2 p s hp hs), fun M hM => ?_, ?_⟩
  · rw [hX]
    exact ⟨(h3 M hM).1, RV_s hw (fun i hi => q2 239 _ (by omega) (by omega) (by omega)) (fun i s hi hs => q2 238 _ (by omega) (by omega) (by omega)) (h3 M hM).2⟩
  · rw [hX]
    refine ⟨(hw.1 174 91 q1).trans h4.1, fun j x hx => ?_⟩
    rw [hw.1 241 j (q2 241 _ (by omega) (by omega) (by omega)), hw.1 242 j (q2 242 _ (by omega) (by omega) (by omega)), hw.1 243 j (q2 243 _ (by omega) (by omega) (by omega)), hw.1 244 j (q2 244 _ (by omega) (by omega) (by omega)), hw.1 245 j (q2 245 _ (by omega) (by omega) (by omega))]
    exact h4.2 j x hx
/-- a PROGRAM in both with its FLOW, or none -/
def PR3 (c u : cS) : Prop := (c.1 7 0 = nI 0 ∧ u.1 174 14 = nI 0 ∧ c.1 150 3 = nM ∧ u.1 174 97 = nM ∧ c.1 150 16 = nI 0) ∨ (c.1 7 0 = nI 1 ∧ ∃ m, m.1 174 14 = nI 1 ∧ AG m u ∧ PG c m ∧ WB m ∧ TLS c m ∧ FD m c u ∧ FLW m c u)
theorem PR3_2 {c u : cS} (h : PR3 c u) : PR2 c u := by
  rcases h with ⟨h1, h2, -⟩ | ⟨h1, m, h2, h3, h4, -, h5, h6, -⟩
  · exact Or.inl ⟨h1, h2⟩
  · exact Or.inr ⟨h1, m, h2, h3, h4, h5, h6⟩
def qFc (a i : Nat) : Bool := decide ((a = 146 ∧ 3 ≤ i ∧ i ≤ 8) ∨ a = 147 ∨ (a = 150 ∧ (i = 3 ∨ i = 6 ∨ i = 16)) ∨ a = 151 ∨ a = 152)
def qFr (a i : Nat) : Bool := decide ((a = 174 ∧ ((73 ≤ i ∧ i ≤ 79) ∨ i = 90 ∨ i = 91 ∨ i = 97 ∨ i = 102)) ∨ a = 232 ∨ a = 233 ∨ (236 ≤ a ∧ a ≤ 245))
theorem c_flow {n : Nat} {a1 : Int32} {c u : cS} (hn : 1100000 ≤ n) (h : PR3 c (pI u 174 0 0)) : bo (d_73 n a1 c) (d_126 n a1 u) (fun d w => sx qFc c d ∧ sx qFr (pI u 174 0 0) w ∧ PR3 d w) := by
  unfold bo d_73 d_126 lt
  generalize pI u 174 0 0 = k at h ⊢
  have hsame := h
  rcases h with ⟨h1, h2, -⟩ | ⟨h1, m, h2, hA, hG, hB, hT, hF, hW⟩
  · obtain ⟨p1, p2⟩ := or0 (n := n) (a := a1) h1 h2
    refine wpe p1 (wpt rfl ?_)
    refine wpe p2 (wpt rfl ?_)
    exact ⟨rfl, sx_rfl, sx_rfl, hsame⟩
  have hE := hG.1
  rcases orA (n := n) (a := a1) h1 h2 hA hE.1 with ⟨p1, p2⟩ | ⟨o, ho, rfl, p1, p2⟩
  · refine wpe p1 (wpt rfl ?_)
    refine wpe p2 (wpt rfl ?_)
    exact ⟨rfl, sx_rfl, sx_rfl, hsame⟩
  refine wpe p1 (wpf (by decide) ?_)
  refine wpc (e188 (by omega) h1 hE hT) (fun d hd => ?_)
  obtain ⟨d1, d2, d3⟩ := hd
  have hcd := CA_sx d1 nC_qL
  have hfd : ∀ p o, fdv d p o = fdv c p o := fun p o => congrArg ix (d1.1 148 _ rfl)
  have hFd : FD m d k := by
    intro p s o hP hs ho
    rw [hfd, d1.1 148 _ rfl]
    exact hF p s o hP hs ho
  have hGd := PG_CA hcd hG
  refine wpc (e196 hn hGd d3 d2 hFd ho hB) (fun e he => ?_)
  obtain ⟨e1, e2⟩ := he
  refine wpe p2 (wpf (by decide) ?_)
  have hKd : okK m o (fun p => TM m d p o) := fun p s hp hs => (e190 (n := n) hGd.1.1 hp hs ho (EC_row hGd.1 hp).1 d2 d3 hFd).2
  have hd7 : d.1 7 0 = nI 1 := (d1.1 7 0 rfl).trans h1
  refine wpc (e460 (by omega) hd7 h2 hA hGd ho hFd hKd hB) (fun w hw => ?_)
  obtain ⟨w1, w2⟩ := hw
  have hlist : erM m o (fun p => TM m d p o) (XC m o e) 96 = erM m o (fun p => TM m d p o) (RX w) 96 := erM_eq (c := d) (fun M hM => ⟨hGd.1.1, hGd.1.2.2.1, hGd.2.2, hM, ho, hKd⟩) (fun M hM => (e2.2.1 M hM).1) (fun M hM => (w2.2.2.1 M hM).1) 96
  have sd : sx qFc c (pI e 150 16 0) := sx_pI (sx_trans (sx_wide d1 (fun a i z => by
    have := of_decide_eq_false z
    exact decide_eq_false (by omega))) (sx_wide e1 (fun a i z => by
    have := of_decide_eq_false z
    exact decide_eq_false (by omega)))) (decide_eq_true (by omega))
  have sw : sx qFr k (pI (pI w 174 97 (nI o)) 174 102 0) := sx_pI (sx_pI (sx_wide w1 (fun a i z => by
    have := of_decide_eq_false z
    exact decide_eq_false (by omega))) (decide_eq_true (by omega))) (decide_eq_true (by omega))
  have sde : sx (fun a i => decide ((a = 150 ∧ (i = 3 ∨ i = 6 ∨ i = 16)) ∨ a = 151 ∨ a = 152)) d (pI e 150 16 0) := sx_pI (sx_wide e1 (fun a i z => by
    have := of_decide_eq_false z
    exact decide_eq_false (by omega))) (decide_eq_true (by omega))
  refine ⟨?_, sd, sw, Or.inr ⟨(sd.1 7 0 rfl).trans h1, m, h2, ?_, ?_, hB, ?_, ?_, Or.inr ⟨o, ho, ?_, ?_, ?_, ?_, ?_, ?_⟩⟩⟩
  · show (pI e 150 16 0).1 150 6 = (pI (pI w 174 97 (nI o)) 174 102 0).1 174 91
    rw [rI, if_neg (by omega), rI, if_neg (by omega), rI, if_neg (by omega), e2.2.2.1, w2.2.2.2.1, hlist]
  · refine AG_sx hA sw ⟨fun a i h => ?_, fun i h => ?_, fun i h => ?_, fun a i h1 h2 h3 => ?_, fun a i h1 h2 h3 => ?_⟩
    · have := PA_of h
      exact decide_eq_false (by omega)
    · have := PF_of h
      exact decide_eq_false (by omega)
    · exact decide_eq_false (by omega)
    · exact decide_eq_false (by omega)
    · exact decide_eq_false (by omega)
  · exact PG_CA (CA_sx sd ⟨fun a i h1 h2 h3 => decide_eq_false (by omega), fun i h => decide_eq_false (by omega)⟩) hG
  · refine ⟨by rw [sde.1 146 8 rfl]; exact d3.1, fun z p s o hp hs ho => ?_⟩
    rw [sde.1 146 8 rfl] at z
    rw [sde.1 147 _ rfl]
    exact d3.2 z p s o hp hs ho
  · intro p s o' hP hs ho'
    obtain ⟨f1, f2, f3⟩ := hFd p s o' hP hs ho'
    have hfe : fdv (pI e 150 16 0) p o' = fdv d p o' := congrArg ix (sde.1 148 _ rfl)
    rw [hfe, sde.1 148 _ rfl, sw.1 235 _ (decide_eq_false (by omega))]
    exact ⟨f1, f2, f3⟩
  · rw [rI, if_neg (by omega)]
    exact e2.1
  · rw [rI, if_neg (by omega), rI, if_pos ⟨rfl, rfl⟩]
  · exact (sde.1 146 8 rfl).trans d2
  · exact FOL_sx (q := fun a i => decide (a = 150 ∧ i = 16)) e2 sde (fun i => rfl) (sx_pI sx_rfl rfl) ⟨⟨fun a i h1 h2 h3 => decide_eq_false (by omega), fun i h => decide_eq_false (by omega)⟩, fun i => rfl, rfl, rfl, fun i => rfl, fun i => rfl⟩
  · have hTe : (fun p => TM m (pI e 150 16 0) p o) = (fun p => TM m d p o) := funext fun p => by
      unfold TM
      rw [show fdv (pI e 150 16 0) p o = fdv d p o from congrArg ix (sde.1 148 _ rfl)]
    rw [hTe]
    exact FOR_sx (q := fun a i => decide (a = 174 ∧ (i = 97 ∨ i = 102))) w2 (sx_pI (sx_pI sx_rfl rfl) rfl) ⟨rfl, fun a i h1 h2 h3 => decide_eq_false (by omega)⟩
  · refine ⟨0, by omega, ?_, ?_, fun j hj => by omega⟩
    · rw [rI, if_pos ⟨rfl, rfl⟩]
      rfl
    · rw [rI, if_pos ⟨rfl, rfl⟩]
      rfl
