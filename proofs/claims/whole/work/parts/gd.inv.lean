/-! ONE INVARIANT for both states -/
section INVS
variable {T T' a i : Nat} {c d m u v : cS} {r q : Nat → Nat → Bool}
theorem JT_cg (h : JT c u) (h1 : d.1 1 1 = c.1 1 1) (h2 : ∀ i, d.1 2 i = c.1 2 i) (h3 : v.1 174 2 = u.1 174 2) (h4 : ∀ i, v.1 175 i = u.1 175 i) : JT d v := by
  obtain ⟨L, hL, l1, l2, l3⟩ := h
  exact ⟨L, hL, h1.trans l1, h3.trans l2, fun i hi => by rw [h4, h2]; exact l3 i hi⟩
theorem JO_cg (h : JO c u) (h1 : d.1 172 1 = c.1 172 1) (h2 : ∀ i, d.1 173 i = c.1 173 i) (h3 : v.1 174 4 = u.1 174 4) (h4 : ∀ i, v.1 176 i = u.1 176 i) : JO d v := by
  obtain ⟨L, hL, l1, l2, l3⟩ := h
  exact ⟨L, hL, h1.trans l1, h3.trans l2, fun i hi => by rw [h4, h2]; exact l3 i hi⟩
theorem JF_cg (h : JF c u) (h1 : d.1 145 4 = c.1 145 4) (h2 : d.1 145 5 = c.1 145 5) (h3 : v.1 174 11 = u.1 174 11) (h4 : v.1 174 12 = u.1 174 12) : JF d v := ⟨by rw [h1, h3]; exact h.1, by rw [h2, h4]; exact h.2⟩
theorem JA_cg (h : JA c u) (h1 : ∀ i, d.1 160 i = c.1 160 i) (h2 : d.1 159 5 = c.1 159 5) (h3 : ∀ i, d.1 161 i = c.1 161 i) (g1 : ∀ i, v.1 251 i = u.1 251 i) (g2 : v.1 174 110 = u.1 174 110) (g3 : ∀ i, v.1 252 i = u.1 252 i) : JA d v := by
  obtain ⟨a1, k, k1, k2, k3, k4⟩ := h
  exact ⟨fun i hi => by rw [h1, g1]; exact a1 i hi, k, k1, h2.trans k2, g2.trans k3, fun i hi => by rw [h3, g3]; exact k4 i hi⟩
theorem WRD_cg (h : WRD c u) (h1 : ∀ i, 7 ≤ i → i ≤ 9 → d.1 167 i = c.1 167 i) (h2 : ∀ i, d.1 171 i = c.1 171 i) (g1 : ∀ i, i = 14 ∨ i = 130 ∨ i = 132 ∨ i = 133 ∨ i = 134 → v.1 174 i = u.1 174 i) (g2 : ∀ i, v.1 261 i = u.1 261 i) : WRD d v := by
  unfold WRD
  rw [h1 7 (by omega) (by omega), h1 8 (by omega) (by omega), h1 9 (by omega) (by omega), g1 14 (by omega), g1 130 (by omega), g1 132 (by omega), g1 133 (by omega), g1 134 (by omega)]
  rcases h with h | ⟨a1, a2, k, k1, k2, k3, k4, k5, k6⟩
  · exact Or.inl h
  · exact Or.inr ⟨a1, a2, k, k1, k2, k3, k4, k5, fun i hi => by rw [h2, g2]; exact k6 i hi⟩
/-- tape, output, faults, arguments, words, wiring -/
def BAS (T : Nat) (c u : cS) : Prop := JT c u ∧ JO c u ∧ JF c u ∧ JA c u ∧ WT c ∧ WV c ∧ (∃ tot, tot ≤ 1024 ∧ c.1 114 7 = nI tot) ∧ WRD c u ∧ (ix (c.1 1 1) + 19) / 20 ≤ T
def KB (a i : Nat) : Prop := (a = 1 ∧ i = 1) ∨ a = 2 ∨ a = 6 ∨ (a = 114 ∧ i = 7) ∨ (a = 145 ∧ (i = 4 ∨ i = 5)) ∨ (a = 159 ∧ i = 5) ∨ a = 160 ∨ a = 161 ∨ (a = 167 ∧ 7 ≤ i ∧ i ≤ 9) ∨ a = 171 ∨ (a = 172 ∧ i = 1) ∨ a = 173
def KBu (a i : Nat) : Prop := (a = 174 ∧ (i = 2 ∨ i = 4 ∨ i = 11 ∨ i = 12 ∨ i = 14 ∨ i = 110 ∨ i = 130 ∨ i = 132 ∨ i = 133 ∨ i = 134)) ∨ a = 175 ∨ a = 176 ∨ a = 251 ∨ a = 252 ∨ a = 261
theorem BAS_sx (h : BAS T c u) (sc : sx r c d) (su : sx q u v) (hr : ∀ a i, KB a i → r a i = false) (hq : ∀ a i, KBu a i → q a i = false) (hT : T ≤ T') : BAS T' d v := by
  have C : ∀ a i, KB a i → d.1 a i = c.1 a i ∧ d.2 a i = c.2 a i := fun a i z => ⟨sc.1 a i (hr a i z), sc.2 a i (hr a i z)⟩
  have U : ∀ a i, KBu a i → v.1 a i = u.1 a i := fun a i z => su.1 a i (hq a i z)
  obtain ⟨h1, h2, h3, h4, h5, h6, ⟨tot, h7, h8⟩, h9, h10⟩ := h
  have c11 := (C 1 1 (by unfold KB; omega)).1
  refine ⟨JT_cg h1 c11 (fun i => (C 2 i (by unfold KB; omega)).1) (U 174 2 (by unfold KBu; omega)) (fun i => U 175 i (by unfold KBu; omega)), JO_cg h2 (C 172 1 (by unfold KB; omega)).1 (fun i => (C 173 i (by unfold KB; omega)).1) (U 174 4 (by unfold KBu; omega)) (fun i => U 176 i (by unfold KBu; omega)), JF_cg h3 (C 145 4 (by unfold KB; omega)).1 (C 145 5 (by unfold KB; omega)).1 (U 174 11 (by unfold KBu; omega)) (U 174 12 (by unfold KBu; omega)), JA_cg h4 (fun i => (C 160 i (by unfold KB; omega)).1) (C 159 5 (by unfold KB; omega)).1 (fun i => (C 161 i (by unfold KB; omega)).1) (fun i => U 251 i (by unfold KBu; omega)) (U 174 110 (by unfold KBu; omega)) (fun i => U 252 i (by unfold KBu; omega)), fun i hi => ?_, fun w hw => ?_, ⟨tot, h7, ?_⟩, WRD_cg h9 (fun i z1 z2 => (C 167 i (by unfold KB; omega)).1) (fun i => (C 171 i (by unfold KB; omega)).1) (fun i z => U 174 i (by unfold KBu; omega)) (fun i => U 261 i (by unfold KBu; omega)), ?_⟩
  · rw [(C 6 i (by unfold KB; omega)).2]
    exact h5 i hi
  · rw [(C 6 w (by unfold KB; omega)).2]
    exact h6 w hw
  · rw [(C 114 7 (by unfold KB; omega)).1]
    exact h8
  · rw [c11]
    omega
/-! the PROGRAM, its flow, its checks, its run -/
theorem FLW_sx (h : FLW m c u) (sc : sx r c d) (su : sx q u v) (hr : nF r) (r1 : c.1 146 8 = nI 0 → d.1 146 8 = nI 0) (r2 : r 150 16 = false) (r3 : ∀ i, r 158 i = false) (hq : nG q) (q1 : q 174 97 = false) (q2 : q 174 102 = false) (q3 : ∀ i, q 249 i = false) : FLW m d v := by
  rcases h with ⟨h1, h2, h3⟩ | ⟨o, ho, w2, w3, w4, w5, w6, w7⟩
  · exact Or.inl ⟨(sc.1 _ _ hr.2.2.1).trans h1, (su.1 _ _ q1).trans h2, (sc.1 _ _ r2).trans h3⟩
  · have hK : (fun p => TM m d p o) = (fun p => TM m c p o) := funext fun p => by
      unfold TM
      rw [show fdv d p o = fdv c p o from congrArg ix (sc.1 148 _ (hr.2.1 _))]
    refine Or.inr ⟨o, ho, (sc.1 _ _ hr.2.2.1).trans w2, (su.1 _ _ q1).trans w3, r1 w4, FOL_sx w5 sc hr.2.1 sc hr, by rw [hK]; exact FOR_sx w6 su hq, ?_⟩
    obtain ⟨k, k1, k2, k3, k4⟩ := w7
    exact ⟨k, k1, (sc.1 _ _ r2).trans k2, (su.1 _ _ q2).trans k3, fun j hj => by rw [sc.1 _ _ (r3 j), su.1 _ _ (q3 j)]; exact k4 j hj⟩
theorem TM_c {p o : Nat} (h : ∀ i, d.1 148 i = c.1 148 i) : TM m d p o = TM m c p o := by
  unfold TM fdv
  rw [h]
theorem CHK_sx (h : CHK m c u) (sc : sx r c d) (su : sx q u v) (hr : nC r) (r1 : ∀ i, r 126 i = false) (r2 : ∀ i, r 148 i = false) (r3 : c.1 146 8 = nI 0 → d.1 146 8 = nI 0) (q1 : q 174 106 = false) (q2 : ∀ i, q 250 i = false) : CHK m d v := by
  rcases h with ⟨h1, h2⟩ | ⟨h1, h2, LL, h3, h4, h5⟩
  · exact Or.inl ⟨(su.1 _ _ q1).trans h1, BT_sx sc hr r1 h2⟩
  · refine Or.inr ⟨(su.1 _ _ q1).trans h1, r3 h2, LL, fun o x ho hx => ?_, BT_sx sc hr r1 h4, CKL_cg (fun _ _ => rfl) (fun t => su.1 _ _ (q2 t)) h5⟩
    obtain ⟨a1, a2, a3, a4⟩ := h3 o x ho hx
    refine ⟨a1, a2, a3, ?_⟩
    rw [TM_c (fun i => sc.1 148 i (r2 i))]
    exact a4
theorem RN_cg {st fr : Nat} {Mf If : Nat → Nat} (h : RN m c u st fr Mf If) (h1 : ∀ i, d.1 162 i = c.1 162 i) (h2 : ∀ i, i = 10 ∨ i = 12 → d.1 159 i = c.1 159 i) (h3 : ∀ i, i = 13 ∨ i = 14 → d.2 159 i = c.2 159 i) (h4 : ∀ a i, 163 ≤ a → a ≤ 164 → d.1 a i = c.1 a i) (h5 : ∀ a i, 165 ≤ a → a ≤ 166 → d.2 a i = c.2 a i) (g1 : ∀ i, (111 ≤ i ∧ i ≤ 113) ∨ i = 121 ∨ (123 ≤ i ∧ i ≤ 129) → v.1 174 i = u.1 174 i) (g2 : ∀ a i, 253 ≤ a → a ≤ 260 → v.1 a i = u.1 a i) : RN m d v st fr Mf If := by
  obtain ⟨a1, a2, a3, a4, a5, a6, a7, a8, a9, a10, a11, a12, a13⟩ := h
  refine ⟨a1, a2, (h1 0).trans a3, (g1 111 (by omega)).trans a4, (h2 10 (by omega)).trans a5, (g1 113 (by omega)).trans a6, ?_, ?_, fun j hj => ?_, fun k hk => SL_cg (a10 k hk) (h5 165 k (by omega) (by omega)) (g2 256 k (by omega) (by omega)) (fun o _ => g2 257 _ (by omega) (by omega)), fun x y hx hy => SL_cg (a11 x y hx hy) (h5 166 _ (by omega) (by omega)) (g2 258 _ (by omega) (by omega)) (fun o _ => g2 259 _ (by omega) (by omega)), fun z o ho => ?_, ?_⟩
  · rw [h2 12 (by omega), g1 112 (by omega)]
    exact a7
  · unfold TLY at a8 ⊢
    rw [h1 1, h1 2, h1 6, h1 7, h1 8, h1 9, h1 10, h1 11, g1 121 (by omega), g1 123 (by omega), g1 124 (by omega), g1 125 (by omega), g1 126 (by omega), g1 127 (by omega), g1 128 (by omega), g1 129 (by omega)]
    exact a8
  · have := a9 j hj
    unfold FRM at this ⊢
    rw [h4 163 j (by omega) (by omega), g2 253 j (by omega) (by omega), h4 164 j (by omega) (by omega), g2 254 j (by omega) (by omega), g2 255 j (by omega) (by omega)]
    exact this
  · rw [g2 260 o (by omega) (by omega), h3 13 (by omega)]
    exact a12 z o ho
  · unfold BLK at a13 ⊢
    rw [h3 14 (by omega)]
    exact a13
theorem RU0_cg (h : RU0 c u) (h1 : ∀ i, d.1 162 i = c.1 162 i) (g1 : v.1 174 111 = u.1 174 111) : RU0 d v := ⟨(h1 0).trans h.1, g1.trans h.2.1, fun j z1 z2 => (h1 j).trans (h.2.2 j z1 z2)⟩
def RUX (T : Nat) (m c u : cS) : Prop := RU0 c u ∨ (c.1 146 8 = nI 0 ∧ (∃ L, L ≤ 160000 * T ∧ c.1 162 6 = nI L) ∧ ∃ st fr Mf If, RN m c u st fr Mf If)
/-- MARKS: those of CLASS rows, and all others by the calls so far -/
def MBN (T : Nat) (m c : cS) : Prop := ∃ Lb A V F sz X Y, ALO c V F sz X Y ∧ V ≤ Lb + sumN (fun k => sz (100 * k)) (ccn m) ∧ A ≤ T ∧ A ≤ 200 ∧ 4 * Lb + 19 * ((ix (c.1 1 1) + 19) / 20) ≤ 19 * T + 21 * A
def PRM (T : Nat) (m c u : cS) : Prop := m.1 174 14 = nI 1 ∧ AG m u ∧ PG c m ∧ WB m ∧ CN m ∧ TLS c m ∧ FD m c u ∧ FLW m c u ∧ CHK m c u ∧ RUX T m c u ∧ MBN T m c
def PRN (c u : cS) : Prop := c.1 7 0 = nI 0 ∧ u.1 174 14 = nI 0 ∧ c.1 150 3 = nM ∧ u.1 174 97 = nM ∧ c.1 150 16 = nI 0 ∧ RU0 c u
def INV (T : Nat) (c u : cS) : Prop := T ≤ 512 ∧ BAS T c u ∧ (PRN c u ∨ (c.1 7 0 = nI 1 ∧ ∃ m, PRM T m c u))
def KP (a i : Nat) : Prop := a = 7 ∨ (8 ≤ a ∧ a ≤ 144) ∨ (a = 146 ∧ i = 8) ∨ a = 147 ∨ a = 148 ∨ (a = 150 ∧ (i = 3 ∨ i = 6 ∨ i = 16)) ∨ a = 151 ∨ a = 152 ∨ a = 158 ∨ (a = 159 ∧ (i = 10 ∨ i = 12 ∨ i = 13 ∨ i = 14)) ∨ (162 ≤ a ∧ a ≤ 166)
def KPu (a i : Nat) : Prop := (a = 174 ∧ (i = 14 ∨ i = 15 ∨ i = 24 ∨ i = 34 ∨ i = 37 ∨ i = 91 ∨ i = 97 ∨ i = 102 ∨ i = 106 ∨ (111 ≤ i ∧ i ≤ 113) ∨ i = 121 ∨ (123 ≤ i ∧ i ≤ 129))) ∨ (181 ≤ a ∧ a ≤ 221) ∨ (a = 222 ∧ i < 1218) ∨ (223 ≤ a ∧ a ≤ 225 ∧ i < 24360) ∨ (226 ≤ a ∧ a ≤ 228 ∧ i < 97440) ∨ a = 229 ∨ a = 230 ∨ a = 235 ∨ (236 ≤ a ∧ a ≤ 239) ∨ (241 ≤ a ∧ a ≤ 245) ∨ a = 249 ∨ a = 250 ∨ (253 ≤ a ∧ a ≤ 260)
theorem RUX_sx (h : RUX T m c u) (sc : sx r c d) (su : sx q u v) (r1 : ∀ a i, (162 ≤ a ∧ a ≤ 166) ∨ (a = 159 ∧ (i = 10 ∨ i = 12 ∨ i = 13 ∨ i = 14)) → r a i = false) (r2 : c.1 146 8 = nI 0 → d.1 146 8 = nI 0) (q1 : ∀ i, (111 ≤ i ∧ i ≤ 113) ∨ i = 121 ∨ (123 ≤ i ∧ i ≤ 129) → q 174 i = false) (q2 : ∀ a i, 253 ≤ a → a ≤ 260 → q a i = false) (hT : T ≤ T') : RUX T' m d v := by
  rcases h with h | ⟨h1, ⟨L, h2, h3⟩, st, fr, Mf, If, h4⟩
  · exact Or.inl (RU0_cg h (fun i => sc.1 _ _ (r1 _ _ (by omega))) (su.1 _ _ (q1 _ (by omega))))
  · exact Or.inr ⟨r2 h1, ⟨L, by omega, (sc.1 _ _ (r1 _ _ (by omega))).trans h3⟩, st, fr, Mf, If, RN_cg h4 (fun i => sc.1 _ _ (r1 _ _ (by omega))) (fun i z => sc.1 _ _ (r1 _ _ (by omega))) (fun i z => sc.2 _ _ (r1 _ _ (by omega))) (fun a i z1 z2 => sc.1 _ _ (r1 _ _ (by omega))) (fun a i z1 z2 => sc.2 _ _ (r1 _ _ (by omega))) (fun i z => su.1 _ _ (q1 _ z)) (fun a i z1 z2 => su.1 _ _ (q2 _ _ z1 z2))⟩
theorem MBN_sx (h : MBN T m c) (sc : sx r c d) (r1 : ∀ a i, (133 ≤ a ∧ a ≤ 144) ∨ (a = 1 ∧ i = 1) → r a i = false) (hT : T ≤ T') : MBN T' m d := by
  obtain ⟨Lb, A, V, F, sz, X, Y, h1, h2, h3, h4, h5⟩ := h
  refine ⟨Lb, A, V, F, sz, X, Y, ALO_cg h1 (fun A l z => sc.1 _ _ (r1 _ _ (by omega))), h2, by omega, h4, ?_⟩
  rw [sc.1 1 1 (r1 _ _ (by omega))]
  omega
theorem PRM_sx (h : PRM T m c u) (sc : sx r c d) (su : sx q u v) (hr : ∀ a i, KP a i → r a i = false) (hq : ∀ a i, KPu a i → q a i = false) (hT : T ≤ T') (hM : MBN T m c → MBN T' m d) : PRM T' m d v := by
  obtain ⟨h1, h2, h3, h4, h5, h6, h7, h8, h9, h10, h11⟩ := h
  have hC : nC r := ⟨fun a i z1 z2 z3 => hr a i (by unfold KP; omega), fun i z => hr 7 i (by unfold KP; omega)⟩
  have hF : nF r := ⟨hC, fun i => hr _ _ (by unfold KP; omega), hr _ _ (by unfold KP; omega), hr _ _ (by unfold KP; omega), fun i => hr _ _ (by unfold KP; omega), fun i => hr _ _ (by unfold KP; omega)⟩
  have hP : nP q := ⟨fun a i z => hq a i (by have := PA_of z; unfold KPu; omega), fun i z => hq 174 i (by have := PF_of z; unfold KPu; omega), fun i z => hq _ _ (by unfold KPu; omega), fun a i z1 z2 z3 => hq _ _ (by unfold KPu; omega), fun a i z1 z2 z3 => hq _ _ (by unfold KPu; omega)⟩
  have hG : nG q := ⟨hq _ _ (by unfold KPu; omega), fun a i z1 z2 z3 => hq _ _ (by unfold KPu; omega)⟩
  have r8 : r 146 8 = false := hr _ _ (by unfold KP; omega)
  have r7 : ∀ i, r 147 i = false := fun i => hr _ _ (by unfold KP; omega)
  exact ⟨h1, AG_sx h2 su hP, PG_CA (CA_sx sc hC) h3, h4, h5, TLS_sx h6 sc r8 r7, FD_2 h7 sc su hF.2.1 (fun i => hq _ _ (by unfold KPu; omega)), FLW_sx h8 sc su hF (fun z => (sc.1 _ _ r8).trans z) (hr _ _ (by unfold KP; omega)) (fun i => hr _ _ (by unfold KP; omega)) hG (hq _ _ (by unfold KPu; omega)) (hq _ _ (by unfold KPu; omega)) (fun i => hq _ _ (by unfold KPu; omega)), CHK_sx h9 sc su hC (fun i => hr _ _ (by unfold KP; omega)) hF.2.1 (fun z => (sc.1 _ _ r8).trans z) (hq _ _ (by unfold KPu; omega)) (fun i => hq _ _ (by unfold KPu; omega)), RUX_sx h10 sc su (fun a i z => hr _ _ (by unfold KP; omega)) (fun z => (sc.1 _ _ r8).trans z) (fun i z => hq _ _ (by unfold KPu; omega)) (fun a i z1 z2 => hq _ _ (by unfold KPu; omega)) hT, hM h11⟩
theorem PRN_sx (h : PRN c u) (sc : sx r c d) (su : sx q u v) (hr : ∀ a i, KP a i → r a i = false) (hq : ∀ a i, KPu a i → q a i = false) : PRN d v := by
  obtain ⟨h1, h2, h3, h4, h5, h6⟩ := h
  exact ⟨(sc.1 _ _ (hr _ _ (by unfold KP; omega))).trans h1, (su.1 _ _ (hq _ _ (by unfold KPu; omega))).trans h2, (sc.1 _ _ (hr _ _ (by unfold KP; omega))).trans h3, (su.1 _ _ (hq _ _ (by unfold KPu; omega))).trans h4, (sc.1 _ _ (hr _ _ (by unfold KP; omega))).trans h5, RU0_cg h6 (fun i => sc.1 _ _ (hr _ _ (by unfold KP; omega))) (su.1 _ _ (hq _ _ (by unfold KPu; omega)))⟩
/-- what has a PROGRAM or none -/
def PRW (T : Nat) (c u : cS) : Prop := PRN c u ∨ (c.1 7 0 = nI 1 ∧ ∃ m, PRM T m c u)
theorem PRW_sx (h : PRW T c u) (sc : sx r c d) (su : sx q u v) (hr : ∀ a i, KP a i → r a i = false) (hq : ∀ a i, KPu a i → q a i = false) (hT : T ≤ T') (hM : ∀ m, MBN T m c → MBN T' m d) : PRW T' d v := by
  rcases h with h | ⟨h1, m, h2⟩
  · exact Or.inl (PRN_sx h sc su hr hq)
  · exact Or.inr ⟨(sc.1 _ _ (hr _ _ (by unfold KP; omega))).trans h1, m, PRM_sx h2 sc su hr hq hT (hM m)⟩
theorem INV_sx (h : INV T c u) (hT : T < 512) (sc : sx r c d) (su : sx q u v) (hr : ∀ a i, KB a i ∨ KP a i → r a i = false) (hq : ∀ a i, KBu a i ∨ KPu a i → q a i = false) : INV (T + 1) d v := ⟨by omega, BAS_sx h.2.1 sc su (fun a i z => hr a i (Or.inl z)) (fun a i z => hq a i (Or.inl z)) (by omega), PRW_sx h.2.2 sc su (fun a i z => hr a i (Or.inr z)) (fun a i z => hq a i (Or.inr z)) (by omega) (fun m z => MBN_sx z sc (fun a i y => by
  by_cases e : a = 1
  · exact hr a i (Or.inl (by unfold KB; omega))
  · exact hr a i (Or.inr (by unfold KP; omega))) (by omega))⟩
/-- one place of the reference that nothing looks at -/
def q00 (a i : Nat) : Bool := decide (a = 174 ∧ i = 0)
theorem q00_f (h : KBu a i ∨ KPu a i) : q00 a i = false := decide_eq_false (by
  unfold KBu KPu at h
  omega)
theorem INV_0 {x : Int32} (h : INV T c u) : INV T c (pI u 174 0 x) := by
  have s : sx q00 u (pI u 174 0 x) := sx_pI sx_rfl (decide_eq_true (by omega))
  exact ⟨h.1, BAS_sx (r := fun _ _ => false) h.2.1 sx_rfl s (fun _ _ _ => rfl) (fun a i z => q00_f (Or.inl z)) (by omega), PRW_sx (r := fun _ _ => false) h.2.2 sx_rfl s (fun _ _ _ => rfl) (fun a i z => q00_f (Or.inr z)) (by omega) (fun m z => z)⟩
/-! what the calls ask for -/
theorem INV_P4 (h : INV T c u) : PR4 c u := by
  rcases h.2.2 with ⟨h1, h2, h3, h4, h5, -⟩ | ⟨h1, m, h2, h3, h4, h5, -, h6, h7, h8, h9, -⟩
  · exact Or.inl ⟨h1, h2, h3, h4, h5⟩
  · exact Or.inr ⟨h1, m, h2, h3, h4, h5, h6, h7, h8, h9⟩
theorem INV_P3 (h : INV T c u) : PR3 c u := PR4_3 (INV_P4 h)
theorem INV_P2 (h : INV T c u) : PR2 c u := PR3_2 (INV_P3 h)
theorem INV_P1 (h : INV T c u) : PRG c u := PR2_1 (INV_P2 h)
theorem bo_mono {x y : Option (Int32 × cS)} {P Q : cS → cS → Prop} (h : bo x y P) (hk : ∀ d w, P d w → Q d w) : bo x y Q := wp_mono h (fun r hr => wp_mono hr (fun s hs => ⟨hs.1, hk _ _ hs.2⟩))
theorem br_mono {x : Option Int32} {y : Option (Int32 × cS)} {P Q : cS → Prop} (h : br x y P) (hk : ∀ w, P w → Q w) : br x y Q := wp_mono h (fun r hr => wp_mono hr (fun s hs => ⟨hs.1, hk _ hs.2⟩))
theorem INV_up (h : INV T c u) (hT : T < 512) : INV (T + 1) c u := INV_sx (r := fun _ _ => false) (q := fun _ _ => false) h hT sx_rfl sx_rfl (fun _ _ _ => rfl) (fun _ _ _ => rfl)
end INVS
