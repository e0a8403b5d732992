/-! give: the class at a PLACE; both -/
section GIVS
variable {n r L V F tot : Nat} {b : Nat → Nat} {c m u w : cS} {sz : Nat → Nat} {X : Nat → Nat → Nat} {Y : Nat → Nat} {a1 : Int32}
theorem STP_c2 (h : STP c m) (hc : ∀ A l, 7 ≤ A → A < 114 → w.1 A l = c.1 A l ∧ w.2 A l = c.2 A l) : STP w m := by
  obtain ⟨h1, h2, h3, h4, h5⟩ := h
  refine ⟨NMQ_cg h1 (fun j _ => (hc 7 j (by decide) (by decide)).1) (fun o ho => (hc _ _ (by unfold oA; omega) (by unfold oA; omega)).2) (fun k hk => (hc _ _ (by unfold kA; omega) (by unfold kA; omega)).2) (fun _ _ => rfl) (fun _ _ => rfl) (fun _ _ => rfl), fun k hk => ?_, h3, h4, h5⟩
  exact RK_cg (h2 k hk) (fun A j z1 z => hc A j (by unfold kA at z1; omega) (by unfold kA at z; omega)) (fun _ _ _ _ => ⟨rfl, rfl⟩)
/-- a FILE that is wrong; a FILE that is taken -/
def qG0 (A l : Nat) : Bool := decide ((A = 1 ∧ l = 1) ∨ (A = 145 ∧ (l = 6 ∨ l = 10 ∨ l = 11)))
def qGd (r A l : Nat) : Bool := decide ((A = 1 ∧ l = 1) ∨ A = 126 ∨ (A = 133 ∧ 11 ≤ l ∧ l ≤ 13) ∨ (134 ≤ A ∧ A ≤ 141) ∨ (142 ≤ A ∧ A ≤ 144 ∧ l = r) ∨ (A = 145 ∧ (l = 6 ∨ l = 10 ∨ l = 11)) ∨ (A = 146 ∧ l = 8) ∨ (A = 150 ∧ (l = 3 ∨ l = 6 ∨ l = 16)) ∨ A = 162 ∨ (A = 167 ∧ 7 ≤ l ∧ l ≤ 9))
theorem c4_t (hT : ∀ j, j < L → b j < 256 ∧ c.1 2 j = sb (b j)) : ∀ j, j < L → b j < 256 ∧ (pI c 1 1 0).1 2 j = sb (b j) := fun j hj => ⟨(hT j hj).1, by rw [rI, if_neg (by omega)]; exact (hT j hj).2⟩
theorem s8_of {d : cS} (h : sx q292 (pI c 1 1 0) d) : sx qG0 c d := sx_trans (sx_pI sx_rfl (decide_eq_true (by omega))) (sx_wide h (fun A l y => by
  have := of_decide_eq_false y
  exact decide_eq_false (by omega)))
theorem e65w (hn : 100 ≤ n) (hL : L ≤ 4000) (h11 : c.1 1 1 = nI L) (hT : ∀ j, j < L → b j < 256 ∧ c.1 2 j = sb (b j)) (h21 : d_21 n (nI r) (pI c 1 1 0) = some (nI (si r))) (hs : si r < 4) {w : Nat} (hf : fFl b L = .inl w) : ∃ d, d_65 n (nI r) c = some ((-1000) - nI w, d) ∧ sx qG0 c d ∧ d.1 1 1 = nI 0 := by
  obtain ⟨d, d1, d2, d3, -⟩ := e292a (n := n) (c := pI c 1 1 0) hn hL (c4_t hT)
  obtain ⟨w1, w2⟩ := d3 w hf
  refine ⟨d, ?_, s8_of d2, ?_⟩
  · unfold d_65
    rw [h11]
    refine eq_wp (wpl (wpl (wpe h21 (wpt (nI_pos' (by omega)) (wpe d1 (wpf ?_ ?_))))))
    · rw [w2]
      exact nI_pos (by omega)
    · rw [w2]
      rfl
  · rw [d2.1 _ _ (decide_eq_false (by omega)), rI, if_pos ⟨rfl, rfl⟩]
    rfl
theorem e223 (hA : ALO c V F sz X Y) (hr : r < 2242) : d_223 n (nI r) c = some (nI (4096 - V + sz r)) := by
  have hV := hA.1
  unfold d_223
  rw [show ix (nI r) = r from ix_n (by omega), hA.2.2.1, hA.2.2.2.1 r hr, show (4096 : Int32) = nI 4096 from rfl, pk_sub (by omega), nI_add]
  exact eq_wp (wpt (ib_n hr (by decide)) rfl)
set_option maxHeartbeats 4000000 in
theorem e65s (hn : 10000 ≤ n) (hL : L ≤ 4000) (h11 : c.1 1 1 = nI L) (hT : ∀ j, j < L → b j < 256 ∧ c.1 2 j = sb (b j)) (h21 : d_21 n (nI r) (pI c 1 1 0) = some (nI (si r))) (hr : r < 1200) (hs : si r < 4) (hA : ALO c V F sz X Y) (hV : V + 20 ≤ 4096) (hS : STP c m) (ht : tot ≤ 1024) (h7 : c.1 114 7 = nI tot) {l : List (Int64 × Option (List (Int64 × Nat × Int64)))} (hf : fFl b L = .inr l) (hU : URW m r l) : ∃ d F' X' Y', d_65 n (nI r) c = some (nI l.length, d) ∧ ALO d (V - sz r + l.length) F' (upZ sz r l.length) X' Y' ∧ (∀ q i, q < 2242 → q ≠ r → i < sz q → X' q i = X q i) ∧ KOT c d sz X r ∧ RP d m r ∧ d.1 146 8 = nI 1 ∧ FGC tot d ∧ sx (qGd r) c d ∧ d.1 1 1 = nI 0 := by
  obtain ⟨f1, f2, f3, f4⟩ := fFl_b hf
  have hsz := ALO_sz hA (r := r) (by omega)
  have hir : ib (nI r) 2242 := ib_n (by omega) (by decide)
  have er : ix (nI r) = r := ix_n (by omega)
  obtain ⟨d8, a1, a2, -, a4⟩ := e292a (n := n) (c := pI c 1 1 0) (by omega) hL (c4_t hT)
  have a6 := a4 l hf
  have s8 : sx qG0 c d8 := s8_of a2
  have hA8 : ALO d8 V F sz X Y := ALO_cg hA (fun A l z => s8.1 _ _ (decide_eq_false (by omega)))
  obtain ⟨d11, Y1, b1, b2, b3⟩ := al_222 (n := n) hA8 (r := r) (by omega)
  have hT11 : ∀ j, j < L → b j < 256 ∧ d11.1 2 j = sb (b j) := fun j hj => ⟨(hT j hj).1, by
    rw [b3.1 _ _ (decide_eq_false (by omega)), s8.1 _ _ (decide_eq_false (by omega))]
    exact (hT j hj).2⟩
  obtain ⟨d12, F', X', Y', k1, k2, k3, k4, k5, k6⟩ := e292b (n := n) (c := d11) (by omega) hL hT11 (r := r) (by omega) b2 (by unfold upZ; rw [if_pos rfl]) (by omega) hf
  have ezz : upZ (upZ sz r 0) r l.length = upZ sz r l.length := by
    funext q
    unfold upZ
    by_cases e : q = r
    · rw [if_pos e, if_pos e]
    · rw [if_neg e, if_neg e, if_neg e]
  rw [ezz] at k2
  have ez : upZ sz r l.length r = l.length := by
    unfold upZ
    rw [if_pos rfl]
  have eq0 : ∀ {q : Nat}, q ≠ r → upZ sz r 0 q = sz q := fun {q} z => by
    unfold upZ
    rw [if_neg z]
  have eql : ∀ {q : Nat}, q ≠ r → upZ sz r l.length q = sz q := fun {q} z => by
    unfold upZ
    rw [if_neg z]
  have hz : mz m r = upZ sz r l.length r := by
    rw [ez]
    unfold mz
    rw [hU.1]
    exact ix_n (by omega)
  have s12 : sx (qGd r) c d12 := sx_trans (sx_trans (sx_wide s8 (fun A l y => by
      have := of_decide_eq_false y
      exact decide_eq_false (by omega))) (sx_wide b3 (fun A l y => by
      have := of_decide_eq_false y
      exact decide_eq_false (by omega)))) (sx_wide k6 (fun A l y => by
      have := of_decide_eq_false y
      exact decide_eq_false (by omega)))
  have C12 : ∀ A l, ¬ ((A = 1 ∧ l = 1) ∨ (133 ≤ A ∧ A ≤ 145)) → d12.1 A l = c.1 A l ∧ d12.2 A l = c.2 A l := fun A l z => ⟨by rw [k6.1 _ _ (decide_eq_false (by omega)), b3.1 _ _ (decide_eq_false (by omega)), s8.1 _ _ (decide_eq_false (by omega))], by rw [k6.2 _ _ (decide_eq_false (by omega)), b3.2 _ _ (decide_eq_false (by omega)), s8.2 _ _ (decide_eq_false (by omega))]⟩
  have hS12 : STP d12 m := STP_c2 hS (fun A l z1 z2 => C12 A l (by omega))
  have hnm : ∀ i, i < upZ sz r l.length r → d12.2 134 (X' r i) = m.2 223 (r * 20 + i) := fun i hi => by
    rw [ez] at hi
    obtain ⟨z, hz⟩ : ∃ z, l[i]? = some z := ⟨l[i], List.getElem?_eq_getElem hi⟩
    rw [(k3 i z hz).1, (hU.2 i z hz).1]
  obtain ⟨d13, e1, e2, e3, e4, e5, e6⟩ := e178 (n := n) (by omega) k2 (r := r) (by omega) hs hS12 hz hnm
  have s13 : sx (qGd r) c d13 := ⟨fun A l z => by
    have := of_decide_eq_false z
    rw [e5 A l (by omega) (fun y => by have := y.1; omega)]
    exact s12.1 A l z, fun A l z => by
    rw [e6]
    exact s12.2 A l z⟩
  obtain ⟨d, g1, g2, g3⟩ := wp_ex (e90 (n := n) (c := d13) (tot := tot) hn ht (by rw [s13.1 _ _ (decide_eq_false (by omega))]; exact h7))
  have hAd : ALO d (V - sz r + l.length) F' (upZ sz r l.length) X' Y' := ALO_cg e2 (fun A l z => g2.1 _ _ (decide_eq_false (by omega)))
  obtain ⟨-, -, -, -, -, -, -, k28, -⟩ := id k2
  refine ⟨d, F', X', Y', ?_, hAd, fun q i hq hqr hi => k4 q i hq hqr (by rw [eq0 hqr]; exact hi), fun q i hq hqr hi => ?_, ?_, ?_, g3, ?_, ?_⟩
  · have h223 := e223 (n := n) hA8 (r := r) (by omega)
    have h1st : ((d8.1 2 (ix 0)) &&& 255) ≤ nI (4096 - V + sz r) := by
      have h0 := hT 0 (by omega)
      rw [show ix 0 = 0 by decide, s8.1 _ _ (decide_eq_false (by omega)), h0.2, sb_255 h0.1, f3]
      exact nI_le (by omega) (by omega)
    have hlen : d.1 144 r = nI l.length := by
      rw [hAd.2.2.2.1 r (by omega), ez]
    unfold d_65
    rw [h11]
    refine eq_wp (wpl (wpl (wpe h21 (wpt (nI_pos' (by omega)) (wpe a1 (wpt (by rw [a6]; decide) (wpt (by decide) (wpe h223 (wpt h1st (wpe b1 (wpe k1 (wpe e1 (wpe g1 (wpt hir ?_))))))))))))))
    rw [er, hlen]
    rfl
  · have ei : X' q i = X q i := k4 q i hq hqr (by rw [eq0 hqr]; exact hi)
    obtain ⟨y1, y2⟩ := k5 q i hq hqr (by rw [eq0 hqr]; exact hi)
    refine ⟨fun A h1 h2 => ?_, fun A j h1 h2 hj => ?_⟩
    · have z := y1 A h1 h2
      have e13 : d13.1 A (X q i) = d12.1 A (X q i) := e5 A _ (by omega) (fun y => by
        obtain ⟨-, j, hj, ej⟩ := y
        rw [← ei] at ej
        exact hqr (k28 q i r j hq (by rw [eql hqr]; exact hi) (by omega) hj ej).1)
      exact ⟨by rw [g2.1 _ _ (decide_eq_false (by omega)), e13, z.1, b3.1 _ _ (decide_eq_false (by omega)), s8.1 _ _ (decide_eq_false (by omega))], by rw [g2.2 _ _ (decide_eq_false (by omega)), e6, z.2, b3.2 _ _ (decide_eq_false (by omega)), s8.2 _ _ (decide_eq_false (by omega))]⟩
    · have z := y2 A j h1 h2 hj
      exact ⟨by rw [g2.1 _ _ (decide_eq_false (by omega)), e5 A _ (by omega) (fun y => by have := y.1; omega), z.1, b3.1 _ _ (decide_eq_false (by omega)), s8.1 _ _ (decide_eq_false (by omega))], by rw [g2.2 _ _ (decide_eq_false (by omega)), e6, z.2, b3.2 _ _ (decide_eq_false (by omega)), s8.2 _ _ (decide_eq_false (by omega))]⟩
  · refine RP_gv hAd (by omega) ez f2 (fun j z hz => MKc_cg (k3 j z hz) (f4 z (List.mem_of_getElem? hz)) ?_ ?_ (fun A q h1 h2 hq => ⟨?_, ?_⟩)) hU f4 (fFl_iv hf) (fun i hi => ?_)
    · rw [g2.2 _ _ (decide_eq_false (by omega)), e6]
    · rw [g2.1 _ _ (decide_eq_false (by omega)), e5 _ _ (by omega) (fun y => by have := y.1; omega)]
    · rw [g2.1 _ _ (decide_eq_false (by omega)), e5 _ _ (by omega) (fun y => by have := y.1; omega)]
    · rw [g2.2 _ _ (decide_eq_false (by omega)), e6]
    · rw [g2.1 _ _ (decide_eq_false (by omega)), g2.1 _ _ (decide_eq_false (by omega))]
      exact e4 i hi
  · rw [g2.1 _ _ (decide_eq_false (by omega))]
    exact e3
  · exact sx_trans s13 (sx_wide g2 (fun A l y => by
      have := of_decide_eq_false y
      exact decide_eq_false (by omega)))
  · rw [g2.1 _ _ (decide_eq_false (by omega)), e5 _ _ (by omega) (fun y => by have := y.1; omega), k6.1 _ _ (decide_eq_false (by omega)), b3.1 _ _ (decide_eq_false (by omega)), a2.1 _ _ (decide_eq_false (by omega)), rI, if_pos ⟨rfl, rfl⟩]
    rfl
/-- what give leaves -/
def GVX (tot L V : Nat) (sz : Nat → Nat) (m c u d w : cS) : Prop := (d.1 1 1 = nI 0 ∧ w.1 174 2 = nI 0 ∧ w.1 174 0 = nI 0) ∧ ((sx qG0 c d ∧ sx qGz u w) ∨ ∃ r k F' X' Y', r < 1200 ∧ k ≤ 20 ∧ 3 * k + 1 ≤ L ∧ ALO d (V - sz r + k) F' (upZ sz r k) X' Y' ∧ PG d (gM m w) ∧ AG (gM m w) w ∧ d.1 146 8 = nI 1 ∧ FGC tot d ∧ FGR w ∧ sx (qGd r) c d ∧ sx (qGu r) u w)
theorem u121_s : sx qGz u (u121 u) ∧ (u121 u).1 174 2 = nI 0 ∧ (u121 u).1 174 0 = nI 0 := by
  refine ⟨?_, ?_, ?_⟩
  · unfold u121
    exact sx_pI (sx_pI (sx_pI sx_rfl (decide_eq_true (by omega))) (decide_eq_true (by omega))) (decide_eq_true (by omega))
  · unfold u121
    rw [rI, if_pos ⟨rfl, rfl⟩]
    rfl
  · unfold u121
    rw [rI, if_neg (by omega), rI, if_neg (by omega), rI, if_pos ⟨rfl, rfl⟩]
    rfl
theorem nP_Gz : nP qGz := by
  refine ⟨fun a i h => ?_, fun i h => ?_, fun i hi => decide_eq_false (by omega), fun a i g1 g2 g3 => decide_eq_false (by omega), fun a i g1 g2 g3 => decide_eq_false (by omega)⟩
  · have := PA_of h
    exact decide_eq_false (by omega)
  · have := PF_of h
    exact decide_eq_false (by omega)
theorem nC_G0 : nC qG0 := ⟨fun a i h1 h2 h3 => decide_eq_false (by omega), fun i h => decide_eq_false (by omega)⟩
/-- give where there is no PROGRAM -/
theorem c_give0 (h1 : c.1 7 0 = nI 0) (h2 : u.1 174 14 = nI 0) : bo (d_65 n a1 c) (d_121 n a1 u) (fun d w => d = pI c 1 1 0 ∧ w = u121 u) := by
  obtain ⟨g1, g2⟩ := pl0 (n := n) (a := a1) (c := pI c 1 1 0) (u := u121 u) (by rw [rI, if_neg (by omega)]; exact h1) (by
    unfold u121
    rw [rI, if_neg (by omega), rI, if_neg (by omega), rI, if_neg (by omega)]
    exact h2)
  refine wp_of (a := (-1, pI c 1 1 0)) ?_ (wp_of (a := (-1, u121 u)) ?_ ⟨rfl, rfl, rfl⟩)
  · unfold d_65
    exact eq_wp (wpl (wpl (wpe g1 (wpf (by decide) rfl))))
  · rw [d121_s]
    exact eq_wp (wpe g2 (wpt (by decide) rfl))
set_option maxHeartbeats 2000000 in
/-- give -/
theorem c_give (hn : 10000 ≤ n) (hT : JT c u) (ht : tot ≤ 1024) (h7 : c.1 114 7 = nI tot) (hA : ALO c V F sz X Y) (hV : V + 20 ≤ 4096) (h1 : c.1 7 0 = nI 1) (h2 : m.1 174 14 = nI 1) (hG : AG m u) (hP : PG c m) : bo (d_65 n a1 c) (d_121 n a1 u) (GVX tot (ix (c.1 1 1)) V sz m c u) := by
  obtain ⟨L, hL, l1, l2, l3⟩ := hT
  obtain ⟨b, hb⟩ : ∃ b : Nat → Nat, b = fun i => ix (u.1 175 i) := ⟨_, rfl⟩
  have hbv : ∀ i, i < L → b i < 256 ∧ u.1 175 i = nI (b i) ∧ c.1 2 i = sb (b i) := fun i hi => by
    obtain ⟨x, x1, x2, x3⟩ := l3 i hi
    have : b i = x := by
      rw [hb]
      dsimp only
      rw [x2, ix_n (by omega)]
    rw [this]
    exact ⟨x1, x2, x3⟩
  have eL : ix (c.1 1 1) = L := by
    rw [l1, ix_n (by omega)]
  rw [eL]
  obtain ⟨v1, v2, v3⟩ := u121_s (u := u)
  have hGu : AG m (u121 u) := AG_sx hG v1 nP_Gz
  have s4 : sx qG0 c (pI c 1 1 0) := sx_pI sx_rfl (decide_eq_true (by omega))
  have hP4 : PG (pI c 1 1 0) m := PG_CA (CA_sx s4 nC_G0) hP
  rcases plA (n := n) (a := a1) (c := pI c 1 1 0) (m := m) (u := u121 u) (by rw [rI, if_neg (by omega)]; exact h1) h2 hGu hP4.1.2.2.1 with ⟨g1, g2⟩ | ⟨p, s, g1, g2, g3, g4, g5, g6, -⟩
  · refine wp_of (a := (-1, pI c 1 1 0)) ?_ (wp_of (a := (-1, u121 u)) ?_ ⟨rfl, ⟨?_, v2, v3⟩, Or.inl ⟨s4, v1⟩⟩)
    · unfold d_65
      exact eq_wp (wpl (wpl (wpe g1 (wpf (by decide) rfl))))
    · rw [d121_s]
      exact eq_wp (wpe g2 (wpt (by decide) rfl))
    · rw [rI, if_pos ⟨rfl, rfl⟩]
      rfl
  · have es : s = si p := isP_s g3
    subst g2 es
    have hT' : ∀ j, j < L → b j < 256 ∧ c.1 2 j = sb (b j) := fun j hj => ⟨(hbv j hj).1, (hbv j hj).2.2⟩
    obtain ⟨-, q2⟩ := e121 (n := n) (b := b) (L := L) (r := p) (u := u) (by omega) (by omega) hL l2 (fun j hj => ⟨(hbv j hj).1, (hbv j hj).2.1⟩) g6
    cases e : fFl b L with
    | inl w =>
      obtain ⟨d, d1, d2, d3⟩ := e65w (n := n) (r := p) (by omega) hL l1 hT' g5 g4 e
      obtain ⟨w', w1, w2, w3, w4⟩ := e121w (n := n) (b := b) (L := L) (r := p) (u := u) (by omega) hL l2 (fun j hj => ⟨(hbv j hj).1, (hbv j hj).2.1⟩) g6 e
      exact wp_of d1 (wp_of w1 ⟨rfl, ⟨d3, w3, w4⟩, Or.inl ⟨d2, w2⟩⟩)
    | inr l =>
      obtain ⟨w', w1, w2, w3, w4, w5, w6⟩ := q2 l e
      obtain ⟨hAw, hMw⟩ := AG_g hG w4 (nQ_Gu p)
      obtain ⟨f1, f2, -, -⟩ := fFl_b e
      have hSTP : STP c m := STP_of hP.1.1 hP.1.2.1
      have hSTP' : STP c (gM m w') := hSTP
      have hU : URW (gM m w') p l := w2
      obtain ⟨d, F', X', Y', d1, d2, d3, d4, d5, d6, d7, d8, d9⟩ := e65s (n := n) (m := gM m w') hn hL l1 hT' g5 g1 g4 hA hV hSTP' ht h7 e hU
      have hCB : CB c d := CB_sx d8 (fun a i z => decide_eq_false (by omega))
      have hS : ∀ q, q < 2242 → q ≠ p → rS c d q := fun q hq hqr => rS_of hA d2 hq (by unfold upZ; rw [if_neg hqr]) (fun i hi => d3 q i hq hqr hi) d4 hqr
      exact wp_of d1 (wp_of w1 ⟨rfl, ⟨d9, w5, w6⟩, Or.inr ⟨p, l.length, F', X', Y', g1, f2, f1, d2, PG_g hP hCB hS hMw g1 d5, hAw, d6, d7, w3, d8, w4⟩⟩)
end GIVS
