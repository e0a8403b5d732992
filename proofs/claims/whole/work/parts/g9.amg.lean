/-! rounds: addMarks whole; which MAKER makes at which CLASS -/
section AMGS
variable {n r q y k M V F : Nat} {c d m u v w : cS} {sz : Nat → Nat} {X : Nat → Nat → Nat} {Y : Nat → Nat} {fl : Int32}
theorem MKu_AG {e : Int64 × Option (List (Int64 × Nat × Int64))} (hA : AG m u) (hy : y < 24360) (hO : fOk e) (h : MKu m y e) : MKu u y e := by
  obtain ⟨-, -, -, -, a5, a6, a7, a8, a9, a10⟩ := hA
  obtain ⟨g1, g2, g3, g4⟩ := h
  refine ⟨(a5 y hy).trans g1, (a6 y hy).trans g2, fun z => (a7 y hy).trans (g3 z), fun l hl => ?_⟩
  obtain ⟨k1, k2⟩ := g4 l hl
  refine ⟨(a7 y hy).trans k1, fun t x hx => ?_⟩
  have ht : t < l.length := by
    by_cases z : t < l.length
    · exact z
    · rw [List.getElem?_eq_none (by omega)] at hx
      cases hx
  have := (hO l hl).1
  obtain ⟨p1, p2, p3⟩ := k2 t x hx
  exact ⟨(a8 _ (by omega)).trans p1, (a9 _ (by omega)).trans p2, (a10 _ (by omega)).trans p3⟩
theorem URW_AG {l : List (Int64 × Option (List (Int64 × Nat × Int64)))} (hA : AG m u) (hq : q < 1218) (hl : l.length ≤ 20) (hO : ∀ e, e ∈ l → fOk e) (h : URW m q l) : URW u q l := by
  refine ⟨(hA.2.2.2.1 q hq).trans h.1, fun t x hx => ?_⟩
  have ht : t < l.length := by
    by_cases z : t < l.length
    · exact z
    · rw [List.getElem?_eq_none (by omega)] at hx
      cases hx
  exact MKu_AG hA (by omega) (hO x (List.mem_of_getElem? hx)) (h.2 t x hx)
def qAmd (r A l : Nat) : Bool := decide ((A = 133 ∧ 11 ≤ l ∧ l ≤ 13) ∨ (134 ≤ A ∧ A ≤ 141) ∨ (142 ≤ A ∧ A ≤ 144 ∧ l = r) ∨ (A = 146 ∧ l = 8))
theorem nQ_Crw (r : Nat) : nQr r (qCrw r) := by
  refine ⟨fun a i h => decide_eq_false (fun z => ?_), fun i h => decide_eq_false (by omega), fun q h1 h2 => decide_eq_false (by omega), fun a q i h1 h2 h3 h4 h5 => decide_eq_false (by omega), fun a q j h1 h2 h3 h4 h5 => decide_eq_false (by omega)⟩
  have h1 := PA_o h
  omega
theorem si_C : si (100 * k) = 0 := by
  unfold si
  rw [if_pos (by omega)]
set_option maxHeartbeats 4000000 in
/-- addMarks in both -/
theorem am_go (hn : 10000 ≤ n) (hP : PG c m) (hG : AG m u) (hA : ALO c V F sz X Y) (hV : V + 20 ≤ 4096) (hM : M < mcn m) (hk : k < ccn m) (h234 : u.1 234 (12 * M + k) = nI 1) : ∃ d v z F' X' Y', d_195 n (nI (100 * k)) (nI (1212 + M)) c = some (bI (decide (sz (100 * k) < z)), d) ∧ whl (rrL n (nI (1212 + M)) (nI (100 * k)) (nI (12 * M + k))) n (fl, 0, u) = some ((if z = sz (100 * k) then fl else 1), v) ∧ sz (100 * k) ≤ z ∧ z ≤ 20 ∧ ALO d (V + (z - sz (100 * k))) F' (upZ sz (100 * k) z) X' Y' ∧ PG d (gM m v) ∧ AG (gM m v) v ∧ d.1 146 8 = nI 1 ∧ sx (qAmd (100 * k)) c d ∧ sx (qCrw (100 * k)) u v ∧ (z = sz (100 * k) → v = u) := by
  have hC := hP.1.2.2.1
  have h12 := (CCS_p hC).1
  have hm6 := hP.2.1.1
  obtain ⟨r, hr⟩ : ∃ r, r = 100 * k := ⟨_, rfl⟩
  obtain ⟨q, hq⟩ : ∃ q, q = 1212 + M := ⟨_, rfl⟩
  have esi : si r = 0 := by
    rw [hr]
    exact si_C
  have hRP : RP c m r := by
    rw [hr]
    exact hP.1.2.2.2 _ 0 (isP_C hk)
  have hRQ : RQ c m q := by
    rw [hq]
    exact (hP.2.1.2.2.2 M hM).2.2
  rw [← hr, ← hq]
  obtain ⟨s1, s2, s3, s4, s5⟩ := rwL_of hA (r := q) (by omega) hRQ.1
  obtain ⟨t1, t2, t3, t4, t5⟩ := rwL_of hA (r := r) (by omega) hRP.1
  have n1 := rwL_n (m := m) (r := q)
  have n2 := rwL_n (m := m) (r := r)
  have q20 := hRQ.1.1
  have r20 := hRP.1.1
  have hOs : ∀ e, e ∈ rwL m q → fOk e ∧ fIv e ∧ e.2 ≠ none := fun e he => by
    refine ⟨s4 e he, s5 e he, ?_⟩
    obtain ⟨j, hj⟩ := List.getElem?_of_mem he
    obtain ⟨hj', rfl⟩ := rwL_at hj
    unfold mvO
    rw [if_pos (hRQ.2 j hj').2.1]
    intro z
    cases z
  have hAM : AMS r q (rwL m q) (rwL m r) V F sz X Y c u := ⟨hA, by omega, s2, URW_AG hG (by omega) (by omega) s4 s3, by omega, by omega, t2, URW_AG hG (by omega) (by omega) t4 t3, t4, t5⟩
  obtain ⟨d4, v, l', V', F', sz', X', Y', b1, b2, b3, b4, b5, b6, b7, b8, b9, b10, b11⟩ := am_lp (n := n) (r := r) (q := q) (fM := 12 * M + k) (by omega) (by omega) (by omega) (by omega) hOs (by omega) (rwL m q).length 0 n n V F sz X Y (rwL m r) fl (c.1 142 q) c u (by omega) (by omega) (by omega) hAM (by omega) h234 (fun z => (hA.2.2.2.2.1 q (by omega) (by omega)).1)
  obtain ⟨hA4, -, -, -, c5, c6, c7, c8, c9, c10⟩ := id b3
  have esz : sz' = upZ sz r l'.length := by
    funext t
    unfold upZ
    by_cases e : t = r
    · rw [if_pos e, e]
      exact c5
    · rw [if_neg e]
      exact b6 t e
  have hST0 : STP c m := STP_of hP.1.1 hP.1.2.1
  have hST1 : STP c (gM m v) := hST0
  have hST : STP d4 (gM m v) := STP_c2 hST1 (fun A l z1 z2 => ⟨b9.1 _ _ (decide_eq_false (by omega)), b9.2 _ _ (decide_eq_false (by omega))⟩)
  have hz : mz (gM m v) r = sz' r := by
    show ix (v.1 222 r) = _
    rw [c8.1, c5]
    exact ix_n (by omega)
  have hnm : ∀ i, i < sz' r → d4.2 134 (X' r i) = (gM m v).2 223 (r * 20 + i) := fun i hi => by
    rw [c5] at hi
    obtain ⟨z, hz⟩ : ∃ z, l'[i]? = some z := ⟨l'[i], List.getElem?_eq_getElem hi⟩
    rw [(c7 i z hz).1]
    exact (c8.2 i z hz).1.symm
  obtain ⟨d, e1, e2, e3, e4, e5, e6⟩ := e178 (n := n) (by omega) hA4 (r := r) (by omega) (by omega) hST hz hnm
  rw [esi] at e1
  have sd : sx (qAmd r) c d := ⟨fun A l z => by
    have := of_decide_eq_false z
    rw [e5 A l (by omega) (fun y => by have := y.1; omega)]
    exact b9.1 _ _ (decide_eq_false (by omega)), fun A l z => by
    have := of_decide_eq_false z
    rw [e6]
    exact b9.2 _ _ (decide_eq_false (by omega))⟩
  have hRPd : RP d (gM m v) r := RP_gv e2 (by omega) c5 c6 (fun j z hz => MKc_cg (c7 j z hz) (c9 z (List.mem_of_getElem? hz)) (by rw [e6]) (e5 _ _ (by omega) (fun y => by have := y.1; omega)) (fun A t g1 g2 g3 => ⟨e5 _ _ (by omega) (fun y => by have := y.1; omega), by rw [e6]⟩)) c8 c9 c10 e4
  obtain ⟨-, -, -, -, -, -, -, w8, -⟩ := id hA4
  have hK : KOT c d sz X r := fun t i ht htr hi => by
    obtain ⟨y1, y2⟩ := b8 t i ht htr hi
    refine ⟨fun A g1 g2 => ⟨?_, ?_⟩, fun A j g1 g2 g3 => ⟨?_, ?_⟩⟩
    · rw [e5 A _ (by omega) (fun y => by
        obtain ⟨-, j, hj, ej⟩ := y
        rw [← b7 t i htr] at ej
        exact htr (w8 t i r j ht (by rw [b6 t htr]; exact hi) (by omega) hj ej).1)]
      exact (y1 A g1 g2).1
    · rw [e6]
      exact (y1 A g1 g2).2
    · rw [e5 A _ (by omega) (fun y => by have := y.1; omega)]
      exact (y2 A j g1 g2 g3).1
    · rw [e6]
      exact (y2 A j g1 g2 g3).2
  obtain ⟨hAv, hMv⟩ := AG_g hG b10 (nQ_Crw r)
  have hCB : CB c d := CB_sx sd (fun a i z => decide_eq_false (by omega))
  have hS : ∀ t, t < 2242 → t ≠ r → rS c d t := fun t ht htr => rS_of hA e2 ht (b6 t htr) (fun i _ => b7 t i htr) hK htr
  have esr : sz r = (rwL m r).length := by omega
  rw [esz, b5] at e2
  refine ⟨d, v, l'.length, F', X', Y', ?_, ?_, by omega, c6, by rw [esr]; exact e2, PG_g hP hCB hS hMv (by omega) hRPd, hAv, e3, sd, b10, fun z => b11 (by omega)⟩
  · have er : ix (nI r) = r := ix_n (by omega)
    have eq : ix (nI q) = q := ix_n (by omega)
    have hir : ib (nI r) 2242 := ib_n (by omega) (by decide)
    have hiq : ib (nI q) 2242 := ib_n (by omega) (by decide)
    have hd144 : d.1 144 r = nI l'.length := by
      rw [e2.2.2.2.1 r (by omega)]
      unfold upZ
      rw [if_pos rfl]
    have hc144 : c.1 144 r = nI (sz r) := hA.2.2.2.1 r (by omega)
    rw [d195_s, er, eq, hc144]
    refine eq_wp (wpt hir (wpl (wpt hiq (wpl (wpe b1 (wpe e1 (wpt hir ?_)))))))
    rw [hd144]
    refine wpj ?_
    by_cases e : sz r < l'.length
    · rw [decide_eq_true e]
      exact wpf (by simp (disch := first | omega | decide) only [↓neg1, nlit, rI, rL, rI2, rL1, nI_add, pk_mul, sbT, dvT, nmd, ixT, ↓ibT, ltT, ltF, leT, leF, eqT, eqF, nM_ltT, nM_ltF, nM_leT, nM_leF, nM_eqF, nM_eqF', nbT0, nbT1, oI_s, oI_n, natF, natT, nltT, nltF, nleT, nleF, ↓reduceIte, lgc, not_true_eq_false, not_false_eq_true, or_false, false_or, or_true, true_or, and_true, true_and, and_false, false_and, ne_eq, eq_self, or_self, and_self]) (wpt (by decide) rfl)
    · rw [decide_eq_false e]
      exact wpt (by simp (disch := first | omega | decide) only [↓neg1, nlit, rI, rL, rI2, rL1, nI_add, pk_mul, sbT, dvT, nmd, ixT, ↓ibT, ltT, ltF, leT, leF, eqT, eqF, nM_ltT, nM_ltF, nM_leT, nM_leF, nM_eqF, nM_eqF', nbT0, nbT1, oI_s, oI_n, natF, natT, nltT, nltF, nleT, nleF, ↓reduceIte, lgc, not_true_eq_false, not_false_eq_true, or_false, false_or, or_true, true_or, and_true, true_and, and_false, false_and, ne_eq, eq_self, or_self, and_self]) (wpt (by decide) rfl)
  · rw [esr]
    exact b2
end AMGS
