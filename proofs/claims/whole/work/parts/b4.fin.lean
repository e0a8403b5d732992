/-! the call find -/
theorem isP_100 {m : cS} {p s : Nat} (h : isP m p s) : p < 100 * ccn m := by
  unfold isP srt at h
  by_cases e : ccn m ≤ p / 100
  · rw [if_pos e] at h
    cases h
  · omega
theorem cnt_100 {m : cS} {o : Nat} : ∀ t, cntN (fpB m o) (100 * ccn m + t) = cntN (fpB m o) (100 * ccn m)
  | 0 => rfl
  | t + 1 => by
    have hf : fpB m o (100 * ccn m + t) = false := by
      cases h : fpB m o (100 * ccn m + t) with
      | false => rfl
      | true =>
        obtain ⟨⟨s, hs, -⟩, -⟩ := fpB_t.mp h
        have := isP_100 hs
        omega
    show cntN (fpB m o) (100 * ccn m + t) + (if fpB m o (100 * ccn m + t) = true then 1 else 0) = _
    rw [hf, cnt_100 t]
    rfl
def qFi (a i : Nat) : Bool := decide (a = 126 ∨ a = 162 ∨ (a = 150 ∧ (i = 3 ∨ i = 6 ∨ i = 16)) ∨ (a = 167 ∧ 7 ≤ i ∧ i ≤ 9) ∨ (a = 146 ∧ 3 ≤ i ∧ i ≤ 8) ∨ a = 147 ∨ a = 148 ∨ a = 151)
def qFj (a i : Nat) : Bool := decide ((a = 174 ∧ ((73 ≤ i ∧ i ≤ 79) ∨ i = 90 ∨ i = 97 ∨ i = 102 ∨ i = 106 ∨ i = 111 ∨ i = 130)) ∨ a = 232 ∨ a = 233 ∨ a = 235 ∨ (236 ≤ a ∧ a ≤ 240))
theorem c_find {n : Nat} {a1 : Int32} {c u : cS} (hn : 1100000 ≤ n) (h : PR3 c (pI u 174 0 0)) : bo (d_78 n a1 c) (d_131 n a1 u) (fun d w => PR3 d w ∧ ((d = c ∧ w = pI u 174 0 0) ∨ (sx qFi c d ∧ sx qFj (pI u 174 0 0) w ∧ (∃ tot, tot ≤ 1024 ∧ c.1 114 7 = nI tot ∧ FGC tot d) ∧ FGR w))) := by
  have hsame := h
  unfold bo d_78
  rcases h with ⟨h1, h2, -⟩ | ⟨h1, m, h2, hA, hG, hB, hT, hF, hW⟩
  · obtain ⟨p1, p2⟩ := or0 (n := n) (a := a1) h1 h2
    refine wpe p1 (wpt rfl ?_)
    unfold d_131
    refine wpl (wpe p2 (wpt rfl ?_))
    exact ⟨rfl, hsame, Or.inl ⟨rfl, rfl⟩⟩
  have hE := hG.1
  rcases orA (n := n) (a := a1) h1 h2 hA hE.1 with ⟨p1, p2⟩ | ⟨o, ho, rfl, p1, p2⟩
  · refine wpe p1 (wpt rfl ?_)
    unfold d_131
    refine wpl (wpe p2 (wpt rfl ?_))
    exact ⟨rfl, hsame, Or.inl ⟨rfl, rfl⟩⟩
  have ho4 := hE.1.1
  have hC := hE.2.2.1
  have hcc := (CCS_p hC).1
  have hbot := bot_lt hE.1 ho
  have hel := OOS_el hE.1 ho
  have hLA := (OOS_at hE.1 ho).1
  obtain ⟨tot, y1, y2, -⟩ := hG.2.2.1
  refine wpe p1 (wpf (by decide) (wpc (e90 (by omega) y1 y2) (fun d hd => ?_)))
  obtain ⟨d1, d2⟩ := hd
  have hGd := PG_CA (CA_sx d1 nC_Fg) hG
  have hTd : TLS d m := by
    refine ⟨by rw [d1.1 146 8 (decide_eq_false (by omega))]; exact hT.1, fun z p s o hp hs ho => ?_⟩
    rw [d1.1 146 8 (decide_eq_false (by omega))] at z
    rw [d1.1 147 _ (decide_eq_false (by omega))]
    exact hT.2 z p s o hp hs ho
  have d70 : d.1 7 0 = nI 1 := (d1.1 7 0 (decide_eq_false (by omega))).trans h1
  refine wpc (e188 (by omega) d70 hGd.1 hTd) (fun e he => ?_)
  obtain ⟨e1, e2, e3⟩ := he
  have hGe := PG_CA (CA_sx e1 nC_qL) hGd
  have e70 : e.1 7 0 = nI 1 := (e1.1 7 0 rfl).trans d70
  have e148 : ∀ i, e.1 148 i = c.1 148 i := fun i => (e1.1 148 i rfl).trans (d1.1 148 i (decide_eq_false (by omega)))
  have hFc0 : FDc m c := fun p s o hp hs ho => ⟨(hF p s o hp hs ho).1, (hF p s o hp hs ho).2.1⟩
  have hFe : FDc m e := FDc_148 hFc0 e148
  refine wpc (e191 (by omega) e70 hGe e3 e2 hFe ho) (fun r hr => ?_)
  obtain ⟨r1, r2, r3⟩ := hr
  have hf148 : ∀ p o', o' < 4 → r.2.1 148 (p * 4 + o') = if o' = o ∧ p < 100 * ccn m ∧ fpB m o p = true then nI (ix (m.1 188 o)) else c.1 148 (p * 4 + o') := by
    intro p o' ho'
    by_cases eo : o' = o
    · subst eo
      rw [r3 p]
      by_cases e2 : p < 100 * ccn m ∧ fpB m o' p = true
      · rw [if_pos e2, if_pos ⟨rfl, e2⟩]
      · rw [if_neg e2, if_neg (fun z => e2 z.2)]
        exact e148 _
    · rw [if_neg (fun z => eo z.1), r2.1 148 _ (decide_eq_false (by omega))]
      exact e148 _
  have hFr : FDc m r.2 := by
    intro p s o' hp hs ho'
    have h148 := hf148 p o' (by omega)
    by_cases e2 : o' = o ∧ p < 100 * ccn m ∧ fpB m o p = true
    · rw [if_pos e2] at h148
      unfold fdv
      rw [h148, ix_n (by omega), e2.1]
      exact ⟨hbot.1, rfl⟩
    · rw [if_neg e2] at h148
      unfold fdv
      rw [h148]
      exact hFc0 p s o' hp hs ho'
  have hS : STc m o (pI r.2 150 3 (nI o)) := by
    refine ⟨PG_CA (CA_sx (r := fun a i => decide ((a = 148 ∧ i % 4 = o) ∨ a = 150)) (sx_pI (sx_wide r2 (fun a i z => ?_)) (decide_eq_true (by omega))) ⟨fun a i h1 h2 h3 => decide_eq_false (by omega), fun i h => decide_eq_false (by omega)⟩) hGe, ?_, ?_, FDc_148 hFr (fun i => by rw [rI, if_neg (by omega)]), ?_, ho⟩
    · have := of_decide_eq_false z
      exact decide_eq_false (by omega)
    · refine ⟨?_, fun z p s o' hp hs ho' => ?_⟩
      · rw [rI, if_neg (by omega), r2.1 146 8 (decide_eq_false (by omega))]
        exact e3.1
      · rw [rI, if_neg (by omega), r2.1 147 _ (decide_eq_false (by omega))]
        exact e3.2 e2 p s o' hp hs ho'
    · rw [rI, if_neg (by omega), r2.1 146 8 (decide_eq_false (by omega))]
      exact e2
    · rw [rI, if_pos ⟨rfl, rfl⟩]
  have hlow : LOW m o (Fc o r.2) := by
    intro H hH hCH p s hp hs ht
    have h148 := hf148 p o (by omega)
    rw [if_pos ⟨rfl, isP_100 hp, fpB_t.mpr ⟨⟨s, hp, hs⟩, ht⟩⟩] at h148
    have : Fc o r.2 p = ix (m.1 188 o) := by
      show ix (r.2.1 148 (p * 4 + o)) = _
      rw [h148, ix_n (by omega)]
    rw [this]
    exact (LA_bot hLA).2.2 _ (hH p s hp hs)
  refine wpc (e209 (Fb := Fc o r.2) hn hS ⟨hlow, fun p hp => rfl⟩) (fun x hx => ?_)
  obtain ⟨x1, x2, x3, x4⟩ := hx
  refine wpe (show d_29 n x = some (pI (pI (pI x 150 3 (-1)) 150 6 0) 150 16 0) from rfl) ?_
  have hwr := e131 (g := pI r.2 150 3 (nI o)) hn (by rw [rI, if_neg (by omega), r2.1 7 0 (decide_eq_false (by omega))]; exact e70) h2 hA hS hlow p2 (fun p s o' hp hs ho' => by
    have h148 := hf148 p o' (by omega)
    have hg : (pI r.2 150 3 (nI o)).1 148 (p * 4 + o') = r.2.1 148 (p * 4 + o') := by
      rw [rI, if_neg (by omega)]
    rw [hg]
    by_cases e2 : o' = o ∧ tld m p o = none
    · rw [if_pos ⟨e2.1, isP_100 hp, fpB_t.mpr ⟨⟨s, hp, hs⟩, e2.2⟩⟩] at h148
      exact Or.inl ⟨e2.1, e2.2, h148⟩
    · rw [if_neg (fun z => e2 ⟨z.1, (fpB_t.mp z.2.2).2⟩)] at h148
      refine Or.inr ⟨e2, ?_⟩
      obtain ⟨f1, f2, f3⟩ := hF p s o' hp hs ho'
      rw [h148, f3, f2])
  show wp (d_131 n (nI o) u) _
  refine wp_mono hwr (fun w hw => ?_)
  obtain ⟨w1, w2, w3, g', w4, w5, w6, w7, w8⟩ := hw
  have hcnt : cntN (fpB m o) 1200 = cntN (fpB m o) (100 * ccn m) := by
    have := cnt_100 (m := m) (o := o) (1200 - 100 * ccn m)
    rwa [show 100 * ccn m + (1200 - 100 * ccn m) = 1200 by omega] at this
  generalize eD : pI (pI (pI x 150 3 (-1)) 150 6 0) 150 16 0 = D
  have sD : sx (fun a i => decide (a = 150 ∧ (i = 3 ∨ i = 6 ∨ i = 16))) x D := by
    rw [← eD]
    exact sx_pI (sx_pI (sx_pI sx_rfl rfl) rfl) rfl
  have D3 : D.1 150 3 = nM := by
    rw [← eD, rI, if_neg (by omega), rI, if_neg (by omega), rI, if_pos ⟨rfl, rfl⟩]
    rfl
  have D6 : D.1 150 6 = nI 0 := by
    rw [← eD, rI, if_neg (by omega), rI, if_pos ⟨rfl, rfl⟩]
    rfl
  have D16 : D.1 150 16 = nI 0 := by
    rw [← eD, rI, if_pos ⟨rfl, rfl⟩]
    rfl
  have sall : sx qFi c D := by
    refine sx_trans (sx_wide d1 (fun a i z => ?_)) (sx_trans (sx_wide e1 (fun a i z => ?_)) (sx_trans (sx_wide r2 (fun a i z => ?_)) (sx_trans (sx_wide x4 (fun a i z => ?_)) (sx_wide sD (fun a i z => ?_)))))
    all_goals
      have := of_decide_eq_false z
      exact decide_eq_false (by omega)
  have swj : sx qFj (pI u 174 0 0) w.2 := sx_wide w2 (fun a i z => by
    have := of_decide_eq_false z
    exact decide_eq_false (by omega))
  have srD : sx (fun a i => decide ((a = 148 ∧ i % 4 = o) ∨ a = 151 ∨ a = 150)) r.2 D := sx_trans (sx_wide x4 (fun a i z => by
    have := of_decide_eq_false z
    exact decide_eq_false (by omega))) (sx_wide sD (fun a i z => by
    have := of_decide_eq_false z
    exact decide_eq_false (by omega)))
  have seD : sx (fun a i => decide (a = 148 ∨ a = 151 ∨ a = 150)) e D := sx_trans (sx_wide r2 (fun a i z => by
    have := of_decide_eq_false z
    exact decide_eq_false (by omega))) (sx_wide srD (fun a i z => by
    have := of_decide_eq_false z
    exact decide_eq_false (by omega)))
  have sdD : sx (fun a i => decide ((a = 146 ∧ 3 ≤ i ∧ i ≤ 8) ∨ a = 147 ∨ a = 148 ∨ a = 151 ∨ a = 150)) d D := sx_trans (sx_wide e1 (fun a i z => by
    have := of_decide_eq_false z
    exact decide_eq_false (by omega))) (sx_wide seD (fun a i z => by
    have := of_decide_eq_false z
    exact decide_eq_false (by omega)))
  have hGD : PG D m := PG_CA (CA_sx sall ⟨fun a i h1 h2 h3 => decide_eq_false (by omega), fun i h => decide_eq_false (by omega)⟩) hG
  have hTD : TLS D m := by
    refine ⟨by rw [seD.1 146 8 rfl]; exact e3.1, fun z p s o hp hs ho => ?_⟩
    rw [seD.1 147 _ (decide_eq_false (by omega))]
    exact e3.2 e2 p s o hp hs ho
  have hFD : FD m D w.2 := by
    intro p s o' hp hs ho'
    obtain ⟨f1, f2, f3⟩ := w5 p s o' hp hs ho'
    have hDg : fdv D p o' = fdv g' p o' ∧ D.1 148 (p * 4 + o') = nI (fdv D p o') := by
      have hDx : D.1 148 (p * 4 + o') = x.1 148 (p * 4 + o') := sD.1 148 _ (decide_eq_false (by omega))
      have hx2 := x1.2.2.2.1 p s o' hp hs ho'
      have hfx : fdv D p o' = fdv x p o' := congrArg ix hDx
      refine ⟨?_, by rw [hDx, hfx]; exact hx2.2⟩
      rw [hfx]
      by_cases eo : o' = o
      · subst eo
        by_cases ht : tld m p o' = none
        · exact FLS_eq hLA x2 w6 hp hs ht
        · have a1 := x3 p ht
          have a2 := w7 p ht
          exact a1.trans a2.symm
      · have a1 : x.1 148 (p * 4 + o') = r.2.1 148 (p * 4 + o') := x4.1 148 _ (decide_eq_false (by omega))
        have a2 : g'.1 148 (p * 4 + o') = r.2.1 148 (p * 4 + o') := (w8.1 148 _ (decide_eq_false (by omega))).trans (by rw [rI, if_neg (by omega)])
        unfold fdv
        rw [a1, a2]
    rw [hDg.1] at *
    exact ⟨f1, hDg.2, f3⟩
  refine ⟨?_, Or.inr ⟨(sall.1 7 0 (decide_eq_false (by omega))).trans h1, m, h2, AG_sx hA w2 nP_Fd, hGD, hB, hTD, hFD, Or.inl ⟨D3, w3.2.2.1, D16⟩⟩, Or.inr ⟨sall, swj, ⟨tot, y1, y2, ?_⟩, w3⟩⟩
  · show r.1 = w.1
    rw [r1, w1, hcnt]
  · obtain ⟨b1, b2, b3, b4, b5, b6, b7, b8⟩ := d2
    refine ⟨D3, D6, D16, fun j hj => ?_, fun j hj => ?_, ?_, ?_, ?_⟩
    · rw [sdD.1 126 j (decide_eq_false (by omega))]
      exact b4 j hj
    · rw [sdD.1 162 j (decide_eq_false (by omega))]
      exact b5 j hj
    · exact (sdD.1 167 7 (decide_eq_false (by omega))).trans b6
    · exact (sdD.1 167 8 (decide_eq_false (by omega))).trans b7
    · exact (sdD.1 167 9 (decide_eq_false (by omega))).trans b8
