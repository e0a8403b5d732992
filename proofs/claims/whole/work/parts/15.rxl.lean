/-! THE ABSTRACT MACHINE, part l: what it runs, the machine runs -/
theorem rx_gV {P : rx_P} {mj idx : Nat} {own : String} (okM : rx_OkM P mj) (h1 : Cond.methodLink own idx (rx_yn P mj) ∈ rx_TT) (h2 : Cond.instanceMethod (rx_yn P mj) ∈ rx_TT) (h3 : Cond.selects (rx_yn P mj).cls (rx_yn P mj) (rx_yn P mj) ∈ rx_TT) : GoodIn rx_TT (wsV own idx (rx_yn P mj).cls (rx_yn P mj) (rx_ws P mj)) := by
  intro w hw
  rcases List.mem_append.mp hw with z | z
  · have hm : w ∈ rx_TT := by
      simp only [List.mem_cons, List.not_mem_nil, or_false] at z
      rcases z with rfl | rfl | rfl | rfl
      · exact h1
      · exact h2
      · exact h3
      · exact okM.2.2.1
    exact ⟨hm, rx_TT_good hm⟩
  · exact rx_good okM w z
theorem rx_gS {P : rx_P} {mj idx : Nat} {own : String} (okM : rx_OkM P mj) (h1 : Cond.methodLink own idx (rx_yn P mj) ∈ rx_TT) (h2 : Cond.static (rx_yn P mj) ∈ rx_TT) : GoodIn rx_TT (va_wsS own idx (rx_yn P mj) (rx_ws P mj)) := by
  intro w hw
  rcases List.mem_append.mp hw with z | z
  · have hm : w ∈ rx_TT := by
      simp only [List.mem_cons, List.not_mem_nil, or_false] at z
      rcases z with rfl | rfl | rfl
      · exact h1
      · exact h2
      · exact okM.2.2.1
    exact ⟨hm, rx_TT_good hm⟩
  · exact rx_good okM w z
theorem rx_isa_ok {P : rx_P} {s : State} {H : Heap} {locs : List Loc} {D : va_G} {dA : Nat → ClassId} {A : Nat → Prop} {ad : Nat → Nat} {L : List va_E} {b : Nat} {C : String} (h : rx_isa P L b C = true) (hK : va_K D vwCl (rx_tys dA) s) (hW : rx_Wd D dA A ad L s H locs) (hC : rx_KC P A ad s s.heap) : ∃ cell : Cell, H[ad b]? = some cell ∧ cell.vm.isStatics = false ∧ s.vm.findClass C = some cell.cls := by
  unfold rx_isa at h
  split at h
  · rename_i cj fs hL
    split at h
    · rename_i q hq
      have e := beq_iff_eq.mp h
      subst e
      exact va_recv hK hW.1 hq (rx_at hL)
    · cases h
  · cases h
  · simp only [Bool.and_eq_true, beq_iff_eq] at h
    obtain ⟨h1, h2, h3⟩ := h
    subst h1
    obtain ⟨bs, hbs⟩ := Option.isSome_iff_exists.mp h3
    obtain ⟨cell, g1, g2, g3, -⟩ := (hC.2.1 _ _ hbs).1.kept hW.2.2.1.2.1
    rw [← h2] at g1
    exact ⟨cell, g1, g2, g3⟩
theorem rx_words_c (ad : Nat → Nat) (r : List Value) : ((r.map (rx_v ad)).map fun v => v.category).sum = rx_words r := by
  have e1 : ((fun v : Value => v.category) ∘ rx_v ad) = fun v : Value => v.category := by funext v; exact rx_v_cat ad v
  rw [List.map_map, e1]
  rfl
theorem rx_room0 {m : MethodId} {pc Lo : Nat} {ls : Array Slot} {st r : List Value} {ad : Nat → Nat} (h : rx_words r + 12 ≤ Lo) : 2 * (F0 m pc ls st).monitorRoom + ((r.map (rx_v ad)).map fun v => v.category).sum + 12 ≤ Lo := by
  show 2 * 0 + _ + 12 ≤ Lo
  rw [rx_words_c]
  omega
theorem rx_cpy_ok {P : rx_P} {mi pc idx : Nat} {p : Program} {l : Launch} {e : Env} {R : Room} {s : State} {m : MethodId} {args : Array Value} {below : List Frame} {meth : Method} {c : Code} {H : Heap} {locs : List Loc} {cells slots : Nat} {Q : State → Prop} {ls : Array Slot} {D : va_G} {dA : Nat → ClassId} {A : Nat → Prop} {ad : Nat → Nat} {L L' : List va_E} {st r : List Value}
    (bd : rx_Bd P mi p s m args meth c D dA A) (w1 : Cond.methodLink (rx_yn P mi).cls idx arraycopyName ∈ rx_TT) (w2 : Cond.native arraycopyName ∈ rx_TT) (w3 : Cond.static arraycopyName ∈ rx_TT) (w4 : Cond.initialized "java/lang/System" ∈ rx_TT)
    (h : rx_cpy L st = some (r, L')) (hd : decode (rx_cb P mi) pc = .ok (.invokestatic idx, 3)) (hl : ls.size = rx_ml P mi) (hW : rx_Wd D dA A ad L s H locs) (hst : ∀ v ∈ st, rx_okv L.length v) (hF : 1 ≤ R.frames) (hLo : rx_words r + 18 ≤ R.locals)
    (k : ∀ (H1 : Heap) (locs1 : List Loc), rx_Wd D dA A ad L' s H1 locs1 → (∀ v ∈ r, rx_okv L'.length v) → L'.length = L.length → W p l e R s m args below meth c H1 locs1 cells slots Q (F0 m (pc + 3) ls (r.map (rx_v ad)))) :
    W p l e R s m args below meth c H locs cells slots Q (F0 m pc ls (st.map (rx_v ad))) := by
  obtain ⟨hx, hb, hml, hown, hts, hname, hlocks, hret, hK, hA, hout⟩ := bd
  obtain ⟨hP, hD, hS, hok, hlen⟩ := id hW
  have hw : ∀ r : List Value, rx_words r + 18 ≤ R.locals → ((r.map (rx_v ad)).map fun v => v.category).sum + (nativeFrameWords "java/lang/System" "arraycopy" 5 + 11) ≤ R.locals := by
    intro r hr
    rw [rx_words_c]
    have e : nativeFrameWords "java/lang/System" "arraycopy" 5 = 7 := by decide
    rw [e]
    exact hr
  unfold rx_cpy at h
  split at h
  · split at h
    · split at h
      · rename_i hL0 hL1 hcc
        cases h
        obtain ⟨rfl, rfl, c1, c2, c3, c4, c5⟩ := hcc
        exact va_copyi hx hb (hml.trans hl.symm) hown (hts _ w1) (hts _ w2) (hts _ w3) (hts _ w4) hK hP hD hS _ _ 0 0 (rx_at hL0) (rx_at hL1) (rx_ty_at rfl) (rx_ty_at rfl) rfl c1 c2 c3 c4 c5 (fun _ _ => rfl) hF (hw _ hLo) hd (fun H1 locs1 h1 h2 h3 => k H1 locs1 (hW.put rx_oke_i h1 h2 h3) (fun w hw => by rw [List.length_set]; exact rx_ok_tl (rx_ok_tl (rx_ok_tl (rx_ok_tl (rx_ok_tl hst)))) w hw) (by rw [List.length_set]))
      · cases h
    · split at h
      · rename_i hL0 hL1 hcc
        cases h
        obtain ⟨rfl, rfl, c1, c2, c3, c4, c5⟩ := hcc
        exact va_copyl hx hb (hml.trans hl.symm) hown (hts _ w1) (hts _ w2) (hts _ w3) (hts _ w4) hK hP hD hS _ _ 1 1 (rx_at hL0) (rx_at hL1) (rx_ty_at rfl) (rx_ty_at rfl) rfl c1 c2 c3 c4 c5 (fun _ _ => rfl) hF (hw _ hLo) hd (fun H1 locs1 h1 h2 h3 => k H1 locs1 (hW.put rx_oke_l h1 h2 h3) (fun w hw => by rw [List.length_set]; exact rx_ok_tl (rx_ok_tl (rx_ok_tl (rx_ok_tl (rx_ok_tl hst)))) w hw) (by rw [List.length_set]))
      · cases h
    · cases h
  · cases h
set_option maxHeartbeats 8000000 in
theorem rx_step {P : rx_P} {l : Launch} (ok : rx_OkAll P l) {rc : rx_F} (hrc : rx_Sound P l rc) : rx_Sound P l (rx_go P rc) := by
  obtain ⟨ok, okD, okI, okO, okX, okH⟩ := ok
  intro mi F Lo pc lv st L res h
  unfold rx_go at h
  split at h
  · split at h
    · rename_i hx hcc
      cases h
      obtain ⟨rfl, c1, c2⟩ := hcc
      exact rx_throw okX hx c1 c2
    · cases h
  split at h
  · cases h
  rename_i ins hcd
  obtain ⟨len, hdec, hlen⟩ := okD _ _ _ hcd
  intro p e R s m args below meth c H locs cells slots D dA A ad ls Qc XC free bd hF hLo hc hs hW hC hl hlo hst hfree hQ hX
  obtain ⟨hx, hb, hml, hown, hts, hname, hlocks, hret, hK, hA, hout⟩ := id bd
  split at h
  · rename_i st' hp
    have hlen' : len = rx_len ins := hlen.elim id (fun ⟨a, b, d, f, q⟩ => by subst q; cases hp)
    subst hlen'
    exact rx_pure_ok hp hx hb hdec (hrc _ _ _ _ _ _ _ _ h p e R s m args below meth c H locs cells slots D dA A ad ls Qc XC free bd hF hLo hc hs hW hC hl hlo (rx_pure_okv hp hst) hfree hQ hX)
  split at h
  · rename_i lv' st' hp
    have hlen' : len = rx_len ins := hlen.elim id (fun ⟨a, b, d, f, q⟩ => by subst q; cases hp)
    subst hlen'
    obtain ⟨o1, o2⟩ := rx_loc_okv hp hlo hst
    exact rx_loc_ok hp hx hb hdec hl (fun ls' hl' => hrc _ _ _ _ _ _ _ _ h p e R s m args below meth c H locs cells slots D dA A ad ls' Qc XC free bd hF hLo hc hs hW hC hl' o1 o2 hfree hQ hX)
  split at h
  · rename_i pc' st' hp
    exact rx_jmp_ok hp hx hb hdec hlen (hrc _ _ _ _ _ _ _ _ h p e R s m args below meth c H locs cells slots D dA A ad ls Qc XC free bd hF hLo hc hs hW hC hl hlo (rx_jmp_okv hp hst) hfree hQ hX)
  split at h
  · rename_i st' L' dc ds hp
    have hlen' : len = rx_len ins := hlen.elim id (fun ⟨a, b, d, f, q⟩ => by subst q; cases hp)
    subst hlen'
    cases hcont : rc mi F Lo (pc + rx_len ins) lv st' L' with
    | none => rw [hcont] at h; cases h
    | some r2 =>
      obtain ⟨o2, L2, c2, s2⟩ := r2
      rw [hcont] at h
      cases h
      have hc : cells + (dc + c2) ≤ R.cells := hc
      have hs : slots + (ds + s2) ≤ R.slots := hs
      refine rx_heap_ok ok bd hp hdec hW hC hst (by omega) (by omega) (fun ad' H1 locs1 he hW1 hst1 hle => ?_)
      refine hrc _ _ _ _ _ _ _ _ hcont p e R s m args below meth c H1 locs1 (cells + dc) (slots + ds) D dA A ad' ls Qc XC free bd hF hLo (by show cells + dc + c2 ≤ R.cells; omega) (by show slots + ds + s2 ≤ R.slots; omega) hW1 (hC.ext he) (by rw [rx_lc_ext hlo he]; exact hl) (fun q hq => (hlo q hq).mono hle) hst1 hfree ?_ ?_
      · intro ad2 v2 H' locs' t g1 g2 g3 g4 g5 g6 g7
        exact hQ ad2 v2 H' locs' t g1 (he.trans hle g2) g3 (Nat.le_trans hle g4) g5 g6 g7
      · intro E ad2 H' locs' t g1 g2 g3 g4 g6 g7
        exact hX E ad2 H' locs' t g1 (he.trans hle g2) g3 (Nat.le_trans hle g4) g6 g7
  split at h
  · rename_i v hp
    cases h
    have hlen' : len = rx_len ins := hlen.elim id (fun ⟨a, b, d, f, q⟩ => by subst q; cases hp)
    subst hlen'
    have hc : cells + 0 ≤ R.cells := hc
    have hs : slots + 0 ≤ R.slots := hs
    have hf : ∀ q ∈ locs, free q.base := fun z hz => hfree _ (hW.2.2.1.2.2 z hz)
    have hq : ∀ t : State, t.heap = H → s.WarmedH t.vm → Qc args s (.returned (v.map (rx_v ad))) t := fun t ht hw => hQ ad v H locs t rfl rx_ext.rf hW (Nat.le_refl _) (fun w hw => by
      subst hw
      unfold rx_ret at hp
      split at hp <;> first
        | (cases hp; done)
        | (split at hp <;> first
            | (cases hp; done)
            | (split at hp <;> first
                | (cases hp; done)
                | (cases hp; exact hst _ List.mem_cons_self)
                | (split at hp <;> first
                    | (cases hp; done)
                    | (cases hp; exact hst _ List.mem_cons_self))))) ht hw
    refine W.widen (k := R.cells) (n := R.slots) hc hs (vx_ret ?_)
    unfold rx_ret at hp
    split at hp
    · split at hp
      · split at hp
        · rename_i ty hty
          split at hp
          · rename_i hn
            cases hp
            exact W.zret hx hb (hret.trans hty) hn hq hf hdec hlocks
          · cases hp
        · cases hp
      · cases hp
    · split at hp
      · split at hp
        · rename_i hty
          cases hp
          exact W.lret hx hb (hret.trans hty) hq hf hdec hlocks
        · cases hp
      · cases hp
    · split at hp
      · split at hp
        · rename_i hty
          cases hp
          exact W.aret hx hb (hret.trans hty) (Or.inl ⟨_, rfl⟩) (Or.inr ⟨_, rfl⟩) hq hf hdec hlocks
        · rename_i hty
          cases hp
          exact W.aret hx hb (hret.trans hty) (Or.inr ⟨_, rfl⟩) (Or.inr ⟨_, rfl⟩) hq hf hdec hlocks
        · cases hp
      · cases hp
    · split at hp
      · split at hp
        · rename_i hty
          cases hp
          exact W.vret hx hb (hret.trans hty) hq hf hdec hlocks
        · cases hp
      · cases hp
    · cases hp
  unfold rx_call at h
  split at h
  -- virtual
  · have hlen' := hlen.elim id (fun ⟨a, b, d, f, q⟩ => by cases q)
    subst hlen'
    split at h
    · rename_i kd mj n hct
      split at h
      · rename_i as b rest htk
        split at h
        · rename_i hcc
          obtain ⟨rfl, hisa⟩ := hcc
          obtain ⟨est, hn⟩ := rx_take_spec htk
          rcases okI _ _ _ _ _ hct with ⟨z, -⟩ | ⟨okM, hdesc, z⟩
          · cases z
          rcases z with ⟨-, w0, w1, w2, w3⟩ | z
          rotate_left
          · rcases z with ⟨z | z, -⟩ | ⟨z, -⟩ | ⟨z, -⟩ | ⟨z, -⟩ <;> cases z
          ·
            have hst2 : ∀ v ∈ as.reverse ++ .ref b :: rest, rx_okv L.length v := by rw [← est]; exact hst
            refine rx_inv_ok okH hrc h okM bd hF hLo hc hs hW hC hl hlo (fun v hv => hst2 v (List.mem_append_right _ (List.mem_cons_of_mem _ hv))) (fun v hv => by
              rcases List.mem_cons.mp hv with rfl | z
              · exact hst2 _ (List.mem_append_right _ List.mem_cons_self)
              · exact hst2 v (List.mem_append_left _ (List.mem_reverse.mpr z))) hfree hQ hX (fun o L1 c1 s1 F' Lo' hM _ g1 g2 g3 g4 => ?_)
            exact vx_runV (Ts := rx_TT) (own := (rx_yn P mi).cls) (C := (rx_yn P mj).cls) (b := ad b) (As := as.map (rx_v ad)) ⟨hx, hb, hml, hown, hts⟩ hM (cwV n hts (rx_gV okM w1 w2 w3) (rx_ws0 w0) rfl rfl ⟨rfl, okM.2.2.2.1, okM.2.2.2.2, hdesc⟩ ⟨g1, g2⟩) ⟨rx_blind, rx_isa_ok hisa hK hW hC, rx_pre hK hA hW hC (.ref b :: as)⟩ rfl (by rw [List.length_map]; exact hn) hl.1 (by rw [est, List.map_append, List.map_reverse] <;> rfl) (lv_room g4) hdec g3
        · cases h
      · cases h
    · cases h
  -- static
  · have hlen' := hlen.elim id (fun ⟨a, b, d, f, q⟩ => by cases q)
    subst hlen'
    split at h
    · rename_i kd mj n hct
      split at h
      · rename_i as rest htk
        obtain ⟨est, hn⟩ := rx_take_spec htk
        have hst2 : ∀ v ∈ as.reverse ++ rest, rx_okv L.length v := by rw [← est]; exact hst
        have hR2 : ∀ v ∈ rest, rx_okv L.length v := fun v hv => hst2 v (List.mem_append_right _ hv)
        have hA2 : ∀ v ∈ as, rx_okv L.length v := fun v hv => hst2 v (List.mem_append_left _ (List.mem_reverse.mpr hv))
        split at h
        · rename_i hkd
          rcases okI _ _ _ _ _ hct with ⟨z, -⟩ | ⟨okM, hdesc, z⟩
          · exact absurd z (by omega)
          rcases z with ⟨z, -⟩ | ⟨-, w0, w3, w1, w2⟩ | z
          · exact absurd z (by omega)
          rotate_left
          · rcases z with ⟨z, -⟩ | ⟨z, -⟩ | ⟨z, -⟩ <;> exact absurd z (by omega)
          ·
            refine rx_inv_ok okH hrc h okM bd hF hLo hc hs hW hC hl hlo hR2 hA2 hfree hQ hX (fun o L1 c1 s1 F' Lo' hM _ g1 g2 g3 g4 => ?_)
            rcases hkd with hkd | hkd
            · exact vx_runS (Ts := rx_TT) (own := (rx_yn P mi).cls) (As := as.map (rx_v ad)) ⟨hx, hb, hml, hown, hts⟩ hM (va_cwS n hts (rx_gS okM w1 w2) (rx_ws0 (w0 hkd)) rfl rfl ⟨okM.2.2.2.1, okM.2.2.2.2, hdesc⟩ ⟨g1, g2⟩) ⟨rx_blind, rx_pre hK hA hW hC as⟩ rfl (by rw [List.length_map]; exact hn) hl.1 (by rw [est, List.map_append, List.map_reverse] <;> rfl) (lv_room g4) hdec g3
            · exact vx_runSX (Ts := rx_TT) (own := (rx_yn P mi).cls) (As := as.map (rx_v ad)) ⟨hx, hb, hml, hown, hts⟩ hM (vx_cwSW n hts (rx_gS okM w1 w2) (rx_ws1 (w3 hkd)) rfl rfl ⟨okM.2.2.2.1, okM.2.2.2.2, hdesc⟩ ⟨g1, g2⟩) ⟨rx_blind, rx_pre hK hA hW hC as⟩ rfl (by rw [List.length_map]; exact hn) hl.1 (by rw [est, List.map_append, List.map_reverse] <;> rfl) (lv_room g4) hdec g3
        · split at h
          · rename_i hkd
            subst hkd
            rcases okI _ _ _ _ _ hct with ⟨z, -⟩ | ⟨okM, hdesc, z⟩
            · cases z
            rcases z with ⟨z, -⟩ | ⟨z | z, -⟩ | ⟨z, -⟩ | ⟨-, w0, hw3⟩ | ⟨z, -⟩
            · cases z
            · cases z
            · cases z
            · cases z
            rotate_left
            · cases z
            ·
              obtain ⟨host, hnest⟩ := hC.2.2.2.2.1 _ _ _ _ _ hct (by decide)
              refine rx_inv_ok okH hrc h okM bd hF hLo hc hs hW hC hl hlo hR2 hA2 hfree hQ hX (fun o L1 c1 s1 F' Lo' hM hth g1 g2 g3 g4 => ?_)
              obtain ⟨v, rfl⟩ := hth rfl
              exact rx_ofRun (va_runSN (Ts := rx_TT) (own := (rx_yn P mi).cls) (As := as.map (rx_v ad)) ⟨hx, hb, hml, hown, hts⟩ (rx_noX hM (fun E _ _ q => by cases q.1)) ⟨va_cnB n hts (rx_good okM) (rx_ws0 w0) rfl rfl hnest (hts _ okM.2.2.1) ⟨okM.2.2.2.1, okM.2.2.2.2, hdesc⟩ ⟨g1, g2⟩, hts _ hw3, trivial⟩ ⟨rx_blind, rx_pre hK hA hW hC as⟩ rfl (by rw [List.length_map]; exact hn) hl.1 (by rw [est, List.map_append, List.map_reverse] <;> rfl) (lv_room g4) hdec g3)
          · cases h
      · cases h
    · split at h
      · rename_i hq7
        split at h
        · rename_i r L' hcp
          split at h
          · rename_i hcc
            obtain ⟨z0, w1, w2, w3, w4⟩ | ⟨z0, -⟩ | ⟨z0, -⟩ | ⟨C, z, -⟩ := ok.2.2.2.2.2.1 _ _ _ hq7
            · exact rx_cpy_ok bd w1 w2 w3 w4 hcp hdec hl.1 hW hst (by rw [hF]; exact hcc.1) (by rw [hLo]; exact hcc.2) (fun H1 locs1 hW1 hst1 hlen1 => hrc _ _ _ _ _ _ _ _ h p e R s m args below meth c H1 locs1 cells slots D dA A ad ls Qc XC free bd hF hLo hc hs hW1 hC hl (fun q hq => (hlo q hq).mono (by omega)) hst1 hfree (fun ad2 v2 H' locs' t g1 g2 g3 g4 g5 g6 g7 => hQ ad2 v2 H' locs' t g1 (by rw [← hlen1]; exact g2) g3 (by rw [← hlen1]; exact g4) g5 g6 g7) (fun E ad2 H' locs' t g1 g2 g3 g4 g6 g7 => hX E ad2 H' locs' t g1 (by rw [← hlen1]; exact g2) g3 (by rw [← hlen1]; exact g4) g6 g7))
            · cases z0
            · cases z0
            · unfold rx_ty at z
              simp at z
          · cases h
        · cases h
      · split at h
        · rename_i hq8
          split at h
          · split at h
            · rename_i hcc
              obtain ⟨z0, -⟩ | ⟨z0, w1, w2, w3, w4⟩ | ⟨z0, -⟩ | ⟨C, z, -⟩ := ok.2.2.2.2.2.1 _ _ _ hq8
              · cases z0
              · exact va_mmax hx hb (hml.trans hl.1.symm) hown (hts _ w1) (hts _ w2) (hts _ w3) (hts _ w4) (by rw [hF]; exact hcc.1) (by rw [rx_words_c, hLo]; exact hcc.2) (by have : cells + _ ≤ R.cells := hc; omega) (by have : slots + _ ≤ R.slots := hs; omega) hdec (hrc _ _ _ _ _ _ _ _ h p e R s m args below meth c H locs cells slots D dA A ad ls Qc XC free bd hF hLo hc hs hW hC hl hlo (rx_ok_cn (rx_okv_nr (fun _ q => by cases q)) (rx_ok_tl (rx_ok_tl hst))) hfree hQ hX)
              · cases z0
              · unfold rx_ty at z
                simp at z
            · cases h
          · cases h
        · split at h
          · rename_i hq9
            split at h
            · split at h
              · rename_i hcc
                obtain ⟨z0, -⟩ | ⟨z0, -⟩ | ⟨z0, w1, w2, w3, w4⟩ | ⟨C, z, -⟩ := ok.2.2.2.2.2.1 _ _ _ hq9
                · cases z0
                · cases z0
                · exact va_mmin hx hb (hml.trans hl.1.symm) hown (hts _ w1) (hts _ w2) (hts _ w3) (hts _ w4) (by rw [hF]; exact hcc.1) (by rw [rx_words_c, hLo]; exact hcc.2) (by have : cells + _ ≤ R.cells := hc; omega) (by have : slots + _ ≤ R.slots := hs; omega) hdec (hrc _ _ _ _ _ _ _ _ h p e R s m args below meth c H locs cells slots D dA A ad ls Qc XC free bd hF hLo hc hs hW hC hl hlo (rx_ok_cn (rx_okv_nr (fun _ q => by cases q)) (rx_ok_tl (rx_ok_tl hst))) hfree hQ hX)
                · unfold rx_ty at z
                  simp at z
              · cases h
            · cases h
          · cases h
  -- special
  · have hlen' := hlen.elim id (fun ⟨a, b, d, f, q⟩ => by cases q)
    subst hlen'
    split at h
    · rename_i kd mj n hct
      split at h
      · rename_i hkd
        subst hkd
        split at h
        · split at h
          · rename_i hcc
            obtain ⟨c1, c2⟩ := hcc
            rcases okI _ _ _ _ _ hct with ⟨-, hml2⟩ | ⟨-, -, z⟩
            rotate_left
            · rcases z with ⟨z, -⟩ | ⟨z | z, -⟩ | ⟨z, -⟩ | ⟨z, -⟩ | ⟨z, -⟩ <;> cases z
            refine W.objInit hx hb hown (hts _ hml2) (hts _ okO.1) (hts _ okO.2) rfl (by rw [hml]; exact hl.1) rfl hdec (by omega) (rx_room0 (by rw [hLo]; exact c2)) ?_
            exact hrc _ _ _ _ _ _ _ _ h p e R s m args below meth c H locs cells slots D dA A ad ls Qc XC free bd hF hLo hc hs hW hC hl hlo (rx_ok_tl hst) hfree hQ hX
          · cases h
        · cases h
      · split at h
        · rename_i as b rest htk
          split at h
          · rename_i hkd
            obtain ⟨est, hn⟩ := rx_take_spec htk
            have hst2 : ∀ v ∈ as.reverse ++ .ref b :: rest, rx_okv L.length v := by rw [← est]; exact hst
            have hR2 : ∀ v ∈ rest, rx_okv L.length v := fun v hv => hst2 v (List.mem_append_right _ (List.mem_cons_of_mem _ hv))
            have hA2 : ∀ v ∈ Value.ref b :: as, rx_okv L.length v := fun v hv => by
              rcases List.mem_cons.mp hv with rfl | z
              · exact hst2 _ (List.mem_append_right _ List.mem_cons_self)
              · exact hst2 v (List.mem_append_left _ (List.mem_reverse.mpr z))
            rcases hkd with rfl | rfl
            · rcases okI _ _ _ _ _ hct with ⟨z, -⟩ | ⟨okM, hdesc, z⟩
              · cases z
              rcases z with ⟨z, -⟩ | ⟨z | z, -⟩ | ⟨-, w0, w1, w2, w3, w4⟩ | z
              · cases z
              · cases z
              · cases z
              rotate_left
              · rcases z with ⟨z, -⟩ | ⟨z, -⟩ <;> cases z
              ·
                refine rx_inv_ok okH hrc h okM bd hF hLo hc hs hW hC hl hlo hR2 hA2 hfree hQ hX (fun o L1 c1 s1 F' Lo' hM hth g1 g2 g3 g4 => ?_)
                obtain ⟨v, rfl⟩ := hth rfl
                exact rx_ofRun (va_runI (Ts := rx_TT) (own := (rx_yn P mi).cls) (b := ad b) (As := as.map (rx_v ad)) ⟨hx, hb, hml, hown, hts⟩ (rx_noX hM (fun E _ _ q => by cases q.1)) (cwI n hts (rx_good okM) (by rw [rx_ws0 w0, w4]) rfl rfl (hts _ okM.2.2.1) (hts _ w1) (hts _ w2) w3 ⟨okM.2.2.2.1, okM.2.2.2.2, hdesc⟩ ⟨g1, g2⟩) ⟨rx_blind, rx_pre hK hA hW hC (.ref b :: as)⟩ rfl (by rw [List.length_map]; exact hn) hl.1 (by rw [est, List.map_append, List.map_reverse] <;> rfl) (lv_room g4) hdec g3)
            · rcases okI _ _ _ _ _ hct with ⟨z, -⟩ | ⟨okM, hdesc, z⟩
              · cases z
              rcases z with ⟨z, -⟩ | ⟨z | z, -⟩ | ⟨z, -⟩ | ⟨z, -⟩ | ⟨-, w0, hw3⟩
              · cases z
              · cases z
              · cases z
              · cases z
              · cases z
              ·
                obtain ⟨host, hnest⟩ := hC.2.2.2.2.1 _ _ _ _ _ hct (by decide)
                refine rx_inv_ok okH hrc h okM bd hF hLo hc hs hW hC hl hlo hR2 hA2 hfree hQ hX (fun o L1 c1 s1 F' Lo' hM hth g1 g2 g3 g4 => ?_)
                obtain ⟨v, rfl⟩ := hth rfl
                exact rx_ofRun (va_runIN (Ts := rx_TT) (own := (rx_yn P mi).cls) (b := ad b) (As := as.map (rx_v ad)) ⟨hx, hb, hml, hown, hts⟩ (rx_noX hM (fun E _ _ q => by cases q.1)) ⟨va_cnB n hts (rx_good okM) (by rw [rx_ws0 w0, hw3.2.2]) rfl rfl hnest (hts _ okM.2.2.1) ⟨okM.2.2.2.1, okM.2.2.2.2, hdesc⟩ ⟨g1, g2⟩, hw3.2.1, hts _ hw3.1⟩ ⟨rx_blind, rx_pre hK hA hW hC (.ref b :: as)⟩ rfl (by rw [List.length_map]; exact hn) hl.1 (by rw [est, List.map_append, List.map_reverse] <;> rfl) (lv_room g4) hdec g3)
          · cases h
        · cases h
    · cases h
  · cases h
theorem rx_sound {P : rx_P} {l : Launch} (ok : rx_OkAll P l) : ∀ f, rx_Sound P l (rx_run P f)
  | 0 => fun _ _ _ _ _ _ _ _ h => by cases h
  | f + 1 => rx_step ok (rx_sound ok f)
