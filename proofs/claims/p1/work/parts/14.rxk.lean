/-! THE ABSTRACT MACHINE, part k: calls -/
theorem rx_lc_ext {n : Nat} {ad ad' : Nat → Nat} {lv : rx_L} (h : ∀ q ∈ lv, rx_okv n q.2) (he : rx_ext n ad ad') : rx_lc ad' lv = rx_lc ad lv :=
  List.map_congr_left fun q hq => by rw [rx_v_ext (h q hq) he]
theorem rx_rm_c {ad : Nat → Nat} {ls : Array Slot} {nL i : Nat} {lv : rx_L} {v : Value} (h : lv_has ls nL ((i, v) :: (rx_lc ad lv).filter (fun q => !(q.1 == i) && !(q.1 + 1 == i && q.2.category == 2)))) : lv_has ls nL (rx_lc ad (rx_rm lv i)) := by
  refine ⟨h.1, h.2.1, fun q hq => h.2.2 q (List.mem_cons_of_mem _ ?_)⟩
  rw [rx_lc_filter ad (fun a b => !(a == i) && !(a + 1 == i && b == 2)) lv]
  exact hq
set_option maxHeartbeats 4000000 in
theorem rx_inv_ok {P : rx_P} {l : Launch} {rc : rx_F} (okH : rx_OkH P) (hrc : rx_Sound P l rc) {th : Bool} {mi F Lo pc mj : Nat} {lv : rx_L} {as rest : List Value} {L : List va_E} {res : rx_R} (h : rx_inv P rc th mi F Lo pc lv mj as rest L = some res) (okM : rx_OkM P mj)
    {p : Program} {e : Env} {R : Room} {s : State} {m : MethodId} {args : Array Value} {below : List Frame} {meth : Method} {c : Code} {H : Heap} {locs : List Loc} {cells slots : Nat} {D : va_G} {dA : Nat → ClassId} {A : Nat → Prop} {ad : Nat → Nat} {ls : Array Slot} {Qc : Array Value → State → Outcome → State → Prop} {XC : String → State → State → Prop} {free : Addr → Prop}
    (bd : rx_Bd P mi p s m args meth c D dA A) (hF : R.frames = F) (hLo : R.locals = Lo) (hc : cells + res.2.2.1 ≤ R.cells) (hs : slots + res.2.2.2 ≤ R.slots) (hW : rx_Wd D dA A ad L s H locs) (hC : rx_KC P A ad s s.heap)
    (hl : lv_has ls (rx_ml P mi) (rx_lc ad lv)) (hlo : ∀ q ∈ lv, rx_okv L.length q.2) (hrest : ∀ v ∈ rest, rx_okv L.length v) (has : ∀ v ∈ as, rx_okv L.length v) (hfree : ∀ q, A q → free q)
    (hQ : ∀ (ad' : Nat → Nat) (v : Option Value) (H' : Heap) (locs' : List Loc) (t : State), res.1 = .inl v → rx_ext L.length ad ad' → rx_Wd D dA A ad' res.2.1 s H' locs' → L.length ≤ res.2.1.length → (∀ w, v = some w → rx_okv res.2.1.length w) → t.heap = H' → s.WarmedH t.vm → Qc args s (.returned (v.map (rx_v ad'))) t)
    (hX : ∀ (E : String) (ad' : Nat → Nat) (H' : Heap) (locs' : List Loc) (t : State), res.1 = .inr E → rx_ext L.length ad ad' → rx_Wd D dA A ad' res.2.1 s H' locs' → L.length ≤ res.2.1.length → t.heap = H' → s.vm.Alike t.vm → XC E s t)
    {st0 : List Value}
    (runner : ∀ (o : (Option Value) ⊕ String) (L1 : List va_E) (c1 s1 F' Lo' : Nat), vx_Met l (rx_yn P mj) (rx_ws P mj) ({ frames := F', cells := c1, slots := s1, locals := Lo' }) (rx_Pc P D dA ad L as H.size) (rx_Qr D dA (va_A (rx_cw ad dA 0 L) H.size) ad L o L1) (rx_Xr D dA (va_A (rx_cw ad dA 0 L) H.size) ad L o L1) c1 s1 (va_A (rx_cw ad dA 0 L) H.size) →
      (th = false → ∃ v, o = .inl v) → F' + 1 ≤ R.frames → 8 + (rx_ml P mj + 11) + Lo' ≤ R.locals → cells + c1 ≤ R.cells ∧ slots + s1 ≤ R.slots → ((rest.map (rx_v ad)).map fun v => v.category).sum ≤ 8 →
      vx_Run p l e R s m args below meth c H locs cells slots c1 s1 (F0 m pc ls st0) (rest.map (rx_v ad)) (rx_Qr D dA (va_A (rx_cw ad dA 0 L) H.size) ad L o L1 (as.map (rx_v ad)).toArray) (rx_Xr D dA (va_A (rx_cw ad dA 0 L) H.size) ad L o L1) (va_A (rx_cw ad dA 0 L) H.size)) :
    W p l e R s m args below meth c H locs cells slots (vx_MQ below Qc XC args s R.cells R.slots free) (F0 m pc ls st0) := by
  have hA := bd.2.2.2.2.2.2.2.2.2.1
  have htab := bd.2.2.2.2.2.2.2.2.2.2
  have hlocks := bd.2.2.2.2.2.2.1
  unfold rx_inv at h
  split at h
  · rename_i hcond
    obtain ⟨f1, f2, f3, f4⟩ := hcond
    have hwd : ((rest.map (rx_v ad)).map fun v => v.category).sum ≤ 8 := by
      rw [List.map_map]
      have e1 : ((fun v : Value => v.category) ∘ rx_v ad) = fun v : Value => v.category := by funext v; exact rx_v_cat ad v
      rw [e1]
      exact f3
    split at h
    · rename_i v L1 c1 s1 hcal
      cases hcont : rc mi F Lo (pc + 3) lv (v.toList ++ rest) L1 with
      | none => rw [hcont] at h; cases h
      | some r2 =>
        obtain ⟨o2, L2, c2, s2⟩ := r2
        rw [hcont] at h
        cases h
        have hc : cells + (c1 + c2) ≤ R.cells := hc
        have hs : slots + (s1 + s2) ≤ R.slots := hs
        have hM := rx_met okM hrc hcal f4 hW.2.2.2.1 hW.2.2.2.2 has D dA ad H.size
        refine rx_back hA hW (runner _ _ _ _ _ _ hM (fun _ => ⟨v, rfl⟩) (by omega) (by omega) ⟨by omega, by omega⟩ hwd) ?_ ?_
        · intro v' ad' H1 locs1 ev hv' he hle hW1
          cases ev
          have e1 : (v.map (rx_v ad')).toList ++ rest.map (rx_v ad) = (v.toList ++ rest).map (rx_v ad') := by
            rw [List.map_append, rx_vs_ext hrest he]
            cases v <;> rfl
          rw [e1]
          refine hrc _ _ _ _ _ _ _ _ hcont p e R s m args below meth c H1 locs1 (cells + c1) (slots + s1) D dA A ad' ls Qc XC free bd hF hLo (by show cells + c1 + c2 ≤ R.cells; omega) (by show slots + s1 + s2 ≤ R.slots; omega) hW1 (hC.ext he) (by rw [rx_lc_ext hlo he]; exact hl) (fun q hq => (hlo q hq).mono hle) ?_ hfree ?_ ?_
          · intro w hw
            rcases List.mem_append.mp hw with z | z
            · exact hv' w (by cases v with | none => cases z | some y => rw [List.mem_singleton.mp z])
            · exact (hrest w z).mono hle
          · intro ad2 v2 H' locs' t g1 g2 g3 g4 g5 g6 g7
            exact hQ ad2 v2 H' locs' t g1 (he.trans hle g2) g3 (Nat.le_trans hle g4) g5 g6 g7
          · intro E ad2 H' locs' t g1 g2 g3 g4 g6 g7
            exact hX E ad2 H' locs' t g1 (he.trans hle g2) g3 (Nat.le_trans hle g4) g6 g7
        · intro E ad' H1 locs1 ce q ev
          cases ev
    · rename_i E L1 c1 s1 hcal
      split at h
      · rename_i hth
        have hM := rx_met okM hrc hcal f4 hW.2.2.2.1 hW.2.2.2.2 has D dA ad H.size
        split at h
        · rename_i hpc k hht
          obtain ⟨hdh, hkl⟩ := okH _ _ _ _ _ hht
          cases hcont : rc mi F Lo (hpc + 1) (rx_rm lv k) [] L1 with
          | none => rw [hcont] at h; cases h
          | some r2 =>
            obtain ⟨o2, L2, c2, s2⟩ := r2
            rw [hcont] at h
            cases h
            have hc : cells + (c1 + c2) ≤ R.cells := hc
            have hs : slots + (s1 + s2) ≤ R.slots := hs
            refine rx_back hA hW (runner _ _ _ _ _ _ hM (fun z => by rw [hth] at z; cases z) (by omega) (by omega) ⟨by omega, by omega⟩ hwd) ?_ ?_
            · intro v' ad' H1 locs1 ev
              cases ev
            · intro E' ad' H1 locs1 ce q ev he hle hW1 hce hcv hcl
              cases ev
              have kk : W p l e R s m args below meth c H1 locs1 (cells + c1) (slots + s1) (vx_MQ below Qc XC args s R.cells R.slots free) (F0 m hpc ls [.ref q]) := by
                refine lv_astore_n bd.1 bd.2.1 hdh rfl hl hkl rfl (fun ls' hl' => ?_)
                refine hrc _ _ _ _ _ _ _ _ hcont p e R s m args below meth c H1 locs1 (cells + c1) (slots + s1) D dA A ad' ls' Qc XC free bd hF hLo (by show cells + c1 + c2 ≤ R.cells; omega) (by show slots + s1 + s2 ≤ R.slots; omega) hW1 (hC.ext he) (by rw [rx_lc_ext (lv := rx_rm lv k) (fun q hq => hlo q (List.mem_filter.mp hq).1) he]; exact rx_rm_c hl') (fun q hq => (hlo q (List.mem_filter.mp hq).1).mono hle) (fun w hw => by cases hw) hfree ?_ ?_
                · intro ad2 v2 H' locs' t g1 g2 g3 g4 g5 g6 g7
                  exact hQ ad2 v2 H' locs' t g1 (he.trans hle g2) g3 (Nat.le_trans hle g4) g5 g6 g7
                · intro E ad2 H' locs' t g1 g2 g3 g4 g6 g7
                  exact hX E ad2 H' locs' t g1 (he.trans hle g2) g3 (Nat.le_trans hle g4) g6 g7
              rcases hC.2.2.2.2.2.2.1 _ _ _ _ _ hht with ⟨x, suf, name, g1, g2, g3, g4, g5, g6⟩ | ⟨y, x, suf, nm1, name, g1, g2, g3, g4, g5, g6, g7, g8, g9, g10⟩
              · subst g4
                exact rx_catch1 bd.2.2.2.1 (htab.trans g1) g2 g3 (bd.2.2.2.2.1 _ g5) (va_Nw.use rfl g6) hce hcv hcl kk
              · subst g8
                exact rx_catch2 bd.2.2.2.1 (htab.trans g1) g2 g3 (bd.2.2.2.2.1 _ g4) g5 g6 g7 (bd.2.2.2.2.1 _ g9) (va_Nw.use rfl g10) hce hcv hcl kk
        · split at h
          · rename_i hnil
            cases h
            have hc : cells + c1 ≤ R.cells := hc
            have hs : slots + s1 ≤ R.slots := hs
            refine rx_back hA hW (runner _ _ _ _ _ _ hM (fun z => by rw [hth] at z; cases z) (by omega) (by omega) ⟨hc, hs⟩ hwd) ?_ ?_
            · intro v' ad' H1 locs1 ev
              cases ev
            · intro E' ad' H1 locs1 ce q ev he hle hW1 hce hcv hcl
              cases ev
              exact vx_out (fun x hx => by rw [htab, hnil] at hx; cases hx) hlocks hce hcv hcl (fun t ht hal => hX E ad' H1 locs1 t rfl he hW1 hle ht hal) (fun z hz => hfree _ (hW1.2.2.1.2.2 z hz)) hc hs
          · cases h
      · cases h
    · cases h
  · cases h
