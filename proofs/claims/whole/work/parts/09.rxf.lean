/-! THE ABSTRACT MACHINE, part f: the heap's instructions -/
section RXF
variable {p : Program} {l : Launch} {e : Env} {R : Room} {s : State} {m : MethodId} {args : Array Value} {below : List Frame} {meth : Method} {c : Code} {H : Heap} {locs : List Loc} {cells slots : Nat} {Q : State → Prop}
variable {P : rx_P} {mi pc : Nat} {ls : Array Slot} {D : va_G} {dA : Nat → ClassId} {A : Nat → Prop} {ad : Nat → Nat} {L : List va_E}
/-- what stays the same through a body -/
def rx_Bd (P : rx_P) (mi : Nat) (p : Program) (s : State) (m : MethodId) (args : Array Value) (meth : Method) (c : Code) (D : va_G) (dA : Nat → ClassId) (A : Nat → Prop) : Prop :=
  p.tables.exec = Jvm.exec ∧ c.code = rx_cb P mi ∧ c.maxLocals = rx_ml P mi ∧ s.vm.findClass (rx_yn P mi).cls = some m.cls ∧ (∀ w ∈ rx_TT, w.before args s = true) ∧ meth.name = (rx_yn P mi).name ∧ meth.locks = false ∧ meth.sig.returnType = rx_rt P mi ∧ va_K D vwCl (rx_tys dA) s ∧ (∀ q : Nat, s.heap.size ≤ q → A q) ∧ c.exceptionTable.toList = tableOf (rx_hh P mi)
theorem rx_ext_K {n : Nat} {ad ad' : Nat → Nat} (h : rx_ext n ad ad') (i : Nat) : ad' (rx_K i) = ad (rx_K i) := h _ (Or.inr (by unfold rx_K; omega))
theorem rx_ext_V {n : Nat} {ad ad' : Nat → Nat} (h : rx_ext n ad ad') (i : Nat) : ad' (rx_V i) = ad (rx_V i) := h _ (Or.inr (by unfold rx_V; omega))
theorem rx_KC.ext {n : Nat} {ad ad' : Nat → Nat} (h : rx_KC P A ad s H) (he : rx_ext n ad ad') : rx_KC P A ad' s H := by
  obtain ⟨h1, h2, h3, h4, h5, h6, h7⟩ := h
  refine ⟨fun mi idx k hk => ?_, fun i bs hb => ?_, fun mi idx v hv => ?_, h4, h5, fun a n' f hf => ?_, h7⟩
  · obtain ⟨g, tx, g2⟩ := h1 mi idx k hk
    exact ⟨g, tx, by rw [he k (Or.inr g)]; exact g2⟩
  · rw [rx_ext_K he, rx_ext_V he]
    exact h2 i bs hb
  · obtain ⟨g, C, n', d, g1, g2⟩ := h3 mi idx v hv
    exact ⟨g, C, n', d, by rw [rx_v_ext (n := n) (fun k e => Or.inr (g k e)) he]; exact g1, g2⟩
  · obtain ⟨g, g1⟩ := h6 a n' f hf
    exact ⟨g, by rw [he a (Or.inr g)]; exact g1⟩
theorem rx_ldcwS {cc : ByteArray} {rest : List Value} (hexec : p.tables.exec = Jvm.exec) (hb : c.code = cc) {own tx : String} {index q : Nat} (hown : s.vm.findClass own = some m.cls) (hZ : vk_R own index tx q s) (hdg : decode cc pc = .ok (.ldc_w index, 3))
    (k : W p l e R s m args below meth c H locs cells slots Q (F0 m (pc + 3) ls (.ref q :: rest))) : W p l e R s m args below meth c H locs cells slots Q (F0 m pc ls rest) := by
  intro T hT X
  obtain ⟨t, a1, b1⟩ := k T hT X
  exact ⟨t, X.ldcStringW hexec hown (text := tx) (a := q) hZ.1 hZ.2 (g := F0 m pc ls rest) rfl (by rw [hb]; exact hdg) t a1, b1⟩
set_option maxHeartbeats 8000000 in
theorem rx_heap_ok (ok : rx_Ok P) (bd : rx_Bd P mi p s m args meth c D dA A) {ins : Instr} {st st' : List Value} {L' : List va_E} {dc ds : Nat} (h : rx_heap P mi ins st L = some (st', L', dc, ds)) (hd : decode (rx_cb P mi) pc = .ok (ins, rx_len ins))
    (hW : rx_Wd D dA A ad L s H locs) (hC : rx_KC P A ad s s.heap) (hst : ∀ v ∈ st, rx_okv L.length v) (hcells : cells + dc ≤ R.cells) (hslots : slots + ds ≤ R.slots)
    (k : ∀ (ad' : Nat → Nat) (H1 : Heap) (locs1 : List Loc), rx_ext L.length ad ad' → rx_Wd D dA A ad' L' s H1 locs1 → (∀ v ∈ st', rx_okv L'.length v) → L.length ≤ L'.length → W p l e R s m args below meth c H1 locs1 (cells + dc) (slots + ds) Q (F0 m (pc + rx_len ins) ls (st'.map (rx_v ad')))) :
    W p l e R s m args below meth c H locs cells slots Q (F0 m pc ls (st.map (rx_v ad))) := by
  obtain ⟨okC, okF, okW, okK, okN, okQ, okA⟩ := ok
  obtain ⟨hx, hb, hml, hown, hts, hname, hlocks, hret, hK, hA, hout⟩ := bd
  obtain ⟨hP, hD, hS, hok, hlen⟩ := id hW
  unfold rx_heap at h
  split at h
  -- ldc
  · split at h
    · cases h
      rename_i g
      exact lv_ldc hx hb hown (hts _ (okK.1 _ _ _ g)) hd (k ad H locs rx_ext.rf hW (rx_ok_cn (rx_okv_nr (fun _ q => by cases q)) hst) (Nat.le_refl _))
    · cases h
      rename_i g
      obtain ⟨g1, tx, g2⟩ := hC.1 _ _ _ g
      exact va_ldcS hx hb hown g2 hd (k ad H locs rx_ext.rf hW (rx_ok_cn (fun j q => by cases q; exact Or.inr g1) hst) (Nat.le_refl _))
    · cases h
  -- ldc_w
  · split at h
    · cases h
      rename_i g
      exact lv_ldcw hx hb hown (hts _ (okK.1 _ _ _ g)) hd (k ad H locs rx_ext.rf hW (rx_ok_cn (rx_okv_nr (fun _ q => by cases q)) hst) (Nat.le_refl _))
    · cases h
      rename_i g
      obtain ⟨g1, tx, g2⟩ := hC.1 _ _ _ g
      exact rx_ldcwS hx hb hown g2 hd (k ad H locs rx_ext.rf hW (rx_ok_cn (fun j q => by cases q; exact Or.inr g1) hst) (Nat.le_refl _))
    · cases h
  -- ldc2_w
  · split at h
    · cases h
      rename_i g
      exact lv_ldc2 hx hb hown (hts _ (okK.2 _ _ _ g)) hd (k ad H locs rx_ext.rf hW (rx_ok_cn (rx_okv_nr (fun _ q => by cases q)) hst) (Nat.le_refl _))
    · cases h
  -- getstatic
  · split at h
    · cases h
      rename_i g
      obtain ⟨g0, C, n, d, g1, g2 | ⟨host, g2⟩⟩ := hC.2.2.1 _ _ _ g
      · exact va_gets hx hb g1 hS hown (hts _ g2) (fun _ q => q) hd (k ad H locs rx_ext.rf hW (rx_ok_cn (fun j q => Or.inr (g0 j q)) hst) (Nat.le_refl _))
      · exact va_getsN hx hb g1 hS hown (va_Nw.use rfl g2) (fun _ q => q) hd (k ad H locs rx_ext.rf hW (rx_ok_cn (fun j q => Or.inr (g0 j q)) hst) (Nat.le_refl _))
    · cases h
  -- getfield
  · split at h
    · split at h
      · rename_i a r _ ci kf g
        split at h
        · split at h
          · split at h
            · rename_i cj fs hL hcc _ v hv
              cases h
              subst hcc
              obtain ⟨q, q1, q2, q3⟩ := okF _ _ _ _ g
              obtain ⟨ty, t1, t2, t3⟩ := okC _ _ q1
              refine va_get (C := q.1) (T := q.2.1) (N := q.2.2) hx hb hts t1 hown hK hP a (rx_at hL) q1 kf q2 (hts _ q3) (fun _ z => z) (v := rx_v ad v) (by rw [List.getElem?_map, hv]; rfl) hd ?_
              exact k ad H locs rx_ext.rf hW (rx_ok_cn ((hok _ (rx_mem_at hL)).2 _ _ rfl v (List.mem_of_getElem? hv)) (rx_ok_tl hst)) (Nat.le_refl _)
            · cases h
          · cases h
        · cases h
        · split at h
          · rename_i hL hcc
            obtain ⟨c1, c2, c3, c4⟩ := hcc
            obtain ⟨bs, hbs⟩ := Option.isSome_iff_exists.mp c4
            obtain ⟨s1, s2, s3, s4⟩ := hC.2.1 _ _ hbs
            obtain ⟨q, q1, q2, q3⟩ := okF _ _ _ _ g
            subst c1
            have hq : q = (RJ0, TJ0, 4) := (Option.some.inj q1).symm
            subst hq
            split at h
            · rename_i hk0
              cases h
              subst hk0
              rw [c3] at hst ⊢
              refine vk_getf hx hb s3 hS hown (hts _ q3) (fun _ z => z) hd ?_
              exact k ad H locs rx_ext.rf hW (rx_ok_cn (fun j z => by cases z; exact Or.inr (by unfold rx_V; omega)) (rx_ok_tl hst)) (Nat.le_refl _)
            · rename_i hk0
              cases h
              have hk1 : kf = 1 := by omega
              subst hk1
              rw [c3] at hst ⊢
              refine vk_getf hx hb s2 hS hown (hts _ q3) (fun _ z => z) hd ?_
              exact k ad H locs rx_ext.rf hW (rx_ok_cn (rx_okv_nr (fun _ z => by cases z)) (rx_ok_tl hst)) (Nat.le_refl _)
          · cases h
      · cases h
    · cases h
  -- putfield
  · split at h
    · split at h
      · rename_i v a r _ ci kf ty g
        split at h
        · split at h
          · rename_i cj fs hL hcc
            cases h
            obtain ⟨c1, c2, c3, c4⟩ := hcc
            subst c1
            obtain ⟨q, q1, q2, q3, q4, q5⟩ := okW _ _ _ _ _ g
            obtain ⟨ty0, t1, t2, t3⟩ := okC _ _ q1
            have hoke : rx_oke L.length (.inr (ci, fs.set kf v)) := rx_oke_o (fun w hw => by
              rcases List.mem_or_eq_of_mem_set hw with z | z
              · exact (hok _ (rx_mem_at hL)).2 _ _ rfl w z
              · rw [z]; exact hst v List.mem_cons_self)
            have hlf : kf < (fs.map (rx_v ad)).length := by rw [List.length_map]; exact c2
            have hset : (Sum.inr (ci, (fs.map (rx_v ad)).set kf (rx_v ad v)) : va_E) = rx_e ad dA (.inr (ci, fs.set kf v)) := by
              show _ = (Sum.inr (ci, (fs.set kf v).map (rx_v ad)) : va_E)
              rw [List.map_set]
            rcases q5 with q5 | ⟨q5, q6, q7⟩
            · refine va_put (C := q.1) (T := q.2.1) (N := q.2.2) hx hb hts t1 ty0 t2 t3 hown hK hP hD hS a (rx_at hL) q1 kf q2 (hts _ q3) (fun _ z => z) q5 q4 (rx_nar ad c3) (rx_fit ad c4) hlf hd (fun H1 locs1 h1 h2 h3 => ?_)
              rw [hset] at h1 h2
              exact k ad H1 locs1 rx_ext.rf (hW.put hoke h1 h2 h3) (fun w hw => by rw [List.length_set]; exact rx_ok_tl (rx_ok_tl hst) w hw) (by rw [List.length_set]; exact Nat.le_refl _)
            · refine va_putF (C := q.1) (T := q.2.1) (N := q.2.2) hx hb hts t1 ty0 t2 t3 hown hK hP hD hS a (rx_at hL) q1 kf q2 (hts _ q3) (fun _ z => z) q5 (hname.trans q6) q7 q4 (rx_nar ad c3) (rx_fit ad c4) hlf hd (fun H1 locs1 h1 h2 h3 => ?_)
              rw [hset] at h1 h2
              exact k ad H1 locs1 rx_ext.rf (hW.put hoke h1 h2 h3) (fun w hw => by rw [List.length_set]; exact rx_ok_tl (rx_ok_tl hst) w hw) (by rw [List.length_set]; exact Nat.le_refl _)
          · cases h
        · cases h
      · cases h
    · cases h
  -- iaload
  · split at h
    · split at h
      · split at h
        · rename_i hL hcc
          cases h
          obtain ⟨rfl, c2⟩ := hcc
          exact va_iald hx hb hK hP _ 0 (rx_at hL) (rx_ty_at rfl) (rx_vin c2) hd (k ad H locs rx_ext.rf hW (rx_ok_cn (rx_okv_nr (fun _ q => by cases q)) (rx_ok_tl (rx_ok_tl hst))) (Nat.le_refl _))
        · cases h
      · cases h
      · split at h
        · split at h
          · rename_i hci c2
            cases h
            obtain ⟨-, g1⟩ := hC.2.2.2.2.2.1 _ _ _ hci
            exact va_ti hx hb g1 hS (rx_vin c2) rfl hd (k ad H locs rx_ext.rf hW (rx_ok_cn (rx_okv_nr (fun _ q => by cases q)) (rx_ok_tl (rx_ok_tl hst))) (Nat.le_refl _))
          · cases h
        · cases h
    · cases h
  -- baload
  · split at h
    · split at h
      · split at h
        · rename_i hL hcc
          cases h
          obtain ⟨c1, c2⟩ := hcc
          rcases c1 with rfl | rfl
          · exact va_bald hx hb hK hP _ 2 (rx_at hL) (rx_ty_at rfl) (rx_vin c2) hd (k ad H locs rx_ext.rf hW (rx_ok_cn (rx_okv_nr (fun _ q => by cases q)) (rx_ok_tl (rx_ok_tl hst))) (Nat.le_refl _))
          · exact va_zald hx hb hK hP _ 3 (rx_at hL) (rx_ty_at rfl) (rx_vin c2) hd (k ad H locs rx_ext.rf hW (rx_ok_cn (rx_okv_nr (fun _ q => by cases q)) (rx_ok_tl (rx_ok_tl hst))) (Nat.le_refl _))
        · cases h
      · cases h
      · split at h
        · split at h
          · rename_i bs hbs hcc
            cases h
            obtain ⟨c1, c2⟩ := hcc
            obtain ⟨s1, s2, s3, s4⟩ := hC.2.1 _ _ hbs
            rw [c1] at hst ⊢
            refine va_tb hx hb s4 hS (rx_vin c2) rfl hd ?_
            exact k ad H locs rx_ext.rf hW (rx_ok_cn (rx_okv_nr (fun _ q => by cases q)) (rx_ok_tl (rx_ok_tl hst))) (Nat.le_refl _)
          · cases h
        · cases h
    · cases h
  -- laload
  · split at h
    · split at h
      · split at h
        · rename_i hL hcc
          cases h
          obtain ⟨rfl, c2⟩ := hcc
          exact va_lald hx hb hK hP _ 1 (rx_at hL) (rx_ty_at rfl) (rx_vin c2) hd (k ad H locs rx_ext.rf hW (rx_ok_cn (rx_okv_nr (fun _ q => by cases q)) (rx_ok_tl (rx_ok_tl hst))) (Nat.le_refl _))
        · cases h
      · cases h
    · cases h
  -- aaload
  · split at h
    · split at h
      · split at h
        · rename_i i a r _ t n f hL hcc
          cases h
          obtain ⟨c1, c2, c3⟩ := hcc
          have hty : ∃ C, rx_ty[t]? = some (.object C) := by
            have c1' : @LE.le Nat _ 4 t := c1
            have c2' : @LT.lt Nat _ t 7 := c2
            rcases (show @Eq Nat t 4 ∨ @Eq Nat t 5 ∨ @Eq Nat t 6 by omega) with rfl | rfl | rfl <;> exact ⟨_, rfl⟩
          obtain ⟨C, hC2⟩ := hty
          refine va_aldq hx hb hK hP a t (rx_at hL) (rx_ty_at hC2) (rx_vin c3) hd ?_
          rw [rx_rf]
          refine k ad H locs rx_ext.rf hW (rx_ok_cn (fun j q => ?_) (rx_ok_tl (rx_ok_tl hst))) (Nat.le_refl _)
          cases hf : f i.toNatClampNeg with
          | none => rw [hf] at q; cases q
          | some y => rw [hf] at q; cases q; exact rx_oke_qi (hok _ (rx_mem_at hL)) hf
        · cases h
      · cases h
    · cases h
  -- iastore
  · split at h
    · split at h
      · split at h
        · rename_i hL hcc
          cases h
          obtain ⟨rfl, c2⟩ := hcc
          exact va_iast hx hb hK hP hD hS _ 0 (rx_at hL) (rx_ty_at rfl) (rx_vin c2) hd (fun H1 locs1 h1 h2 h3 => k ad H1 locs1 rx_ext.rf (hW.put rx_oke_i h1 h2 h3) (fun w hw => by rw [List.length_set]; exact rx_ok_tl (rx_ok_tl (rx_ok_tl hst)) w hw) (by rw [List.length_set]; exact Nat.le_refl _))
        · cases h
      · cases h
    · cases h
  -- bastore
  · split at h
    · split at h
      · split at h
        · rename_i hL hcc
          cases h
          obtain ⟨rfl, c2⟩ := hcc
          exact va_bast hx hb hK hP hD hS _ 2 (rx_at hL) (rx_ty_at rfl) (rx_vin c2) hd (fun H1 locs1 h1 h2 h3 => k ad H1 locs1 rx_ext.rf (hW.put rx_oke_i h1 h2 h3) (fun w hw => by rw [List.length_set]; exact rx_ok_tl (rx_ok_tl (rx_ok_tl hst)) w hw) (by rw [List.length_set]; exact Nat.le_refl _))
        · split at h
          · rename_i hL _ hcc
            cases h
            obtain ⟨rfl, c2⟩ := hcc
            exact va_zast hx hb hK hP hD hS _ 3 (rx_at hL) (rx_ty_at rfl) (rx_vin c2) hd (fun H1 locs1 h1 h2 h3 => k ad H1 locs1 rx_ext.rf (hW.put rx_oke_i h1 h2 h3) (fun w hw => by rw [List.length_set]; exact rx_ok_tl (rx_ok_tl (rx_ok_tl hst)) w hw) (by rw [List.length_set]; exact Nat.le_refl _))
          · cases h
      · cases h
    · cases h
  -- lastore
  · split at h
    · split at h
      · split at h
        · rename_i hL hcc
          cases h
          obtain ⟨rfl, c2⟩ := hcc
          exact va_last hx hb hK hP hD hS _ 1 (rx_at hL) (rx_ty_at rfl) (rx_vin c2) hd (fun H1 locs1 h1 h2 h3 => k ad H1 locs1 rx_ext.rf (hW.put rx_oke_l h1 h2 h3) (fun w hw => by rw [List.length_set]; exact rx_ok_tl (rx_ok_tl (rx_ok_tl hst)) w hw) (by rw [List.length_set]; exact Nat.le_refl _))
        · cases h
      · cases h
    · cases h
  -- aastore
  · split at h
    · split at h
      · split at h
        · rename_i v i a r _ t n f hL c3
          have hoke : rx_oke L.length (.inl (t, n, .inr (.inr (.inr (.inr (va_up f i.toNatClampNeg (some v))))))) := rx_oke_q (fun j y hj => by
            by_cases ej : j = i.toNatClampNeg
            · subst ej
              rw [va_up_self] at hj
              cases hj
              exact hst (.ref v) List.mem_cons_self v rfl
            · rw [va_up_ne _ _ ej] at hj
              exact rx_oke_qi (hok _ (rx_mem_at hL)) hj)
          have hset : (Sum.inl (dA t, n, .inr (.inr (.inr (.inr (va_up (fun j => (f j).map ad) i.toNatClampNeg (some (ad v))))))) : va_E) = rx_e ad dA (.inl (t, n, .inr (.inr (.inr (.inr (va_up f i.toNatClampNeg (some v))))))) := by
            show _ = (Sum.inl (dA t, n, .inr (.inr (.inr (.inr (fun j => (va_up f i.toNatClampNeg (some v) j).map ad))))) : va_E)
            have ee : va_up (fun j => (f j).map ad) i.toNatClampNeg (some (ad v)) = fun j => (va_up f i.toNatClampNeg (some v) j).map ad := by
              funext j
              unfold va_up
              split <;> rfl
            rw [ee]
          split at h
          · split at h
            · rename_i ci vs hv hcc
              cases h
              obtain ⟨c1, c2⟩ := hcc
              obtain ⟨q, hq⟩ : ∃ q, vwCl[ci]? = some q := ⟨_, List.getElem?_eq_getElem (show ci < vwCl.length from c2)⟩
              rw [hq] at c1
              refine va_astq (r := q) hx hb hK hP hD hS a t v ci (rx_at hL) (rx_ty_at c1.symm) (rx_at hv) hq (rx_vin c3) hd (fun H1 locs1 h1 h2 h3 => ?_)
              rw [hset] at h1 h2
              exact k ad H1 locs1 rx_ext.rf (hW.put hoke h1 h2 h3) (fun w hw => by rw [List.length_set]; exact rx_ok_tl (rx_ok_tl (rx_ok_tl hst)) w hw) (by rw [List.length_set]; exact Nat.le_refl _)
            · cases h
          · cases h
          · split at h
            · rename_i hv hcc
              cases h
              obtain ⟨c1, c2, c4⟩ := hcc
              obtain ⟨bs, hbs⟩ := Option.isSome_iff_exists.mp c4
              obtain ⟨s1, -, -, -⟩ := hC.2.1 _ _ hbs
              rw [← c2] at s1
              subst c1
              have hany : va_Any "java/lang/String" s H (ad v) := by
                obtain ⟨cell, g1, g2, g3, g4⟩ := s1.kept hS.2.1
                obtain ⟨kC, hkC, -⟩ := Vm.findClass_spec g3
                exact ⟨cell, g1, g2, ⟨kC, hkC⟩, fun comp hcomp => by cases hcomp.symm.trans g3; exact va_asg _ _⟩
              refine va_astqM hx hb hK hP hD hS a 6 (rx_at hL) (rx_ty_at rfl) hany (rx_vin c3) hd (fun H1 locs1 h1 h2 h3 => ?_)
              rw [hset] at h1 h2
              exact k ad H1 locs1 rx_ext.rf (hW.put hoke h1 h2 h3) (fun w hw => by rw [List.length_set]; exact rx_ok_tl (rx_ok_tl (rx_ok_tl hst)) w hw) (by rw [List.length_set]; exact Nat.le_refl _)
            · cases h
        · cases h
      · cases h
    · cases h
  -- arraylength
  · split at h
    · split at h
      · split at h
        · rename_i a r _ t n x hL hcc
          cases h
          obtain ⟨ty, hty⟩ : ∃ ty, rx_ty[t]? = some ty := ⟨_, List.getElem?_eq_getElem (show t < rx_ty.length from hcc)⟩
          exact va_alen hx hb hK hP a t (rx_at hL) (rx_ty_at hty) rfl hd (k ad H locs rx_ext.rf hW (rx_ok_cn (rx_okv_nr (fun _ q => by cases q)) (rx_ok_tl hst)) (Nat.le_refl _))
        · cases h
      · cases h
      · split at h
        · rename_i hci
          cases h
          obtain ⟨-, g1⟩ := hC.2.2.2.2.2.1 _ _ _ hci
          refine va_tlen hx hb g1 hS rfl hd ?_
          exact k ad H locs rx_ext.rf hW (rx_ok_cn (rx_okv_nr (fun _ q => by cases q)) (rx_ok_tl hst)) (Nat.le_refl _)
        · split at h
          · split at h
            · rename_i bs hbs c1
              cases h
              obtain ⟨s1, s2, s3, s4⟩ := hC.2.1 _ _ hbs
              rw [c1] at hst ⊢
              refine va_tlen hx hb s4 hS rfl hd ?_
              exact k ad H locs rx_ext.rf hW (rx_ok_cn (rx_okv_nr (fun _ q => by cases q)) (rx_ok_tl hst)) (Nat.le_refl _)
            · cases h
          · cases h
    · cases h
  -- new
  · split at h
    · split at h
      · rename_i ci N fs g hl
        cases h
        obtain ⟨q, ty, q1, rfl, q3, q4, q5, q6, q7, q8⟩ := okN _ _ _ _ _ g
        obtain ⟨ty0, t1, t2, t3⟩ := okC _ _ q1
        have hoke : rx_oke L.length (.inr (ci, fs)) := rx_oke_o (fun w hw => rx_okv_nr (q8 w hw))
        have hfs : fs.map (rx_v ad) = fs := by
          rw [List.map_congr_left (g := id) (fun w hw => ?_), List.map_id]
          have := q8 w hw
          cases w <;> first | rfl | exact absurd rfl (this _)
        refine va_new (C := q.1) (T := q.2.1) (N := q.2.2) (fs := fs) hx hb hts t1 ty q6 hown (hts _ q3) (hts _ q4) (hts _ q5) hK hP hD hS hA q1 q7 hcells hslots hd (fun q' H1 h1 h2 h3 => ?_)
        have hset : (Sum.inr (ci, fs) : va_E) = rx_e ad dA (.inr (ci, fs)) := by
          show _ = (Sum.inr (ci, fs.map (rx_v ad)) : va_E)
          rw [hfs]
        rw [hset] at h1 h2
        have hW2 := hW.new hl hoke h1 h2 h3
        have he : rx_ext L.length ad (va_up ad L.length q') := rx_ext.up hl
        have k2 := k _ H1 locs he hW2 (rx_ok_cn (fun j z => by cases z; exact Or.inl (by simp)) (fun w hw => (hst w hw).mono (by simp))) (by simp)
        have e1 : (Value.ref L.length :: st).map (rx_v (va_up ad L.length q')) = .ref q' :: st.map (rx_v ad) := by
          rw [List.map_cons, rx_vs_ext hst he]
          show Value.ref (va_up ad L.length q' L.length) :: _ = _
          rw [va_up_self]
        rw [e1] at k2
        exact k2
      · cases h
    · cases h
  -- newarray
  · split at h
    · split at h
      · split at h
        · rename_i ty st0 n r x0 t x g hcc
          cases h
          obtain ⟨c1, c2, c3⟩ := hcc
          have key : ∃ (fty : FieldType), newarray.typeOf ty = fty ∧ rx_ty[t]? = some fty ∧ (∀ C, fty ≠ .object C) ∧ Cond.arrayClass fty ∈ rx_TT ∧ componentBytes fty ≤ 8 ∧ rx_oke L.length (.inl (t, n.toNatClampNeg, x)) ∧ rx_arr ad x = x ∧ ∀ cA : ClassId, vp_cell cA (n.toNatClampNeg, x) = arrV cA n.toNatClampNeg (fun _ => defaultValue fty) := by
            cases ty <;> simp only [rx_dv] at g <;> cases g
            · exact ⟨.boolean, rfl, rfl, (fun _ z => by cases z), okA.2.2.2, by decide, rx_oke_i, rfl, fun _ => rfl⟩
            · exact ⟨.byte, rfl, rfl, (fun _ z => by cases z), okA.2.2.1, by decide, rx_oke_i, rfl, fun _ => rfl⟩
            · exact ⟨.int, rfl, rfl, (fun _ z => by cases z), okA.1, by decide, rx_oke_i, rfl, fun _ => rfl⟩
            · exact ⟨.long, rfl, rfl, (fun _ z => by cases z), okA.2.1, by decide, rx_oke_l, rfl, fun _ => rfl⟩
          obtain ⟨fty, f1, f2, f3, f4, f5, hoke, f6, f7⟩ := key
          refine va_newa hx hb (by rw [f1]; exact hts _ f4) f1 hK hP hD hS hA (a0 := (n.toNatClampNeg, x)) f7 c1 rfl (Nat.le_trans (Nat.mul_le_mul_left _ f5) c2) hcells hslots hd (fun q' cA H1 hK1 h1 h2 h3 => ?_)
          obtain rfl := rx_prim f3 f2 hK1
          have hset : (Sum.inl (dA t, n.toNatClampNeg, x) : va_E) = rx_e ad dA (.inl (t, n.toNatClampNeg, x)) := by
            show _ = (Sum.inl (dA t, n.toNatClampNeg, rx_arr ad x) : va_E)
            rw [f6]
          rw [hset] at h1 h2
          have hW2 := hW.new c3 hoke h1 h2 h3
          have he : rx_ext L.length ad (va_up ad L.length q') := rx_ext.up c3
          have hst2 := rx_ok_tl hst
          have k2 := k _ H1 locs he hW2 (rx_ok_cn (fun j z => by cases z; exact Or.inl (by simp)) (fun w hw => (hst2 w hw).mono (by simp))) (by simp)
          have e1 : (Value.ref L.length :: r).map (rx_v (va_up ad L.length q')) = .ref q' :: r.map (rx_v ad) := by
            rw [List.map_cons, rx_vs_ext hst2 he]
            show Value.ref (va_up ad L.length q' L.length) :: _ = _
            rw [va_up_self]
          rw [e1] at k2
          exact k2
        · cases h
      · cases h
    · cases h
  -- anewarray
  · split at h
    · split at h
      · split at h
        · rename_i n r _ t g hcc
          cases h
          obtain ⟨c1, c2, c3, c4⟩ := hcc
          obtain ⟨z, -⟩ | ⟨z, -⟩ | ⟨z, -⟩ | ⟨C, f2, f4⟩ := okQ _ _ _ g
          · omega
          · omega
          · omega
          have hoke : rx_oke L.length (.inl (t, n.toNatClampNeg, .inr (.inr (.inr (.inr (fun _ => none)))))) := rx_oke_q (fun _ _ z => by cases z)
          refine va_newq hx hb hown (hts _ f4) (hC.2.2.2.1 t C f2) hK hP hD hS hA c1 rfl (Nat.le_trans (Nat.mul_le_mul_left _ (by decide : 4 ≤ 8)) c2) hcells hslots hd (fun q' cA H1 hK1 h1 h2 h3 => ?_)
          obtain rfl := rx_refs f2 hK1
          have hset : (Sum.inl (dA t, n.toNatClampNeg, .inr (.inr (.inr (.inr (fun _ => none))))) : va_E) = rx_e ad dA (.inl (t, n.toNatClampNeg, .inr (.inr (.inr (.inr (fun _ => none)))))) := rfl
          rw [hset] at h1 h2
          have hW2 := hW.new c3 hoke h1 h2 h3
          have he : rx_ext L.length ad (va_up ad L.length q') := rx_ext.up c3
          have hst2 := rx_ok_tl hst
          have k2 := k _ H1 locs he hW2 (rx_ok_cn (fun j z => by cases z; exact Or.inl (by simp)) (fun w hw => (hst2 w hw).mono (by simp))) (by simp)
          have e1 : (Value.ref L.length :: r).map (rx_v (va_up ad L.length q')) = .ref q' :: r.map (rx_v ad) := by
            rw [List.map_cons, rx_vs_ext hst2 he]
            show Value.ref (va_up ad L.length q' L.length) :: _ = _
            rw [va_up_self]
          rw [e1] at k2
          exact k2
        · cases h
      · cases h
    · cases h
  · cases h
end RXF
