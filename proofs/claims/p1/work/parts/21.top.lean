/-! THE CLAIM OUT OF A RUN OF THE ABSTRACT MACHINE: by wip/whole/mktop.py -/
def R_law : String := "MarkHouseLaw"
def lw_P (b : Addr) (xs : List Int32) (args : Array Value) (s : State) : Prop := args = #[.ref b] ∧ s.IntsAt b xs ∧ xs.length ≤ 6 ∧ (Jvm.Cond.and given_1 narrow_1).before args s = true
def lw_Q (_ : Array Value) (s : State) (o : Outcome) (t : State) : Prop := o = .returned (some (.int 1)) ∧ Framed s o t [] 600002 7302232
/-- what is left: on every script the law's run answers 1, within the room -/
def rz_Runs : Prop := ∀ (fm : Value) (L : Nat) (xs : Nat → Int32), (fm = .null ∨ fm = .ref rx_Fm) → L ≤ 6 → ∃ (f : Nat) (L1 : List va_E) (c n : Nat), rx_run (rt_P (L, xs) fm) f 0 2048 84000 0 [(0, .ref rx_S)] [] [] = some (.inl (some (.int 1)), L1, c, n) ∧ c ≤ 600002 ∧ n ≤ 7302232
theorem rz_cls {s : State} {args : Array Value} (hts : ∀ w ∈ lw_tbl, w.before args s = true) : ∃ (dC : Nat → ClassId) (dI : Nat → Nat → Nat), ∀ (k : Nat) (q : vw_C), vwCl[k]? = some q → u_Kn s q.1 q.2.1 q.2.2 (dC k) (dI k) := by
  have h0 : ∀ k : Nat, ∃ z : ClassId × (Nat → Nat), ∀ q, vwCl[k]? = some q → u_Kn s q.1 q.2.1 q.2.2 z.1 z.2 := by
    intro k
    cases hk : vwCl[k]? with
    | none => exact ⟨(0, fun _ => 0), fun q h => by cases h⟩
    | some q =>
      obtain ⟨ty, h1, -⟩ := rt_okC k q hk
      have hi : Cond.instantiable q.1 q.2.2 ∈ lw_tbl := by
        have hq : (vwCl.all (fun q => rk_any (.instantiable q.1 q.2.2))) = true := by decide +kernel
        exact rk_any_in (List.all_eq_true.mp hq q (List.mem_of_getElem? hk))
      obtain ⟨cC, iS, h⟩ := u_known (C := q.1) (T := q.2.1) (N := q.2.2) hts (fun w hw => (rx_TT_in w (h1 w hw)).1) (hts _ hi)
      exact ⟨(cC, iS), fun q' e => by cases e; exact h⟩
  obtain ⟨g, hg⟩ := Classical.axiomOfChoice h0
  exact ⟨fun k => (g k).1, fun k => (g k).2, hg⟩
theorem rz_arrP {s : State} {args : Array Value} {ty : FieldType} (h : (Cond.arrayClass ty).before args s = true) (hne : ∀ C, ty ≠ .object C) : ∃ c : ClassId, ArrOfT s c ty ∧ va_RA s c ty := by
  obtain ⟨c, k, comp, h1, h2, h3⟩ := Cond.arrayClass_spec h
  refine ⟨c, fun N z => ⟨(fun k h => by cases h), k, h2, comp, h3⟩, ?_⟩
  cases ty <;> first | exact h1 | exact absurd rfl (hne _)
theorem rz_arrO {s : State} {C : String} (h : va_AO C s) : ∃ c : ClassId, ArrOfT s c (.object C) ∧ va_RA s c (.object C) := by
  obtain ⟨comp, cA, kA, h1, -, h3, h4, h5⟩ := Cond.arrayOver_spec h
  exact ⟨cA, fun N z => ⟨(fun k h => by cases h), kA, h3, comp, h4⟩, kA, comp, h3, h4, h1, h5⟩
theorem rz_arr {s : State} {args : Array Value} (hts : ∀ w ∈ lw_tbl, w.before args s = true) (hao : ∀ (t : Nat) (C : String), rx_ty[t]? = some (FieldType.object C) → va_AO C s) : ∃ dA : Nat → ClassId, ∀ (k : Nat) (q : ClassId × FieldType), (rx_tys dA)[k]? = some q → ArrOfT s q.1 q.2 ∧ va_RA s q.1 q.2 := by
  have h0 : ∀ t : Nat, ∃ c : ClassId, ∀ ty, rx_ty[t]? = some ty → ArrOfT s c ty ∧ va_RA s c ty := by
    intro t
    have pr : ∀ ty : FieldType, Cond.arrayClass ty ∈ rt_fx → (∀ C, ty ≠ .object C) → ∃ c : ClassId, ArrOfT s c ty ∧ va_RA s c ty := fun ty h hne => rz_arrP (hts _ (rx_TT_in _ (rx_TT_2 h)).1) hne
    match t with
    | 0 => obtain ⟨c, hc⟩ := pr .int (by decide +kernel) (fun C => by simp); exact ⟨c, fun ty e => by cases e; exact hc⟩
    | 1 => obtain ⟨c, hc⟩ := pr .long (by decide +kernel) (fun C => by simp); exact ⟨c, fun ty e => by cases e; exact hc⟩
    | 2 => obtain ⟨c, hc⟩ := pr .byte (by decide +kernel) (fun C => by simp); exact ⟨c, fun ty e => by cases e; exact hc⟩
    | 3 => obtain ⟨c, hc⟩ := pr .boolean (by decide +kernel) (fun C => by simp); exact ⟨c, fun ty e => by cases e; exact hc⟩
    | 4 => obtain ⟨c, hc⟩ := rz_arrO (hao 4 _ rfl); exact ⟨c, fun ty e => by cases e; exact hc⟩
    | 5 => obtain ⟨c, hc⟩ := rz_arrO (hao 5 _ rfl); exact ⟨c, fun ty e => by cases e; exact hc⟩
    | 6 => obtain ⟨c, hc⟩ := rz_arrO (hao 6 _ rfl); exact ⟨c, fun ty e => by cases e; exact hc⟩
    | t + 7 => exact ⟨0, fun ty e => by simp [rx_ty] at e⟩
  obtain ⟨g, hg⟩ := Classical.axiomOfChoice h0
  refine ⟨g, fun k q hq => ?_⟩
  rw [rx_tys_get] at hq
  cases hk : rx_ty[k]? with
  | none => rw [hk] at hq; cases hq
  | some ty =>
    rw [hk] at hq
    cases hq
    rw [Nat.zero_add]
    exact hg k ty hk
set_option maxHeartbeats 4000000 in
theorem lw_walk (hruns : rz_Runs) (l : Launch) (hst : l.stackTraces = false) (b : Addr) (xs : List Int32) : MetFree l x (headSpec (Jvm.Cond.code x code maxLocals ret :: tables_1) room_1) (lw_P b xs) (fun _ _ _ _ _ => True) lw_Q := by
  refine MetFree.of_bodyS (code := code) (maxLocals := maxLocals) (ret := ret) (by decide) ?_ ?_
  · intro args s m h hn
    obtain ⟨meth, c, h1, h2, h3, h4, h5, h6, -, -⟩ := Cond.code_spec hn (atoms_spec (ws := Jvm.Cond.code x code maxLocals ret :: tables_1) h _ List.mem_cons_self)
    exact ⟨meth, c, h1, h2, h3, h4, h5, h6⟩
  · intro p e s m args below meth c s₁ B hml0 hP _
    obtain ⟨rfl, hx, hbd, hgv⟩ := hP
    obtain ⟨scr, harrAt, hlist, hof, hsmall⟩ := hx
    obtain ⟨hcb, hkn, -, -⟩ := State.arrayAt?_spec harrAt
    have hown : s.vm.findClass R_law = some m.cls := findClass_of_methodNamed B.named
    have hts0 : ∀ c ∈ (Jvm.Cond.code x code maxLocals ret :: tables_1), c.before #[Value.ref b] s = true := atoms_spec (ws := Jvm.Cond.code x code maxLocals ret :: tables_1) B.pre
    have hts : ∀ w ∈ lw_tbl, w.before #[Value.ref b] s = true := k2_hts_sels lw_privs (fun w hw => hts0 w (List.mem_cons_of_mem _ hw)) lw_privs_ok
    have hml : c.maxLocals = 7 := B.maxLocals_eq (hts0 _ List.mem_cons_self)
    have X₀ : Stand p l e room_1 s m #[Value.ref b] below meth c s₁ [] 0 0 := Stand.of_body B
    have hh0 : s₁.heap = s.heap := by rw [B.state]; rfl
    have hsz : scr.slots.size = xs.length := by rw [← Array.length_toList, hlist, List.length_map]
    have hval : ∀ j : Nat, j < xs.length → scr.slots[j]? = some (.int (xs.getD j 0)) := fun j hj => by
      rw [← Array.getElem?_toList, hlist]
      simp [hj]
    have hbl : b < s.heap.size := (Array.getElem?_eq_some_iff.mp hcb).1
    have hX : va_X b xs.length (fun j => xs.getD j 0) s s.heap := ⟨scr, hcb, hof, hkn, hsz, hval⟩
    have htab : c.exceptionTable.toList = tableOf [] := by
      obtain ⟨meth9, c9, h1, h2, -, -, -, -, h7, -⟩ := Cond.code_spec B.named (hts0 _ List.mem_cons_self)
      cases Option.some.inj (h1.symm.trans B.method)
      cases Option.some.inj (h2.symm.trans (Stand.of_body B).code)
      rw [Array.isEmpty_iff.mp h7]
      rfl
    have hfl : ∀ w ∈ rk_fl, w.before #[Value.ref b] s = true := flat_of_before _ hgv
    obtain ⟨fm, ad, hfm, had, hKC⟩ := rk_KC hts hfl hX hbl (by omega)
    obtain ⟨dC, dI, hKc⟩ := rz_cls hts
    obtain ⟨dA, hKa⟩ := rz_arr hts hKC.2.2.2.1
    obtain ⟨f, L1, c1, n1, hrun, hc, hn⟩ := hruns fm xs.length (fun j => xs.getD j 0) hfm hbd
    have hl := lv_entry ([.ref b]) (n := 7) (Nat.le_of_ble_eq_true rfl)
    have K : ∃ ls : Array Slot, entryFrame m ([Value.ref b] : List Value).toArray 7 = F0 m 0 ls [] ∧ lv_has ls 7 [(0, .ref b)] := by
      rw [lg_entry_eq]
      exact ⟨_, rfl, hl⟩
    obtain ⟨ls, hls, hl⟩ := K
    have hW := rx_sound (rt_ok (xs.length, fun j => xs.getD j 0) fm hst) f 0 2048 84000 0 _ [] [] _ hrun p e room_1 s m #[Value.ref b] below meth c s.heap [] 0 0 (dC, dI) dA (fun q => s.heap.size ≤ q) ad ls
      (fun _ _ o _ => o = .returned (some (.int 1))) (fun _ _ _ => False) (fun q => s.heap.size ≤ q)
      ⟨B.exec, B.bytes, hml, hown, fun w hw => hts w (rx_TT_in w hw).1, (name_of_methodNamed B.named B.method).1, B.notSynchronized, B.returns, ⟨hKc, hKa⟩, fun q hq => hq, htab⟩ rfl rfl
      (by show 0 + c1 ≤ 600002; omega) (by show 0 + n1 ≤ 7302232; omega)
      ⟨(fun k q h => by simp [rx_cw] at h), ⟨(fun i j p q h => by simp [rx_cw] at h), (fun k q h => by simp [rx_cw] at h)⟩, va_S.rf, (fun x hx => by cases hx), Nat.zero_le _⟩ hKC
      (by
        show lv_has ls 7 [(0, .ref (ad rx_S))]
        rw [had]
        exact hl)
      (fun q hq => by
        rw [List.mem_singleton.mp hq]
        intro k e
        cases e
        exact Or.inr (by unfold rx_S; omega))
      (fun v hv => by cases hv) (fun q hq => hq)
      (fun ad' v H' locs' t e1 _ _ _ _ _ _ => by
        cases e1
        rfl)
      (fun E ad' H' locs' t e1 _ _ _ _ _ => by cases e1)
    obtain ⟨t, a1, o, b1, b2, b3⟩ := hW s₁ hh0 X₀
    refine ⟨t, o, ?_, b1, b2, ?_⟩
    · have a2 := a1
      have hls2 : entryFrame m #[Value.ref b] maxLocals = F0 m 0 ls ([].map (rx_v ad)) := hls
      rw [hls2]
      exact a2
    · rcases b3 with ⟨rfl, L, ⟨g1, g2, g3⟩, g4⟩ | ⟨q, -, E, ce, L, hF, -⟩
      · exact ⟨rfl, g1, g2, g3.weaken (fun y hy hlt => absurd hlt (Nat.not_lt.mpr (g4 y hy))) (Nat.le_refl _) (Nat.le_refl _)⟩
      · exact hF.elim
theorem lw_pre_spec {args : Array Value} {s : State} (h : (Jvm.Cond.and given_1 narrow_1).before args s = true) (hr : rest_1_c.before args s = true) : ∃ (b : Addr) (xs : List Int32), lw_P b xs args s := by
  have hs := flat_of_before _ h
  have hq := flat_of_before _ hr
  have hc : (Cond.count 1).before args s = true := hs _ (by decide +kernel)
  have harr : (Cond.arrayOf (.arg 0) .int).before args s = true := hs _ (by decide +kernel)
  have hle : (Cond.le (.length (.arg 0)) (.int 6)).before args s = true := hs _ (by decide +kernel)
  have hlen : (Cond.isInt (.length (.arg 0))).before args s = true := hq _ (by decide +kernel)
  have hall : (Cond.all (.arg 0) (.isInt (.elem (.arg 0) (.index 0)))).before args s = true := hq _ (by decide +kernel)
  obtain ⟨b, xs, hb, hx⟩ := State.ints_of_pre rfl harr hlen hall
  have hsm : xs.length < 2 ^ 31 := hx.choose_spec.2.2.2
  have hev : (Term.length (.arg 0)).eval args s none [] s = some (.int xs.length.toInt32) := hx.length_eval hb
  have hv := Cond.le_ints hev (show (Term.int 6).eval args s none [] s = some (.int 6) from rfl)
  have hd : xs.length.toInt32 ≤ 6 := by
    simpa [Cond.before, Cond.holds, hv] using hle
  have hN : xs.length ≤ 6 := (Int32.ofNat_le_ofNat hsm (by decide)).mp (show Int32.ofNat xs.length ≤ Int32.ofNat 6 from hd)
  exact ⟨b, xs, Cond.one_arg hc (show args[0]? = some (.ref b) from hb), hx, hN, h⟩
theorem lw_comes (hruns : rz_Runs) (l : Launch) (hst : l.stackTraces = false) : Comes l x (Jvm.Cond.code x code maxLocals ret :: tables_1) room_1 (fun tb e args s => Calls_1 tb e args s ∧ rest_1 tb e args s ∧ Pre_1 tb e args s)
    (fun _ _ args s o t => lw_Q args s o t) := by
  intro p e ha hc hk s m args below hf hfit hheap happ hpre
  obtain ⟨b, xs, hP⟩ := lw_pre_spec hpre.2.2 hpre.2.1
  obtain ⟨k, o, h1, h2, h3, hQ⟩ := lw_walk hruns l hst b xs p e ha hc hk s m args below hf ((Spec.applies_iff_loose hf).mp happ).1 hP trivial
  exact ⟨k, o, h1, h2, h3, hQ⟩
theorem lw_frame {s t : State} {o : Outcome} {args : Array Value} (h : Framed s o t [] 600002 7302232) :
    Framed s o t (fieldLocs frame_1_writes args s ++ arrayLocs frame_1_arrays args s ++ staticLocs frame_1_statics s) 600002 7302232 := h
theorem lw_limb (hruns : rz_Runs) (L : Cond) (hL : ∀ (args : Array Value) (s t : State), L.after args s (.returned (some (.int 1))) t = true) :
    ArmFor flags0 classFile x code maxLocals ret World_1 tables_1 room_1 Calls_1 rest_1 Pre_1
      (fun tb e a s o t => postC L tb e a s o t ∧ Framed s o t (fieldLocs frame_1_writes a s ++ arrayLocs frame_1_arrays a s ++ staticLocs frame_1_statics s) 600002 7302232) := by
  intro l hfl _ _ p e ha hc hk s m args below hf hfit hheap happ hpre
  have hst : l.stackTraces = false := by
    unfold Launch.stackTraces
    rw [hfl]
    decide +kernel
  obtain ⟨k, o, h1, h2, h3, rfl, hF⟩ := lw_comes hruns l hst p e ha hc hk s m args below hf hfit hheap happ hpre
  exact ⟨k, _, h1, h2, h3, hL args s _, lw_frame hF⟩
/-- the claim out of the runs -/
theorem rz_claim (hruns : rz_Runs) : Claimed_1_1 ∧ Claimed_1_2 := ⟨lw_limb hruns limb_1_1 (fun args s t => by simp [limb_1_1, Cond.after, Cond.holds, Cond.value]), lw_limb hruns limb_1_2 (fun args s t => Cond.after_iff.mpr (by
  first | (rw [show limb_1_2 = Cond.eq .result (.int 1) from rfl, Cond.eq_ints (x := 1) (y := 1) rfl rfl]; simp; done) | (simp [limb_1_2, Cond.value, Term.eval]; done)))⟩
