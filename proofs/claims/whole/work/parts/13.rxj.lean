/-! THE ABSTRACT MACHINE, part j: a step of it is a step of the machine -/
theorem rx_blind {P : rx_P} {D : va_G} {dA : Nat → ClassId} {ad : Nat → Nat} {L : List va_E} {as : List Value} {sz : Nat} : FrameBlind (rx_Pc P D dA ad L as sz) := fun a U g mk q => by
  obtain ⟨q0, q1, qP, qK, qD, qC⟩ := q
  exact ⟨q0, q1, qP, va_K.moved (u := U) (U := U.calling g mk a) (Vm.Alike.refl U.vm) qK, qD, rx_KC.same (u := U) (U := U.calling g mk a) rfl qC⟩
section RXJ
variable {p : Program} {l : Launch} {e : Env} {R : Room} {s : State} {m : MethodId} {args : Array Value} {below : List Frame} {meth : Method} {c : Code} {H : Heap} {locs : List Loc} {cells slots : Nat} {Q : State → Prop}
variable {P : rx_P} {mi pc : Nat} {ls : Array Slot} {D : va_G} {dA : Nat → ClassId} {A : Nat → Prop} {ad : Nat → Nat} {L : List va_E}
theorem rx_AA (hA : ∀ q : Nat, s.heap.size ≤ q → A q) (hW : rx_Wd D dA A ad L s H locs) : ∀ q, va_A (rx_cw ad dA 0 L) H.size q → A q := fun q h => by
  rcases h with ⟨k, x, h⟩ | h
  · exact hW.2.1.2 k (q, x) h
  · exact hA q (Nat.le_trans hW.2.2.1.1 h)
theorem rx_pre (hK : va_K D vwCl (rx_tys dA) s) (hA : ∀ q : Nat, s.heap.size ≤ q → A q) (hW : rx_Wd D dA A ad L s H locs) (hC : rx_KC P A ad s s.heap) (as : List Value) : ∀ U : State, U.heap = H → s.WarmedH U.vm → rx_Pc P D dA ad L as H.size (as.map (rx_v ad)).toArray U := fun U hU hWm =>
  ⟨rfl, by rw [hU], by rw [hU]; exact hW.1, va_K.moved hWm.alike hK, ⟨hW.2.1.1, fun _ _ _ => trivial⟩, by rw [hU]; exact (hC.at hWm hW.2.2.1).narrow (rx_AA hA hW)⟩
theorem rx_ofRun {mc ms : Nat} {g : JFrame} {rest : List Value} {Qa : State → Outcome → State → Prop} {XC : String → State → State → Prop} {free : Addr → Prop} (h : va_Run p l e R s m args below meth c H locs cells slots mc ms g rest Qa free) : vx_Run p l e R s m args below meth c H locs cells slots mc ms g rest Qa XC free := fun T hT X => Or.inl (h T hT X)
theorem rx_noX {y : MethodName} {ws : List Cond} {rm : Room} {Pc : Array Value → State → Prop} {Qc : Array Value → State → Outcome → State → Prop} {XC : String → State → State → Prop} {mc ms : Nat} {free : Addr → Prop} (hM : vx_Met l y ws rm Pc Qc XC mc ms free) (hX : ∀ E st t, ¬ XC E st t) : Met l y ws rm Pc Qc mc ms free := by
  intro p e ha hc hk s m args below hf hap hP hK
  obtain ⟨t, o, h1, h2, h3, h4⟩ := hM p e ha hc hk s m args below hf hap hP hK
  refine ⟨t, o, h1, h2, h3, ?_⟩
  rcases h4 with h4 | ⟨q, -, E, ce, L, g, -⟩
  · exact h4
  · exact absurd g (hX E _ _)
/-- behind a call -/
theorem rx_back {o : (Option Value) ⊕ String} {L1 : List va_E} {c1 s1 : Nat} {a : Array Value} {st0 rest : List Value} (hA : ∀ q : Nat, s.heap.size ≤ q → A q) (hW : rx_Wd D dA A ad L s H locs)
    (hr : vx_Run p l e R s m args below meth c H locs cells slots c1 s1 (F0 m pc ls st0) rest (rx_Qr D dA (va_A (rx_cw ad dA 0 L) H.size) ad L o L1 a) (rx_Xr D dA (va_A (rx_cw ad dA 0 L) H.size) ad L o L1) (va_A (rx_cw ad dA 0 L) H.size))
    (kk : ∀ (v : Option Value) (ad' : Nat → Nat) (H1 : Heap) (locs1 : List Loc), o = .inl v → (∀ w, v = some w → rx_okv L1.length w) → rx_ext L.length ad ad' → L.length ≤ L1.length → rx_Wd D dA A ad' L1 s H1 locs1 → W p l e R s m args below meth c H1 locs1 (cells + c1) (slots + s1) Q (F0 m (pc + 3) ls ((v.map (rx_v ad')).toList ++ rest)))
    (kx : ∀ (E : String) (ad' : Nat → Nat) (H1 : Heap) (locs1 : List Loc) (ce : Cell) (q : Addr), o = .inr E → rx_ext L.length ad ad' → L.length ≤ L1.length → rx_Wd D dA A ad' L1 s H1 locs1 → H1[q]? = some ce → ce.vm = .none → s.vm.findClass E = some ce.cls → vx_W p l e R s m args below meth c H1 locs1 (cells + c1) (slots + s1) Q (F0 m pc ls rest) q) :
    W p l e R s m args below meth c H locs cells slots Q (F0 m pc ls st0) := by
  have hAA := rx_AA hA hW
  intro T hT X
  rcases hr T hT X with ⟨v, st₀, t, T', L', h0, X', hL, e1, e2, ⟨ad', v', hv1, hv2, hv3, h1, h2, h3, h4, h5, h6, hF⟩, st⟩ | ⟨q, st₀, t, T', L', E, ce, h0, X', hL, e1, e2, ⟨hv1, ad', h1, h2, h3, h4, h5, h6, hF⟩, hce, hcv, hcl, st⟩
  · cases hv2
    obtain ⟨k1, k2, k3⟩ := vx_keep h0 e1 hW.2.2.1 (fun q _ hq => hAA q hq) hAA hL hF
    obtain ⟨t2, a1, b1⟩ := kk v' ad' T'.heap (locs ++ L') hv1 hv3 h1 h6 ⟨by rw [e1]; exact h2, ⟨h3.1, fun k x hx => hAA _ (h3.2 k x hx)⟩, k3, h4, h5⟩ T' rfl X'
    exact ⟨t2, st t2 a1, b1⟩
  · obtain ⟨k1, k2, k3⟩ := vx_keep h0 e1 hW.2.2.1 (fun q _ hq => hAA q hq) hAA hL hF
    obtain ⟨t2, a1, b1⟩ := kx E ad' T'.heap (locs ++ L') ce q hv1 h1 h6 ⟨by rw [e1]; exact h2, ⟨h3.1, fun k x hx => hAA _ (h3.2 k x hx)⟩, k3, h4, h5⟩ (by rw [e1]; exact hce) hcv hcl T' rfl X'
    exact ⟨t2, st.trans a1, b1⟩
end RXJ
theorem rx_take_spec {n : Nat} {st as rest : List Value} (h : rx_take n st = some (as, rest)) : st = as.reverse ++ rest ∧ as.length = n := by
  unfold rx_take at h
  split at h
  · rename_i hn
    cases h
    refine ⟨by rw [List.reverse_reverse, List.take_append_drop], ?_⟩
    rw [List.length_reverse, List.length_take]
    omega
  · cases h
set_option maxHeartbeats 4000000 in
theorem rx_throw {P : rx_P} {l : Launch} (hst : l.stackTraces = false) {mi F Lo pc : Nat} {lv : rx_L} {L : List va_E} {E : String} {nf nl : Nat} (hx : rx_xt P mi pc = some (E, nf, nl)) (h1 : nf < F) (h2 : nl ≤ Lo) : rx_Body P l mi F Lo pc lv [] L (.inr E, L, 1, 6) := by
  intro p e R s m args below meth c H locs cells slots D dA A ad ls Qc XC free bd hF hLo hc hs hW hC hl hlo hst' hfree hQ hX
  obtain ⟨hex, hb, hml, hown, hts, hname, hlocks, hret, hK, hA, htab⟩ := id bd
  have hc : cells + 1 ≤ R.cells := hc
  have hs : slots + 6 ≤ R.slots := hs
  obtain ⟨-, -, -, -, -, -, -, k1, k2, k3⟩ := id hC
  have hfin : ∀ t : State, s.vm.Alike t.vm → H.size ≤ t.heap.size → (∀ q : Nat, q < H.size → t.heap[q]? = H[q]?) → XC E s t := by
    intro t hal hsz hkeep
    have hlt : ∀ (k : Nat) (q : Nat × va_E), (rx_cw ad dA 0 L)[k]? = some q → q.1 < H.size := fun k q hq => (hW.1 k q hq).lt
    exact hX E ad t.heap locs t rfl rx_ext.rf ⟨hW.1.kept (fun k q hq => hkeep _ (hlt k q hq)), hW.2.1, ⟨Nat.le_trans hW.2.2.1.1 hsz, fun q g1 g2 => (hkeep q (Nat.lt_of_lt_of_le g1 hW.2.2.1.1)).trans (hW.2.2.1.2.1 q g1 g2), hW.2.2.1.2.2⟩, hW.2.2.2.1, hW.2.2.2.2⟩ (Nat.le_refl _) rfl hal
  rcases k3 mi pc E nf nl hx with ⟨ik, is, ic, text, sa, names, t0, t1, t2, t3, t4, t5, t6, t7, d0, d3, d4, n1, n2⟩ | ⟨ik, is, ic, text, sa, t0, rfl, t3, t4, t5, t6, t7, d0, d3, d4, d7, d10, n1, n2⟩
  rotate_left
  · have hat : ∀ w ∈ n_at (rx_yn P mi).cls ic, w.before args s = true := fun w hw => by
      rcases t6 w hw with z | ⟨z, y⟩
      · exact hts _ z
      · rcases z with ⟨a, b, rfl⟩ | ⟨x, rfl⟩
        · exact va_Nw.use rfl y
        · exact va_Nw.use rfl y
    have hout : ∀ (z : Nat), ∀ x ∈ c.exceptionTable.toList, covers x z = false := fun z x hx' => by rw [htab, t0] at hx'; cases hx'
    exact n_throw hex hb hst hown (hts _ t3) (hts _ t4) t5 hat t7 k1 k2 hW.2.2.1 (hl.1.trans hml.symm) d0 d3 d4 d7 d10 (hout _) (by omega) (by show 0 + 82 ≤ R.locals; omega) hc hs hlocks hfin (fun z hz => hfree _ (hW.2.2.1.2.2 z hz)) hc hs
  have hat : ∀ w ∈ vx_atS (rx_yn P mi).cls ic E names, w.before args s = true := fun w hw => by
    rcases t6 w hw with z | ⟨z, y⟩
    · exact hts _ z
    · rcases z with ⟨a, b, rfl⟩ | ⟨x, rfl⟩
      · exact va_Nw.use rfl y
      · exact va_Nw.use rfl y
  have hfin : ∀ t : State, s.vm.Alike t.vm → H.size ≤ t.heap.size → (∀ q : Nat, q < H.size → t.heap[q]? = H[q]?) → XC E s t := by
    intro t hal hsz hkeep
    have hlt : ∀ (k : Nat) (q : Nat × va_E), (rx_cw ad dA 0 L)[k]? = some q → q.1 < H.size := fun k q hq => (hW.1 k q hq).lt
    exact hX E ad t.heap locs t rfl rx_ext.rf ⟨hW.1.kept (fun k q hq => hkeep _ (hlt k q hq)), hW.2.1, ⟨Nat.le_trans hW.2.2.1.1 hsz, fun q g1 g2 => (hkeep q (Nat.lt_of_lt_of_le g1 hW.2.2.1.1)).trans (hW.2.2.1.2.1 q g1 g2), hW.2.2.1.2.2⟩, hW.2.2.2.1, hW.2.2.2.2⟩ (Nat.le_refl _) rfl hal
  have hout : ∀ (z : Nat), ∀ x ∈ c.exceptionTable.toList, covers x z = false := fun z x hx' => by rw [htab, t0] at hx'; cases hx'
  rcases d4 with ⟨d4, d6, d9⟩ | ⟨d4, d7, d10⟩
  · exact vx_throwS hex hb hst hown t1 t2 (hts _ t3) (hts _ t4) t5 hat t7 k1 k2 hW.2.2.1 (hl.1.trans hml.symm) d0 d3 d4 d6 d9 (hout _) (by omega) (by show 0 + (13 * (names.length + 1) + 43) ≤ R.locals; omega) hc hs hlocks hfin (fun z hz => hfree _ (hW.2.2.1.2.2 z hz)) hc hs
  · exact vx_throwSW hex hb hst hown t1 t2 (hts _ t3) (hts _ t4) t5 hat t7 k1 k2 hW.2.2.1 (hl.1.trans hml.symm) d0 d3 d4 d7 d10 (hout _) (by omega) (by show 0 + (13 * (names.length + 1) + 43) ≤ R.locals; omega) hc hs hlocks hfin (fun z hz => hfree _ (hW.2.2.1.2.2 z hz)) hc hs
def rx_OkAll (P : rx_P) (l : Launch) : Prop := rx_Ok P ∧ rx_OkD P ∧ rx_OkI P ∧ rx_OkO ∧ l.stackTraces = false ∧ rx_OkH P
