/-! THE CONSTANTS AT THE START: by wip/whole/mkconst.py -/
def rk_el (t : Term) : Nat → List Int32 → List Cond
  | _, [] => []
  | j, x :: r => Cond.eq (.elem (.field t "java/lang/String" "value" "[B") (.int (Int32.ofNat j))) (.int x) :: rk_el t (j + 1) r
def rk_sc (own : String) (idx : Nat) (bs : List Int32) : List Cond :=
  Cond.exactly (.string own idx) "java/lang/String" :: Cond.eq (.field (.string own idx) "java/lang/String" "coder" "B") (.int 0) :: Cond.arrayOf (.field (.string own idx) "java/lang/String" "value" "[B") .byte :: Cond.eq (.length (.field (.string own idx) "java/lang/String" "value" "[B")) (.int (Int32.ofNat bs.length)) :: rk_el (.string own idx) 0 bs
theorem rk_el_mem (t : Term) : ∀ (bs : List Int32) (k j : Nat), j < bs.length → Cond.eq (.elem (.field t "java/lang/String" "value" "[B") (.int (Int32.ofNat (k + j)))) (.int (bs.getD j 0)) ∈ rk_el t k bs
  | [], k, j, h => by simp at h
  | x :: r, k, 0, _ => by simp [rk_el]
  | x :: r, k, j + 1, h => by
    have := rk_el_mem t r (k + 1) j (by simpa using h)
    simp only [rk_el, List.getD_cons_succ]
    rw [show k + (j + 1) = k + 1 + j by omega]
    exact List.mem_cons_of_mem _ this
theorem rk_of {args : Array Value} {s : State} {own : String} {idx : Nat} {bs : List Int32} {A : Nat → Prop} (hlen : bs.length < 2 ^ 31) (h : ∀ w ∈ rk_sc own idx bs, w.before args s = true) (hA : ∀ a : Nat, a < s.heap.size → ¬ A a) :
    ∃ q : Nat × Nat, (Term.string own idx).eval args s none [] s = some (.ref q.1) ∧ va_O "java/lang/String" q.1 A s s.heap ∧ va_OF "java/lang/String" "coder" "B" (.int 0) q.1 A s s.heap ∧ va_OF "java/lang/String" "value" "[B" (.ref q.2) q.1 A s s.heap ∧ va_T .byte q.2 bs.length (fun j => .int (bs.getD j 0)) A s s.heap := by
  have w1 := h _ (List.mem_cons_self)
  have w2 := h _ (List.mem_cons_of_mem _ List.mem_cons_self)
  have w3 := h _ (List.mem_cons_of_mem _ (List.mem_cons_of_mem _ List.mem_cons_self))
  have w4 := h _ (List.mem_cons_of_mem _ (List.mem_cons_of_mem _ (List.mem_cons_of_mem _ List.mem_cons_self)))
  have w5 : ∀ j : Nat, j < bs.length → (Cond.eq (.elem (.field (.string own idx) "java/lang/String" "value" "[B") (.int (Int32.ofNat j))) (.int (bs.getD j 0))).before args s = true := fun j hj => by
    have e := rk_el_mem (.string own idx) bs 0 j hj
    rw [Nat.zero_add] at e
    exact h _ (List.mem_cons_of_mem _ (List.mem_cons_of_mem _ (List.mem_cons_of_mem _ (List.mem_cons_of_mem _ e))))
  obtain ⟨a, c, cA, kA, q1, q2, q3, q4, q5, q6, -⟩ := Cond.exactly_spec (args := args) (first := s) (o := none) (s := s) (idx := []) (t := .string own idx) (cls := "java/lang/String") w1
  obtain ⟨t, ht, hT⟩ := va_Tof (f := fun j => .int (bs.getD j 0)) (A := A) hlen w3 (va_eqt w4) (fun j hj => va_eqt (w5 j hj)) hA
  exact ⟨(a, t), q1, ⟨cA, q3, q5, by rw [q6]; exact q2, hA a (Array.getElem?_eq_some_iff.mp q3).1⟩, vk_OFof q1 (va_eqt w2) hA, vk_OFof q1 ht hA, hT⟩
/-- what the Statement gives of the start, in one list -/
def rk_fl : List Cond := flatC (Jvm.Cond.and given_1 narrow_1)
def rk_zip : List (List Int32) → List (String × Nat × String × Nat × Nat × Nat) → Bool
  | [], [] => true
  | bs :: r, q :: r2 => (decide ((rt_tb q.2.2.2.1)[q.2.2.2.2.1]? = some (.stringRef q.1 q.2.1 q.2.2.1)) && (decide ((rk_fl.drop q.2.2.2.2.2).take (4 + bs.length) = rk_sc q.1 q.2.1 bs) && decide (bs.length < 2 ^ 31))) && rk_zip r r2
  | _, _ => false
theorem rk_zip_ok : rk_zip rt_ST rt_so = true := by decide +kernel
theorem rk_zip_at : ∀ {l : List (List Int32)} {l2 : List (String × Nat × String × Nat × Nat × Nat)} {i : Nat} {bs : List Int32}, rk_zip l l2 = true → rt_nth l i = some bs → ∃ q, rt_nth l2 i = some q ∧ Cond.stringRef q.1 q.2.1 q.2.2.1 ∈ lw_tbl ∧ (∀ w ∈ rk_sc q.1 q.2.1 bs, w ∈ rk_fl) ∧ bs.length < 2 ^ 31
  | [], _, _, _, _, h => by cases h
  | _ :: _, [], _, _, h, _ => by cases h
  | b0 :: r, q0 :: r2, 0, bs, h, hi => by
    cases hi
    simp only [rk_zip, Bool.and_eq_true, decide_eq_true_eq] at h
    obtain ⟨⟨h1, h2, h3⟩, -⟩ := h
    refine ⟨q0, rfl, rt_tb_in (List.mem_of_getElem? h1), fun w hw => ?_, h3⟩
    rw [← h2] at hw
    exact List.mem_of_mem_drop (List.mem_of_mem_take hw)
  | b0 :: r, q0 :: r2, i + 1, bs, h, hi => by
    simp only [rk_zip, Bool.and_eq_true] at h
    exact rk_zip_at (l := r) (l2 := r2) (i := i) h.2 hi
theorem rt_nth_lt {α : Type} {x : α} : ∀ {l : List α} {n : Nat}, rt_nth l n = some x → n < l.length
  | [], _, h => by cases h
  | a :: r, 0, _ => by simp
  | a :: r, n + 1, h => by
    have := rt_nth_lt (l := r) h
    simpa using this
def rk_ST_n : Bool := Nat.ble rt_ST.length 1000
theorem rk_ST_lt {i : Nat} {bs : List Int32} (h : rt_sb i = some bs) : i < 1000 := Nat.lt_of_lt_of_le (rt_nth_lt h) (Nat.le_of_ble_eq_true (by decide +kernel))
def rk_ad (b f : Nat) (g : Nat → Nat × Nat) (k : Nat) : Nat := if k = rx_S then b else if k = rx_Fm then f else if (k - rx_B) % 2 = 0 then (g ((k - rx_B) / 2)).1 else (g ((k - rx_B) / 2)).2
theorem rk_ad_K {b f : Nat} {g : Nat → Nat × Nat} {i : Nat} (hi : i < 1000) : rk_ad b f g (rx_K i) = (g i).1 := by
  have e : rx_K i - rx_B = 2 * i := by unfold rx_K; omega
  have e2 : 2 * i / 2 = i := by omega
  have e3 : 2 * i % 2 = 0 := by omega
  unfold rk_ad
  rw [if_neg (by unfold rx_K rx_S; omega), if_neg (by unfold rx_K rx_Fm; omega), e, if_pos e3, e2]
theorem rk_ad_V {b f : Nat} {g : Nat → Nat × Nat} {i : Nat} (hi : i < 1000) : rk_ad b f g (rx_V i) = (g i).2 := by
  have e : rx_V i - rx_B = 2 * i + 1 := by unfold rx_V; omega
  have e2 : (2 * i + 1) / 2 = i := by omega
  have e3 : ¬ (2 * i + 1) % 2 = 0 := by omega
  unfold rk_ad
  rw [if_neg (by unfold rx_V rx_S; omega), if_neg (by unfold rx_V rx_Fm; omega), e, if_neg e3, e2]
theorem rk_ad_S {b f : Nat} {g : Nat → Nat × Nat} : rk_ad b f g rx_S = b := by
  unfold rk_ad
  exact if_pos rfl
theorem rx_FS : rx_Fm ≠ rx_S := by unfold rx_Fm rx_S; omega
theorem rk_ad_F {b f : Nat} {g : Nat → Nat × Nat} : rk_ad b f g rx_Fm = f := by
  unfold rk_ad
  rw [if_neg rx_FS]
  exact if_pos rfl
theorem rk_ad_T {b f : Nat} {g : Nat → Nat × Nat} : rk_ad b f g rx_Tk = (g 50001).1 := by
  have e : rx_Tk - rx_B = 100002 := by unfold rx_Tk; omega
  unfold rk_ad
  rw [if_neg (by unfold rx_Tk rx_S; omega), if_neg (by unfold rx_Tk rx_Fm; omega), e, if_pos (by decide)]
theorem rk_ad_G {b f : Nat} {g : Nat → Nat × Nat} : rk_ad b f g rx_Gv = (g 50001).2 := by
  have e : rx_Gv - rx_B = 100003 := by unfold rx_Gv; omega
  unfold rk_ad
  rw [if_neg (by unfold rx_Gv rx_S; omega), if_neg (by unfold rx_Gv rx_Fm; omega), e, if_neg (by decide)]
theorem rx_Tk_B : rx_B ≤ rx_Tk := Nat.le_add_right _ _
theorem rx_Gv_B : rx_B ≤ rx_Gv := Nat.le_add_right _ _
theorem rk_stat {args : Array Value} {s : State} {nm : String} {xs : List Int32} {A : Nat → Prop} (hl : (Cond.laysStatic "MarkHouse" nm "[I").before args s = true) (hini : (Cond.initialized "MarkHouse").before args s = true) (harr : (Cond.arrayOf (.static "MarkHouse" nm "[I") .int).before args s = true) (hlen : (Cond.eq (.length (.static "MarkHouse" nm "[I")) (.int (Int32.ofNat 17))).before args s = true) (hel : ∀ j : Nat, j < 17 → (Cond.eq (.elem (.static "MarkHouse" nm "[I") (.int (Int32.ofNat j))) (.int (xs.getD j 0))).before args s = true) (hA : ∀ a : Nat, a < s.heap.size → ¬ A a) : ∃ t, va_Z "MarkHouse" nm "[I" (.ref t) A s s.heap ∧ va_T .int t 17 (fun j => .int (xs.getD j 0)) A s s.heap := by
  obtain ⟨t, ht, hT⟩ := va_Tof (f := fun j => .int (xs.getD j 0)) (A := A) (N := 17) (by decide) harr (va_eqt hlen) (fun j hj => va_eqt (hel j hj)) hA
  exact ⟨t, va_Zof hl hini ht hA, hT⟩
theorem rx_S_B : rx_B ≤ rx_S := Nat.le_add_right _ _
theorem rx_Fm_B : rx_B ≤ rx_Fm := Nat.le_add_right _ _
theorem rk_cov {x : ExceptionTableEntry} {pc : Nat} (h : x.startPc ≤ pc ∧ pc < x.endPc) : covers x pc = true := by simpa [covers] using h
def rk_ktq (own : String) (idx : Nat) (v : Value) : Bool := match v with
  | .ref k => (List.range 1000).any (fun i => Nat.beq k (rx_K i) && (match rt_nth rt_ST i, rt_nth rt_so i with
    | some _, some z => decide (z.1 = own) && decide (z.2.1 = idx)
    | _, _ => false))
  | _ => true
def rk_ktc : Bool := rt_CT.all (fun r => r.2.2.2.2.1.all (fun q => rk_ktq r.1 q.1 q.2))
theorem rk_ktc_ok : rk_ktc = true := by decide +kernel
def rk_gtc : Bool := rt_CT.all (fun r => r.2.2.2.2.2.2.2.all (fun q => decide (r.1 = "java/lang/String") && (decide (q = (38, some (.int 1))) || decide (q = (1053, none)))))
theorem rk_gtc_ok : rk_gtc = true := by decide +kernel
def rk_nec : Bool := rt_CT.all (fun r => r.2.2.2.1.all (fun q => Nat.ble 10 q.2.1 = false || (List.range 17).any (fun a => decide (Cond.methodLinkNest r.1 q.1 (rt_yn q.2.2.1) "MarkHouse" ∈ rt_tb a))))
theorem rk_nec_ok : rk_nec = true := by decide +kernel
def rk_ex (c : Nat) : String := if c = 13 then "java/lang/IllegalArgumentException" else if c = 19 then "java/lang/IllegalStateException" else "java/util/NoSuchElementException"
def rk_any (w : Cond) : Bool := (List.range 17).any (fun a => decide (w ∈ rt_tb a))
theorem rk_any_in {w : Cond} (h : rk_any w = true) : w ∈ lw_tbl := by
  obtain ⟨a, -, h⟩ := List.any_eq_true.mp h
  exact rt_tb_in (of_decide_eq_true h)
def rk_hd1 (M : rt_M) (q : Nat × String × Nat × Fin 4) (x : ExceptionTableEntry) : Bool := covers x q.1 && (decide (x.catchType ≠ 0) && (decide (x.handlerPc = q.2.2.1) && (decide (Cond.classLink (rt_cn M.1) x.catchType (rk_ex x.catchType) ∈ rt_fx) && rk_any (.castable q.2.1 (rk_ex x.catchType)))))
def rk_hd2 (M : rt_M) (q : Nat × String × Nat × Fin 4) (y : ExceptionTableEntry) : Bool := covers y q.1 && (decide (y.catchType ≠ 0) && (decide (Cond.classLink (rt_cn M.1) y.catchType (rk_ex y.catchType) ∈ rt_fx) && decide (Cond.not (.castable q.2.1 (rk_ex y.catchType)) ∈ rk_fl)))
def rk_hdc : Bool := rt_MT.all (fun r => r.all (fun M => M.2.2.2.2.2.2.2.2.2.all (fun q => match tableOf M.2.2.2.2.2.2.2.2.1 with
  | [] => false
  | [x] => rk_hd1 M q x
  | y :: x :: _ => rk_hd1 M q y || (rk_hd2 M q y && rk_hd1 M q x))))
theorem rk_hdc_ok : rk_hdc = true := by decide +kernel
theorem rk_hdm {sc : Nat × (Nat → Int32)} {fm : Value} {mi pc hpc : Nat} {E : String} {k : Fin 4} {s : State} (hN : ∀ {w : Cond}, w.onTables = true → w ∈ lw_tbl → va_Nw w s) (hF : ∀ {C T : String}, Cond.not (.castable C T) ∈ rk_fl → va_Nc C T s) (h : rt_ht mi pc E = some (hpc, k)) : rx_Hd (rt_P sc fm) mi pc E hpc s := by
  unfold rt_ht at h
  split at h
  · rename_i M hM
    obtain ⟨r, hr1, hr2⟩ := rt_m_in hM
    have hq := List.all_eq_true.mp (List.all_eq_true.mp (List.all_eq_true.mp rk_hdc_ok r hr1) M hr2) _ (rt_find_mem h)
    have e1 : rx_hh (rt_P sc fm) mi = M.2.2.2.2.2.2.2.2.1 := by
      show rt_hh mi = _
      unfold rt_hh
      rw [hM]
    have e2 : (rx_yn (rt_P sc fm) mi).cls = rt_cn M.1 := by
      show (rt_yn mi).cls = _
      unfold rt_yn
      rw [hM]
    unfold rx_Hd
    rw [e1, e2]
    split at hq
    · cases hq
    · rename_i x hx
      simp only [rk_hd1, Bool.and_eq_true, decide_eq_true_eq] at hq
      obtain ⟨a1, a2, a3, a4, a5⟩ := hq
      exact Or.inl ⟨x, [], rk_ex x.catchType, hx, rk_cov a1, a2, a3, rx_TT_2 a4, hN rfl (rk_any_in a5)⟩
    · rename_i y x suf hx
      simp only [rk_hd1, rk_hd2, Bool.or_eq_true, Bool.and_eq_true, decide_eq_true_eq] at hq
      rcases hq with ⟨a1, a2, a3, a4, a5⟩ | ⟨⟨b1, b2, b3, b4⟩, a1, a2, a3, a4, a5⟩
      · exact Or.inl ⟨y, x :: suf, rk_ex y.catchType, hx, rk_cov a1, a2, a3, rx_TT_2 a4, hN rfl (rk_any_in a5)⟩
      · exact Or.inr ⟨y, x, suf, rk_ex y.catchType, rk_ex x.catchType, hx, rk_cov b1, b2, rx_TT_2 b3, hF b4, rk_cov a1, a2, a3, rx_TT_2 a4, hN rfl (rk_any_in a5)⟩
  · cases h
def rk_xs0 : List Cond := vx_atS "MarkHouse$Reader" 69 "java/lang/IllegalArgumentException" ["java/lang/RuntimeException", "java/lang/Exception"]
def rk_ngb (w : Cond) : Bool := match w with | .castable _ _ => true | .declares _ => true | _ => false
theorem rk_ngb_ok {w : Cond} (h : rk_ngb w = true) : rx_ng w := by
  cases w <;> first | (cases h; done) | exact Or.inl ⟨_, _, rfl⟩ | exact Or.inr ⟨_, rfl⟩
theorem rk_ng_ot {w : Cond} (h : rk_ngb w = true) : w.onTables = true := by
  cases w <;> first | (cases h; done) | rfl
theorem rk_xs0_ok : rk_xs0.all (fun w => (goodWord w || (rk_ngb w && rk_any w)) && vx_ot w) = true := by decide +kernel
theorem rk_xw0 {s : State} (hN : ∀ {w : Cond}, w.onTables = true → w ∈ lw_tbl → va_Nw w s) : ∀ w ∈ rk_xs0, w ∈ rx_TT ∨ (rx_ng w ∧ va_Nw w s) := by
  intro w hw
  have h := List.all_eq_true.mp rk_xs0_ok w hw
  simp only [Bool.and_eq_true, Bool.or_eq_true] at h
  rcases h.1 with g | ⟨g1, g2⟩
  · exact Or.inl (rx_TT_19 (List.mem_filter.mpr ⟨hw, g⟩))
  · exact Or.inr ⟨rk_ngb_ok g1, hN (rk_ng_ot g1) (rk_any_in g2)⟩
theorem rk_xo0 {own : String} {ik : Nat} {E : String} : ∀ w ∈ Cond.classLink own ik E :: Cond.initialized E :: rk_xs0, vx_ot w = true := by
  intro w hw
  rcases List.mem_cons.mp hw with rfl | hw
  · rfl
  rcases List.mem_cons.mp hw with rfl | hw
  · rfl
  have h := List.all_eq_true.mp rk_xs0_ok w hw
  simp only [Bool.and_eq_true] at h
  exact h.2
def rk_xs1 : List Cond := vx_atS "MarkHouse" 342 "java/lang/IllegalStateException" ["java/lang/RuntimeException", "java/lang/Exception"]
theorem rk_xs1_ok : rk_xs1.all (fun w => (goodWord w || (rk_ngb w && rk_any w)) && vx_ot w) = true := by decide +kernel
theorem rk_xw1 {s : State} (hN : ∀ {w : Cond}, w.onTables = true → w ∈ lw_tbl → va_Nw w s) : ∀ w ∈ rk_xs1, w ∈ rx_TT ∨ (rx_ng w ∧ va_Nw w s) := by
  intro w hw
  have h := List.all_eq_true.mp rk_xs1_ok w hw
  simp only [Bool.and_eq_true, Bool.or_eq_true] at h
  rcases h.1 with g | ⟨g1, g2⟩
  · exact Or.inl (rx_TT_20 (List.mem_filter.mpr ⟨hw, g⟩))
  · exact Or.inr ⟨rk_ngb_ok g1, hN (rk_ng_ot g1) (rk_any_in g2)⟩
theorem rk_xo1 {own : String} {ik : Nat} {E : String} : ∀ w ∈ Cond.classLink own ik E :: Cond.initialized E :: rk_xs1, vx_ot w = true := by
  intro w hw
  rcases List.mem_cons.mp hw with rfl | hw
  · rfl
  rcases List.mem_cons.mp hw with rfl | hw
  · rfl
  have h := List.all_eq_true.mp rk_xs1_ok w hw
  simp only [Bool.and_eq_true] at h
  exact h.2
def rk_xs2 : List Cond := vx_atS "MarkHouse" 358 "java/lang/IllegalArgumentException" ["java/lang/RuntimeException", "java/lang/Exception"]
theorem rk_xs2_ok : rk_xs2.all (fun w => (goodWord w || (rk_ngb w && rk_any w)) && vx_ot w) = true := by decide +kernel
theorem rk_xw2 {s : State} (hN : ∀ {w : Cond}, w.onTables = true → w ∈ lw_tbl → va_Nw w s) : ∀ w ∈ rk_xs2, w ∈ rx_TT ∨ (rx_ng w ∧ va_Nw w s) := by
  intro w hw
  have h := List.all_eq_true.mp rk_xs2_ok w hw
  simp only [Bool.and_eq_true, Bool.or_eq_true] at h
  rcases h.1 with g | ⟨g1, g2⟩
  · exact Or.inl (rx_TT_21 (List.mem_filter.mpr ⟨hw, g⟩))
  · exact Or.inr ⟨rk_ngb_ok g1, hN (rk_ng_ot g1) (rk_any_in g2)⟩
theorem rk_xo2 {own : String} {ik : Nat} {E : String} : ∀ w ∈ Cond.classLink own ik E :: Cond.initialized E :: rk_xs2, vx_ot w = true := by
  intro w hw
  rcases List.mem_cons.mp hw with rfl | hw
  · rfl
  rcases List.mem_cons.mp hw with rfl | hw
  · rfl
  have h := List.all_eq_true.mp rk_xs2_ok w hw
  simp only [Bool.and_eq_true] at h
  exact h.2
theorem rk_x_41_10 {sc : Nat × (Nat → Int32)} {fm : Value} {s : State} {args : Array Value} (hts : ∀ w ∈ lw_tbl, w.before args s = true) (hfl : ∀ w ∈ rk_fl, w.before args s = true) (hN : ∀ {w : Cond}, w.onTables = true → w ∈ lw_tbl → va_Nw w s) : ∃ ik is ic text sa names, rx_KT (rt_P sc fm) 41 10 "java/lang/IllegalArgumentException" 5 82 s ik is ic text sa names := by
  have hr : Cond.stringRef "MarkHouse$Reader" 67 "a FAULT" ∈ lw_tbl := rt_tb_in (List.mem_of_getElem? (l := rt_tb 9) (i := 67) (by decide +kernel))
  have hex : Cond.exactly (.string "MarkHouse$Reader" 67) "java/lang/String" ∈ rk_fl := by decide +kernel
  obtain ⟨a, c, cA, kA, q1, -⟩ := Cond.exactly_spec (args := args) (first := s) (o := none) (s := s) (idx := []) (t := .string "MarkHouse$Reader" 67) (cls := "java/lang/String") (hfl _ hex)
  exact ⟨65, 67, 69, "a FAULT", a, ["java/lang/RuntimeException", "java/lang/Exception"], (by decide +kernel : rt_hh 41 = []), by decide +kernel, by decide +kernel, rx_TT_2 (w := Cond.classLink "MarkHouse$Reader" 65 "java/lang/IllegalArgumentException") (by decide +kernel), rx_TT_2 (by decide +kernel), vk_R.of (own := "MarkHouse$Reader") (hts _ hr) q1, rk_xw0 hN, rk_xo0, (by decide +kernel : decode (rt_cb 41) 10 = .ok (.new 65, 3)), (by decide +kernel : decode (rt_cb 41) (10 + 3) = .ok (.dup, 1)), Or.inl ⟨(by decide +kernel : decode (rt_cb 41) (10 + 4) = .ok (.ldc 67, 2)), (by decide +kernel : decode (rt_cb 41) (10 + 6) = .ok (.invokespecial 69, 3)), (by decide +kernel : decode (rt_cb 41) (10 + 9) = .ok (.athrow, 1))⟩, by decide, by decide⟩
theorem rk_x_84_10 {sc : Nat × (Nat → Int32)} {fm : Value} {s : State} {args : Array Value} (hts : ∀ w ∈ lw_tbl, w.before args s = true) (hfl : ∀ w ∈ rk_fl, w.before args s = true) (hN : ∀ {w : Cond}, w.onTables = true → w ∈ lw_tbl → va_Nw w s) : ∃ ik is ic text sa names, rx_KT (rt_P sc fm) 84 10 "java/lang/IllegalStateException" 5 82 s ik is ic text sa names := by
  have hr : Cond.stringRef "MarkHouse" 340 "no program" ∈ lw_tbl := rt_tb_in (List.mem_of_getElem? (l := rt_tb 10) (i := 113) (by decide +kernel))
  have hex : Cond.exactly (.string "MarkHouse" 340) "java/lang/String" ∈ rk_fl := by decide +kernel
  obtain ⟨a, c, cA, kA, q1, -⟩ := Cond.exactly_spec (args := args) (first := s) (o := none) (s := s) (idx := []) (t := .string "MarkHouse" 340) (cls := "java/lang/String") (hfl _ hex)
  exact ⟨338, 340, 342, "no program", a, ["java/lang/RuntimeException", "java/lang/Exception"], (by decide +kernel : rt_hh 84 = []), by decide +kernel, by decide +kernel, rx_TT_2 (w := Cond.classLink "MarkHouse" 338 "java/lang/IllegalStateException") (by decide +kernel), rx_TT_2 (by decide +kernel), vk_R.of (own := "MarkHouse") (hts _ hr) q1, rk_xw1 hN, rk_xo1, (by decide +kernel : decode (rt_cb 84) 10 = .ok (.new 338, 3)), (by decide +kernel : decode (rt_cb 84) (10 + 3) = .ok (.dup, 1)), Or.inr ⟨(by decide +kernel : decode (rt_cb 84) (10 + 4) = .ok (.ldc_w 340, 3)), (by decide +kernel : decode (rt_cb 84) (10 + 7) = .ok (.invokespecial 342, 3)), (by decide +kernel : decode (rt_cb 84) (10 + 10) = .ok (.athrow, 1))⟩, by decide, by decide⟩
theorem rk_x_85_12 {sc : Nat × (Nat → Int32)} {fm : Value} {s : State} {args : Array Value} (hts : ∀ w ∈ lw_tbl, w.before args s = true) (hfl : ∀ w ∈ rk_fl, w.before args s = true) (hN : ∀ {w : Cond}, w.onTables = true → w ∈ lw_tbl → va_Nw w s) : ∃ ik is ic text sa names, rx_KT (rt_P sc fm) 85 12 "java/lang/IllegalArgumentException" 5 82 s ik is ic text sa names := by
  have hr : Cond.stringRef "MarkHouse" 356 "not 1 .. 10000 ACTS" ∈ lw_tbl := rt_tb_in (List.mem_of_getElem? (l := rt_tb 10) (i := 156) (by decide +kernel))
  have hex : Cond.exactly (.string "MarkHouse" 356) "java/lang/String" ∈ rk_fl := by decide +kernel
  obtain ⟨a, c, cA, kA, q1, -⟩ := Cond.exactly_spec (args := args) (first := s) (o := none) (s := s) (idx := []) (t := .string "MarkHouse" 356) (cls := "java/lang/String") (hfl _ hex)
  exact ⟨354, 356, 358, "not 1 .. 10000 ACTS", a, ["java/lang/RuntimeException", "java/lang/Exception"], (by decide +kernel : rt_hh 85 = []), by decide +kernel, by decide +kernel, rx_TT_2 (w := Cond.classLink "MarkHouse" 354 "java/lang/IllegalArgumentException") (by decide +kernel), rx_TT_2 (by decide +kernel), vk_R.of (own := "MarkHouse") (hts _ hr) q1, rk_xw2 hN, rk_xo2, (by decide +kernel : decode (rt_cb 85) 12 = .ok (.new 354, 3)), (by decide +kernel : decode (rt_cb 85) (12 + 3) = .ok (.dup, 1)), Or.inr ⟨(by decide +kernel : decode (rt_cb 85) (12 + 4) = .ok (.ldc_w 356, 3)), (by decide +kernel : decode (rt_cb 85) (12 + 7) = .ok (.invokespecial 358, 3)), (by decide +kernel : decode (rt_cb 85) (12 + 10) = .ok (.athrow, 1))⟩, by decide, by decide⟩
theorem rk_x_85_33 {sc : Nat × (Nat → Int32)} {fm : Value} {s : State} {args : Array Value} (hts : ∀ w ∈ lw_tbl, w.before args s = true) (hfl : ∀ w ∈ rk_fl, w.before args s = true) (hN : ∀ {w : Cond}, w.onTables = true → w ∈ lw_tbl → va_Nw w s) : ∃ ik is ic text sa names, rx_KT (rt_P sc fm) 85 33 "java/lang/IllegalStateException" 5 82 s ik is ic text sa names := by
  have hr : Cond.stringRef "MarkHouse" 363 "no run is under way" ∈ lw_tbl := rt_tb_in (List.mem_of_getElem? (l := rt_tb 10) (i := 159) (by decide +kernel))
  have hex : Cond.exactly (.string "MarkHouse" 363) "java/lang/String" ∈ rk_fl := by decide +kernel
  obtain ⟨a, c, cA, kA, q1, -⟩ := Cond.exactly_spec (args := args) (first := s) (o := none) (s := s) (idx := []) (t := .string "MarkHouse" 363) (cls := "java/lang/String") (hfl _ hex)
  exact ⟨338, 363, 342, "no run is under way", a, ["java/lang/RuntimeException", "java/lang/Exception"], (by decide +kernel : rt_hh 85 = []), by decide +kernel, by decide +kernel, rx_TT_2 (w := Cond.classLink "MarkHouse" 338 "java/lang/IllegalStateException") (by decide +kernel), rx_TT_2 (by decide +kernel), vk_R.of (own := "MarkHouse") (hts _ hr) q1, rk_xw1 hN, rk_xo1, (by decide +kernel : decode (rt_cb 85) 33 = .ok (.new 338, 3)), (by decide +kernel : decode (rt_cb 85) (33 + 3) = .ok (.dup, 1)), Or.inr ⟨(by decide +kernel : decode (rt_cb 85) (33 + 4) = .ok (.ldc_w 363, 3)), (by decide +kernel : decode (rt_cb 85) (33 + 7) = .ok (.invokespecial 342, 3)), (by decide +kernel : decode (rt_cb 85) (33 + 10) = .ok (.athrow, 1))⟩, by decide, by decide⟩
def rk_xsN : List Cond := n_at "MarkHouse" 349
theorem rk_xsN_ok : rk_xsN.all (fun w => (goodWord w || (rk_ngb w && rk_any w)) && vx_ot w) = true := by decide +kernel
theorem rk_xwN {s : State} (hN : ∀ {w : Cond}, w.onTables = true → w ∈ lw_tbl → va_Nw w s) : ∀ w ∈ rk_xsN, w ∈ rx_TT ∨ (rx_ng w ∧ va_Nw w s) := by
  intro w hw
  have h := List.all_eq_true.mp rk_xsN_ok w hw
  simp only [Bool.and_eq_true, Bool.or_eq_true] at h
  rcases h.1 with g | ⟨g1, g2⟩
  · exact Or.inl (rx_TT_22 (List.mem_filter.mpr ⟨hw, g⟩))
  · exact Or.inr ⟨rk_ngb_ok g1, hN (rk_ng_ot g1) (rk_any_in g2)⟩
theorem rk_xoN {own : String} {ik : Nat} {E : String} : ∀ w ∈ Cond.classLink own ik E :: Cond.initialized E :: rk_xsN, vx_ot w = true := by
  intro w hw
  rcases List.mem_cons.mp hw with rfl | hw
  · rfl
  rcases List.mem_cons.mp hw with rfl | hw
  · rfl
  have h := List.all_eq_true.mp rk_xsN_ok w hw
  simp only [Bool.and_eq_true] at h
  exact h.2
theorem rk_x_84_33 {sc : Nat × (Nat → Int32)} {fm : Value} {s : State} {args : Array Value} (hts : ∀ w ∈ lw_tbl, w.before args s = true) (hfl : ∀ w ∈ rk_fl, w.before args s = true) (hN : ∀ {w : Cond}, w.onTables = true → w ∈ lw_tbl → va_Nw w s) : ∃ ik is ic text sa, rx_KN (rt_P sc fm) 84 33 "java/util/NoSuchElementException" 5 82 s ik is ic text sa := by
  have hr : Cond.stringRef "MarkHouse" 347 "no such METHOD" ∈ lw_tbl := rk_any_in (by decide +kernel)
  have hex : Cond.exactly (.string "MarkHouse" 347) "java/lang/String" ∈ rk_fl := by decide +kernel
  obtain ⟨a, c, cA, kA, q1, -⟩ := Cond.exactly_spec (args := args) (first := s) (o := none) (s := s) (idx := []) (t := .string "MarkHouse" 347) (cls := "java/lang/String") (hfl _ hex)
  exact ⟨345, 347, 349, "no such METHOD", a, (by decide +kernel : rt_hh 84 = []), rfl, rx_TT_2 (w := Cond.classLink "MarkHouse" 345 nE) (by decide +kernel), rx_TT_2 (by decide +kernel), vk_R.of (own := "MarkHouse") (hts _ hr) q1, rk_xwN hN, rk_xoN, (by decide +kernel : decode (rt_cb 84) 33 = .ok (.new 345, 3)), (by decide +kernel : decode (rt_cb 84) (33 + 3) = .ok (.dup, 1)), (by decide +kernel : decode (rt_cb 84) (33 + 4) = .ok (.ldc_w 347, 3)), (by decide +kernel : decode (rt_cb 84) (33 + 7) = .ok (.invokespecial 349, 3)), (by decide +kernel : decode (rt_cb 84) (33 + 10) = .ok (.athrow, 1)), by decide, by decide⟩
def rk_xtc : Bool := (List.range (16 * rt_MT.length)).all (fun mi => match rt_m mi with
  | some M => M.2.2.2.2.2.2.2.1.all (fun q => decide ((mi, q) = (41, 10, "java/lang/IllegalArgumentException", 5, 82)) || decide ((mi, q) = (84, 10, "java/lang/IllegalStateException", 5, 82)) || decide ((mi, q) = (85, 12, "java/lang/IllegalArgumentException", 5, 82)) || decide ((mi, q) = (85, 33, "java/lang/IllegalStateException", 5, 82)))
  | none => true)
theorem rk_xtc_ok : rk_xtc = true := by decide +kernel
theorem rk_xt {mi pc : Nat} {E : String} {nf nl : Nat} (h : rt_xt mi pc = some (E, nf, nl)) : (mi, pc, E, nf, nl) = (41, 10, "java/lang/IllegalArgumentException", 5, 82) ∨ (mi, pc, E, nf, nl) = (84, 10, "java/lang/IllegalStateException", 5, 82) ∨ (mi, pc, E, nf, nl) = (85, 12, "java/lang/IllegalArgumentException", 5, 82) ∨ (mi, pc, E, nf, nl) = (85, 33, "java/lang/IllegalStateException", 5, 82) ∨ (mi, pc, E, nf, nl) = (84, 33, "java/util/NoSuchElementException", 5, 82) := by
  unfold rt_xt at h
  split at h
  · rename_i M hM
    split at h
    rotate_left
    · split at h
      · rename_i hc
        cases h
        rw [hc.1, hc.2]
        exact Or.inr (Or.inr (Or.inr (Or.inr (rfl))))
      · cases h
    rename_i x' h'
    cases h
    have h := h'
    have hlt : mi < 16 * rt_MT.length := by
      unfold rt_m at hM
      split at hM
      · rename_i r hr
        have := rt_nth_lt hr
        omega
      · cases hM
    have hq := List.all_eq_true.mp rk_xtc_ok mi (List.mem_range.mpr hlt)
    rw [hM] at hq
    have hq := List.all_eq_true.mp hq _ (rt_look_mem h)
    simp only [Bool.or_eq_true, decide_eq_true_eq] at hq
    rcases hq with (((h0) | h1) | h2) | h3
    · exact Or.inl h0
    · exact Or.inr (Or.inl h1)
    · exact Or.inr (Or.inr (Or.inl h2))
    · exact Or.inr (Or.inr (Or.inr (Or.inl h3)))
  · cases h
set_option maxHeartbeats 4000000 in
theorem rk_KC {s : State} {b L : Nat} {xs : Nat → Int32} (hts : ∀ w ∈ lw_tbl, w.before #[Value.ref b] s = true) (hfl : ∀ w ∈ rk_fl, w.before #[Value.ref b] s = true) (hX : va_X b L xs s s.heap) (hb : b < s.heap.size) (hL : L < 2 ^ 31) :
    ∃ (fm : Value) (ad : Nat → Nat), (fm = .null ∨ fm = .ref rx_Fm) ∧ ad rx_S = b ∧ rx_KC (rt_P (L, xs) fm) (fun q => s.heap.size ≤ q) ad s s.heap := by
  have hA : ∀ a : Nat, a < s.heap.size → ¬ (fun q : Nat => s.heap.size ≤ q) a := fun a h => Nat.not_le.mpr h
  have hN : ∀ {w : Cond}, w.onTables = true → w ∈ lw_tbl → va_Nw w s := fun h1 h2 => va_Nw.of h1 (hts _ h2)
  have hF : ∀ {C T : String}, Cond.not (.castable C T) ∈ rk_fl → va_Nc C T s := fun h => va_Nc.of (hfl _ h)
  have h0 : ∀ i : Nat, ∃ q : Nat × Nat, ∀ bs, rt_sb i = some bs → ∃ z, rt_nth rt_so i = some z ∧ Cond.stringRef z.1 z.2.1 z.2.2.1 ∈ lw_tbl ∧ (Term.string z.1 z.2.1).eval #[Value.ref b] s none [] s = some (.ref q.1) ∧ va_O "java/lang/String" q.1 (fun q => s.heap.size ≤ q) s s.heap ∧ va_OF "java/lang/String" "coder" "B" (.int 0) q.1 (fun q => s.heap.size ≤ q) s s.heap ∧ va_OF "java/lang/String" "value" "[B" (.ref q.2) q.1 (fun q => s.heap.size ≤ q) s s.heap ∧ va_T .byte q.2 bs.length (fun j => .int (bs.getD j 0)) (fun q => s.heap.size ≤ q) s s.heap := by
    intro i
    cases hi : rt_sb i with
    | none => exact ⟨(0, 0), fun bs h => by cases h⟩
    | some bs =>
      obtain ⟨z, z1, z2, z3, z4⟩ := rk_zip_at rk_zip_ok (show rt_nth rt_ST i = some bs from hi)
      obtain ⟨q, q1⟩ := rk_of (A := fun q => s.heap.size ≤ q) z4 (fun w hw => hfl w (z3 w hw)) hA
      exact ⟨q, fun bs' h => by cases h; exact ⟨z, z1, z2, q1⟩⟩
  obtain ⟨g0, hg⟩ := Classical.axiomOfChoice h0
  have m1 : ∀ j : Fin 17, Cond.eq (.elem (.static "MarkHouse" "TAKES" "[I") (.int (Int32.ofNat j.1))) (.int (rt_Tk.getD j.1 0)) ∈ rk_fl := by decide +kernel
  have m2 : ∀ j : Fin 17, Cond.eq (.elem (.static "MarkHouse" "GIVES" "[I") (.int (Int32.ofNat j.1))) (.int (rt_Gv.getD j.1 0)) ∈ rk_fl := by decide +kernel
  obtain ⟨t1, hz1, hT1⟩ := rk_stat (nm := "TAKES") (xs := rt_Tk) (A := fun q => s.heap.size ≤ q) (hts _ (rk_any_in (by decide +kernel))) (hts _ (rk_any_in (by decide +kernel))) (hfl _ (by decide +kernel)) (hfl _ (by decide +kernel)) (fun j hj => hfl _ (m1 ⟨j, hj⟩)) hA
  obtain ⟨t2, hz2, hT2⟩ := rk_stat (nm := "GIVES") (xs := rt_Gv) (A := fun q => s.heap.size ≤ q) (hts _ (rk_any_in (by decide +kernel))) (hts _ (rk_any_in (by decide +kernel))) (hfl _ (by decide +kernel)) (hfl _ (by decide +kernel)) (fun j hj => hfl _ (m2 ⟨j, hj⟩)) hA
  obtain ⟨g, hge, hgT⟩ : ∃ g : Nat → Nat × Nat, (∀ i bs, rt_sb i = some bs → g i = g0 i) ∧ g 50001 = (t1, t2) := by
    refine ⟨fun i => if i = 50001 then (t1, t2) else g0 i, fun i bs h => ?_, if_pos rfl⟩
    have hi := rk_ST_lt h
    exact if_neg (by omega)
  have hcs : va_Z "java/lang/String" "COMPACT_STRINGS" "Z" (.int 1) (fun q => s.heap.size ≤ q) s s.heap := va_Zof (hts _ (rk_any_in (by decide +kernel))) (hts _ (rk_any_in (by decide +kernel))) (va_eqi (hfl _ (by decide +kernel))) hA
  have hfm : va_Zq "jdk/internal/util/Preconditions" "SIOOBE_FORMATTER" "Ljava/util/function/BiFunction;" (fun q => s.heap.size ≤ q) s s.heap := va_Zqof (hts _ (rk_any_in (by decide +kernel))) (hts _ (rk_any_in (by decide +kernel))) (hfl _ (by decide +kernel)) hA
  have main : ∀ (fm : Value) (f : Nat), (∀ k, fm = .ref k → rx_B ≤ k) → va_Z "jdk/internal/util/Preconditions" "SIOOBE_FORMATTER" "Ljava/util/function/BiFunction;" (rx_v (rk_ad b f g) fm) (fun q => s.heap.size ≤ q) s s.heap → rx_KC (rt_P (L, xs) fm) (fun q => s.heap.size ≤ q) (rk_ad b f g) s s.heap := by
    intro fm f hfr hfz
    refine ⟨fun mi idx k hk => ?_, fun i bs hb => ?_, fun mi idx v hv => ?_, fun t C ht => ?_, fun mi idx kd mj n hc hk => ?_, fun a n f' hf => ?_, fun mi pc E hpc k hk => ?_, ?_, ?_, fun mi pc E nf nl hx => ?_⟩
    · have hk : rt_kt mi idx = some (.ref k) := hk
      unfold rt_kt at hk
      split at hk
      · rename_i r hr
        obtain ⟨hr1, hr2⟩ := rt_cl_in hr
        have hq := List.all_eq_true.mp (List.all_eq_true.mp rk_ktc_ok r hr1) _ (rt_look_mem hk)
        obtain ⟨i, -, hq⟩ := List.any_eq_true.mp hq
        obtain ⟨k1, k2⟩ := (Bool.and_eq_true _ _).mp hq
        have k1 := Nat.eq_of_beq_eq_true k1
        refine ⟨by rw [k1]; exact Nat.le_add_right _ _, ?_⟩
        split at k2
        · rename_i bs z hst hso
          have k2 := (Bool.and_eq_true _ _).mp k2
          have k3 := of_decide_eq_true k2.1
          have k4 : z.2.1 = idx := of_decide_eq_true k2.2
          obtain ⟨z', z1, z2, z3, -⟩ := hg i bs hst
          rw [hso] at z1
          cases z1
          refine ⟨z.2.2.1, ?_⟩
          show vk_R (rt_yn mi).cls idx _ _ s
          rw [hr2, ← k3, ← k4, k1, rk_ad_K (rk_ST_lt hst), hge i bs hst]
          exact vk_R.of (hts _ z2) z3
        · cases k2
      · cases hk
    · obtain ⟨z, z1, z2, z3, z4, z5, z6, z7⟩ := hg i bs hb
      rw [rk_ad_K (rk_ST_lt hb), rk_ad_V (rk_ST_lt hb), hge i bs hb]
      exact ⟨z4, z5, z6, z7⟩
    · have hv : rt_gt fm mi idx = some v := hv
      unfold rt_gt at hv
      split at hv
      · rename_i r hr
        obtain ⟨hr1, hr2⟩ := rt_cl_in hr
        have hchk := fun q hq => List.all_eq_true.mp (List.all_eq_true.mp rk_gtc_ok r hr1) q hq
        split at hv
        · rename_i v' hl
          cases hv
          have hq := hchk _ (rt_look_mem hl)
          rw [Bool.and_eq_true, Bool.or_eq_true] at hq
          have e1 := of_decide_eq_true hq.1
          rcases hq.2 with e2 | e2 <;> have e2 := of_decide_eq_true e2
          · cases e2
            refine ⟨(fun k e => by cases e), "java/lang/String", "COMPACT_STRINGS", "Z", hcs, Or.inl ?_⟩
            show Cond.fieldLink (rt_yn mi).cls 38 _ _ _ ∈ rx_TT
            rw [hr2, e1]
            exact rx_TT_2 (by decide +kernel)
          · cases e2
        · rename_i hl
          cases hv
          have hq := hchk _ (rt_look_mem hl)
          rw [Bool.and_eq_true, Bool.or_eq_true] at hq
          have e1 := of_decide_eq_true hq.1
          rcases hq.2 with e2 | e2 <;> have e2 := of_decide_eq_true e2
          · cases e2
          · cases e2
            refine ⟨hfr, "jdk/internal/util/Preconditions", "SIOOBE_FORMATTER", "Ljava/util/function/BiFunction;", hfz, Or.inl ?_⟩
            show Cond.fieldLink (rt_yn mi).cls 1053 _ _ _ ∈ rx_TT
            rw [hr2, e1]
            exact rx_TT_2 (by decide +kernel)
        · split at hv
          · rename_i hcode
            split at hv
            · rename_i hidx
              cases hv
              refine ⟨(fun k e => by cases e; exact rx_Tk_B), "MarkHouse", "TAKES", "[I", ?_, Or.inr ⟨"MarkHouse", ?_⟩⟩
              · show va_Z "MarkHouse" "TAKES" "[I" (.ref (rk_ad b f g rx_Tk)) _ s s.heap
                rw [rk_ad_T, hgT]
                exact hz1
              · show va_Nw (.fieldLinkNest (rt_yn mi).cls idx _ _ _ _) s
                rw [hr2, hcode, hidx]
                exact hN rfl (rk_any_in (by decide +kernel))
            · split at hv
              · rename_i hidx
                cases hv
                refine ⟨(fun k e => by cases e; exact rx_Gv_B), "MarkHouse", "GIVES", "[I", ?_, Or.inr ⟨"MarkHouse", ?_⟩⟩
                · show va_Z "MarkHouse" "GIVES" "[I" (.ref (rk_ad b f g rx_Gv)) _ s s.heap
                  rw [rk_ad_G, hgT]
                  exact hz2
                · show va_Nw (.fieldLinkNest (rt_yn mi).cls idx _ _ _ _) s
                  rw [hr2, hcode, hidx]
                  exact hN rfl (rk_any_in (by decide +kernel))
              · cases hv
          · cases hv
      · cases hv
    · have hC : C = "MarkHouse$Order" ∨ C = "MarkHouse$Kind" ∨ C = "java/lang/String" := by
        unfold rx_ty at ht
        match t, ht with
        | 0, ht => cases ht
        | 1, ht => cases ht
        | 2, ht => cases ht
        | 3, ht => cases ht
        | 4, ht => cases ht; exact Or.inl rfl
        | 5, ht => cases ht; exact Or.inr (Or.inl rfl)
        | 6, ht => cases ht; exact Or.inr (Or.inr rfl)
        | t + 7, ht => simp at ht
      have hao : ∀ C : String, Cond.arrayOver (.object C) ∈ lw_tbl → va_AO C s := fun C h => hts _ h
      rcases hC with rfl | rfl | rfl
      · exact hao _ (rk_any_in (by decide +kernel))
      · exact hao _ (rk_any_in (by decide +kernel))
      · exact hao _ (rk_any_in (by decide +kernel))
    · have hc : rt_ct mi idx = some (kd, mj, n) := hc
      unfold rt_ct at hc
      split at hc
      · rename_i r hr
        obtain ⟨hr1, hr2⟩ := rt_cl_in hr
        have hq := List.all_eq_true.mp (List.all_eq_true.mp rk_nec_ok r hr1) _ (rt_look_mem hc)
        refine ⟨"MarkHouse", ?_⟩
        show va_Nw (.methodLinkNest (rt_yn mi).cls idx (rt_yn mj) "MarkHouse") s
        rw [hr2]
        refine hN rfl ?_
        rw [Bool.or_eq_true] at hq
        rcases hq with hq | hq
        · have := of_decide_eq_true hq
          have h2 : Nat.ble 10 kd = true := Nat.ble_eq.mpr hk
          rw [h2] at this
          cases this
        · exact rk_any_in hq
      · cases hc
    · have hf : rt_ci (L, xs) a = some (n, f') := hf
      unfold rt_ci at hf
      split at hf
      · rename_i e
        cases hf
        have e := Nat.eq_of_beq_eq_true e
        subst e
        refine ⟨rx_S_B, ?_⟩
        obtain ⟨scr, x1, x2, x3, x4, x5⟩ := hX
        rw [rk_ad_S]
        exact ⟨scr, x1, x2, x3, by omega, (by rw [x4]), x5, hA b (by assumption)⟩
      · split at hf
        · rename_i e
          cases hf
          have e := Nat.eq_of_beq_eq_true e
          subst e
          exact ⟨rx_Tk_B, by rw [rk_ad_T, hgT]; exact hT1⟩
        · split at hf
          · rename_i e
            cases hf
            have e := Nat.eq_of_beq_eq_true e
            subst e
            exact ⟨rx_Gv_B, by rw [rk_ad_G, hgT]; exact hT2⟩
          · cases hf
    · exact rk_hdm hN hF hk
    · exact vx_Zqof (hts _ (rk_any_in (by decide +kernel))) (hts _ (rk_any_in (by decide +kernel))) (hfl _ (by decide +kernel)) hA
    · exact vx_Zqof (hts _ (rk_any_in (by decide +kernel))) (hts _ (rk_any_in (by decide +kernel))) (hfl _ (by decide +kernel)) hA
    · have hx : rt_xt mi pc = some (E, nf, nl) := hx
      rcases rk_xt hx with e | e | e | e | e
      · cases e; exact Or.inl (rk_x_41_10 hts hfl hN)
      · cases e; exact Or.inl (rk_x_84_10 hts hfl hN)
      · cases e; exact Or.inl (rk_x_85_12 hts hfl hN)
      · cases e; exact Or.inl (rk_x_85_33 hts hfl hN)
      · cases e; exact Or.inr (rk_x_84_33 hts hfl hN)
  rcases hfm with hz | ⟨t, hz⟩
  · exact ⟨.null, rk_ad b 0 g, Or.inl rfl, rk_ad_S, main .null 0 (fun k e => by cases e) hz⟩
  · refine ⟨.ref rx_Fm, rk_ad b t g, Or.inr rfl, rk_ad_S, main (.ref rx_Fm) t (fun k e => ?_) ?_⟩
    · rw [← Value.ref.inj e]
      exact rx_Fm_B
    · have e : rx_v (rk_ad b t g) (.ref rx_Fm) = .ref t := congrArg Value.ref rk_ad_F
      rw [e]
      exact hz
