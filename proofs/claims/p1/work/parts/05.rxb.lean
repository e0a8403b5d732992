/-! THE ABSTRACT MACHINE, part b: locals, jumps -/
abbrev rx_L : Type := List (Nat × Value)
def rx_lc (ad : Nat → Nat) (lv : rx_L) : rx_L := lv.map (fun q => (q.1, rx_v ad q.2))
def rx_ld : rx_L → Nat → Option Value
  | [], _ => none
  | q :: r, i => if q.1 = i then some q.2 else rx_ld r i
def rx_s1 (lv : rx_L) (i : Nat) (v : Value) : rx_L := (i, v) :: lv.filter (fun q => !(q.1 == i) && !(q.1 + 1 == i && q.2.category == 2))
def rx_s2 (lv : rx_L) (i : Nat) (v : Value) : rx_L := (i, v) :: lv.filter (fun q => !(q.1 == i) && (!(q.1 == i + 1) && !(q.1 + 1 == i && q.2.category == 2)))
theorem rx_ld_mem {lv : rx_L} {i : Nat} {v : Value} (h : rx_ld lv i = some v) : (i, v) ∈ lv := by
  induction lv with
  | nil => cases h
  | cons q r ih =>
    unfold rx_ld at h
    split at h
    · rename_i e
      cases h
      rw [← e]
      exact List.mem_cons_self
    · exact List.mem_cons_of_mem _ (ih h)
theorem rx_ld_at {ls : Array Slot} {nL : Nat} {ad : Nat → Nat} {lv : rx_L} (h : lv_has ls nL (rx_lc ad lv)) {i : Nat} {v : Value} (hl : rx_ld lv i = some v) : ls[i]? = some (.val (rx_v ad v)) :=
  h.2.2 (i, rx_v ad v) (List.mem_map.mpr ⟨(i, v), rx_ld_mem hl, rfl⟩)
theorem rx_lc_filter (ad : Nat → Nat) (f : Nat → Nat → Bool) (lv : rx_L) : (rx_lc ad lv).filter (fun q => f q.1 q.2.category) = rx_lc ad (lv.filter (fun q => f q.1 q.2.category)) := by
  induction lv with
  | nil => rfl
  | cons q r ih =>
    have e : (rx_lc ad (q :: r)) = (q.1, rx_v ad q.2) :: rx_lc ad r := rfl
    rw [e, List.filter_cons, List.filter_cons, ih]
    simp only [rx_v_cat]
    split <;> rfl
theorem rx_s1_c (ad : Nat → Nat) (lv : rx_L) (i : Nat) (v : Value) : (i, rx_v ad v) :: (rx_lc ad lv).filter (fun q => !(q.1 == i) && !(q.1 + 1 == i && q.2.category == 2)) = rx_lc ad (rx_s1 lv i v) := by
  rw [rx_lc_filter ad (fun a b => !(a == i) && !(a + 1 == i && b == 2)) lv]
  rfl
theorem rx_s2_c (ad : Nat → Nat) (lv : rx_L) (i : Nat) (v : Value) : (i, rx_v ad v) :: (rx_lc ad lv).filter (fun q => !(q.1 == i) && (!(q.1 == i + 1) && !(q.1 + 1 == i && q.2.category == 2))) = rx_lc ad (rx_s2 lv i v) := by
  rw [rx_lc_filter ad (fun a b => !(a == i) && (!(a == i + 1) && !(a + 1 == i && b == 2))) lv]
  rfl
/-- loads and stores -/
def rx_loc (ins : Instr) (nL : Nat) (lv : rx_L) (st : List Value) : Option (rx_L × List Value) := match ins with
  | .iload_n k => match rx_ld lv k with | some (.int x) => some (lv, .int x :: st) | _ => none
  | .iload i => match rx_ld lv i with | some (.int x) => some (lv, .int x :: st) | _ => none
  | .lload_n k => match rx_ld lv k with | some (.long x) => some (lv, .long x :: st) | _ => none
  | .lload i => match rx_ld lv i with | some (.long x) => some (lv, .long x :: st) | _ => none
  | .aload_n k => match rx_ld lv k with | some (.ref x) => some (lv, .ref x :: st) | _ => none
  | .aload i => match rx_ld lv i with | some (.ref x) => some (lv, .ref x :: st) | _ => none
  | .istore_n k => match st with | .int x :: r => if (k : Nat) < nL then some (rx_s1 lv k (.int x), r) else none | _ => none
  | .istore i => match st with | .int x :: r => if i < nL then some (rx_s1 lv i (.int x), r) else none | _ => none
  | .lstore_n k => match st with | .long x :: r => if (k : Nat) + 1 < nL then some (rx_s2 lv k (.long x), r) else none | _ => none
  | .lstore i => match st with | .long x :: r => if i + 1 < nL then some (rx_s2 lv i (.long x), r) else none | _ => none
  | .astore_n k => match st with | .ref x :: r => if (k : Nat) < nL then some (rx_s1 lv k (.ref x), r) else none | _ => none
  | .astore i => match st with | .ref x :: r => if i < nL then some (rx_s1 lv i (.ref x), r) else none | _ => none
  | .iinc i n => match rx_ld lv i with | some (.int x) => if i < nL then some (rx_s1 lv i (.int (x + Int32.ofInt n)), st) else none | _ => none
  | _ => none
def rx_nat (pc : Nat) (off : Int) : Nat := ((pc : Int) + off).toNat
/-- jumps: where to, and the stack there -/
def rx_jmp (ins : Instr) (pc : Nat) (st : List Value) : Option (Nat × List Value) := match ins with
  | .goto off => if 0 ≤ (pc : Int) + off then some (rx_nat pc off, st) else none
  | .ifCond .eq off => match st with | .int x :: r => if 0 ≤ (pc : Int) + off then some (if x = 0 then rx_nat pc off else pc + 3, r) else none | _ => none
  | .ifCond .ne off => match st with | .int x :: r => if 0 ≤ (pc : Int) + off then some (if x = 0 then pc + 3 else rx_nat pc off, r) else none | _ => none
  | .ifCond .lt off => match st with | .int x :: r => if 0 ≤ (pc : Int) + off then some (if x < 0 then rx_nat pc off else pc + 3, r) else none | _ => none
  | .ifCond .ge off => match st with | .int x :: r => if 0 ≤ (pc : Int) + off then some (if 0 ≤ x then rx_nat pc off else pc + 3, r) else none | _ => none
  | .ifCond .gt off => match st with | .int x :: r => if 0 ≤ (pc : Int) + off then some (if 0 < x then rx_nat pc off else pc + 3, r) else none | _ => none
  | .ifCond .le off => match st with | .int x :: r => if 0 ≤ (pc : Int) + off then some (if x ≤ 0 then rx_nat pc off else pc + 3, r) else none | _ => none
  | .if_icmp .eq off => match st with | .int y :: .int x :: r => if 0 ≤ (pc : Int) + off then some (if x = y then rx_nat pc off else pc + 3, r) else none | _ => none
  | .if_icmp .ne off => match st with | .int y :: .int x :: r => if 0 ≤ (pc : Int) + off then some (if x = y then pc + 3 else rx_nat pc off, r) else none | _ => none
  | .if_icmp .lt off => match st with | .int y :: .int x :: r => if 0 ≤ (pc : Int) + off then some (if x < y then rx_nat pc off else pc + 3, r) else none | _ => none
  | .if_icmp .ge off => match st with | .int y :: .int x :: r => if 0 ≤ (pc : Int) + off then some (if y ≤ x then rx_nat pc off else pc + 3, r) else none | _ => none
  | .if_icmp .gt off => match st with | .int y :: .int x :: r => if 0 ≤ (pc : Int) + off then some (if y < x then rx_nat pc off else pc + 3, r) else none | _ => none
  | .if_icmp .le off => match st with | .int y :: .int x :: r => if 0 ≤ (pc : Int) + off then some (if x ≤ y then rx_nat pc off else pc + 3, r) else none | _ => none
  | .tableswitch dflt lo hi offs => match st with
    | .int x :: r => if x.toInt < lo ∨ hi < x.toInt then (if 0 ≤ (pc : Int) + dflt then some (rx_nat pc dflt, r) else none) else
        match offs[(x.toInt - lo).toNat]? with
        | some off => if 0 ≤ (pc : Int) + off then some (rx_nat pc off, r) else none
        | none => none
    | _ => none
  | _ => none
theorem rx_nat_ok {pc : Nat} {off : Int} (h : 0 ≤ (pc : Int) + off) : (pc : Int) + off = (rx_nat pc off : Int) := (Int.toNat_of_nonneg h).symm
section RXB
variable {p : Program} {l : Launch} {e : Env} {R : Room} {s : State} {m : MethodId} {args : Array Value} {below : List Frame} {meth : Method} {c : Code} {H : Heap} {locs : List Loc} {cells slots : Nat} {Q : State → Prop}
set_option maxHeartbeats 4000000 in
theorem rx_loc_ok {cc : ByteArray} {pc nL : Nat} {ls : Array Slot} {ad : Nat → Nat} {ins : Instr} {lv lv' : rx_L} {st st' : List Value} (h : rx_loc ins nL lv st = some (lv', st')) (hx : p.tables.exec = Jvm.exec) (hb : c.code = cc) (hd : decode cc pc = .ok (ins, rx_len ins)) (hl : lv_has ls nL (rx_lc ad lv))
    (k : ∀ ls' : Array Slot, lv_has ls' nL (rx_lc ad lv') → W p l e R s m args below meth c H locs cells slots Q (F0 m (pc + rx_len ins) ls' (st'.map (rx_v ad)))) : W p l e R s m args below meth c H locs cells slots Q (F0 m pc ls (st.map (rx_v ad))) := by
  unfold rx_loc at h
  split at h
  · split at h <;> cases h; rename_i g; exact lv_iload_n hx hb hd rfl (rx_ld_at hl g) (k ls hl)
  · split at h <;> cases h; rename_i g; exact lv_iload hx hb hd (rx_ld_at hl g) (k ls hl)
  · split at h <;> cases h; rename_i g; exact lv_lload_n hx hb hd rfl (rx_ld_at hl g) (k ls hl)
  · split at h <;> cases h; rename_i g; exact lv_lload hx hb hd (rx_ld_at hl g) (k ls hl)
  · split at h <;> cases h; rename_i g; exact lv_aload_n hx hb hd rfl (rx_ld_at hl g) (k ls hl)
  · split at h <;> cases h; rename_i g; exact lv_aload hx hb hd (rx_ld_at hl g) (k ls hl)
  · split at h
    · split at h <;> cases h; rename_i g; exact lv_istore_n hx hb hd rfl hl g (rx_s1_c ad lv _ (.int _)) k
    · cases h
  · split at h
    · split at h <;> cases h; rename_i g; exact lv_istore hx hb hd hl g (rx_s1_c ad lv _ (.int _)) k
    · cases h
  · split at h
    · split at h <;> cases h; rename_i g; exact lv_lstore_n hx hb hd rfl hl g (rx_s2_c ad lv _ (.long _)) k
    · cases h
  · split at h
    · split at h <;> cases h; rename_i g; exact lv_lstore hx hb hd hl g (rx_s2_c ad lv _ (.long _)) k
    · cases h
  · split at h
    · split at h <;> cases h; rename_i g; exact lv_astore_n hx hb hd rfl hl g (rx_s1_c ad lv _ (.ref _)) k
    · cases h
  · split at h
    · split at h <;> cases h; rename_i g; exact lv_astore hx hb hd hl g (rx_s1_c ad lv _ (.ref _)) k
    · cases h
  · split at h
    · split at h <;> cases h
      rename_i g0 g
      obtain ⟨j, hj⟩ := List.getElem?_of_mem (List.mem_map_of_mem (f := fun q : Nat × Value => (q.1, rx_v ad q.2)) (rx_ld_mem g0))
      exact lv_iinc hx hb hd hl hj rfl g (rx_s1_c ad lv _ (.int _)) k
    · cases h
  · cases h
set_option maxHeartbeats 4000000 in
theorem rx_jmp_ok {cc : ByteArray} {pc pc' len : Nat} {ls : Array Slot} {ad : Nat → Nat} {ins : Instr} {st st' : List Value} (h : rx_jmp ins pc st = some (pc', st')) (hx : p.tables.exec = Jvm.exec) (hb : c.code = cc) (hd : decode cc pc = .ok (ins, len)) (hlen : len = rx_len ins ∨ ∃ a b d f, ins = .tableswitch a b d f)
    (k : W p l e R s m args below meth c H locs cells slots Q (F0 m pc' ls (st'.map (rx_v ad)))) : W p l e R s m args below meth c H locs cells slots Q (F0 m pc ls (st.map (rx_v ad))) := by
  have hl3 : (∀ a b d f, ins ≠ .tableswitch a b d f) → len = rx_len ins := fun q => hlen.elim id (fun ⟨a, b, d, f, e⟩ => absurd e (q a b d f))
  unfold rx_jmp at h
  split at h
  · obtain rfl := hl3 (fun _ _ _ _ q => by cases q)
    split at h <;> cases h; rename_i g; exact lv_goto hx hb hd (rx_nat_ok g) k
  · obtain rfl := hl3 (fun _ _ _ _ q => by cases q)
    split at h
    · split at h <;> cases h; rename_i g; exact lv_if_eq hx hb hd (rx_nat_ok g) (fun q => by rw [if_pos q] at k; exact k) (fun q => by rw [if_neg q] at k; exact k)
    · cases h
  · obtain rfl := hl3 (fun _ _ _ _ q => by cases q)
    split at h
    · split at h <;> cases h; rename_i g; exact lv_if_ne hx hb hd (rx_nat_ok g) (fun q => by rw [if_neg q] at k; exact k) (fun q => by rw [if_pos q] at k; exact k)
    · cases h
  · obtain rfl := hl3 (fun _ _ _ _ q => by cases q)
    split at h
    · split at h <;> cases h; rename_i g; exact lv_if_lt hx hb hd (rx_nat_ok g) (fun q => by rw [if_pos q] at k; exact k) (fun q => by rw [if_neg q] at k; exact k)
    · cases h
  · obtain rfl := hl3 (fun _ _ _ _ q => by cases q)
    split at h
    · split at h <;> cases h; rename_i g; exact lv_if_ge hx hb hd (rx_nat_ok g) (fun q => by rw [if_pos q] at k; exact k) (fun q => by rw [if_neg q] at k; exact k)
    · cases h
  · obtain rfl := hl3 (fun _ _ _ _ q => by cases q)
    split at h
    · split at h <;> cases h; rename_i g; exact lv_if_gt hx hb hd (rx_nat_ok g) (fun q => by rw [if_pos q] at k; exact k) (fun q => by rw [if_neg q] at k; exact k)
    · cases h
  · obtain rfl := hl3 (fun _ _ _ _ q => by cases q)
    split at h
    · split at h <;> cases h; rename_i g; exact lv_if_le hx hb hd (rx_nat_ok g) (fun q => by rw [if_pos q] at k; exact k) (fun q => by rw [if_neg q] at k; exact k)
    · cases h
  · obtain rfl := hl3 (fun _ _ _ _ q => by cases q)
    split at h
    · split at h <;> cases h; rename_i g; exact lv_icmp_eq hx hb hd (rx_nat_ok g) (fun q => by rw [if_pos q] at k; exact k) (fun q => by rw [if_neg q] at k; exact k)
    · cases h
  · obtain rfl := hl3 (fun _ _ _ _ q => by cases q)
    split at h
    · split at h <;> cases h; rename_i g; exact lv_icmp_ne hx hb hd (rx_nat_ok g) (fun q => by rw [if_neg q] at k; exact k) (fun q => by rw [if_pos q] at k; exact k)
    · cases h
  · obtain rfl := hl3 (fun _ _ _ _ q => by cases q)
    split at h
    · split at h <;> cases h; rename_i g; exact lv_icmp_lt hx hb hd (rx_nat_ok g) (fun q => by rw [if_pos q] at k; exact k) (fun q => by rw [if_neg q] at k; exact k)
    · cases h
  · obtain rfl := hl3 (fun _ _ _ _ q => by cases q)
    split at h
    · split at h <;> cases h; rename_i g; exact lv_icmp_ge hx hb hd (rx_nat_ok g) (fun q => by rw [if_pos q] at k; exact k) (fun q => by rw [if_neg q] at k; exact k)
    · cases h
  · obtain rfl := hl3 (fun _ _ _ _ q => by cases q)
    split at h
    · split at h <;> cases h; rename_i g; exact lv_icmp_gt hx hb hd (rx_nat_ok g) (fun q => by rw [if_pos q] at k; exact k) (fun q => by rw [if_neg q] at k; exact k)
    · cases h
  · obtain rfl := hl3 (fun _ _ _ _ q => by cases q)
    split at h
    · split at h <;> cases h; rename_i g; exact lv_icmp_le hx hb hd (rx_nat_ok g) (fun q => by rw [if_pos q] at k; exact k) (fun q => by rw [if_neg q] at k; exact k)
    · cases h
  · split at h
    · split at h
      · split at h <;> cases h
        rename_i g1 g
        exact lv_tableOut hx hb hd g1 (rx_nat_ok g) k
      · split at h
        · split at h <;> cases h
          rename_i g1 _ off g2 g
          exact lv_tableIn hx hb hd (fun q => g1 (Or.inl q)) (fun q => g1 (Or.inr q)) g2 (rx_nat_ok g) k
        · cases h
    · cases h
  · cases h
end RXB
