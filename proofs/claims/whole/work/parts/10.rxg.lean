/-! THE ABSTRACT MACHINE, part g: returns, calls, the run -/
abbrev rx_R : Type := ((Option Value) ⊕ String) × List va_E × Nat × Nat
abbrev rx_F : Type := Nat → Nat → Nat → Nat → rx_L → List Value → List va_E → Option rx_R
def rx_ret (ins : Instr) (st : List Value) (rt : Option FieldType) : Option (Option Value) := match ins with
  | .ireturn => match st with
    | [.int v] => match rt with
      | some ty => if narrow ty (.int v) = .int v then some (some (.int v)) else none
      | none => none
    | _ => none
  | .lreturn => match st with
    | [.long v] => match rt with
      | some .long => some (some (.long v))
      | _ => none
    | _ => none
  | .areturn => match st with
    | [.ref a] => match rt with
      | some (.object _) => some (some (.ref a))
      | some (.array _) => some (some (.ref a))
      | _ => none
    | _ => none
  | .return_ => match st with
    | [] => match rt with
      | none => some none
      | _ => none
    | _ => none
  | _ => none
def rx_words (st : List Value) : Nat := (st.map fun v => v.category).sum
def rx_take (n : Nat) (st : List Value) : Option (List Value × List Value) := if n ≤ st.length then some ((st.take n).reverse, st.drop n) else none
def rx_isa (P : rx_P) (L : List va_E) (b : Nat) (C : String) : Bool := match L[b]? with
  | some (.inr (cj, _)) => (match vwCl[cj]? with | some q => q.1 == C | none => false)
  | some (.inl _) => false
  | none => C == "java/lang/String" && (b == rx_K ((b - rx_B) / 2) && (rx_sb P ((b - rx_B) / 2)).isSome)
def rx_add (dc ds : Nat) : Option rx_R → Option rx_R
  | some (o, L, cc, ss) => some (o, L, dc + cc, ds + ss)
  | none => none
/-- a local that is known no more -/
def rx_rm (lv : rx_L) (i : Nat) : rx_L := lv.filter (fun q => !(q.1 == i) && !(q.1 + 1 == i && q.2.category == 2))
/-- a call of mj with the values as, the rest of the stack, in a frame at pc -/
def rx_inv (P : rx_P) (rc : rx_F) (th : Bool) (mi F Lo pc : Nat) (lv : rx_L) (mj : Nat) (as rest : List Value) (L : List va_E) : Option rx_R :=
  if 1 ≤ F ∧ rx_ml P mj + 19 ≤ Lo ∧ rx_words rest ≤ 8 ∧ (lg_sl as).length ≤ rx_ml P mj then
    match rc mj (F - 1) (Lo - (rx_ml P mj + 19)) 0 (lv_args 0 as) [] L with
    | some (.inl v, L1, c1, s1) => rx_add c1 s1 (rc mi F Lo (pc + 3) lv (v.toList ++ rest) L1)
    | some (.inr E, L1, c1, s1) => if th = true then (match rx_ht P mi pc E with
      | some (hpc, k) => rx_add c1 s1 (rc mi F Lo (hpc + 1) (rx_rm lv k) [] L1)
      | none => if rx_hh P mi = [] then some (.inr E, L1, c1, s1) else none) else none
    | none => none
  else none
/-- System.arraycopy between arrays of ints, or of longs -/
def rx_cpy (L : List va_E) (st : List Value) : Option (List Value × List va_E) := match st with
  | .int n :: .int dp :: .ref a :: .int sp :: .ref a0 :: r => match L[a0]?, L[a]? with
    | some (.inl (t0, n0, .inl f)), some (.inl (t1, n1, .inl g)) => if t0 = 0 ∧ t1 = 0 ∧ ¬ sp < 0 ∧ ¬ dp < 0 ∧ ¬ n < 0 ∧ sp.toNatClampNeg + n.toNatClampNeg ≤ n0 ∧ dp.toNatClampNeg + n.toNatClampNeg ≤ n1 then some (r, L.set a (.inl (0, n1, .inl (va_cpy f g sp.toNatClampNeg dp.toNatClampNeg n.toNatClampNeg)))) else none
    | some (.inl (t0, n0, .inr (.inl f))), some (.inl (t1, n1, .inr (.inl g))) => if t0 = 1 ∧ t1 = 1 ∧ ¬ sp < 0 ∧ ¬ dp < 0 ∧ ¬ n < 0 ∧ sp.toNatClampNeg + n.toNatClampNeg ≤ n0 ∧ dp.toNatClampNeg + n.toNatClampNeg ≤ n1 then some (r, L.set a (.inl (1, n1, .inr (.inl (va_cpy f g sp.toNatClampNeg dp.toNatClampNeg n.toNatClampNeg))))) else none
    | _, _ => none
  | _ => none
def rx_call (P : rx_P) (rc : rx_F) (mi F Lo pc : Nat) (lv : rx_L) (st : List Value) (L : List va_E) (ins : Instr) : Option rx_R := match ins with
  | .invokevirtual idx => match rx_ct P mi idx with
    | some (kd, mj, n) => match rx_take n st with
      | some (as, .ref b :: rest) => if kd = 0 ∧ rx_isa P L b (rx_yn P mj).cls = true then rx_inv P rc true mi F Lo pc lv mj (.ref b :: as) rest L else none
      | _ => none
    | none => none
  | .invokestatic idx => match rx_ct P mi idx with
    | some (kd, mj, n) => match rx_take n st with
      | some (as, rest) => if kd = 1 ∨ kd = 3 then rx_inv P rc true mi F Lo pc lv mj as rest L else if kd = 11 then rx_inv P rc false mi F Lo pc lv mj as rest L else none
      | none => none
    | none => if rx_qt P mi idx = some 7 then (match rx_cpy L st with
      | some (r, L') => if 1 ≤ F ∧ rx_words r + 18 ≤ Lo then rc mi F Lo (pc + 3) lv r L' else none
      | none => none) else if rx_qt P mi idx = some 8 then (match st with
      | .int y :: .int x :: r => if 1 ≤ F ∧ rx_words r + 13 ≤ Lo then rc mi F Lo (pc + 3) lv (.int (if x < y then y else x) :: r) L else none
      | _ => none) else if rx_qt P mi idx = some 9 then (match st with
      | .int y :: .int x :: r => if 1 ≤ F ∧ rx_words r + 13 ≤ Lo then rc mi F Lo (pc + 3) lv (.int (if y < x then y else x) :: r) L else none
      | _ => none) else none
  | .invokespecial idx => match rx_ct P mi idx with
    | some (kd, mj, n) => if kd = 6 then (match st with
        | .ref _ :: r => if 1 ≤ F ∧ rx_words r + 12 ≤ Lo then rc mi F Lo (pc + 3) lv r L else none
        | _ => none)
      else match rx_take n st with
        | some (as, .ref b :: rest) => if kd = 2 ∨ kd = 12 then rx_inv P rc false mi F Lo pc lv mj (.ref b :: as) rest L else none
        | _ => none
    | none => none
  | _ => none
def rx_go (P : rx_P) (rc : rx_F) (mi F Lo pc : Nat) (lv : rx_L) (st : List Value) (L : List va_E) : Option rx_R :=
  match rx_xt P mi pc with
  | some (E, nf, nl) => if st = [] ∧ nf < F ∧ nl ≤ Lo then some (.inr E, L, 1, 6) else none
  | none => match rx_cd P mi pc with
    | none => none
    | some ins => match rx_pure ins st with
      | some st' => rc mi F Lo (pc + rx_len ins) lv st' L
      | none => match rx_loc ins (rx_ml P mi) lv st with
        | some (lv', st') => rc mi F Lo (pc + rx_len ins) lv' st' L
        | none => match rx_jmp ins pc st with
          | some (pc', st') => rc mi F Lo pc' lv st' L
          | none => match rx_heap P mi ins st L with
            | some (st', L', dc, ds) => rx_add dc ds (rc mi F Lo (pc + rx_len ins) lv st' L')
            | none => match rx_ret ins st (rx_rt P mi) with
              | some v => some (.inl v, L, 0, 0)
              | none => rx_call P rc mi F Lo pc lv st L ins
def rx_run (P : rx_P) : Nat → rx_F
  | 0 => fun _ _ _ _ _ _ _ => none
  | f + 1 => rx_go P (rx_run P f)
