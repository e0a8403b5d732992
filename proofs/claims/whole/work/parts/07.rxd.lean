/-! THE ABSTRACT MACHINE, part d: a program's tables; what touches the heap -/
/-- names, bytes, room for locals, result, instructions by place; by place of the pool: fields read, fields written, calls, constants, classes made, arrays of references made, statics; by place of the code: what is thrown there -/
abbrev rx_P : Type := (Nat → MethodName) × (Nat → ByteArray) × (Nat → Nat) × (Nat → Option FieldType) × (Nat → Nat → Option Instr) × (Nat → Nat → Option (Nat × Nat)) × (Nat → Nat → Option (Nat × Nat × FieldType)) × (Nat → Nat → Option (Nat × Nat × Nat)) × (Nat → Nat → Option Value) × (Nat → Nat → Option (Nat × Nat × List Value)) × (Nat → Nat → Option Nat) × (Nat → Nat → Option Value) × (Nat → Nat → Option (String × Nat × Nat)) × (Nat → Option (List Int32)) × (Nat → Option (Nat × (Nat → Int32))) × (Nat → List (Nat × Nat × Nat × Nat)) × (Nat → Nat → String → Option (Nat × Fin 4))
def rx_yn (P : rx_P) : Nat → MethodName := P.1
def rx_cb (P : rx_P) : Nat → ByteArray := P.2.1
def rx_ml (P : rx_P) : Nat → Nat := P.2.2.1
def rx_rt (P : rx_P) : Nat → Option FieldType := P.2.2.2.1
def rx_cd (P : rx_P) : Nat → Nat → Option Instr := P.2.2.2.2.1
def rx_ft (P : rx_P) : Nat → Nat → Option (Nat × Nat) := P.2.2.2.2.2.1
def rx_pt (P : rx_P) : Nat → Nat → Option (Nat × Nat × FieldType) := P.2.2.2.2.2.2.1
def rx_ct (P : rx_P) : Nat → Nat → Option (Nat × Nat × Nat) := P.2.2.2.2.2.2.2.1
def rx_kt (P : rx_P) : Nat → Nat → Option Value := P.2.2.2.2.2.2.2.2.1
def rx_nt (P : rx_P) : Nat → Nat → Option (Nat × Nat × List Value) := P.2.2.2.2.2.2.2.2.2.1
def rx_qt (P : rx_P) : Nat → Nat → Option Nat := P.2.2.2.2.2.2.2.2.2.2.1
def rx_gt (P : rx_P) : Nat → Nat → Option Value := P.2.2.2.2.2.2.2.2.2.2.2.1
def rx_xt (P : rx_P) : Nat → Nat → Option (String × Nat × Nat) := P.2.2.2.2.2.2.2.2.2.2.2.2.1
/-- the bytes of the text constants, by their numbers -/
def rx_sb (P : rx_P) : Nat → Option (List Int32) := P.2.2.2.2.2.2.2.2.2.2.2.2.2.1
/-- arrays of ints that nobody writes, by their addresses -/
def rx_ci (P : rx_P) : Nat → Option (Nat × (Nat → Int32)) := P.2.2.2.2.2.2.2.2.2.2.2.2.2.2.1
/-- the handlers of a method; where what is thrown at a place is caught, and into which local -/
def rx_hh (P : rx_P) : Nat → List (Nat × Nat × Nat × Nat) := P.2.2.2.2.2.2.2.2.2.2.2.2.2.2.2.1
def rx_ht (P : rx_P) : Nat → Nat → String → Option (Nat × Fin 4) := P.2.2.2.2.2.2.2.2.2.2.2.2.2.2.2.2
def rx_V (a : Nat) : Nat := rx_B + 2 * a + 1
def rx_dv : ArrayType → Option (Nat × rx_Ar)
  | .int => some (0, .inl (fun _ => 0))
  | .long => some (1, .inr (.inl (fun _ => 0)))
  | .byte => some (2, .inl (fun _ => 0))
  | .boolean => some (3, .inl (fun _ => 0))
  | _ => none
/-- what touches the heap: the stack, the heap, the cells and the slots that are new -/
def rx_heap (P : rx_P) (mi : Nat) (ins : Instr) (st : List Value) (L : List va_E) : Option (List Value × List va_E × Nat × Nat) := match ins with
  | .ldc idx => match rx_kt P mi idx with | some (.int v) => some (.int v :: st, L, 0, 0) | some (.ref k) => some (.ref k :: st, L, 0, 0) | _ => none
  | .ldc_w idx => match rx_kt P mi idx with | some (.int v) => some (.int v :: st, L, 0, 0) | some (.ref k) => some (.ref k :: st, L, 0, 0) | _ => none
  | .ldc2_w idx => match rx_kt P mi idx with | some (.long v) => some (.long v :: st, L, 0, 0) | _ => none
  | .getstatic idx => match rx_gt P mi idx with | some v => some (v :: st, L, 0, 0) | none => none
  | .getfield idx => match st with
    | .ref a :: r => match rx_ft P mi idx with
      | some (ci, k) => match L[a]? with
        | some (.inr (cj, fs)) => if ci = cj then (match fs[k]? with | some v => some (v :: r, L, 0, 0) | none => none) else none
        | some (.inl _) => none
        | none => if ci = 0 ∧ k < 2 ∧ a = rx_K ((a - rx_B) / 2) ∧ (rx_sb P ((a - rx_B) / 2)).isSome then (if k = 0 then some (.ref (rx_V ((a - rx_B) / 2)) :: r, L, 0, 0) else some (.int 0 :: r, L, 0, 0)) else none
      | none => none
    | _ => none
  | .putfield idx => match st with
    | v :: .ref a :: r => match rx_pt P mi idx with
      | some (ci, k, ty) => match L[a]? with
        | some (.inr (cj, fs)) => if ci = cj ∧ k < fs.length ∧ narrow ty v = v ∧ fits ty v = true then some (r, L.set a (.inr (ci, fs.set k v)), 0, 0) else none
        | _ => none
      | none => none
    | _ => none
  | .iaload => match st with
    | .int i :: .ref a :: r => match L[a]? with
      | some (.inl (t, n, .inl f)) => if t = 0 ∧ ¬ (i < 0 ∨ n ≤ i.toNatClampNeg) then some (.int (f i.toNatClampNeg) :: r, L, 0, 0) else none
      | some _ => none
      | none => match rx_ci P a with
        | some (n, f) => if ¬ (i < 0 ∨ n ≤ i.toNatClampNeg) then some (.int (f i.toNatClampNeg) :: r, L, 0, 0) else none
        | none => none
    | _ => none
  | .baload => match st with
    | .int i :: .ref a :: r => match L[a]? with
      | some (.inl (t, n, .inl f)) => if (t = 2 ∨ t = 3) ∧ ¬ (i < 0 ∨ n ≤ i.toNatClampNeg) then some (.int (f i.toNatClampNeg) :: r, L, 0, 0) else none
      | some _ => none
      | none => match rx_sb P ((a - rx_B) / 2) with
        | some bs => if a = rx_V ((a - rx_B) / 2) ∧ ¬ (i < 0 ∨ bs.length ≤ i.toNatClampNeg) then some (.int (bs.getD i.toNatClampNeg 0) :: r, L, 0, 0) else none
        | none => none
    | _ => none
  | .laload => match st with
    | .int i :: .ref a :: r => match L[a]? with
      | some (.inl (t, n, .inr (.inl f))) => if t = 1 ∧ ¬ (i < 0 ∨ n ≤ i.toNatClampNeg) then some (.long (f i.toNatClampNeg) :: r, L, 0, 0) else none
      | _ => none
    | _ => none
  | .aaload => match st with
    | .int i :: .ref a :: r => match L[a]? with
      | some (.inl (t, n, .inr (.inr (.inr (.inr f))))) => if 4 ≤ t ∧ t < 7 ∧ ¬ (i < 0 ∨ n ≤ i.toNatClampNeg) then some (va_rf (f i.toNatClampNeg) :: r, L, 0, 0) else none
      | _ => none
    | _ => none
  | .iastore => match st with
    | .int x :: .int i :: .ref a :: r => match L[a]? with
      | some (.inl (t, n, .inl f)) => if t = 0 ∧ ¬ (i < 0 ∨ n ≤ i.toNatClampNeg) then some (r, L.set a (.inl (t, n, .inl (upd f i.toNatClampNeg x))), 0, 0) else none
      | _ => none
    | _ => none
  | .bastore => match st with
    | .int x :: .int i :: .ref a :: r => match L[a]? with
      | some (.inl (t, n, .inl f)) => if t = 2 ∧ ¬ (i < 0 ∨ n ≤ i.toNatClampNeg) then some (r, L.set a (.inl (t, n, .inl (upd f i.toNatClampNeg (vp_nar .byte x)))), 0, 0)
          else if t = 3 ∧ ¬ (i < 0 ∨ n ≤ i.toNatClampNeg) then some (r, L.set a (.inl (t, n, .inl (upd f i.toNatClampNeg (vp_nar .boolean x)))), 0, 0) else none
      | _ => none
    | _ => none
  | .lastore => match st with
    | .long x :: .int i :: .ref a :: r => match L[a]? with
      | some (.inl (t, n, .inr (.inl f))) => if t = 1 ∧ ¬ (i < 0 ∨ n ≤ i.toNatClampNeg) then some (r, L.set a (.inl (t, n, .inr (.inl (vp_updL f i.toNatClampNeg x)))), 0, 0) else none
      | _ => none
    | _ => none
  | .aastore => match st with
    | .ref v :: .int i :: .ref a :: r => match L[a]? with
      | some (.inl (t, n, .inr (.inr (.inr (.inr f))))) => if ¬ (i < 0 ∨ n ≤ i.toNatClampNeg) then (match L[v]? with
          | some (.inr (ci, _)) => if (vwCl[ci]?).map (fun q => FieldType.object q.1) = rx_ty[t]? ∧ ci < 16 then some (r, L.set a (.inl (t, n, .inr (.inr (.inr (.inr (va_up f i.toNatClampNeg (some v))))))), 0, 0) else none
          | some (.inl _) => none
          | none => if t = 6 ∧ v = rx_K ((v - rx_B) / 2) ∧ (rx_sb P ((v - rx_B) / 2)).isSome then some (r, L.set a (.inl (t, n, .inr (.inr (.inr (.inr (va_up f i.toNatClampNeg (some v))))))), 0, 0) else none) else none
      | _ => none
    | _ => none
  | .arraylength => match st with
    | .ref a :: r => match L[a]? with
      | some (.inl (t, n, _)) => if t < 7 then some (.int (Int32.ofNat n) :: r, L, 0, 0) else none
      | some (.inr _) => none
      | none => match rx_ci P a with
        | some (n, _) => some (.int (Int32.ofNat n) :: r, L, 0, 0)
        | none => match rx_sb P ((a - rx_B) / 2) with
          | some bs => if a = rx_V ((a - rx_B) / 2) then some (.int (Int32.ofNat bs.length) :: r, L, 0, 0) else none
          | none => none
    | _ => none
  | .new idx => match rx_nt P mi idx with
    | some (ci, N, fs) => if L.length < rx_B then some (.ref L.length :: st, L ++ [.inr (ci, fs)], 1, N) else none
    | none => none
  | .newarray ty => match st with
    | .int n :: r => match rx_dv ty with
      | some (t, x) => if ¬ n < 0 ∧ n.toNatClampNeg * 8 ≤ 536870912 ∧ L.length < rx_B then some (.ref L.length :: r, L ++ [.inl (t, n.toNatClampNeg, x)], 1, n.toNatClampNeg) else none
      | none => none
    | _ => none
  | .anewarray idx => match st with
    | .int n :: r => match rx_qt P mi idx with
      | some t => if ¬ n < 0 ∧ n.toNatClampNeg * 8 ≤ 536870912 ∧ L.length < rx_B ∧ t < 7 then some (.ref L.length :: r, L ++ [.inl (t, n.toNatClampNeg, .inr (.inr (.inr (.inr (fun _ => none)))))], 1, n.toNatClampNeg) else none
      | none => none
    | _ => none
  | _ => none
theorem rx_nar {ty : FieldType} {v : Value} (ad : Nat → Nat) (h : narrow ty v = v) : narrow ty (rx_v ad v) = rx_v ad v := by
  cases v <;> first | exact h | (cases ty <;> rfl)
theorem rx_fit {ty : FieldType} {v : Value} (ad : Nat → Nat) (h : fits ty v = true) : fits ty (rx_v ad v) = true := by
  cases v <;> first | exact h | (cases ty <;> first | exact h | rfl)
theorem rx_rf (ad : Nat → Nat) (x : Option Nat) : va_rf (x.map ad) = rx_v ad (va_rf x) := by cases x <;> rfl
