/-! THE ABSTRACT MACHINE, part a: values, cells and worlds with addresses of their own; instructions that touch neither heap nor locals -/
/-- a value of the abstract machine as the machine's: its addresses are looked up -/
def rx_v (ad : Nat → Nat) : Value → Value
  | .ref k => .ref (ad k)
  | v => v
theorem rx_v_cat (ad : Nat → Nat) (v : Value) : (rx_v ad v).category = v.category := by cases v <;> rfl
def rx_len : Instr → Nat
  | .bipush _ => 2
  | .sipush _ => 3
  | .iload _ => 2
  | .lload _ => 2
  | .aload _ => 2
  | .istore _ => 2
  | .lstore _ => 2
  | .astore _ => 2
  | .iinc _ _ => 3
  | .ifCond _ _ => 3
  | .if_icmp _ _ => 3
  | .if_acmp _ _ => 3
  | .ifnull _ => 3
  | .ifnonnull _ => 3
  | .goto _ => 3
  | .getfield _ => 3
  | .putfield _ => 3
  | .getstatic _ => 3
  | .new _ => 3
  | .newarray _ => 2
  | .anewarray _ => 3
  | .ldc _ => 2
  | .ldc_w _ => 3
  | .ldc2_w _ => 3
  | .invokevirtual _ => 3
  | .invokespecial _ => 3
  | .invokestatic _ => 3
  | .checkcast _ => 3
  | _ => 1
/-- what touches the stack alone -/
def rx_pure (ins : Instr) (st : List Value) : Option (List Value) := match ins with
  | .iconst n => some (.int (Int32.ofInt n) :: st)
  | .bipush n => some (.int (Int8.ofInt n).toInt32 :: st)
  | .sipush n => some (.int (Int16.ofInt n).toInt32 :: st)
  | .lconst n => some (.long (Int64.ofNat (n : Nat)) :: st)
  | .aconst_null => some (.null :: st)
  | .iadd => match st with | .int y :: .int x :: r => some (.int (x + y) :: r) | _ => none
  | .isub => match st with | .int y :: .int x :: r => some (.int (x - y) :: r) | _ => none
  | .imul => match st with | .int y :: .int x :: r => some (.int (x * y) :: r) | _ => none
  | .iand => match st with | .int y :: .int x :: r => some (.int (x &&& y) :: r) | _ => none
  | .ior => match st with | .int y :: .int x :: r => some (.int (x ||| y) :: r) | _ => none
  | .ixor => match st with | .int y :: .int x :: r => some (.int (x ^^^ y) :: r) | _ => none
  | .idiv => match st with | .int y :: .int x :: r => if y = 0 then none else some (.int (x / y) :: r) | _ => none
  | .irem => match st with | .int y :: .int x :: r => if y = 0 then none else some (.int (x - x / y * y) :: r) | _ => none
  | .ineg => match st with | .int x :: r => some (.int (-x) :: r) | _ => none
  | .ladd => match st with | .long y :: .long x :: r => some (.long (x + y) :: r) | _ => none
  | .lsub => match st with | .long y :: .long x :: r => some (.long (x - y) :: r) | _ => none
  | .lmul => match st with | .long y :: .long x :: r => some (.long (x * y) :: r) | _ => none
  | .land => match st with | .long y :: .long x :: r => some (.long (x &&& y) :: r) | _ => none
  | .lor => match st with | .long y :: .long x :: r => some (.long (x ||| y) :: r) | _ => none
  | .lxor => match st with | .long y :: .long x :: r => some (.long (x ^^^ y) :: r) | _ => none
  | .ldiv => match st with | .long y :: .long x :: r => if y = 0 then none else some (.long (x / y) :: r) | _ => none
  | .lrem => match st with | .long y :: .long x :: r => if y = 0 then none else some (.long (x - x / y * y) :: r) | _ => none
  | .lneg => match st with | .long x :: r => some (.long (-x) :: r) | _ => none
  | .ishl => match st with | .int y :: .int x :: r => some (.int (x <<< (y &&& 31)) :: r) | _ => none
  | .ishr => match st with | .int y :: .int x :: r => some (.int (x >>> (y &&& 31)) :: r) | _ => none
  | .iushr => match st with | .int y :: .int x :: r => some (.int (x.toUInt32 >>> (y.toUInt32 &&& Int32.toUInt32 31)).toInt32 :: r) | _ => none
  | .lshl => match st with | .int y :: .long x :: r => some (.long (x <<< (y.toInt64 &&& 63)) :: r) | _ => none
  | .lshr => match st with | .int y :: .long x :: r => some (.long (x >>> (y.toInt64 &&& 63)) :: r) | _ => none
  | .lushr => match st with | .int y :: .long x :: r => some (.long (x.toUInt64 >>> (y.toInt64.toUInt64 &&& Int64.toUInt64 63)).toInt64 :: r) | _ => none
  | .i2l => match st with | .int x :: r => some (.long x.toInt64 :: r) | _ => none
  | .l2i => match st with | .long x :: r => some (.int x.toInt32 :: r) | _ => none
  | .i2b => match st with | .int x :: r => some (.int x.toInt8.toInt32 :: r) | _ => none
  | .i2s => match st with | .int x :: r => some (.int x.toInt16.toInt32 :: r) | _ => none
  | .i2c => match st with | .int x :: r => some (.int (x.toUInt32 % 65536).toInt32 :: r) | _ => none
  | .lcmp => match st with | .long y :: .long x :: r => some (.int (lg_cmp x y) :: r) | _ => none
  | .dup => match st with | a :: r => if a.category = 1 then some (a :: a :: r) else none | _ => none
  | .pop => match st with | a :: r => if a.category = 1 then some r else none | _ => none
  | .dup_x1 => match st with | a :: b :: r => if a.category = 1 ∧ b.category = 1 then some (a :: b :: a :: r) else none | _ => none
  | .dup_x2 => match st with | a :: b :: d :: r => if a.category = 1 ∧ b.category = 1 ∧ d.category = 1 then some (a :: b :: d :: a :: r) else none | _ => none
  | .dup2 => match st with | a :: b :: r => if a.category = 1 ∧ b.category = 1 then some (a :: b :: a :: b :: r) else none | _ => none
  | _ => none
section RXA
variable {p : Program} {l : Launch} {e : Env} {R : Room} {s : State} {m : MethodId} {args : Array Value} {below : List Frame} {meth : Method} {c : Code} {H : Heap} {locs : List Loc} {cells slots : Nat} {Q : State → Prop}
set_option maxHeartbeats 4000000 in
theorem rx_pure_ok {cc : ByteArray} {pc : Nat} {ls : Array Slot} {ad : Nat → Nat} {ins : Instr} {st st' : List Value} (h : rx_pure ins st = some st') (hx : p.tables.exec = Jvm.exec) (hb : c.code = cc) (hd : decode cc pc = .ok (ins, rx_len ins))
    (k : W p l e R s m args below meth c H locs cells slots Q (F0 m (pc + rx_len ins) ls (st'.map (rx_v ad)))) : W p l e R s m args below meth c H locs cells slots Q (F0 m pc ls (st.map (rx_v ad))) := by
  unfold rx_pure at h
  split at h
  · cases h; exact lv_iconst hx hb hd rfl k
  · cases h; exact lv_bipush hx hb hd rfl k
  · cases h; exact lv_sipush hx hb hd rfl k
  · cases h; exact lv_lconst hx hb hd rfl k
  · cases h; exact lv_null hx hb hd k
  · split at h <;> cases h; exact lv_iadd hx hb hd k
  · split at h <;> cases h; exact lv_isub hx hb hd k
  · split at h <;> cases h; exact lv_imul hx hb hd k
  · split at h <;> cases h; exact lv_iand hx hb hd k
  · split at h <;> cases h; exact lv_ior hx hb hd k
  · split at h <;> cases h; exact lv_ixor hx hb hd k
  · split at h
    · split at h
      · cases h
      · rename_i hne; cases h; exact lv_idiv hx hb hd hne k
    · cases h
  · split at h
    · split at h
      · cases h
      · rename_i hne; cases h; exact lv_irem hx hb hd hne k
    · cases h
  · split at h <;> cases h; exact lv_ineg hx hb hd k
  · split at h <;> cases h; exact lv_ladd hx hb hd k
  · split at h <;> cases h; exact lv_lsub hx hb hd k
  · split at h <;> cases h; exact lv_lmul hx hb hd k
  · split at h <;> cases h; exact lv_land hx hb hd k
  · split at h <;> cases h; exact lv_lor hx hb hd k
  · split at h <;> cases h; exact lv_lxor hx hb hd k
  · split at h
    · split at h
      · cases h
      · rename_i hne; cases h; exact lv_ldiv hx hb hd hne k
    · cases h
  · split at h
    · split at h
      · cases h
      · rename_i hne; cases h; exact lv_lrem hx hb hd hne k
    · cases h
  · split at h <;> cases h; exact lv_lneg hx hb hd k
  · split at h <;> cases h; exact lv_ishl hx hb hd k
  · split at h <;> cases h; exact lv_ishr hx hb hd k
  · split at h <;> cases h; exact lv_iushr hx hb hd rfl k
  · split at h <;> cases h; exact lv_lshl hx hb hd rfl k
  · split at h <;> cases h; exact lv_lshr hx hb hd rfl k
  · split at h <;> cases h; exact lv_lushr hx hb hd rfl k
  · split at h <;> cases h; exact lv_i2l hx hb hd rfl k
  · split at h <;> cases h; exact lv_l2i hx hb hd rfl k
  · split at h <;> cases h; exact lv_i2b hx hb hd rfl k
  · split at h <;> cases h; exact lv_i2s hx hb hd rfl k
  · split at h <;> cases h; exact lv_i2c hx hb hd rfl k
  · split at h <;> cases h; exact W.lcmp hx hb hd k
  · split at h
    · split at h
      · rename_i hc; cases h; exact lv_dup hx hb hd (by rw [rx_v_cat]; exact hc) k
      · cases h
    · cases h
  · split at h
    · split at h
      · rename_i hc; cases h; exact lv_pop hx hb hd (by rw [rx_v_cat]; exact hc) k
      · cases h
    · cases h
  · split at h
    · split at h
      · rename_i hc; cases h; exact lv_dup_x1 hx hb hd (by rw [rx_v_cat]; exact hc.1) (by rw [rx_v_cat]; exact hc.2) k
      · cases h
    · cases h
  · split at h
    · split at h
      · rename_i hc; cases h; exact lv_dup_x2 hx hb hd (by rw [rx_v_cat]; exact hc.1) (by rw [rx_v_cat]; exact hc.2.1) (by rw [rx_v_cat]; exact hc.2.2) k
      · cases h
    · cases h
  · split at h
    · split at h
      · rename_i hc; cases h; exact lv_dup2_11 hx hb hd (by rw [rx_v_cat]; exact hc.1) (by rw [rx_v_cat]; exact hc.2) k
      · cases h
    · cases h
  · cases h
end RXA
