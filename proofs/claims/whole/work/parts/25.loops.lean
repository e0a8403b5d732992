/-! LOADS AND STORES by what is known of locals; Arrays.fill -/
section RQ3
variable {P : rx_P} {mi F Lo cb sb pc pc' : Nat} {lv : rx_L} {st : List Value} {L : List va_E} {Q : ((Option Value) ⊕ String) → List va_E → Prop}
theorem rq_ildn {k : Fin 4} {x : Int32} (h : ri P mi pc (.iload_n k) pc') (hl : rx_ld lv k = some (.int x)) (kk : rq P mi F Lo cb sb pc' lv (.int x :: st) L Q) : rq P mi F Lo cb sb pc lv st L Q :=
  rq_loc h rfl (by unfold rx_loc; simp only [hl]) kk
theorem rq_ild {k : Nat} {x : Int32} (h : ri P mi pc (.iload k) pc') (hl : rx_ld lv k = some (.int x)) (kk : rq P mi F Lo cb sb pc' lv (.int x :: st) L Q) : rq P mi F Lo cb sb pc lv st L Q :=
  rq_loc h rfl (by unfold rx_loc; simp only [hl]) kk
theorem rq_lldn {k : Fin 4} {x : Int64} (h : ri P mi pc (.lload_n k) pc') (hl : rx_ld lv k = some (.long x)) (kk : rq P mi F Lo cb sb pc' lv (.long x :: st) L Q) : rq P mi F Lo cb sb pc lv st L Q :=
  rq_loc h rfl (by unfold rx_loc; simp only [hl]) kk
theorem rq_lld {k : Nat} {x : Int64} (h : ri P mi pc (.lload k) pc') (hl : rx_ld lv k = some (.long x)) (kk : rq P mi F Lo cb sb pc' lv (.long x :: st) L Q) : rq P mi F Lo cb sb pc lv st L Q :=
  rq_loc h rfl (by unfold rx_loc; simp only [hl]) kk
theorem rq_aldn {k : Fin 4} {a : Nat} (h : ri P mi pc (.aload_n k) pc') (hl : rx_ld lv k = some (.ref a)) (kk : rq P mi F Lo cb sb pc' lv (.ref a :: st) L Q) : rq P mi F Lo cb sb pc lv st L Q :=
  rq_loc h rfl (by unfold rx_loc; simp only [hl]) kk
theorem rq_ald {k : Nat} {a : Nat} (h : ri P mi pc (.aload k) pc') (hl : rx_ld lv k = some (.ref a)) (kk : rq P mi F Lo cb sb pc' lv (.ref a :: st) L Q) : rq P mi F Lo cb sb pc lv st L Q :=
  rq_loc h rfl (by unfold rx_loc; simp only [hl]) kk
theorem rq_istn {k : Fin 4} {x : Int32} {r : List Value} (h : ri P mi pc (.istore_n k) pc') (hm : Nat.blt k (rx_ml P mi) = true) (kk : rq P mi F Lo cb sb pc' (rx_s1 lv k (.int x)) r L Q) : rq P mi F Lo cb sb pc lv (.int x :: r) L Q :=
  rq_loc h rfl (by unfold rx_loc; simp only; exact if_pos (Nat.blt_eq.mp hm)) kk
theorem rq_ist {k : Nat} {x : Int32} {r : List Value} (h : ri P mi pc (.istore k) pc') (hm : Nat.blt k (rx_ml P mi) = true) (kk : rq P mi F Lo cb sb pc' (rx_s1 lv k (.int x)) r L Q) : rq P mi F Lo cb sb pc lv (.int x :: r) L Q :=
  rq_loc h rfl (by unfold rx_loc; simp only; exact if_pos (Nat.blt_eq.mp hm)) kk
theorem rq_inc {k : Nat} {n : Int} {x y : Int32} (h : ri P mi pc (.iinc k n) pc') (hl : rx_ld lv k = some (.int x)) (hm : Nat.blt k (rx_ml P mi) = true) (e : x + Int32.ofInt n = y) (kk : rq P mi F Lo cb sb pc' (rx_s1 lv k (.int y)) st L Q) : rq P mi F Lo cb sb pc lv st L Q := by
  subst e
  exact rq_loc h rfl (by unfold rx_loc; simp only [hl]; exact if_pos (Nat.blt_eq.mp hm)) kk
theorem rx_ld_self {lv : rx_L} {i : Nat} {v : Value} : rx_ld (rx_s1 lv i v) i = some v := by
  unfold rx_s1
  show (if i = i then some v else rx_ld _ i) = some v
  rw [if_pos rfl]
theorem rx_ld_ne {lv : rx_L} {i j : Nat} {v w : Value} (h : rx_ld lv j = some w) (hij : i ≠ j) (hw : w.category = 1 ∨ i ≠ j + 1) : rx_ld (rx_s1 lv i v) j = some w := by
  unfold rx_s1
  show (if i = j then some v else rx_ld _ j) = some w
  rw [if_neg hij]
  induction lv with
  | nil => cases h
  | cons q r ih =>
    unfold rx_ld at h
    rw [List.filter_cons]
    split at h
    · rename_i e
      cases h
      have hb : (!(q.1 == i) && !(q.1 + 1 == i && q.2.category == 2)) = true := by
        subst e
        rcases hw with hw | hw
        · rw [hw]
          simp [Ne.symm hij]
        · simp [Ne.symm hij, Ne.symm hw]
      rw [if_pos hb]
      unfold rx_ld
      rw [if_pos e]
    · rename_i e
      split
      · unfold rx_ld
        rw [if_neg e]
        exact ih h
      · exact ih h
theorem rz_upd.trans {L L1 L2 : List va_E} {a : Nat} {X Y Z : va_E} (h1 : rz_upd L a X L1) (h2 : rz_upd L1 a Y L2) (e : Y = Z) : rz_upd L a Z L2 := by
  subst e
  exact ⟨h2.1, fun b hb => (h2.2 b hb).trans (h1.2 b hb)⟩
theorem nI_one (i : Nat) : nI i + Int32.ofInt 1 = nI (i + 1) := by
  rw [nI_succ]
  rfl
end RQ3
/-- an array from i on to n filled with v -/
def rz_fi (f : Nat → Int32) (v : Int32) (i n : Nat) : Nat → Int32 := fun j => if i ≤ j ∧ j < n then v else f j
theorem rz_fi_none {f : Nat → Int32} {v : Int32} {i n : Nat} (h : n ≤ i) : rz_fi f v i n = f := by
  funext j
  unfold rz_fi
  rw [if_neg (by omega)]
theorem rz_fi_step {f : Nat → Int32} {v : Int32} {i n : Nat} (h : i < n) : rz_fi (upd f i v) v (i + 1) n = rz_fi f v i n := by
  funext j
  unfold rz_fi upd
  by_cases e : j = i
  · subst e
    simp [h]
  · have hiff : (i + 1 ≤ j ∧ j < n) ↔ (i ≤ j ∧ j < n) := by omega
    simp only [hiff, e, if_false]
