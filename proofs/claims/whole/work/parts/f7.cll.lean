/-! READING all CLASSES -/
section CLL
variable {n i i0 j N k m b U tot oc kc mc cc : Nat} {c d u v q w c0 u0 : cS} {K P : Nat → Nat} {V : Nat → Int64}
def lpJ (n : Nat) (b : Int32) (X : (cS → Option ((Int32 × cS) ⊕ (cS ⊕ (cS ⊕ cS)))) → cS → Option ((Int32 × cS) ⊕ (cS ⊕ (cS ⊕ cS)))) (s2 : Int32 × cS) : Option ((Int32 × cS) ⊕ (cS ⊕ (cS ⊕ cS))) :=
    if 4000 ≤ s2.1 then
      some (.inr (.inl s2.2))
    else
      Option.bind (d_43 n s2.2) (fun v3 =>
      if v3 = b then
        X (fun r34 =>
          lt (s2.1 + 1 : Int32) (fun v37 =>
          some (.inl (v37, r34)))) s2.2
      else
        some (.inr (.inl s2.2)))
theorem stm_lq {I : cS → cS → Nat → Prop} {X : (cS → Option ((Int32 × cS) ⊕ (cS ⊕ (cS ⊕ cS)))) → cS → Option ((Int32 × cS) ⊕ (cS ⊕ (cS ⊕ cS)))} {Y : cS → Option cS} (hn : 10000 ≤ n) (hb : b < 31) (hI : ∀ c u i, I c u i → PSI K P V N c u i ∧ sx QRc c0 c ∧ sx QRu u0 u) (hst : ∀ c u i J, I c u i → K i = 200 + b → (∃ d q i', (∀ Q, wp (J d) Q → wp (X J c) Q) ∧ Y (atR u (i + 1)) = some q ∧ i < i' ∧ I d q i') ∨ (∃ z q, X J c = some (.inr (.inr (.inr z))) ∧ Y (atR u (i + 1)) = some q ∧ FLR c u z q)) (h0 : I c u i) : jw (whl (lpJ n (nI (200 + b)) X) n (0, c)) (whl (lpR n (nI b) Y) n u) (fun r q => (∃ d i', r = .inl d ∧ i ≤ i' ∧ I d q i' ∧ ¬ K i' = 200 + b) ∨ (∃ z, r = .inr (.inr z) ∧ FLR c0 u0 z q)) := by
  have hP := (hI _ _ _ h0).1
  have hN := hP.1.1
  refine jw_whf (fun m (s : Int32 × cS) t => ∃ i' k, s.1 = nI k ∧ k ≤ i' ∧ i ≤ i' ∧ m = N - i' ∧ I s.2 t i') ?_ n n (N - i) _ _ (by omega) (by omega) ⟨i, 0, rfl, by omega, Nat.le_refl _, rfl, h0⟩
  rintro m ⟨s1, w⟩ v ⟨i', k, g1, g2, g3, g4, g5⟩
  dsimp only at g1 g5
  subst g1
  obtain ⟨p1, p2, p3⟩ := hI _ _ _ g5
  have hkK := PSI_K p1
  have h102 := e102 (n := n) (b := b) p1 hb
  have h43 := e43 (n := n) p1
  by_cases e : K i' = 200 + b
  rotate_left
  · rw [if_neg e] at h102
    refine jw_of (a := .inr (.inl w)) (b := .inr v) ?_ ?_ (Or.inr (Or.inl ⟨_, _, rfl, rfl, Or.inl ⟨w, i', rfl, g3, g5, e⟩⟩))
    · unfold lpJ
      by_cases e4 : (4000 : Int32) ≤ nI k
      · exact eq_wp (wpt e4 rfl)
      · exact eq_wp (wpf e4 (wpe h43 (wpf (fun z => e ((nI_eq (by omega) (by omega)).mp z)) rfl)))
    · unfold lpR
      exact eq_wp (wpt p1.2.2.2.2 (wpe h102 (wpt rfl rfl)))
  rw [if_pos e] at h102
  have hlt := PSI_lt p1 (by omega)
  have hR : ∀ {q : cS}, Y (atR v (i' + 1)) = some q → lpR n (nI b) Y v = some (.inl q) := fun {q} h => by
    unfold lpR
    exact eq_wp (wpt p1.2.2.2.2 (wpe h102 (wpf (show ¬ (1 : Int32) = 0 by decide) (wpe h rfl))))
  have hC : ∀ {Q : ((Int32 × cS) ⊕ (cS ⊕ (cS ⊕ cS))) → Prop}, wp (X (fun r34 => lt (nI k + 1 : Int32) (fun v37 => some (.inl (v37, r34)))) w) Q → wp (lpJ n (nI (200 + b)) X (nI k, w)) Q := fun {Q} h => by
    unfold lpJ
    dsimp only
    exact wpf (by simp (disch := first | omega | decide) only [↓neg1, nlit, rI, rL, rI2, rL1, nI_add, pk_mul, sbT, dvT, nmd, ixT, ↓ibT, ltT, ltF, leT, leF, eqT, eqF, nM_ltT, nM_ltF, nM_leT, nM_leF, nM_eqF, nM_eqF', nbT0, nbT1, oI_s, oI_n, natF, natT, nltT, nltF, nleT, nleF, ↓reduceIte, lgc, not_true_eq_false, not_false_eq_true, or_false, false_or, or_true, true_or, and_true, true_and, and_false, false_and, ne_eq, eq_self, or_self, and_self]) (wpe h43 (wpt (by rw [e]) h))
  rcases hst w v i' (fun r34 => lt (nI k + 1 : Int32) (fun v37 => some (.inl (v37, r34)))) g5 e with ⟨d, q, i2, y1, y2, z1, z2⟩ | ⟨z, q, y1, y2, hf⟩
  · have hN2 := (hI _ _ _ z2).1.2.1
    refine hC (y1 _ (wpl ?_))
    dsimp only
    rw [nI_1]
    exact wp_of rfl (wp_of (hR y2) (Or.inl ⟨_, _, N - i2, rfl, rfl, by omega, i2, k + 1, rfl, by omega, by omega, rfl, z2⟩))
  · exact hC (wp_of y1 (wp_of (hR y2) (Or.inr (Or.inr ⟨_, _, q, rfl, rfl, lpR_w hf.2.2.1, Or.inr ⟨z, rfl, FLR_tr hf p2 p3⟩⟩))))
/-- one CLASS, the class -/
def clX (n : Nat) (J : cS → Option ((Int32 × cS) ⊕ (cS ⊕ (cS ⊕ cS)))) (c : cS) : Option ((Int32 × cS) ⊕ (cS ⊕ (cS ⊕ cS))) :=
        Option.bind (d_269 n c) (Sum.elim (fun r4 =>
        Option.bind (whl (cmC n) n (0, r4))
        (Sum.elim (fun x33 : cS =>
          Option.bind (d_257 n 125 x33) (Sum.elim (fun r34 =>
          J r34)
          (fun z35 => some (.inr (.inr (.inr z35))))))
        (fun x39 : (cS) ⊕ cS =>
          some (.inr (.inr x39)))))
        (fun z5 => some (.inr (.inr (.inr z5)))))
theorem d45_s : d_45 n c = Option.bind (whl (lpJ n 202 (clX n)) n (0, c))
  (Sum.elim (fun x40 : cS =>
    jn (fun p41 : cS =>
      some (.inl p41))
    (fun j154 =>
    jn (fun p42 : Unit =>
      Option.bind (d_42 n x40) (fun v43 =>
      Option.bind (d_41 n 2 v43 x40) (Sum.elim (fun r44 =>
      j154 r44)
      (fun z45 => some (.inr z45)))))
    (fun j145 =>
    if (x40.1 7 10) = 0 then
      j145 ()
    else
      Option.bind (d_43 n x40) (fun v46 =>
      if v46 = 0 then
        j154 x40
      else
        j145 ()))))
  (fun x47 : (cS) ⊕ cS =>
    some x47)) := rfl
def clR (n : Nat) (x31 : cS) : Option cS :=
          jn (fun p32 : cS =>
            Option.bind (whl (lpR n 2 (d_403 n)) n p32)
            (fun x36 : cS =>
              jn (fun p37 : cS =>
                some p37)
              (fun j179 =>
              if (x36.1 174 13) = 0 then
                if ib (x36.1 174 67) 4001 then
                if (x36.1 178 (ix (x36.1 174 67))) = 5 then
                  j179 x36
                else
                  Option.bind (d_103 n x36) (fun r39 =>
                  j179 r39)
                else none
              else
                j179 x36)))
          (fun j133 =>
          if (x31.1 174 13) = 0 then
            Option.bind (d_100 n 2 x31) (fun v40 =>
            if v40 = 0 then
              Option.bind (d_103 n x31) (fun r41 =>
              j133 r41)
            else
              j133 x31)
          else
            j133 x31)
theorem CLV_at (h : CLV K P V N c u oc kc mc cc U tot i) (hk : K i ≠ 0) : CLV K P V N (atC c (i + 1)) (atR u (i + 1)) oc kc mc cc U tot (i + 1) := by
  have hP := PSI_s h.1 hk
  have hlt := PSI_lt h.1 hk
  have hPP := TKR_le h.1.1 (show i ≤ i + 1 by omega) hlt
  have C : ∀ A l, ¬ (A = 145 ∧ l = 7) → (atC c (i + 1)).1 A l = c.1 A l := fun A l z => by
    unfold atC
    rw [rI, if_neg z]
  have R : ∀ A l, ¬ (A = 174 ∧ l = 67) → (atR u (i + 1)).1 A l = u.1 A l := fun A l z => by
    unfold atR
    rw [rI, if_neg z]
  obtain ⟨g1, g2, ⟨g3, g4, g5, g6, g7, g8⟩, ⟨a1, a2, a3, g9⟩, ⟨g10, g11, g12⟩, g13, g14, g15, g16⟩ := h
  have hB := FRN_B g2
  have hkc := g3.2.1
  have eM : ∀ A, A ≠ 174 → (atR u (i + 1)).1 A = u.1 A := fun A z => funext fun l => R A l (by omega)
  have eqM : ∀ k, qM (atR u (i + 1)) k = qM u k := fun k => by unfold qM; rw [eM _ (by omega)]
  have efM : ∀ k, fM (atR u (i + 1)) k = fM u k := fun k => by unfold fM; rw [eM _ (by omega)]
  have epM : ∀ k, pM (atR u (i + 1)) k = pM u k := fun k => by unfold pM; rw [eM _ (by omega)]
  have eac : ∀ k, acn (atR u (i + 1)) k = acn u k := fun k => by unfold acn; rw [eM _ (by omega)]
  have ecc : ccn (atR u (i + 1)) = ccn u := by unfold ccn; rw [R _ _ (by omega)]
  have emt : ∀ M, mtb (atR u (i + 1)) M = mtb u M := fun M => by unfold mtb; rw [ecc, eqM]
  refine ⟨hP, FRN_cg g2 (Nat.le_refl _) (fun A l z => ⟨C _ _ (by unfold fcR mkR1 at z; unfold kA at z; omega), rfl⟩) (fun A l z => ⟨R _ _ ?_, rfl⟩), ⟨NMQ_cg g3 (fun l _ => C _ _ (by omega)) (fun _ _ => rfl) (fun _ _ => rfl) (fun l _ => R _ _ (by omega)) (fun _ _ => rfl) (fun _ _ => rfl), by rw [C _ _ (by omega)]; exact g4, by rw [R _ _ (by omega)]; exact g5, g6, by rw [C _ _ (by omega)]; exact g7, by rw [R _ _ (by omega)]; exact g8⟩, ⟨by rw [C _ _ (by omega)]; exact a1, by rw [C _ _ (by omega)]; exact a2, by rw [C _ _ (by omega)]; exact a3, by omega⟩, ⟨by rw [C _ _ (by omega)]; exact g10, by omega, ?_⟩, fun k hk => ⟨?_, ?_, ?_⟩, fun M M' z1 z2 z3 => ?_, fun p hp hz => ?_, fun a z1 z2 => by rw [C _ _ (by omega)]; exact g16 a z1 z2⟩
  · unfold fuR at z
    rcases z with ⟨z1, z2, z⟩ | z | z | ⟨r, z1, z⟩
    · omega
    · omega
    · omega
    · unfold ruR at z
      omega
  · rw [wgM_cg (n := 96) (u := u) (fun M _ => ⟨emt M, fun _ => ⟨eac M, fun l _ => R _ _ (by omega)⟩⟩) 96 (Nat.le_refl _)]
    omega
  · obtain ⟨y1, y2, y3, y4⟩ := (g13 k hk).1
    unfold CRD
    rw [C _ _ (by omega), R _ _ (by omega)]
    exact ⟨y1, y2, y3, y4⟩
  · refine CFD_cg (g13 k hk).2.1 hB (Nat.le_refl _) (fun A l z => ⟨C _ _ (by unfold mkR1 at z; omega), rfl⟩) (fun A l z => ⟨R _ _ ?_, rfl⟩)
    rcases z with z | z | ⟨r, z1, z2, z⟩ | z
    · omega
    · omega
    · unfold ruR at z
      omega
    · omega
  · exact CMD_cg (g13 k hk).2.2 hB (Nat.le_refl _) (Nat.le_refl _) (fun A l z => ⟨C _ _ (by unfold mkR1 at z; omega), rfl⟩) (fun A l z => ⟨R _ _ (by omega), rfl⟩)
  · rw [emt] at z1 z2
    rw [eac]
    unfold fa
    rw [C _ _ (by omega), C _ _ (by omega)]
    exact g14 M M' z1 z2 z3
  · rw [C _ _ (by omega)]
    refine g15 p hp ?_
    unfold srt at hz ⊢
    rw [efM, eqM, epM] at hz
    exact hz
end CLL
