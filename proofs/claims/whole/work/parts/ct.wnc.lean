/-! WIRING: what a want asks, the class -/
section WNC
variable {n t p s : Nat} {c d w m u v : cS}
def r348 (rec : Int32 → Int32 → Int32 → cS → Option (Int32 × cS)) (n : Nat) (a1 : Int32) (a2 : Int32) (a3 : Int32) (a4 : Int32) (v4 : Int32) (v7 : Int64) (w : cS) (p11 : Int32) : Option (Int32 × cS) :=
      Option.bind (whl (R := (Int32 × Int32)) (fun s16 : Int32 × Int32 × Int32 =>
        if (w.1 7 10) ≤ s16.2.2 then
          some (.inr (s16.1, s16.2.1))
        else
          jn (fun p17 : Int32 =>
            if ib s16.2.2 12 then
            jn (fun p20 : Int32 × Int32 =>
              lt (s16.2.2 + 1 : Int32) (fun v22 =>
              some (.inl (p20.1, p20.2, v22))))
            (fun j157 =>
            if (w.1 168 (ix s16.2.2)) = 0 then
              j157 (s16.1, s16.2.1)
            else
              if v4 < 0 then
                j157 (s16.1, s16.2.1)
              else
                if p17 = 0 then
                  j157 (s16.1, s16.2.1)
                else
                  Option.bind (d_256 n s16.2.2 v4 w) (fun v24 =>
                  if v24 = 0 then
                    j157 (s16.1, s16.2.1)
                  else
                    lt (s16.2.1 + 1 : Int32) (fun v27 =>
                    j157 (s16.2.2, v27))))
            else none)
          (fun j114 =>
          jn (fun p29 : Unit =>
            j114 1)
          (fun j109 =>
          if (lg_cmp v7 0) = 0 then
            j109 ()
          else
            if ib s16.2.2 12 then
            if (lg_cmp (w.2 169 (ix s16.2.2)) v7) = 0 then
              j109 ()
            else
              j114 0
            else none))) n ((-1), 0, 0))
      (fun x31 : Int32 × Int32 =>
        if x31.2 = 1 then
          jn (fun p32 : Unit =>
            some (0, w))
          (fun j202 =>
          if p11 = 0 then
            if ib x31.1 12 then
            if (w.1 170 (ix x31.1)) = 2 then
              j202 ()
            else
              if ib x31.1 12 then
              jn (fun p35 : Unit =>
                Option.bind (d_349 n 3 a2 a1 w) (fun r36 =>
                some (r36.1, r36.2)))
              (fun j222 =>
              if (w.1 170 (ix x31.1)) = 1 then
                j222 ()
              else
                if a4 < 12 then
                  Option.bind (rec x31.1 a3 (a4 + 1) w) (fun r37 =>
                  some (r37.1, r37.2))
                else
                  j222 ())
              else none
            else none
          else
            j202 ())
        else
          jn (fun p38 : Int32 =>
            Option.bind (d_349 n p38 a2 a1 w) (fun r39 =>
            some (r39.1, r39.2)))
          (fun j180 =>
          if x31.2 = 0 then
            j180 1
          else
            j180 2))
theorem e348 {rec : Int32 → Int32 → Int32 → cS → Option (Int32 × cS)} {a1 a4 : Int32} {K : Int32 × cS → Prop} (hn : 1000 ≤ n) (hE : EC c m) (hP : isP m p s) (ht : t < kcn m) (h0 : ∀ x, (eff m t 13 p 0).1 = 0 → sx qS c x → K (0, x)) (hk : ∀ (b : Int32) x, 0 < (eff m t 13 p 0).1 → (b = 0 ↔ wlt m t p = false) → sx qS c x → wp (r348 rec n a1 (nI p) (nI t) a4 (oI (wof m t p)) (wlb m t p) x b) K) : wp (d_348 rec n a1 (nI p) (nI t) a4 c) K := by
  unfold d_348
  refine wpc (e180 hn hE hP (Or.inl ht)) (fun r hr => ?_)
  obtain ⟨r1, r2, r3⟩ := hr
  by_cases e : (eff m t 13 p 0).1 = 0
  · exact wpt (by rw [r1, e]; rfl) (h0 _ e r2)
  · have he : 0 < (eff m t 13 p 0).1 := by omega
    have he20 := (eff_ok hE hP rfl he).2.1
    have hC := CCS_CA (CA_sx r2 nC_qS) hE.2.2.1
    have v346 : ∀ (vs : Nat) (a : Int64), vs = 1 ∨ vs = 2 → d_346 n (nI t) a (nI vs) r.2 = some (mvx m t p vs a) := fun vs a hv => e346 hn hE hP ht he r2 r3 hv
    have v345 : ∀ a : Int64, d_345 n (nI t) a r.2 = some (mvx m t p 2 a) := fun a => by
      unfold d_345
      exact eq_wp (wpe (v346 2 a (Or.inr rfl)) rfl)
    refine wpf (fun z => e ((nI_eq (by omega) (by decide)).mp (show nI _ = nI 0 from r1.symm.trans z))) ?_
    refine wpe (w46 hn) (wpe (v345 _) (wpe (e249 (by omega) (CCS_p hC).1 hC.1.2.1 (fun k hk => (hC.2.2.1 k hk).1)) (wpe (w45 hn) (wpe (v345 _) (wpe (w47 hn) (wpe (v346 1 _ (Or.inl rfl)) ?_))))))
    refine wpj ?_
    by_cases e0 : mvx m t p 1 1818326117 = 0
    · exact wpt (by rw [e0]; decide) (hk 0 r.2 he ⟨fun _ => by unfold wlt; rw [e0]; rfl, fun _ => rfl⟩ r2)
    · exact wpf (fun z => e0 (lg_eq z)) (hk 1 r.2 he ⟨fun z => absurd z (by decide), fun z => by unfold wlt at z; rw [decide_eq_true e0] at z; cases z⟩ r2)
end WNC
