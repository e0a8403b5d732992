/-! READING a KIND: one MEMBER -/
section MEM
variable {n i j N k p : Nat} {c d u w v v0 c' u' : cS} {K P : Nat → Nat} {V : Nat → Int64} {nm val : Int64} {T : Bool}
def mr4 (n : Nat) (a1 v13 : Int32) (p23 : cS) : Option cS :=
            if ib v13 48 then
            lt (pI p23 193 (ix v13) (vp_nar .boolean 0)) (fun c25 =>
            Option.bind (d_379 n 61 c25) (fun r27 =>
            jn (fun p28 : cS =>
              if ib a1 12 then
              if ib a1 12 then
              lt (pI p28 190 (ix a1) ((p28.1 190 (ix a1)) + 1)) (fun c31 =>
              some c31)
              else none
              else none)
            (fun j177 =>
            if r27.1 = 0 then
              j177 r27.2
            else
              if ib v13 48 then
              Option.bind (d_382 n (r27.2.1 192 (ix v13)) 1 r27.2) (fun r34 =>
              if ib v13 48 then
              lt (pI r34 193 (ix v13) (vp_nar .boolean 1)) (fun c36 =>
              if ib v13 48 then
              lt (pL c36 194 (ix v13) (c36.2 174 68)) (fun c39 =>
              j177 c39)
              else none)
              else none)
              else none)))
            else none
def mr2 (n : Nat) (a1 : Int32) (nm : Int64) (r10 : cS) : Option cS :=
        if (r10.1 174 13) = 0 then
          if ib a1 12 then
          lt (((4 * a1) + (r10.1 190 (ix a1))) : Int32) (fun v13 =>
          if ib v13 48 then
          lt (pL r10 191 (ix v13) nm) (fun c16 =>
          Option.bind (d_100 n 13 c16) (fun v18 =>
          if ib v13 48 then
          lt (pI c16 192 (ix v13) (vp_nar .boolean v18)) (fun c20 =>
          Option.bind (d_102 n 13 c20) (fun r22 =>
          jn (mr4 n a1 v13)
          (fun j129 =>
          if r22.1 = 0 then
            Option.bind (d_102 n 12 r22.2) (fun r41 =>
            if r41.1 = 0 then
              Option.bind (d_103 n r41.2) (fun r42 =>
              j129 r42)
            else
              j129 r41.2)
          else
            j129 r22.2)))
          else none))
          else none)
          else none
        else
          some r10
def mr1 (n : Nat) (a1 v2 : Int32) (nm : Int64) (v6 : Int32) (r : cS) : Option cS :=
    jn (fun p7 : cS =>
      if ib a1 12 then
      jn (fun p9 : cS =>
        Option.bind (d_380 n 58 p9) (mr2 n a1 nm))
      (fun j60 =>
      if (p7.1 190 (ix a1)) = 4 then
        if ib v2 4001 then
        Option.bind (d_97 n 6 (p7.1 179 (ix v2)) p7) (fun r44 =>
        j60 r44)
        else none
      else
        j60 p7)
      else none)
    (fun j38 =>
    if v6 < 0 then
      j38 r
    else
      if ib v2 4001 then
      Option.bind (d_97 n 3 (r.1 179 (ix v2)) r) (fun r46 =>
      j38 r46)
      else none)
theorem d401_s {a1 : Int32} : d_401 n a1 c = lt ((c.1 174 67) : Int32) (fun v2 =>
  Option.bind (d_381 n c) (fun r4 =>
  if (r4.2.1 174 13) = 0 then
    Option.bind (d_378 n a1 r4.1 r4.2) (fun v6 => mr1 n a1 v2 r4.1 v6 r4.2)
  else
    some r4.2)) := rfl
abbrev mbT := (Int32 × Int32 × cS) ⊕ (cS ⊕ (cS ⊕ cS))
def mb3 (n k : Nat) (t : Int32) (nm : Int64) (s b : Int32) (w0 : cS) (p22 : Int64 × cS) : Option mbT :=
                  if ib (w0.1 (kA k) 1) 4 then
                  lt (pL p22.2 (kA k + 4) (ix (w0.1 (kA k) 1)) p22.1) (fun c24 =>
                  if ib (c24.1 (kA k) 1) 4 then
                  lt (pI c24 (kA k + 3) (ix (c24.1 (kA k) 1)) (vp_nar .boolean b)) (fun c27 =>
                  if ib (c27.1 (kA k) 1) 4 then
                  lt (pI c27 (kA k + 2) (ix (c27.1 (kA k) 1)) s) (fun c30 =>
                  if ib (c30.1 (kA k) 1) 4 then
                  lt (pL c30 (kA k + 1) (ix (c30.1 (kA k) 1)) nm) (fun c33 =>
                  lt (pI c33 (kA k) 1 ((c33.1 (kA k) 1) + 1)) (fun c35 =>
                  Option.bind (d_258 n 44 c35) (fun r37 =>
                  lt (t + 1 : Int32) (fun v40 =>
                  some (.inl (r37.1, v40, r37.2))))))
                  else none)
                  else none)
                  else none)
                  else none
def mb4 (n k : Nat) (t : Int32) (nm : Int64) (s : Int32) (c18 : cS) : Option mbT :=
                Option.bind (d_258 n 61 c18) (fun r20 =>
                jn (mb3 n k t nm s r20.1 r20.2)
                (fun j149 =>
                if r20.1 = 0 then
                  j149 (0, r20.2)
                else
                  Option.bind (d_278 n s r20.2) (Sum.elim (fun r42 =>
                  j149 (r42.1, r42.2))
                  (fun z43 => some (.inr (.inr (.inr z43)))))))
def mb2 (n k : Nat) (t : Int32) (nm : Int64) (r11 : cS) : Option mbT :=
            Option.bind (d_43 n r11) (fun v13 =>
            jn (fun p14 : cS =>
              Option.bind (d_43 n p14) (fun v15 =>
              jn (fun p16 : Int32 =>
                lt (pI p14 145 7 ((p14.1 145 7) + 1)) (mb4 n k t nm p16))
              (fun j106 =>
              if v15 = 212 then
                j106 1
              else
                j106 2)))
            (fun j91 =>
            if v13 = 212 then
              j91 r11
            else
              Option.bind (d_43 n r11) (fun v44 =>
              if v44 = 213 then
                j91 r11
              else
                Option.bind (d_42 n r11) (fun v45 =>
                Option.bind (d_41 n 2 v45 r11) (Sum.elim (fun r46 =>
                j91 r46)
                (fun z47 => some (.inr (.inr (.inr z47)))))))))
def mbC (n k1 : Nat) (s3 : Int32 × Int32 × cS) : Option mbT :=
    if 4 < s3.2.1 then
      some (.inr (.inl s3.2.2))
    else
      if s3.1 = 0 then
        some (.inr (.inl s3.2.2))
      else
        if ib (s3.2.2.1 145 7) 4001 then
        Option.bind (d_218 n k1 (s3.2.2.2 5 (ix (s3.2.2.1 145 7))) s3.2.2) (fun v5 =>
        jn (fun p6 : Int32 =>
          jn (fun p7 : Int32 =>
            Option.bind (d_260 n p6 p7 s3.2.2) (Sum.elim (fun r8 =>
            Option.bind (d_257 n 58 r8.2) (Sum.elim (mb2 n k1 s3.2.1 r8.1)
            (fun z12 => some (.inr (.inr (.inr z12))))))
            (fun z9 => some (.inr (.inr (.inr z9))))))
          (fun j51 =>
          if (s3.2.2.1 (kA k1) 1) < 4 then
            j51 0
          else
            j51 1))
        (fun j38 =>
        if v5 < 0 then
          j38 0
        else
          j38 1))
        else none
theorem d265_s : d_265 n k c = Option.bind (whl (mbC n k) n (1, 0, c))
  (Sum.elim (fun x48 : cS =>
    Option.bind (d_257 n 41 x48) (Sum.elim (fun r49 =>
    some (.inl r49))
    (fun z50 => some (.inr z50))))
  (fun x51 : (cS) ⊕ cS =>
    some x51)) := rfl
def mbE (n p : Nat) (d : cS) : Option mbT := Option.bind (d_258 n 44 d) (fun r37 => some (.inl (r37.1, nI (p + 1), r37.2)))
theorem mb3_go {s b : Int32} {w0 : cS} {Q : mbT → Prop} (hp : p < 4) (h1 : w0.1 (kA k) 1 = nI p) (h2 : d.1 (kA k) 1 = nI p) (h : wp (mbE n p (wrC d k p nm s (vp_nar .boolean b) val)) Q) : wp (mb3 n k (nI p) nm s b w0 (val, d)) Q := by
  have hib : ib (nI p) 4 := ib_n hp (by decide)
  have ep : ix (nI p) = p := ix_n (by omega)
  unfold mb3
  rw [h1, ep]
  refine wpt hib (wpl ?_)
  have r1 : (pL d (kA k + 4) p val).1 (kA k) 1 = nI p := h2
  dsimp only
  rw [r1, ep]
  refine wpt hib (wpl ?_)
  have r2 : (pI (pL d (kA k + 4) p val) (kA k + 3) p (vp_nar .boolean b)).1 (kA k) 1 = nI p := by
    rw [rI, if_neg (by omega)]
    exact r1
  rw [r2, ep]
  refine wpt hib (wpl ?_)
  have r3 : (pI (pI (pL d (kA k + 4) p val) (kA k + 3) p (vp_nar .boolean b)) (kA k + 2) p s).1 (kA k) 1 = nI p := by
    rw [rI, if_neg (by omega)]
    exact r2
  rw [r3, ep]
  refine wpt hib (wpl ?_)
  rw [show (pL (pI (pI (pL d (kA k + 4) p val) (kA k + 3) p (vp_nar .boolean b)) (kA k + 2) p s) (kA k + 1) p nm).1 (kA k) 1 = nI p from r3, nI_1]
  exact wpl h
end MEM
