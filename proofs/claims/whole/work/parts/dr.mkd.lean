/-! READING MARKS: the programs in pieces -/
section MKD0
variable {n : Nat} {c d u w : cS}
/-- the class: the NAME of a MARK, behind @ and no -/
def m2C (n : Nat) (a1 a2 : Int32) (p5 : Int32 × cS) : Option ((Int32 × cS) ⊕ cS) :=
      Option.bind (d_259 n p5.2) (Sum.elim (fun r7 =>
      Option.bind (d_246 n r7.1 r7.2) (fun v10 =>
      jn (fun p12 : cS =>
        Option.bind (d_229 n a1 r7.1 p12) (fun v13 =>
        jn (fun p14 : cS =>
          Option.bind (d_275 n v10 a2 p14) (fun v15 =>
          jn (fun p16 : cS =>
            Option.bind (d_224 n a1 r7.1 p16) (fun r17 =>
            jn (fun p19 : cS =>
              if ib r17.1 4096 then
              lt (pI p19 135 (ix r17.1) v10) (fun c21 =>
              jn (fun p23 : Int32 =>
                if ib r17.1 4096 then
                lt (pI c21 136 (ix r17.1) p23) (fun c25 =>
                lt (pI c25 145 7 ((c25.1 145 7) + 1)) (fun c27 =>
                some (.inl (r17.1, c27))))
                else none)
              (fun j197 =>
              if p5.1 = 0 then
                j197 0
              else
                j197 (-1)))
              else none)
            (fun j167 =>
            if 0 ≤ r17.1 then
              j167 r17.2
            else
              Option.bind (d_42 n r17.2) (fun v29 =>
              Option.bind (d_41 n 6 v29 r17.2) (Sum.elim (fun r30 =>
              j167 r30)
              (fun z31 => some (.inr z31)))))))
          (fun j140 =>
          if v15 = 0 then
            Option.bind (d_42 n p14) (fun v32 =>
            Option.bind (d_41 n 7 v32 p14) (Sum.elim (fun r33 =>
            j140 r33)
            (fun z34 => some (.inr z34))))
          else
            j140 p14)))
        (fun j120 =>
        if v13 = 0 then
          j120 p12
        else
          Option.bind (d_251 n v10 p12) (fun v35 =>
          if v35 = 0 then
            Option.bind (d_42 n p12) (fun v36 =>
            Option.bind (d_41 n 3 v36 p12) (Sum.elim (fun r37 =>
            j120 r37)
            (fun z38 => some (.inr z38))))
          else
            j120 p12))))
      (fun j86 =>
      if 0 ≤ v10 then
        j86 r7.2
      else
        Option.bind (d_42 n r7.2) (fun v39 =>
        Option.bind (d_41 n 5 v39 r7.2) (Sum.elim (fun r40 =>
        j86 r40)
        (fun z41 => some (.inr z41)))))))
      (fun z8 => some (.inr z8)))
theorem d274_s {a1 a2 : Int32} : d_274 n a1 a2 c = if ib a1 2242 then
  jn (fun p2 : cS =>
    lt (pI p2 145 7 ((p2.1 145 7) + 1)) (fun c3 =>
    jn (m2C n a1 a2)
    (fun j54 =>
    jn (fun p42 : cS =>
      j54 (0, p42))
    (fun j53 =>
    if 4 ≤ a2 then
      j53 c3
    else
      Option.bind (d_258 n 211 c3) (fun r43 =>
      if r43.1 = 0 then
        j53 r43.2
      else
        j54 (1, r43.2))))))
  (fun j24 =>
  if (c.1 144 (ix a1)) < 20 then
    j24 c
  else
    Option.bind (d_42 n c) (fun v44 =>
    Option.bind (d_41 n 6 v44 c) (Sum.elim (fun r45 =>
    j24 r45)
    (fun z46 => some (.inr z46)))))
  else none := rfl
/-- the class: what stands behind the NAME -/
def bdC (n : Nat) (k0 : Int32) (r4 : Int32 × cS) : Option ((Int32 × cS) ⊕ (cS ⊕ (cS ⊕ cS))) :=
        Option.bind (d_227 n r4.1 r4.2) (fun v7 =>
        jn (fun p8 : cS =>
          lt (k0 + 1 : Int32) (fun v10 =>
          some (.inl (v10, p8))))
        (fun j144 =>
        if v7 = 0 then
          if ib r4.1 4096 then
          if (r4.2.1 135 (ix r4.1)) < 100 then
            if ib r4.1 4096 then
            if ib (r4.2.1 135 (ix r4.1)) 12 then
            Option.bind (d_277 n r4.1 (ix (r4.2.1 135 (ix r4.1))) r4.2) (Sum.elim (fun r15 =>
            j144 r15)
            (fun z16 => some (.inr (.inr (.inr z16)))))
            else none
            else none
          else
            Option.bind (d_257 n 46 r4.2) (Sum.elim (fun r17 =>
            if ib r4.1 4096 then
            if ib ((r17.1 135 (ix r4.1)) - 100) 4 then
            Option.bind (d_276 n (ix ((r17.1 135 (ix r4.1)) - 100)) r17) (Sum.elim (fun r21 =>
            Option.bind (d_351 n 41) (fun v23 =>
            if ib ((r21.2.1 145 7) - 1) 4001 then
            Option.bind (d_225 n r4.1 v23 3 (r21.2.2 5 (ix ((r21.2.1 145 7) - 1))) r21.2) (fun r25 =>
            j144 r25)
            else none))
            (fun z22 => some (.inr (.inr (.inr z22)))))
            else none
            else none)
            (fun z18 => some (.inr (.inr (.inr z18)))))
          else none
        else
          j144 r4.2))
def mrC (n : Nat) (a1 a2 : Int32) (s2 : Int32 × cS) : Option ((Int32 × cS) ⊕ (cS ⊕ (cS ⊕ cS))) :=
    if 20 < s2.1 then
      some (.inr (.inl s2.2))
    else
      Option.bind (d_43 n s2.2) (fun v3 =>
      if v3 = 64 then
        Option.bind (d_274 n a1 a2 s2.2) (Sum.elim (bdC n s2.1)
        (fun z5 => some (.inr (.inr (.inr z5)))))
      else
        some (.inr (.inl s2.2)))
theorem d273_s {a1 a2 : Int32} : d_273 n a1 a2 c = Option.bind (whl (mrC n a1 a2) n (0, c))
  (Sum.elim (fun x26 : cS =>
    some (.inl x26))
  (fun x27 : (cS) ⊕ cS =>
    some x27)) := rfl
/-- the reference: a MARK of an ORDER -/
def odR (n : Nat) (v20 v9 : Int32) (r18 : cS) : Option cS :=
                      Option.bind (d_380 n 46 r18) (fun r51 =>
                      lt ((r51.1 174 67) : Int32) (fun v53 =>
                      Option.bind (d_381 n r51) (fun r55 =>
                      jn (fun p57 : cS =>
                        jn (fun p58 : cS =>
                          some p58)
                        (fun j320 =>
                        if (p57.1 174 13) = 0 then
                          Option.bind (d_394 n v20 24948 3 r55.1 p57) (fun r59 =>
                          j320 r59)
                        else
                          j320 p57))
                      (fun j301 =>
                      if (r55.2.1 174 13) = 0 then
                        Option.bind (d_377 n v9 r55.1 r55.2) (fun v60 =>
                        if 0 ≤ v60 then
                          j301 r55.2
                        else
                          if ib v53 4001 then
                          Option.bind (d_97 n 5 (r55.2.1 179 (ix v53)) r55.2) (fun r62 =>
                          j301 r62)
                          else none)
                      else
                        j301 r55.2))))
def m5R (n : Nat) (a1 b v9 v11 v5 : Int32) (r18 : cS) : Option cS :=
                  if b = 0 then
                    if ib a1 1219 then
                    Option.bind (d_392 n a1 ((r18.1 222 (ix a1)) - 1)) (fun v20 =>
                    if v9 < 0 then
                      kdR n v20 v11 v5 r18
                    else
                      odR n v20 v9 r18)
                    else none
                  else
                    some r18
def m4R (n : Nat) (a1 b v9 v11 v5 : Int32) (nm : Int64) (p17 : cS) : Option cS :=
                if (p17.1 174 13) = 0 then
                  Option.bind (d_393 n a1 nm b p17) (m5R n a1 b v9 v11 v5)
                else
                  some p17
def m3R (n : Nat) (a1 a2 b v9 v11 v5 : Int32) (nm : Int64) (p14 : cS) : Option cS :=
            jn (fun p15 : Int32 =>
              jn (m4R n a1 b v9 v11 v5 nm)
              (fun j210 =>
              if p15 = 0 then
                if ib v5 4001 then
                Option.bind (d_97 n 7 (p14.1 179 (ix v5)) p14) (fun r64 =>
                j210 r64)
                else none
              else
                j210 p14))
            (fun j190 =>
            if v9 < 0 then
              jn (fun p65 : Unit =>
                j190 0)
              (fun j189 =>
              if a2 = 16 then
                j189 ()
              else
                jn (fun p66 : Unit =>
                  j190 1)
                (fun j185 =>
                if a2 = 15 then
                  j185 ()
                else
                  if ib v11 12 then
                  if ((p14.1 195 (ix v11)) &&& a2) = 0 then
                    j189 ()
                  else
                    j185 ()
                  else none))
            else
              if a2 = 1 then
                j190 0
              else
                j190 1)
def m2R (n : Nat) (a1 a2 : Int32) (p3 : Int32 × cS) : Option cS :=
    lt ((p3.2.1 174 67) : Int32) (fun v5 =>
    Option.bind (d_381 n p3.2) (fun r7 =>
    if (r7.2.1 174 13) = 0 then
      Option.bind (d_372 n r7.1 r7.2) (fun v9 =>
      Option.bind (d_373 n r7.1 r7.2) (fun v11 =>
      jn (fun p13 : cS =>
        if (p13.1 174 13) = 0 then
          jn (m3R n a1 a2 p3.1 v9 v11 v5 r7.1)
          (fun j143 =>
          jn (fun p68 : Unit =>
            if ib a1 1219 then
            Option.bind (d_395 n a1 (p13.1 222 (ix a1)) r7.1 p13) (fun v70 =>
            if v70 = 0 then
              j143 p13
            else
              if ib v5 4001 then
              Option.bind (d_97 n 3 (p13.1 179 (ix v5)) p13) (fun r72 =>
              j143 r72)
              else none)
            else none)
          (fun j115 =>
          if 0 ≤ v9 then
            j115 ()
          else
            if ib v11 12 then
            if (p13.1 197 (ix v11)) = 0 then
              j115 ()
            else
              j143 p13
            else none))
        else
          some p13)
      (fun j92 =>
      if 0 ≤ v9 then
        j92 r7.2
      else
        if 0 ≤ v11 then
          j92 r7.2
        else
          if ib v5 4001 then
          Option.bind (d_97 n 5 (r7.2.1 179 (ix v5)) r7.2) (fun r75 =>
          j92 r75)
          else none)))
    else
      some r7.2))
theorem d397_s {a1 a2 a3 : Int32} : d_397 n a1 a2 a3 c = Option.bind (d_100 n 11 c) (fun v2 =>
  jn (m2R n a1 a2)
  (fun j34 =>
  if v2 = 0 then
    j34 (0, c)
  else
    if a3 = 0 then
      Option.bind (d_103 n c) (fun r79 =>
      some r79)
    else
      lt (pI c 174 67 ((c.1 174 67) + 1)) (fun c77 =>
      j34 (1, c77)))) := rfl
def mrR (n : Nat) (a1 a2 a3 : Int32) (s5 : cS) : Option (cS ⊕ cS) :=
      if (s5.1 174 13) = 0 then
        Option.bind (d_101 n 64 s5) (fun v6 =>
        if v6 = 0 then
          some (.inr s5)
        else
          if ib a1 1219 then
          jn (fun p8 : cS =>
            lt (pI p8 174 67 ((p8.1 174 67) + 1)) (fun c9 =>
            if (c9.1 174 13) = 0 then
              Option.bind (d_397 n a1 a2 a3 c9) (fun r11 =>
              some (.inl r11))
            else
              some (.inl c9)))
          (fun j74 =>
          if (s5.1 222 (ix a1)) = 20 then
            if ib (s5.1 174 67) 4001 then
            Option.bind (d_97 n 6 (s5.1 179 (ix (s5.1 174 67))) s5) (fun r13 =>
            j74 r13)
            else none
          else
            j74 s5)
          else none)
      else
        some (.inr s5)
theorem d396_s {a1 a2 a3 a4 : Int32} : d_396 n a1 a2 a3 a4 c = if ib a1 1219 then
  lt (pI c 222 (ix a1) 0) (fun c2 =>
  jn (fun p4 : cS =>
    Option.bind (whl (mrR n a1 a2 a3) n p4)
    (fun x14 : cS =>
      some x14))
  (fun j32 =>
  if a4 = 0 then
    j32 c2
  else
    if (c2.1 174 13) = 0 then
      Option.bind (d_101 n 64 c2) (fun v15 =>
      if v15 = 0 then
        Option.bind (d_103 n c2) (fun r16 =>
        j32 r16)
      else
        j32 c2)
    else
      j32 c2))
  else none := rfl
end MKD0
