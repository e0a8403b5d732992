/-! WHAT READING KEEPS in the reference: no FAULT is told where none was met -/
section ZCR
variable {c d u : cS}
def ZR (u : cS) : Prop := u.1 174 13 = nI 0 → u.1 174 11 = nI 0 ∧ u.1 174 12 = nI 0
theorem ZR_pI {A i : Nat} {v : Int32} (h : ZR c) (hA : A ≠ 174) : ZR (pI c A i v) := by
  unfold ZR
  rw [rI, if_neg (by omega), rI, if_neg (by omega), rI, if_neg (by omega)]
  exact h
theorem ZR_p4 {i : Nat} {v : Int32} (h : ZR c) (hi : i ≠ 11 ∧ i ≠ 12 ∧ i ≠ 13) : ZR (pI c 174 i v) := by
  unfold ZR
  rw [rI, if_neg (by omega), rI, if_neg (by omega), rI, if_neg (by omega)]
  exact h
theorem ZR_pL {A i : Nat} {v : Int64} (h : ZR c) : ZR (pL c A i v) := h
theorem z_97 {n : Nat} {a1 a2 : Int32} (hc : ZR c) : zc (d_97 n a1 a2 c) ZR := by
  unfold d_97
  refine zcI (fun _ => ?_) (fun _ => zcS hc)
  exact zcL (P := fun w => w.1 174 13 = nI 1) (by rw [rI, if_pos ⟨rfl, rfl⟩]; rfl) (fun w hw => zcL (P := fun w => w.1 174 13 = nI 1) (by rw [rI, if_neg (by omega)]; exact hw) (fun w hw => zcL (P := fun w => w.1 174 13 = nI 1) (by rw [rI, if_neg (by omega)]; exact hw) (fun w hw => zcS (fun z => by
    rw [hw] at z
    exact absurd z (by decide)))))
theorem z_98 {n : Nat} {a1 : Int32} {a2 : Int32} {a3 : Int64}  (hc : ZR c) : zc (d_98 n a1 a2 a3 c) ZR := by
  unfold d_98
  exact (zcI (fun hq1 =>
   (zcL (P := ZR) (ZR_pI hc (by decide)) (fun c2 hq2 =>
    (zcI (fun hq3 =>
     (zcL (P := ZR) (ZR_pI hq2 (by decide)) (fun c5 hq4 =>
      (zcI (fun hq5 =>
       (zcL (P := ZR) (ZR_pL hq4) (fun c8 hq6 =>
        (zcL (P := ZR) (ZR_p4 hq6 (by decide)) (fun c10 hq7 =>
         (zcS hq7)))))) (fun _ =>
       zcN))))) (fun _ =>
     zcN))))) (fun _ =>
   zcN))
theorem z_99 {n : Nat} {a1 : Int32}  (hc : ZR c) : zc (d_99 n a1 c) ZR := by
  unfold d_99
  exact (zcL (P := ZR) (ZR_p4 hc (by decide)) (fun c1 hq1 =>
   (zcB (zcW (I := (fun r : Int32 × cS => ZR r.2)) (X := ZR) (fun s4 hq2 =>
    (zcI (fun hq3 =>
     (zcS hq2)) (fun _ =>
     (zcI (fun hq4 =>
      (zcI (fun hq5 =>
       (zcl (fun v7 =>
        (zcJ (P := fun y : Int32 × cS => (fun r : Int32 × cS => ZR r.2) y) (fun p10 hq6 =>
         (zcS hq6)) (fun j416 hq7 =>
         (zcJ (P := fun y : Unit => (fun _ : Unit => True) y) (fun p11 hq8 =>
          (zcl (fun v13 =>
           (hq7 _ hq2)))) (fun j41 hq9 =>
          (zcI (fun hq10 =>
           (hq9 _ trivial)) (fun _ =>
           (zcI (fun hq11 =>
            (hq9 _ trivial)) (fun _ =>
            (zcB0 (fun v15 =>
             (zcI (fun hq12 =>
              (zcB0 (fun v16 =>
               (zcI (fun hq13 =>
                (zcI (fun hq14 =>
                 (zcl (fun v25 =>
                  (zcB0 (fun x38 =>
                   (zcJ (P := fun y : cS => ZR y) (fun p39 hq16 =>
                    (zcl (fun v41 =>
                     (zcB (z_98 hq16) (fun r43 hq18 =>
                      (hq7 _ hq18)))))) (fun j372 hq17 =>
                    (zcJ (P := fun y : Unit => (fun _ : Unit => True) y) (fun p44 hq19 =>
                     (zcB (z_97 hq2) (fun r45 hq21 =>
                      (hq17 _ hq21)))) (fun j365 hq20 =>
                     (zcI (fun hq22 =>
                      (hq20 _ trivial)) (fun _ =>
                      (zcI (fun hq23 =>
                       (zcI (fun hq24 =>
                        (hq17 _ hq2)) (fun _ =>
                        (hq20 _ trivial)))) (fun _ =>
                       zcN))))))))))))) (fun _ =>
                 (zcB0 (fun v17 =>
                  (zcI (fun hq25 =>
                   (zcB (z_97 hq2) (fun r18 hq26 =>
                    (hq7 _ hq26)))) (fun _ =>
                   (zcB (z_98 hq2) (fun r19 hq27 =>
                    (zcl (fun v21 =>
                     (hq7 _ hq27)))))))))))) (fun _ =>
                (zcB0 (fun x57 =>
                 (zcJ (P := fun y : cS => ZR y) (fun p58 hq29 =>
                  (zcB (z_98 hq29) (fun r59 hq31 =>
                   (hq7 _ hq31)))) (fun j257 hq30 =>
                  (zcI (fun hq32 =>
                   (hq30 _ hq2)) (fun _ =>
                   (zcB (z_97 hq2) (fun r60 hq33 =>
                    (hq30 _ hq33)))))))))))))) (fun _ =>
              (zcB0 (fun x75 =>
               (zcJ (P := fun y : cS => ZR y) (fun p76 hq35 =>
                (zcJ (P := fun y : Int32 => (fun _ : Int32 => True) y) (fun p77 hq37 =>
                 (zcJ (P := fun y : cS => ZR y) (fun p79 hq39 =>
                  (hq7 _ hq39)) (fun j171 hq40 =>
                  (zcI (fun hq41 =>
                   (zcB (z_98 hq35) (fun r80 hq42 =>
                    (hq40 _ hq42)))) (fun _ =>
                   (zcB (z_98 hq35) (fun r81 hq43 =>
                    (hq40 _ hq43)))))))) (fun j142 hq38 =>
                 (zcI (fun hq44 =>
                  (zcB0 (fun v82 =>
                   (hq38 _ trivial)))) (fun _ =>
                  (hq38 _ trivial)))))) (fun j123 hq36 =>
                (zcI (fun hq45 =>
                 (hq36 _ hq2)) (fun _ =>
                 (zcB (z_97 hq2) (fun r83 hq46 =>
                  (hq36 _ hq46)))))))))))))))))))))))) (fun _ =>
       zcN))) (fun _ =>
      (zcS hq2)))))) hq1) (fun x84 hq47 =>
    (zcB (z_98 hq47) (fun r85 hq48 =>
     (zcS hq48)))))))
theorem z_420 {n : Nat} {a1 : Int32} {a2 : Int32}  (hc : ZR c) : zc (d_420 n a1 a2 c) ZR := by
  unfold d_420
  exact (zcI (fun hq1 =>
   (zcJ (P := fun y : cS => ZR y) (fun p2 hq2 =>
    (zcI (fun hq4 =>
     (zcJ (P := fun y : cS => ZR y) (fun p4 hq5 =>
      (zcS hq5)) (fun j47 hq6 =>
      (zcI (fun hq7 =>
       (hq6 _ hq2)) (fun _ =>
       (zcI (fun hq8 =>
        (zcL (P := ZR) (ZR_pI hq2 (by decide)) (fun c6 hq9 =>
         (hq6 _ hq9)))) (fun _ =>
        zcN))))))) (fun _ =>
     zcN))) (fun j31 hq3 =>
    (zcI (fun hq10 =>
     (hq3 _ hc)) (fun _ =>
     (zcI (fun hq11 =>
      (zcI (fun hq12 =>
       (hq3 _ hc)) (fun _ =>
       (zcI (fun hq13 =>
        (zcB (z_97 hc) (fun r10 hq14 =>
         (hq3 _ hq14)))) (fun _ =>
        zcN))))) (fun _ =>
      zcN))))))) (fun _ =>
   zcN))
theorem z_419 {n : Nat} {a1 : Int32}  (hc : ZR c) : zc (d_419 n a1 c) ZR := by
  unfold d_419
  exact (zcl (fun v3 =>
   (zcI (fun hq1 =>
    (zcl (fun v7 =>
     (zcB (zcW (I := (fun r : Int32 × cS => ZR r.2)) (X := ZR) (fun s10 hq2 =>
      (zcI (fun hq3 =>
       (zcS hq2)) (fun _ =>
       (zcI (fun hq4 =>
        (zcL (P := ZR) (ZR_pI hq2 (by decide)) (fun c12 hq5 =>
         (zcI (fun hq6 =>
          (zcL (P := ZR) (ZR_pI hq5 (by decide)) (fun c15 hq7 =>
           (zcl (fun v18 =>
            (zcS hq7)))))) (fun _ =>
          zcN))))) (fun _ =>
        zcN))))) hc) (fun x20 hq8 =>
      (zcI (fun hq9 =>
       (zcL (P := ZR) (ZR_pI hq8 (by decide)) (fun c22 hq10 =>
        (zcB (zcW (I := ZR) (X := (Sum.elim ZR (Sum.elim ZR (fun r : Int32 × cS => ZR r.2)))) (fun s24 hq11 =>
         (zcI (fun hq12 =>
          (zcB0 (fun x33 =>
           (zcI (fun hq14 =>
            (zcS hq11)) (fun _ =>
            (zcI (fun hq15 =>
             (zcL (P := ZR) (ZR_pI hq11 (by decide)) (fun c35 hq16 =>
              (zcl (fun v38 =>
               (zcI (fun hq17 =>
                (zcB0 (fun v41 =>
                 (zcl (fun v43 =>
                  (zcI (fun hq18 =>
                   (zcS hq16)) (fun _ =>
                   (zcB0 (fun v45 =>
                    (zcI (fun hq19 =>
                     (zcB0 (fun v46 =>
                      (zcl (fun v48 =>
                       (zcI (fun hq20 =>
                        (zcJ (P := fun y : cS => ZR y) (fun p51 hq21 =>
                         (zcI (fun hq23 =>
                          (zcJ (P := fun y : cS => ZR y) (fun p53 hq24 =>
                           (zcS hq24)) (fun j263 hq25 =>
                           (zcI (fun hq26 =>
                            (hq25 _ hq21)) (fun _ =>
                            (zcI (fun hq27 =>
                             (zcB (z_420 hq21) (fun r55 hq28 =>
                              (hq25 _ hq28)))) (fun _ =>
                             zcN))))))) (fun _ =>
                          zcN))) (fun j238 hq22 =>
                         (zcI (fun hq29 =>
                          (hq22 _ hq16)) (fun _ =>
                          (zcI (fun hq30 =>
                           (zcI (fun hq31 =>
                            (hq22 _ hq16)) (fun _ =>
                            (zcI (fun hq32 =>
                             (zcI (fun hq33 =>
                              (zcB (z_97 hq16) (fun r59 hq34 =>
                               (hq22 _ hq34)))) (fun _ =>
                              zcN))) (fun _ =>
                             (zcB (z_420 hq16) (fun r57 hq35 =>
                              (hq22 _ hq35)))))))) (fun _ =>
                           zcN))))))) (fun _ =>
                        zcN))))))) (fun _ =>
                     (zcS hq16)))))))))))) (fun _ =>
                zcN))))))) (fun _ =>
             zcN))))))) (fun _ =>
          (zcS hq11)))) hq10) (fun zq36 hq37 =>
         (zcE hq37 (fun x60 hq38 =>
          (zcS hq38)) (fun zq39 hq40 =>
          (zcE hq40 (fun x61 hq41 =>
           (zcS hq41)) (fun x62 hq42 =>
           (zcI (fun hq43 =>
            (zcB (z_97 hq42) (fun r64 hq44 =>
             (zcS hq44)))) (fun _ =>
            zcN))))))))))) (fun _ =>
       zcN))))))) (fun _ =>
    zcN))))
theorem z_416 {n : Nat} {a1 : Int32} {a2 : Int32}  (hc : ZR c) : zc (d_416 n a1 a2 c) ZR := by
  unfold d_416
  exact (zcI (fun hq1 =>
   (zcJ (P := fun y : cS => ZR y) (fun p2 hq2 =>
    (zcI (fun hq4 =>
     (zcJ (P := fun y : Unit => (fun _ : Unit => True) y) (fun p4 hq5 =>
      (zcB (zcW (I := (fun r : Int32 × cS => ZR r.2)) (X := ZR) (fun s6 hq7 =>
       (zcI (fun hq8 =>
        (zcI (fun hq9 =>
         (zcS hq7)) (fun _ =>
         (zcI (fun hq10 =>
          (zcI (fun hq11 =>
           (zcI (fun hq12 =>
            (zcJ (P := fun y : cS => ZR y) (fun p11 hq13 =>
             (zcl (fun v13 =>
              (zcS hq13)))) (fun j241 hq14 =>
             (zcI (fun hq15 =>
              (zcI (fun hq16 =>
               (zcL (P := ZR) (ZR_pI hq7 (by decide)) (fun c16 hq17 =>
                (hq14 _ hq17)))) (fun _ =>
               zcN))) (fun _ =>
              (hq14 _ hq7)))))) (fun _ =>
            zcN))) (fun _ =>
           zcN))) (fun _ =>
          zcN))))) (fun _ =>
        zcN))) hq2) (fun x18 hq18 =>
       (zcI (fun hq19 =>
        (zcJ (P := fun y : cS => ZR y) (fun p20 hq20 =>
         (zcS hq20)) (fun j272 hq21 =>
         (zcI (fun hq22 =>
          (hq21 _ hq18)) (fun _ =>
          (zcI (fun hq23 =>
           (zcI (fun hq24 =>
            (zcB (z_97 hq18) (fun r23 hq25 =>
             (hq21 _ hq25)))) (fun _ =>
            zcN))) (fun _ =>
           zcN))))))) (fun _ =>
        zcN))))) (fun j196 hq6 =>
      (zcI (fun hq26 =>
       (hq6 _ trivial)) (fun _ =>
       (zcI (fun hq27 =>
        (zcI (fun hq28 =>
         (hq6 _ trivial)) (fun _ =>
         (zcI (fun hq29 =>
          (zcI (fun hq30 =>
           (hq6 _ trivial)) (fun _ =>
           (zcS hq2)))) (fun _ =>
          zcN))))) (fun _ =>
        zcN))))))) (fun _ =>
     zcN))) (fun j162 hq3 =>
    (zcJ (P := fun y : Unit => (fun _ : Unit => True) y) (fun p26 hq31 =>
     (zcI (fun hq33 =>
      (zcl (fun v29 =>
       (zcI (fun hq34 =>
        (zcB0 (fun v32 =>
         (zcI (fun hq35 =>
          (zcI (fun hq36 =>
           (zcJ (P := fun y : Int32 => (fun _ : Int32 => True) y) (fun p35 hq37 =>
            (zcI (fun hq39 =>
             (zcI (fun hq40 =>
              (zcL (P := ZR) (ZR_pI hc (by decide)) (fun c38 hq41 =>
               (zcI (fun hq42 =>
                (zcL (P := ZR) (ZR_pI hq41 (by decide)) (fun c41 hq43 =>
                 (zcI (fun hq44 =>
                  (zcL (P := ZR) (ZR_pI hq43 (by decide)) (fun c44 hq45 =>
                   (hq3 _ hq45)))) (fun _ =>
                  zcN))))) (fun _ =>
                zcN))))) (fun _ =>
              zcN))) (fun _ =>
             (zcI (fun hq46 =>
              (zcB (z_97 hc) (fun r47 hq47 =>
               (zcS hq47)))) (fun _ =>
              zcN))))) (fun j111 hq38 =>
            (zcI (fun hq48 =>
             (zcI (fun hq49 =>
              (zcB0 (fun v51 =>
               (hq38 _ trivial)))) (fun _ =>
              zcN))) (fun _ =>
             (zcI (fun hq50 =>
              (zcB0 (fun v49 =>
               (hq38 _ trivial)))) (fun _ =>
              zcN))))))) (fun _ =>
           zcN))) (fun _ =>
          (zcI (fun hq51 =>
           (zcB (z_97 hc) (fun r53 hq52 =>
            (zcS hq52)))) (fun _ =>
           zcN))))))) (fun _ =>
        zcN))))) (fun _ =>
      zcN))) (fun j33 hq32 =>
     (zcI (fun hq53 =>
      (hq32 _ trivial)) (fun _ =>
      (zcI (fun hq54 =>
       (zcI (fun hq55 =>
        (hq32 _ trivial)) (fun _ =>
        (zcI (fun hq56 =>
         (zcI (fun hq57 =>
          (hq32 _ trivial)) (fun _ =>
          (hq3 _ hc)))) (fun _ =>
         zcN))))) (fun _ =>
       zcN))))))))) (fun _ =>
   zcN))
theorem z_415 {n : Nat}   (hc : ZR c) : zc (d_415 n c) ZR := by
  unfold d_415
  exact (zcB (zcW (I := (fun r : Int32 × cS => ZR r.2)) (X := ZR) (fun s2 hq1 =>
   (zcI (fun hq2 =>
    (zcS hq1)) (fun _ =>
    (zcI (fun hq3 =>
     (zcB0 (fun v3 =>
      (zcJ (P := fun y : cS => ZR y) (fun p4 hq4 =>
       (zcl (fun v6 =>
        (zcS hq4)))) (fun j62 hq5 =>
       (zcI (fun hq6 =>
        (hq5 _ hq1)) (fun _ =>
        (zcB (zcW (I := (fun r : Int32 × cS => ZR r.2)) (X := ZR) (fun s9 hq7 =>
         (zcI (fun hq8 =>
          (zcI (fun hq9 =>
           (zcS hq7)) (fun _ =>
           (zcI (fun hq10 =>
            (zcB (z_416 hq7) (fun r11 hq11 =>
             (zcl (fun v13 =>
              (zcS hq11)))))) (fun _ =>
            (zcS hq7)))))) (fun _ =>
          zcN))) hq1) (fun x15 hq12 =>
         (hq5 _ hq12)))))))))) (fun _ =>
     (zcS hq1)))))) hc) (fun x16 hq13 =>
   (zcS hq13)))
theorem z_102 {n : Nat} {a1 : Int32}  (hc : ZR c) : zc (d_102 n a1 c) (fun r : Int32 × cS => ZR r.2) := by
  unfold d_102
  exact (zcJ (P := fun y : Unit => (fun _ : Unit => True) y) (fun p1 hq1 =>
   (zcS hc)) (fun j15 hq2 =>
   (zcI (fun hq3 =>
    (zcB0 (fun v2 =>
     (zcI (fun hq4 =>
      (hq2 _ trivial)) (fun _ =>
      (zcL (P := ZR) (ZR_p4 hc (by decide)) (fun c3 hq5 =>
       (zcS hq5)))))))) (fun _ =>
    (hq2 _ trivial)))))
theorem z_103 {n : Nat}   (hc : ZR c) : zc (d_103 n c) ZR := by
  unfold d_103
  exact (zcI (fun hq1 =>
   (zcB (z_97 hc) (fun r2 hq2 =>
    (zcS hq2)))) (fun _ =>
   zcN))
theorem z_379 {n : Nat} {a1 : Int32}  (hc : ZR c) : zc (d_379 n a1 c) (fun r : Int32 × cS => ZR r.2) := by
  unfold d_379
  exact (zcJ (P := fun y : Unit => (fun _ : Unit => True) y) (fun p1 hq1 =>
   (zcS hc)) (fun j15 hq2 =>
   (zcI (fun hq3 =>
    (zcB0 (fun v2 =>
     (zcI (fun hq4 =>
      (hq2 _ trivial)) (fun _ =>
      (zcL (P := ZR) (ZR_p4 hc (by decide)) (fun c3 hq5 =>
       (zcS hq5)))))))) (fun _ =>
    (hq2 _ trivial)))))
theorem z_380 {n : Nat} {a1 : Int32}  (hc : ZR c) : zc (d_380 n a1 c) ZR := by
  unfold d_380
  exact (zcI (fun hq1 =>
   (zcB0 (fun v1 =>
    (zcJ (P := fun y : cS => ZR y) (fun p2 hq2 =>
     (zcS hq2)) (fun j33 hq3 =>
     (zcI (fun hq4 =>
      (zcB (z_103 hc) (fun r3 hq5 =>
       (hq3 _ hq5)))) (fun _ =>
      (zcL (P := ZR) (ZR_p4 hc (by decide)) (fun c4 hq6 =>
       (hq3 _ hq6)))))))))) (fun _ =>
   (zcS hc)))
theorem z_381 {n : Nat}   (hc : ZR c) : zc (d_381 n c) (fun r : Int64 × cS => ZR r.2) := by
  unfold d_381
  exact (zcI (fun hq1 =>
   (zcI (fun hq2 =>
    (zcI (fun hq3 =>
     (zcL (P := ZR) (ZR_p4 hc (by decide)) (fun c2 hq4 =>
      (zcI (fun hq5 =>
       (zcS hq4)) (fun _ =>
       zcN))))) (fun _ =>
     (zcB (z_103 hc) (fun r5 hq6 =>
      (zcS hq6)))))) (fun _ =>
    zcN))) (fun _ =>
   (zcS hc)))
theorem z_383 {n : Nat} {a1 : Int32} {a2 : Int32}  (hc : ZR c) : zc (d_383 n a1 a2 c) (fun r : Int64 × cS => ZR r.2) := by
  unfold d_383
  exact (zcl (fun v2 =>
   (zcB (z_381 hc) (fun r4 hq1 =>
    (zcI (fun hq2 =>
     (zcB0 (fun v6 =>
      (zcJ (P := fun y : cS => ZR y) (fun p7 hq3 =>
       (zcJ (P := fun y : cS => ZR y) (fun p8 hq5 =>
        (zcS hq5)) (fun j57 hq6 =>
        (zcI (fun hq7 =>
         (zcI (fun hq8 =>
          (zcB (z_97 hq3) (fun r10 hq9 =>
           (hq6 _ hq9)))) (fun _ =>
          zcN))) (fun _ =>
         (hq6 _ hq3)))))) (fun j40 hq4 =>
       (zcI (fun hq10 =>
        (hq4 _ hq1)) (fun _ =>
        (zcI (fun hq11 =>
         (zcB (z_97 hq1) (fun r12 hq12 =>
          (hq4 _ hq12)))) (fun _ =>
         zcN))))))))) (fun _ =>
     (zcS hq1)))))))
theorem z_384 {n : Nat} {a1 : Int32}  (hc : ZR c) : zc (d_384 n a1 c) (fun r : Int32 × cS => ZR r.2) := by
  unfold d_384
  exact (zcl (fun v2 =>
   (zcB (z_381 hc) (fun r4 hq1 =>
    (zcI (fun hq2 =>
     (zcB0 (fun v6 =>
      (zcI (fun hq3 =>
       (zcI (fun hq4 =>
        (zcI (fun hq5 =>
         (zcI (fun hq6 =>
          (zcB (z_97 hq1) (fun r19 hq7 =>
           (zcS hq7)))) (fun _ =>
          zcN))) (fun _ =>
         (zcI (fun hq8 =>
          (zcI (fun hq9 =>
           (zcL (P := ZR) (ZR_pL hq1) (fun c11 hq10 =>
            (zcI (fun hq11 =>
             (zcI (fun hq12 =>
              (zcL (P := ZR) (ZR_pI hq10 (by decide)) (fun c15 hq13 =>
               (zcI (fun hq14 =>
                (zcS hq13)) (fun _ =>
                zcN))))) (fun _ =>
              zcN))) (fun _ =>
             zcN))))) (fun _ =>
           zcN))) (fun _ =>
          zcN))))) (fun _ =>
        zcN))) (fun _ =>
       (zcS hq1)))))) (fun _ =>
     (zcS hq1)))))))
theorem z_389 {n : Nat} {a1 : Int32}  (hc : ZR c) : zc (d_389 n a1 c) (fun r : Int32 × cS => ZR r.2) := by
  unfold d_389
  exact (zcI (fun hq1 =>
   (zcl (fun v3 =>
    (zcB (zcW (I := (fun r : Int32 × cS => ZR r.2)) (X := ZR) (fun s6 hq2 =>
     (zcI (fun hq3 =>
      (zcS hq2)) (fun _ =>
      (zcB (zcW (I := (fun r : Int32 × cS => ZR r.2)) (X := ZR) (fun s8 hq4 =>
       (zcI (fun hq5 =>
        (zcS hq4)) (fun _ =>
        (zcB (zcW (I := (fun r : Int32 × cS => ZR r.2)) (X := ZR) (fun s10 hq6 =>
         (zcI (fun hq7 =>
          (zcS hq6)) (fun _ =>
          (zcB0 (fun v11 =>
           (zcJ (P := fun y : cS => ZR y) (fun p12 hq8 =>
            (zcl (fun v14 =>
             (zcS hq8)))) (fun j69 hq9 =>
            (zcI (fun hq10 =>
             (hq9 _ hq6)) (fun _ =>
             (zcB0 (fun v16 =>
              (zcI (fun hq11 =>
               (hq9 _ hq6)) (fun _ =>
               (zcB0 (fun v17 =>
                (zcI (fun hq12 =>
                 (zcL (P := ZR) (ZR_pI hq6 (by decide)) (fun c19 hq13 =>
                  (hq9 _ hq13)))) (fun _ =>
                 zcN))))))))))))))))) hq4) (fun x21 hq14 =>
         (zcl (fun v23 =>
          (zcS hq14)))))))) hq2) (fun x25 hq15 =>
       (zcl (fun v27 =>
        (zcS hq15)))))))) hc) (fun x29 hq16 =>
     (zcB (zcW (I := (fun r : Int32 × Int32 × cS => ZR r.2.2)) (X := (fun r : Int32 × cS => ZR r.2)) (fun s32 hq17 =>
      (zcI (fun hq18 =>
       (zcS hq17)) (fun _ =>
       (zcI (fun hq19 =>
        (zcS hq17)) (fun _ =>
        (zcB (zcW (I := (fun r : Int32 × Int32 × cS => ZR r.2.2)) (X := (fun r : Int32 × cS => ZR r.2)) (fun s34 hq20 =>
         (zcI (fun hq21 =>
          (zcS hq20)) (fun _ =>
          (zcI (fun hq22 =>
           (zcS hq20)) (fun _ =>
           (zcJ (P := fun y : Int32 => (fun _ : Int32 => True) y) (fun p35 hq23 =>
            (zcB0 (fun v37 =>
             (zcB0 (fun v38 =>
              (zcI (fun hq25 =>
               (zcL (P := ZR) (ZR_pI hq20 (by decide)) (fun c40 hq26 =>
                (zcB0 (fun v42 =>
                 (zcB0 (fun v43 =>
                  (zcI (fun hq27 =>
                   (zcL (P := ZR) (ZR_pI hq26 (by decide)) (fun c45 hq28 =>
                    (zcJ (P := fun y : Int32 => (fun _ : Int32 => True) y) (fun p47 hq29 =>
                     (zcl (fun v50 =>
                      (zcS hq28)))) (fun j243 hq30 =>
                     (zcJ (P := fun y : Unit => (fun _ : Unit => True) y) (fun p52 hq31 =>
                      (hq30 _ trivial)) (fun j242 hq32 =>
                      (zcI (fun hq33 =>
                       (hq32 _ trivial)) (fun _ =>
                       (zcB0 (fun v53 =>
                        (zcI (fun hq34 =>
                         (zcI (fun hq35 =>
                          (hq32 _ trivial)) (fun _ =>
                          (zcB0 (fun v55 =>
                           (zcI (fun hq36 =>
                            (zcI (fun hq37 =>
                             (hq32 _ trivial)) (fun _ =>
                             (hq30 _ trivial)))) (fun _ =>
                            zcN))))))) (fun _ =>
                         zcN))))))))))))) (fun _ =>
                   zcN))))))))) (fun _ =>
               zcN))))))) (fun j151 hq24 =>
            (zcJ (P := fun y : Unit => (fun _ : Unit => True) y) (fun p57 hq38 =>
             (hq24 _ trivial)) (fun j146 hq39 =>
             (zcI (fun hq40 =>
              (hq39 _ trivial)) (fun _ =>
              (zcB0 (fun v58 =>
               (zcI (fun hq41 =>
                (hq39 _ trivial)) (fun _ =>
                (zcB0 (fun v59 =>
                 (zcI (fun hq42 =>
                  (hq39 _ trivial)) (fun _ =>
                  (hq24 _ trivial)))))))))))))))))))) hq17) (fun x60 hq43 =>
         (zcl (fun v62 =>
          (zcS hq43)))))))))) hq16) (fun x64 hq44 =>
      (zcB (zcW (I := (fun r : Int32 × cS => ZR r.2)) (X := ZR) (fun s66 hq45 =>
       (zcI (fun hq46 =>
        (zcS hq45)) (fun _ =>
        (zcB0 (fun x82 =>
         (zcJ (P := fun y : cS => ZR y) (fun p83 hq48 =>
          (zcJ (P := fun y : cS => ZR y) (fun p84 hq50 =>
           (zcl (fun v86 =>
            (zcS hq50)))) (fun j360 hq51 =>
           (zcI (fun hq52 =>
            (hq51 _ hq48)) (fun _ =>
            (zcI (fun hq53 =>
             (zcL (P := ZR) (ZR_pI hq48 (by decide)) (fun c89 hq54 =>
              (hq51 _ hq54)))) (fun _ =>
             zcN))))))) (fun j347 hq49 =>
          (zcI (fun hq55 =>
           (hq49 _ hq45)) (fun _ =>
           (zcI (fun hq56 =>
            (zcL (P := ZR) (ZR_pI hq45 (by decide)) (fun c92 hq57 =>
             (hq49 _ hq57)))) (fun _ =>
            zcN))))))))))) hq44) (fun x94 hq58 =>
       (zcI (fun hq59 =>
        (zcS hq58)) (fun _ =>
        zcN))))))))))) (fun _ =>
   zcN))
theorem z_386 {n : Nat}   (hc : ZR c) : zc (d_386 n c) ZR := by
  unfold d_386
  exact (zcl (fun v2 =>
   (zcB (z_383 hc) (fun r4 hq1 =>
    (zcB (z_380 hq1) (fun r6 hq2 =>
     (zcI (fun hq3 =>
      (zcl (fun v8 =>
       (zcI (fun hq4 =>
        (zcL (P := ZR) (ZR_pI hq2 (by decide)) (fun c11 hq5 =>
         (zcB (zcW (I := (fun r : Int32 × cS => ZR r.2)) (X := ZR) (fun s14 hq6 =>
          (zcI (fun hq7 =>
           (zcS hq6)) (fun _ =>
           (zcB (zcW (I := (fun r : Int32 × cS => ZR r.2)) (X := ZR) (fun s16 hq8 =>
            (zcI (fun hq9 =>
             (zcS hq8)) (fun _ =>
             (zcB0 (fun v17 =>
              (zcJ (P := fun y : Int32 => (fun _ : Int32 => True) y) (fun p18 hq10 =>
               (zcI (fun hq12 =>
                (zcL (P := ZR) (ZR_pI hq8 (by decide)) (fun c20 hq13 =>
                 (zcl (fun v23 =>
                  (zcS hq13)))))) (fun _ =>
                zcN))) (fun j89 hq11 =>
               (zcI (fun hq14 =>
                (hq11 _ trivial)) (fun _ =>
                (hq11 _ trivial)))))))))) hq6) (fun x25 hq15 =>
            (zcl (fun v27 =>
             (zcS hq15)))))))) hq5) (fun x29 hq16 =>
          (zcB (zcW (I := (fun r : Int32 × cS => ZR r.2)) (X := ZR) (fun s31 hq17 =>
           (zcI (fun hq18 =>
            (zcS hq17)) (fun _ =>
            (zcI (fun hq19 =>
             (zcB (z_384 hq17) (fun r32 hq20 =>
              (zcB (z_379 hq20) (fun r34 hq21 =>
               (zcJ (P := fun y : cS => ZR y) (fun p35 hq22 =>
                (zcB (z_379 hq22) (fun r36 hq24 =>
                 (zcS hq24)))) (fun j165 hq23 =>
                (zcI (fun hq25 =>
                 (hq23 _ hq21)) (fun _ =>
                 (zcB (z_384 hq21) (fun r38 hq26 =>
                  (zcI (fun hq27 =>
                   (zcB0 (fun v40 =>
                    (zcI (fun hq28 =>
                     (zcL (P := ZR) (ZR_pI hq26 (by decide)) (fun c42 hq29 =>
                      (hq23 _ hq29)))) (fun _ =>
                     zcN))))) (fun _ =>
                   (hq23 _ hq26)))))))))))))) (fun _ =>
             (zcS hq17)))))) hq16) (fun x44 hq30 =>
           (zcI (fun hq31 =>
            (zcB0 (fun v45 =>
             (zcI (fun hq32 =>
              (zcB (z_103 hq30) (fun r57 hq33 =>
               (zcS hq33)))) (fun _ =>
              (zcB (z_389 hq30) (fun r46 hq34 =>
               (zcJ (P := fun y : cS => ZR y) (fun p47 hq35 =>
                (zcL (P := ZR) (ZR_p4 hq35 (by decide)) (fun c48 hq37 =>
                 (zcI (fun hq38 =>
                  (zcL (P := ZR) (ZR_pL hq37) (fun c51 hq39 =>
                   (zcL (P := ZR) (ZR_p4 hq39 (by decide)) (fun c53 hq40 =>
                    (zcS hq40)))))) (fun _ =>
                  zcN))))) (fun j218 hq36 =>
                (zcI (fun hq41 =>
                 (zcI (fun hq42 =>
                  (zcB (z_97 hq34) (fun r56 hq43 =>
                   (hq36 _ hq43)))) (fun _ =>
                  zcN))) (fun _ =>
                 (hq36 _ hq34)))))))))))) (fun _ =>
            (zcS hq30)))))))))) (fun _ =>
        zcN))))) (fun _ =>
      (zcS hq2)))))))))
theorem z_393 {n : Nat} {a1 : Int32} {a2 : Int64} {a4 : Int32}  (hc : ZR c) : zc (d_393 n a1 a2 a4 c) ZR := by
  unfold d_393
  exact (zcI (fun hq1 =>
   (zcB0 (fun v2 =>
    (zcI (fun hq2 =>
     (zcL (P := ZR) (ZR_pL hc) (fun c5 hq3 =>
      (zcI (fun hq4 =>
       (zcL (P := ZR) (ZR_pI hq3 (by decide)) (fun c8 hq5 =>
        (zcI (fun hq6 =>
         (zcL (P := ZR) (ZR_pI hq5 (by decide)) (fun c11 hq7 =>
          (zcI (fun hq8 =>
           (zcI (fun hq9 =>
            (zcL (P := ZR) (ZR_pI hq7 (by decide)) (fun c15 hq10 =>
             (zcS hq10)))) (fun _ =>
            zcN))) (fun _ =>
           zcN))))) (fun _ =>
         zcN))))) (fun _ =>
       zcN))))) (fun _ =>
     zcN))))) (fun _ =>
   zcN))
theorem z_394 {n : Nat} {a1 : Int32} {a2 : Int64} {a4 : Int32} {a5 : Int64}  (hc : ZR c) : zc (d_394 n a1 a2 a4 a5 c) ZR := by
  unfold d_394
  exact (zcI (fun hq1 =>
   (zcl (fun v3 =>
    (zcI (fun hq2 =>
     (zcL (P := ZR) (ZR_pL hc) (fun c6 hq3 =>
      (zcI (fun hq4 =>
       (zcL (P := ZR) (ZR_pI hq3 (by decide)) (fun c9 hq5 =>
        (zcI (fun hq6 =>
         (zcL (P := ZR) (ZR_pL hq5) (fun c12 hq7 =>
          (zcI (fun hq8 =>
           (zcI (fun hq9 =>
            (zcL (P := ZR) (ZR_pI hq7 (by decide)) (fun c16 hq10 =>
             (zcS hq10)))) (fun _ =>
            zcN))) (fun _ =>
           zcN))))) (fun _ =>
         zcN))))) (fun _ =>
       zcN))))) (fun _ =>
     zcN))))) (fun _ =>
   zcN))
theorem z_382 {n : Nat} {a1 : Int32} {a2 : Int32}  (hc : ZR c) : zc (d_382 n a1 a2 c) ZR := by
  unfold d_382
  exact (zcI (fun hq1 =>
   (zcl (fun v2 =>
    (zcI (fun hq2 =>
     (zcJ (P := fun y : Int32 => (fun _ : Int32 => True) y) (fun p5 hq3 =>
      (zcI (fun hq5 =>
       (zcJ (P := fun y : Int32 => (fun _ : Int32 => True) y) (fun p8 hq6 =>
        (zcJ (P := fun y : Unit => (fun _ : Unit => True) y) (fun p10 hq8 =>
         (zcB (z_103 hc) (fun r11 hq10 =>
          (zcS hq10)))) (fun j82 hq9 =>
         (zcJ (P := fun y : Unit => (fun _ : Unit => True) y) (fun p12 hq11 =>
          (zcJ (P := fun y : Unit => (fun _ : Unit => True) y) (fun p13 hq13 =>
           (zcJ (P := fun y : Unit => (fun _ : Unit => True) y) (fun p14 hq15 =>
            (zcB (z_379 hc) (fun r15 hq17 =>
             (zcJ (P := fun y : Unit => (fun _ : Unit => True) y) (fun p17 hq18 =>
              (zcJ (P := fun y : Int64 => (fun _ : Int64 => True) y) (fun p18 hq20 =>
               (zcL (P := ZR) (ZR_pL hq17) (fun c19 hq22 =>
                (zcL (P := ZR) (ZR_p4 hq22 (by decide)) (fun c21 hq23 =>
                 (zcS hq23)))))) (fun j168 hq21 =>
               (zcI (fun hq24 =>
                (zcI (fun hq25 =>
                 (hq21 _ trivial)) (fun _ =>
                 zcN))) (fun _ =>
                (zcI (fun hq26 =>
                 (hq21 _ trivial)) (fun _ =>
                 zcN))))))) (fun j140 hq19 =>
              (zcI (fun hq27 =>
               (zcI (fun hq28 =>
                (zcI (fun hq29 =>
                 (hq19 _ trivial)) (fun _ =>
                 (zcB (z_103 hq17) (fun r26 hq30 =>
                  (zcS hq30)))))) (fun _ =>
                zcN))) (fun _ =>
               (hq19 _ trivial)))))))) (fun j110 hq16 =>
            (zcI (fun hq31 =>
             (hq16 _ trivial)) (fun _ =>
             (zcI (fun hq32 =>
              (hq16 _ trivial)) (fun _ =>
              (zcI (fun hq33 =>
               (zcB (z_97 hc) (fun r28 hq34 =>
                (zcS hq34)))) (fun _ =>
               zcN))))))))) (fun j87 hq14 =>
           (zcI (fun hq35 =>
            (zcI (fun hq36 =>
             (hq14 _ trivial)) (fun _ =>
             (hq9 _ trivial)))) (fun _ =>
            (hq14 _ trivial)))))) (fun j72 hq12 =>
          (zcI (fun hq37 =>
           (zcI (fun hq38 =>
            (hq9 _ trivial)) (fun _ =>
            (hq12 _ trivial)))) (fun _ =>
           (hq12 _ trivial)))))))) (fun j60 hq7 =>
        (zcJ (P := fun y : Unit => (fun _ : Unit => True) y) (fun p29 hq39 =>
         (hq7 _ trivial)) (fun j55 hq40 =>
         (zcI (fun hq41 =>
          (hq40 _ trivial)) (fun _ =>
          (zcB0 (fun v30 =>
           (zcI (fun hq42 =>
            (hq7 _ trivial)) (fun _ =>
            (hq40 _ trivial)))))))))))) (fun _ =>
       zcN))) (fun j31 hq4 =>
      (zcI (fun hq43 =>
       (hq4 _ trivial)) (fun _ =>
       (hq4 _ trivial)))))) (fun _ =>
     zcN))))) (fun _ =>
   (zcS hc)))
theorem z_398 {n : Nat} {a1 : Int32} {a2 : Int32}  (hc : ZR c) : zc (d_398 n a1 a2 c) ZR := by
  unfold d_398
  exact (zcB (zcW (I := (fun r : Int32 × cS => ZR r.2)) (X := (Sum.elim ZR (Sum.elim ZR (Sum.elim ZR ZR)))) (fun s2 hq1 =>
   (zcI (fun hq2 =>
    (zcS hq1)) (fun _ =>
    (zcI (fun hq3 =>
     (zcl (fun v4 =>
      (zcB (z_381 hq1) (fun r6 hq4 =>
       (zcI (fun hq5 =>
        (zcB0 (fun v8 =>
         (zcJ (P := fun y : cS => ZR y) (fun p10 hq6 =>
          (zcB (zcW (I := (fun r : Int32 × cS => ZR r.2)) (X := ZR) (fun s12 hq8 =>
           (zcI (fun hq9 =>
            (zcI (fun hq10 =>
             (zcS hq8)) (fun _ =>
             (zcI (fun hq11 =>
              (zcJ (P := fun y : cS => ZR y) (fun p15 hq12 =>
               (zcl (fun v17 =>
                (zcS hq12)))) (fun j102 hq13 =>
               (zcI (fun hq14 =>
                (zcI (fun hq15 =>
                 (zcB (z_97 hq8) (fun r20 hq16 =>
                  (hq13 _ hq16)))) (fun _ =>
                 zcN))) (fun _ =>
                (hq13 _ hq8)))))) (fun _ =>
              zcN))))) (fun _ =>
            zcN))) hq6) (fun x21 hq17 =>
           (zcB (z_380 hq17) (fun r22 hq18 =>
            (zcI (fun hq19 =>
             (zcI (fun hq20 =>
              (zcl (fun v25 =>
               (zcB (z_382 hq18) (fun r27 hq21 =>
                (zcI (fun hq22 =>
                 (zcJ (P := fun y : Int32 => (fun _ : Int32 => True) y) (fun p28 hq23 =>
                  (zcB (z_394 hq21) (fun r29 hq25 =>
                   (zcB (z_379 hq25) (fun r30 hq26 =>
                    (zcS hq26)))))) (fun j164 hq24 =>
                  (zcI (fun hq27 =>
                   (hq24 _ trivial)) (fun _ =>
                   (hq24 _ trivial)))))) (fun _ =>
                 (zcS hq21)))))))) (fun _ =>
              zcN))) (fun _ =>
             (zcS hq18)))))))) (fun j59 hq7 =>
          (zcI (fun hq28 =>
           (hq7 _ hq4)) (fun _ =>
           (zcI (fun hq29 =>
            (zcB (z_97 hq4) (fun r33 hq30 =>
             (hq7 _ hq30)))) (fun _ =>
            zcN))))))))) (fun _ =>
        (zcS hq4)))))))) (fun _ =>
     (zcS hq1)))))) hc) (fun zq31 hq32 =>
   (zcE hq32 (fun x34 hq33 =>
    (zcB (z_380 hq33) (fun r35 hq34 =>
     (zcS hq34)))) (fun zq35 hq36 =>
    (zcE hq36 (fun x36 hq37 =>
     (zcS hq37)) (fun zq38 hq39 =>
     (zcE hq39 (fun x37 hq40 =>
      (zcS hq40)) (fun x38 hq41 =>
      (zcS hq41)))))))))
theorem z_397 {n : Nat} {a1 : Int32} {a2 : Int32} {a3 : Int32}  (hc : ZR c) : zc (d_397 n a1 a2 a3 c) ZR := by
  unfold d_397
  exact (zcB0 (fun v2 =>
   (zcJ (P := fun y : Int32 × cS => (fun r : Int32 × cS => ZR r.2) y) (fun p3 hq1 =>
    (zcl (fun v5 =>
     (zcB (z_381 hq1) (fun r7 hq3 =>
      (zcI (fun hq4 =>
       (zcB0 (fun v9 =>
        (zcB0 (fun v11 =>
         (zcJ (P := fun y : cS => ZR y) (fun p13 hq5 =>
          (zcI (fun hq7 =>
           (zcJ (P := fun y : cS => ZR y) (fun p14 hq8 =>
            (zcJ (P := fun y : Int32 => (fun _ : Int32 => True) y) (fun p15 hq10 =>
             (zcJ (P := fun y : cS => ZR y) (fun p17 hq12 =>
              (zcI (fun hq14 =>
               (zcB (z_393 hq12) (fun r18 hq15 =>
                (zcI (fun hq16 =>
                 (zcI (fun hq17 =>
                  (zcB0 (fun v20 =>
                   (zcI (fun hq18 =>
                    (zcB (z_379 hq15) (fun r22 hq19 =>
                     (zcJ (P := fun y : cS => ZR y) (fun p23 hq20 =>
                      (zcB (zcW (I := (fun r : Int32 × cS => ZR r.2)) (X := ZR) (fun s25 hq22 =>
                       (zcI (fun hq23 =>
                        (zcI (fun hq24 =>
                         (zcS hq22)) (fun _ =>
                         (zcI (fun hq25 =>
                          (zcI (fun hq26 =>
                           (zcl (fun v29 =>
                            (zcB0 (fun x42 =>
                             (zcJ (P := fun y : cS => ZR y) (fun p43 hq28 =>
                              (zcl (fun v45 =>
                               (zcS hq28)))) (fun j453 hq29 =>
                              (zcI (fun hq30 =>
                               (zcI (fun hq31 =>
                                (zcB (z_97 hq22) (fun r48 hq32 =>
                                 (hq29 _ hq32)))) (fun _ =>
                                zcN))) (fun _ =>
                               (hq29 _ hq22)))))))))) (fun _ =>
                           zcN))) (fun _ =>
                          (zcS hq22)))))) (fun _ =>
                        zcN))) hq20) (fun x49 hq33 =>
                       (zcS hq33)))) (fun j338 hq21 =>
                      (zcI (fun hq34 =>
                       (hq21 _ hq19)) (fun _ =>
                       (zcB (z_398 hq19) (fun r50 hq35 =>
                        (hq21 _ hq35)))))))))) (fun _ =>
                    (zcB (z_380 hq15) (fun r51 hq36 =>
                     (zcl (fun v53 =>
                      (zcB (z_381 hq36) (fun r55 hq37 =>
                       (zcJ (P := fun y : cS => ZR y) (fun p57 hq38 =>
                        (zcJ (P := fun y : cS => ZR y) (fun p58 hq40 =>
                         (zcS hq40)) (fun j320 hq41 =>
                         (zcI (fun hq42 =>
                          (zcB (z_394 hq38) (fun r59 hq43 =>
                           (hq41 _ hq43)))) (fun _ =>
                          (hq41 _ hq38)))))) (fun j301 hq39 =>
                        (zcI (fun hq44 =>
                         (zcB0 (fun v60 =>
                          (zcI (fun hq45 =>
                           (hq39 _ hq37)) (fun _ =>
                           (zcI (fun hq46 =>
                            (zcB (z_97 hq37) (fun r62 hq47 =>
                             (hq39 _ hq47)))) (fun _ =>
                            zcN))))))) (fun _ =>
                         (hq39 _ hq37)))))))))))))))) (fun _ =>
                  zcN))) (fun _ =>
                 (zcS hq15)))))) (fun _ =>
               (zcS hq12)))) (fun j210 hq13 =>
              (zcI (fun hq48 =>
               (zcI (fun hq49 =>
                (zcB (z_97 hq8) (fun r64 hq50 =>
                 (hq13 _ hq50)))) (fun _ =>
                zcN))) (fun _ =>
               (hq13 _ hq8)))))) (fun j190 hq11 =>
             (zcI (fun hq51 =>
              (zcJ (P := fun y : Unit => (fun _ : Unit => True) y) (fun p65 hq52 =>
               (hq11 _ trivial)) (fun j189 hq53 =>
               (zcI (fun hq54 =>
                (hq53 _ trivial)) (fun _ =>
                (zcJ (P := fun y : Unit => (fun _ : Unit => True) y) (fun p66 hq55 =>
                 (hq11 _ trivial)) (fun j185 hq56 =>
                 (zcI (fun hq57 =>
                  (hq56 _ trivial)) (fun _ =>
                  (zcI (fun hq58 =>
                   (zcI (fun hq59 =>
                    (hq53 _ trivial)) (fun _ =>
                    (hq56 _ trivial)))) (fun _ =>
                   zcN))))))))))) (fun _ =>
              (zcI (fun hq60 =>
               (hq11 _ trivial)) (fun _ =>
               (hq11 _ trivial)))))))) (fun j143 hq9 =>
            (zcJ (P := fun y : Unit => (fun _ : Unit => True) y) (fun p68 hq61 =>
             (zcI (fun hq63 =>
              (zcB0 (fun v70 =>
               (zcI (fun hq64 =>
                (hq9 _ hq5)) (fun _ =>
                (zcI (fun hq65 =>
                 (zcB (z_97 hq5) (fun r72 hq66 =>
                  (hq9 _ hq66)))) (fun _ =>
                 zcN))))))) (fun _ =>
              zcN))) (fun j115 hq62 =>
             (zcI (fun hq67 =>
              (hq62 _ trivial)) (fun _ =>
              (zcI (fun hq68 =>
               (zcI (fun hq69 =>
                (hq62 _ trivial)) (fun _ =>
                (hq9 _ hq5)))) (fun _ =>
               zcN))))))))) (fun _ =>
           (zcS hq5)))) (fun j92 hq6 =>
          (zcI (fun hq70 =>
           (hq6 _ hq3)) (fun _ =>
           (zcI (fun hq71 =>
            (hq6 _ hq3)) (fun _ =>
            (zcI (fun hq72 =>
             (zcB (z_97 hq3) (fun r75 hq73 =>
              (hq6 _ hq73)))) (fun _ =>
             zcN))))))))))))) (fun _ =>
       (zcS hq3)))))))) (fun j34 hq2 =>
    (zcI (fun hq74 =>
     (hq2 _ hc)) (fun _ =>
     (zcI (fun hq75 =>
      (zcB (z_103 hc) (fun r79 hq76 =>
       (zcS hq76)))) (fun _ =>
      (zcL (P := ZR) (ZR_p4 hc (by decide)) (fun c77 hq77 =>
       (hq2 _ hq77)))))))))))
theorem z_396 {n : Nat} {a1 : Int32} {a2 : Int32} {a3 : Int32} {a4 : Int32}  (hc : ZR c) : zc (d_396 n a1 a2 a3 a4 c) ZR := by
  unfold d_396
  exact (zcI (fun hq1 =>
   (zcL (P := ZR) (ZR_pI hc (by decide)) (fun c2 hq2 =>
    (zcJ (P := fun y : cS => ZR y) (fun p4 hq3 =>
     (zcB (zcW (I := ZR) (X := ZR) (fun s5 hq5 =>
      (zcI (fun hq6 =>
       (zcB0 (fun v6 =>
        (zcI (fun hq7 =>
         (zcS hq5)) (fun _ =>
         (zcI (fun hq8 =>
          (zcJ (P := fun y : cS => ZR y) (fun p8 hq9 =>
           (zcL (P := ZR) (ZR_p4 hq9 (by decide)) (fun c9 hq11 =>
            (zcI (fun hq12 =>
             (zcB (z_397 hq11) (fun r11 hq13 =>
              (zcS hq13)))) (fun _ =>
             (zcS hq11)))))) (fun j74 hq10 =>
           (zcI (fun hq14 =>
            (zcI (fun hq15 =>
             (zcB (z_97 hq5) (fun r13 hq16 =>
              (hq10 _ hq16)))) (fun _ =>
             zcN))) (fun _ =>
            (hq10 _ hq5)))))) (fun _ =>
          zcN))))))) (fun _ =>
       (zcS hq5)))) hq3) (fun x14 hq17 =>
      (zcS hq17)))) (fun j32 hq4 =>
     (zcI (fun hq18 =>
      (hq4 _ hq2)) (fun _ =>
      (zcI (fun hq19 =>
       (zcB0 (fun v15 =>
        (zcI (fun hq20 =>
         (zcB (z_103 hq2) (fun r16 hq21 =>
          (hq4 _ hq21)))) (fun _ =>
         (hq4 _ hq2)))))) (fun _ =>
       (hq4 _ hq2)))))))))) (fun _ =>
   zcN))
theorem z_401 {n : Nat} {a1 : Int32}  (hc : ZR c) : zc (d_401 n a1 c) ZR := by
  unfold d_401
  exact (zcl (fun v2 =>
   (zcB (z_381 hc) (fun r4 hq1 =>
    (zcI (fun hq2 =>
     (zcB0 (fun v6 =>
      (zcJ (P := fun y : cS => ZR y) (fun p7 hq3 =>
       (zcI (fun hq5 =>
        (zcJ (P := fun y : cS => ZR y) (fun p9 hq6 =>
         (zcB (z_380 hq6) (fun r10 hq8 =>
          (zcI (fun hq9 =>
           (zcI (fun hq10 =>
            (zcl (fun v13 =>
             (zcI (fun hq11 =>
              (zcL (P := ZR) (ZR_pL hq8) (fun c16 hq12 =>
               (zcB0 (fun v18 =>
                (zcI (fun hq13 =>
                 (zcL (P := ZR) (ZR_pI hq12 (by decide)) (fun c20 hq14 =>
                  (zcB (z_102 hq14) (fun r22 hq15 =>
                   (zcJ (P := fun y : cS => ZR y) (fun p23 hq16 =>
                    (zcI (fun hq18 =>
                     (zcL (P := ZR) (ZR_pI hq16 (by decide)) (fun c25 hq19 =>
                      (zcB (z_379 hq19) (fun r27 hq20 =>
                       (zcJ (P := fun y : cS => ZR y) (fun p28 hq21 =>
                        (zcI (fun hq23 =>
                         (zcI (fun hq24 =>
                          (zcL (P := ZR) (ZR_pI hq21 (by decide)) (fun c31 hq25 =>
                           (zcS hq25)))) (fun _ =>
                          zcN))) (fun _ =>
                         zcN))) (fun j177 hq22 =>
                        (zcI (fun hq26 =>
                         (hq22 _ hq20)) (fun _ =>
                         (zcI (fun hq27 =>
                          (zcB (z_382 hq20) (fun r34 hq28 =>
                           (zcI (fun hq29 =>
                            (zcL (P := ZR) (ZR_pI hq28 (by decide)) (fun c36 hq30 =>
                             (zcI (fun hq31 =>
                              (zcL (P := ZR) (ZR_pL hq30) (fun c39 hq32 =>
                               (hq22 _ hq32)))) (fun _ =>
                              zcN))))) (fun _ =>
                            zcN))))) (fun _ =>
                          zcN))))))))))) (fun _ =>
                     zcN))) (fun j129 hq17 =>
                    (zcI (fun hq33 =>
                     (zcB (z_102 hq15) (fun r41 hq34 =>
                      (zcI (fun hq35 =>
                       (zcB (z_103 hq34) (fun r42 hq36 =>
                        (hq17 _ hq36)))) (fun _ =>
                       (hq17 _ hq34)))))) (fun _ =>
                     (hq17 _ hq15)))))))))) (fun _ =>
                 zcN))))))) (fun _ =>
              zcN))))) (fun _ =>
            zcN))) (fun _ =>
           (zcS hq8)))))) (fun j60 hq7 =>
         (zcI (fun hq37 =>
          (zcI (fun hq38 =>
           (zcB (z_97 hq3) (fun r44 hq39 =>
            (hq7 _ hq39)))) (fun _ =>
           zcN))) (fun _ =>
          (hq7 _ hq3)))))) (fun _ =>
        zcN))) (fun j38 hq4 =>
       (zcI (fun hq40 =>
        (hq4 _ hq1)) (fun _ =>
        (zcI (fun hq41 =>
         (zcB (z_97 hq1) (fun r46 hq42 =>
          (hq4 _ hq42)))) (fun _ =>
         zcN))))))))) (fun _ =>
     (zcS hq1)))))))
theorem z_400 {n : Nat}   (hc : ZR c) : zc (d_400 n c) ZR := by
  unfold d_400
  exact (zcB (z_383 hc) (fun r1 hq1 =>
   (zcI (fun hq2 =>
    (zcl (fun v4 =>
     (zcI (fun hq3 =>
      (zcL (P := ZR) (ZR_pI hq1 (by decide)) (fun c7 hq4 =>
       (zcB (z_379 hq4) (fun r9 hq5 =>
        (zcJ (P := fun y : cS => ZR y) (fun p10 hq6 =>
         (zcI (fun hq8 =>
          (zcL (P := ZR) (ZR_pI hq6 (by decide)) (fun c12 hq9 =>
           (zcB (z_102 hq9) (fun r14 hq10 =>
            (zcJ (P := fun y : cS => ZR y) (fun p15 hq11 =>
             (zcB (z_102 hq11) (fun r16 hq13 =>
              (zcI (fun hq14 =>
               (zcL (P := ZR) (ZR_pI hq13 (by decide)) (fun c18 hq15 =>
                (zcB (z_102 hq15) (fun r20 hq16 =>
                 (zcI (fun hq17 =>
                  (zcL (P := ZR) (ZR_pI hq16 (by decide)) (fun c22 hq18 =>
                   (zcI (fun hq19 =>
                    (zcL (P := ZR) (ZR_pI hq18 (by decide)) (fun c25 hq20 =>
                     (zcB (z_379 hq20) (fun r27 hq21 =>
                      (zcJ (P := fun y : cS => ZR y) (fun p28 hq22 =>
                       (zcB (z_380 hq22) (fun r29 hq24 =>
                        (zcI (fun hq25 =>
                         (zcL (P := ZR) (ZR_pL hq24) (fun c31 hq26 =>
                          (zcL (P := ZR) (ZR_p4 hq26 (by decide)) (fun c33 hq27 =>
                           (zcS hq27)))))) (fun _ =>
                         zcN))))) (fun j242 hq23 =>
                       (zcI (fun hq28 =>
                        (hq23 _ hq21)) (fun _ =>
                        (zcB (z_396 hq21) (fun r35 hq29 =>
                         (hq23 _ hq29)))))))))))) (fun _ =>
                    zcN))))) (fun _ =>
                  zcN))))))) (fun _ =>
               zcN))))) (fun j185 hq12 =>
             (zcI (fun hq30 =>
              (hq12 _ hq10)) (fun _ =>
              (zcI (fun hq31 =>
               (zcL (P := ZR) (ZR_pI hq10 (by decide)) (fun c37 hq32 =>
                (zcB (zcW (I := ZR) (X := ZR) (fun s39 hq33 =>
                 (zcI (fun hq34 =>
                  (zcI (fun hq35 =>
                   (zcI (fun hq36 =>
                    (zcI (fun hq37 =>
                     (zcB0 (fun v42 =>
                      (zcI (fun hq38 =>
                       (zcS hq33)) (fun _ =>
                       (zcI (fun hq39 =>
                        (zcI (fun hq40 =>
                         (zcB0 (fun v45 =>
                          (zcI (fun hq41 =>
                           (zcL (P := ZR) (ZR_pI hq33 (by decide)) (fun c47 hq42 =>
                            (zcL (P := ZR) (ZR_p4 hq42 (by decide)) (fun c49 hq43 =>
                             (zcS hq43)))))) (fun _ =>
                           zcN))))) (fun _ =>
                         zcN))) (fun _ =>
                        zcN))))))) (fun _ =>
                     zcN))) (fun _ =>
                    (zcS hq33)))) (fun _ =>
                   zcN))) (fun _ =>
                  (zcS hq33)))) hq32) (fun x51 hq44 =>
                 (zcI (fun hq45 =>
                  (zcI (fun hq46 =>
                   (zcB (z_103 hq44) (fun r53 hq47 =>
                    (hq12 _ hq47)))) (fun _ =>
                   (hq12 _ hq44)))) (fun _ =>
                  zcN))))))) (fun _ =>
               zcN))))))))))) (fun _ =>
          zcN))) (fun j77 hq7 =>
         (zcI (fun hq48 =>
          (hq7 _ hq5)) (fun _ =>
          (zcB (zcW (I := (fun r : Int32 × cS => ZR r.2)) (X := ZR) (fun s55 hq49 =>
           (zcI (fun hq50 =>
            (zcS hq49)) (fun _ =>
            (zcI (fun hq51 =>
             (zcB (z_401 hq49) (fun r56 hq52 =>
              (zcB (z_379 hq52) (fun r57 hq53 =>
               (zcS hq53)))))) (fun _ =>
             (zcS hq49)))))) hq5) (fun x59 hq54 =>
           (zcB (z_380 hq54) (fun r60 hq55 =>
            (hq7 _ hq55)))))))))))))) (fun _ =>
      zcN))))) (fun _ =>
    (zcS hq1)))))
theorem z_402 {n : Nat}   (hc : ZR c) : zc (d_402 n c) ZR := by
  unfold d_402
  exact (zcB (z_383 hc) (fun r1 hq1 =>
   (zcB (z_380 hq1) (fun r3 hq2 =>
    (zcI (fun hq3 =>
     (zcl (fun v5 =>
      (zcB (z_381 hq2) (fun r7 hq4 =>
       (zcJ (P := fun y : cS => ZR y) (fun p9 hq5 =>
        (zcJ (P := fun y : cS => ZR y) (fun p10 hq7 =>
         (zcI (fun hq9 =>
          (zcB (z_396 hq7) (fun r11 hq10 =>
           (zcB (z_380 hq10) (fun r12 hq11 =>
            (zcI (fun hq12 =>
             (zcI (fun hq13 =>
              (zcL (P := ZR) (ZR_pL hq11) (fun c14 hq14 =>
               (zcB0 (fun v16 =>
                (zcI (fun hq15 =>
                 (zcL (P := ZR) (ZR_pI hq14 (by decide)) (fun c18 hq16 =>
                  (zcL (P := ZR) (ZR_p4 hq16 (by decide)) (fun c20 hq17 =>
                   (zcS hq17)))))) (fun _ =>
                 zcN))))))) (fun _ =>
              zcN))) (fun _ =>
             (zcS hq11)))))))) (fun _ =>
          (zcS hq7)))) (fun j83 hq8 =>
         (zcI (fun hq18 =>
          (zcB (z_102 hq5) (fun r22 hq19 =>
           (zcI (fun hq20 =>
            (zcB (z_103 hq19) (fun r23 hq21 =>
             (hq8 _ hq21)))) (fun _ =>
            (hq8 _ hq19)))))) (fun _ =>
          (hq8 _ hq5)))))) (fun j63 hq6 =>
        (zcI (fun hq22 =>
         (zcB0 (fun v24 =>
          (zcI (fun hq23 =>
           (hq6 _ hq4)) (fun _ =>
           (zcI (fun hq24 =>
            (zcB (z_97 hq4) (fun r26 hq25 =>
             (hq6 _ hq25)))) (fun _ =>
            zcN))))))) (fun _ =>
         (hq6 _ hq4)))))))))) (fun _ =>
     (zcS hq2)))))))
theorem z_404 {n : Nat} {a1 : Int32}  (hc : ZR c) : zc (d_404 n a1 c) ZR := by
  unfold d_404
  exact (zcl (fun v2 =>
   (zcB (z_381 hc) (fun r4 hq1 =>
    (zcI (fun hq2 =>
     (zcB (zcW (I := (fun r : Int32 × cS => ZR r.2)) (X := ZR) (fun s7 hq3 =>
      (zcI (fun hq4 =>
       (zcI (fun hq5 =>
        (zcS hq3)) (fun _ =>
        (zcI (fun hq6 =>
         (zcJ (P := fun y : cS => ZR y) (fun p10 hq7 =>
          (zcl (fun v12 =>
           (zcS hq7)))) (fun j60 hq8 =>
          (zcI (fun hq9 =>
           (zcI (fun hq10 =>
            (zcB (z_97 hq3) (fun r15 hq11 =>
             (hq8 _ hq11)))) (fun _ =>
            zcN))) (fun _ =>
           (hq8 _ hq3)))))) (fun _ =>
         zcN))))) (fun _ =>
       zcN))) hq1) (fun x16 hq12 =>
      (zcI (fun hq13 =>
       (zcJ (P := fun y : cS => ZR y) (fun p18 hq14 =>
        (zcI (fun hq16 =>
         (zcI (fun hq17 =>
          (zcl (fun v21 =>
           (zcI (fun hq18 =>
            (zcL (P := ZR) (ZR_pL hq14) (fun c24 hq19 =>
             (zcI (fun hq20 =>
              (zcL (P := ZR) (ZR_pI hq19 (by decide)) (fun c27 hq21 =>
               (zcB (z_396 hq21) (fun r29 hq22 =>
                (zcB (z_379 hq22) (fun r30 hq23 =>
                 (zcJ (P := fun y : cS => ZR y) (fun p31 hq24 =>
                  (zcB (z_380 hq24) (fun r32 hq26 =>
                   (zcI (fun hq27 =>
                    (zcI (fun hq28 =>
                     (zcL (P := ZR) (ZR_pI hq26 (by decide)) (fun c35 hq29 =>
                      (zcS hq29)))) (fun _ =>
                     zcN))) (fun _ =>
                    zcN))))) (fun j179 hq25 =>
                  (zcI (fun hq30 =>
                   (hq25 _ hq23)) (fun _ =>
                   (zcB (z_382 hq23) (fun r37 hq31 =>
                    (zcI (fun hq32 =>
                     (zcL (P := ZR) (ZR_pI hq31 (by decide)) (fun c39 hq33 =>
                      (hq25 _ hq33)))) (fun _ =>
                     zcN))))))))))))))) (fun _ =>
              zcN))))) (fun _ =>
            zcN))))) (fun _ =>
          zcN))) (fun _ =>
         (zcS hq14)))) (fun j89 hq15 =>
        (zcI (fun hq34 =>
         (zcI (fun hq35 =>
          (zcB (z_97 hq12) (fun r42 hq36 =>
           (hq15 _ hq36)))) (fun _ =>
          zcN))) (fun _ =>
         (hq15 _ hq12)))))) (fun _ =>
       zcN))))) (fun _ =>
     (zcS hq1)))))))
theorem z_406 {n : Nat} {a1 : Int32} {a2 : Int32}  (hc : ZR c) : zc (d_406 n a1 a2 c) ZR := by
  unfold d_406
  exact (zcl (fun v2 =>
   (zcB (z_381 hc) (fun r4 hq1 =>
    (zcI (fun hq2 =>
     (zcB (zcW (I := (fun r : Int32 × cS => ZR r.2)) (X := ZR) (fun s7 hq3 =>
      (zcI (fun hq4 =>
       (zcI (fun hq5 =>
        (zcS hq3)) (fun _ =>
        (zcI (fun hq6 =>
         (zcJ (P := fun y : cS => ZR y) (fun p10 hq7 =>
          (zcl (fun v12 =>
           (zcS hq7)))) (fun j62 hq8 =>
          (zcI (fun hq9 =>
           (zcI (fun hq10 =>
            (zcB (z_97 hq3) (fun r15 hq11 =>
             (hq8 _ hq11)))) (fun _ =>
            zcN))) (fun _ =>
           (hq8 _ hq3)))))) (fun _ =>
         zcN))))) (fun _ =>
       zcN))) hq1) (fun x16 hq12 =>
      (zcI (fun hq13 =>
       (zcJ (P := fun y : cS => ZR y) (fun p18 hq14 =>
        (zcI (fun hq16 =>
         (zcI (fun hq17 =>
          (zcI (fun hq18 =>
           (zcL (P := ZR) (ZR_pL hq14) (fun c21 hq19 =>
            (zcI (fun hq20 =>
             (zcB (z_396 hq19) (fun r24 hq21 =>
              (zcI (fun hq22 =>
               (zcI (fun hq23 =>
                (zcL (P := ZR) (ZR_pI hq21 (by decide)) (fun c27 hq24 =>
                 (zcI (fun hq25 =>
                  (zcI (fun hq26 =>
                   (zcL (P := ZR) (ZR_pI hq24 (by decide)) (fun c31 hq27 =>
                    (zcS hq27)))) (fun _ =>
                   zcN))) (fun _ =>
                  zcN))))) (fun _ =>
                zcN))) (fun _ =>
               zcN))))) (fun _ =>
             zcN))))) (fun _ =>
           zcN))) (fun _ =>
          zcN))) (fun _ =>
         (zcS hq14)))) (fun j90 hq15 =>
        (zcI (fun hq28 =>
         (zcI (fun hq29 =>
          (zcB (z_97 hq12) (fun r34 hq30 =>
           (hq15 _ hq30)))) (fun _ =>
          zcN))) (fun _ =>
         (hq15 _ hq12)))))) (fun _ =>
       zcN))))) (fun _ =>
     (zcS hq1)))))))
theorem z_410 {n : Nat} {a1 : Int32}  (hc : ZR c) : zc (d_410 n a1 c) ZR := by
  unfold d_410
  exact (zcl (fun v2 =>
   (zcB (z_381 hc) (fun r4 hq1 =>
    (zcI (fun hq2 =>
     (zcB0 (fun v6 =>
      (zcI (fun hq3 =>
       (zcL (P := ZR) (ZR_pI hq1 (by decide)) (fun c8 hq4 =>
        (zcI (fun hq5 =>
         (zcJ (P := fun y : cS => ZR y) (fun p11 hq6 =>
          (zcB (z_380 hq6) (fun r12 hq8 =>
           (zcl (fun v14 =>
            (zcB (z_381 hq8) (fun r16 hq9 =>
             (zcI (fun hq10 =>
              (zcI (fun hq11 =>
               (zcB0 (fun v19 =>
                (zcI (fun hq12 =>
                 (zcL (P := ZR) (ZR_pI hq9 (by decide)) (fun c21 hq13 =>
                  (zcI (fun hq14 =>
                   (zcJ (P := fun y : cS => ZR y) (fun p24 hq15 =>
                    (zcS hq15)) (fun j110 hq16 =>
                    (zcI (fun hq17 =>
                     (hq16 _ hq13)) (fun _ =>
                     (zcI (fun hq18 =>
                      (zcB (z_97 hq13) (fun r26 hq19 =>
                       (hq16 _ hq19)))) (fun _ =>
                      zcN))))))) (fun _ =>
                   zcN))))) (fun _ =>
                 zcN))))) (fun _ =>
               zcN))) (fun _ =>
              (zcS hq9)))))))))) (fun j49 hq7 =>
          (zcI (fun hq20 =>
           (hq7 _ hq4)) (fun _ =>
           (zcI (fun hq21 =>
            (zcB (z_97 hq4) (fun r28 hq22 =>
             (hq7 _ hq22)))) (fun _ =>
            zcN))))))) (fun _ =>
         zcN))))) (fun _ =>
       zcN))))) (fun _ =>
     (zcS hq1)))))))
theorem z_411 {n : Nat} {a1 : Int32}  (hc : ZR c) : zc (d_411 n a1 c) ZR := by
  unfold d_411
  exact (zcI (fun hq1 =>
   (zcB (z_396 hc) (fun r1 hq2 =>
    (zcI (fun hq3 =>
     (zcI (fun hq4 =>
      (zcI (fun hq5 =>
       (zcL (P := ZR) (ZR_pI hq2 (by decide)) (fun c4 hq6 =>
        (zcB (zcW (I := (fun r : Int32 × cS => ZR r.2)) (X := ZR) (fun s7 hq7 =>
         (zcI (fun hq8 =>
          (zcI (fun hq9 =>
           (zcS hq7)) (fun _ =>
           (zcB0 (fun v9 =>
            (zcI (fun hq10 =>
             (zcB0 (fun v12 =>
              (zcI (fun hq11 =>
               (zcL (P := ZR) (ZR_pI hq7 (by decide)) (fun c15 hq12 =>
                (zcI (fun hq13 =>
                 (zcB0 (fun v18 =>
                  (zcI (fun hq14 =>
                   (zcL (P := ZR) (ZR_pI hq12 (by decide)) (fun c20 hq15 =>
                    (zcl (fun v23 =>
                     (zcS hq15)))))) (fun _ =>
                   zcN))))) (fun _ =>
                 zcN))))) (fun _ =>
               zcN))))) (fun _ =>
             zcN))))))) (fun _ =>
          zcN))) hq6) (fun x25 hq16 =>
         (zcS hq16)))))) (fun _ =>
       zcN))) (fun _ =>
      zcN))) (fun _ =>
     (zcS hq2)))))) (fun _ =>
   (zcS hc)))
theorem z_412 {n : Nat} {a1 : Int32} {a2 : Int32}  (hc : ZR c) : zc (d_412 n a1 a2 c) ZR := by
  unfold d_412
  exact (zcl (fun v2 =>
   (zcB (z_381 hc) (fun r4 hq1 =>
    (zcI (fun hq2 =>
     (zcB0 (fun v6 =>
      (zcI (fun hq3 =>
       (zcL (P := ZR) (ZR_pI hq1 (by decide)) (fun c8 hq4 =>
        (zcI (fun hq5 =>
         (zcI (fun hq6 =>
          (zcI (fun hq7 =>
           (zcJ (P := fun y : cS => ZR y) (fun p12 hq8 =>
            (zcI (fun hq10 =>
             (zcJ (P := fun y : cS => ZR y) (fun p14 hq11 =>
              (zcI (fun hq13 =>
               (zcI (fun hq14 =>
                (zcI (fun hq15 =>
                 (zcL (P := ZR) (ZR_pI hq11 (by decide)) (fun c17 hq16 =>
                  (zcI (fun hq17 =>
                   (zcI (fun hq18 =>
                    (zcL (P := ZR) (ZR_pL hq16) (fun c21 hq19 =>
                     (zcI (fun hq20 =>
                      (zcI (fun hq21 =>
                       (zcL (P := ZR) (ZR_pI hq19 (by decide)) (fun c25 hq22 =>
                        (zcS hq22)))) (fun _ =>
                       zcN))) (fun _ =>
                      zcN))))) (fun _ =>
                    zcN))) (fun _ =>
                   zcN))))) (fun _ =>
                 zcN))) (fun _ =>
                zcN))) (fun _ =>
               (zcS hq11)))) (fun j87 hq12 =>
              (zcI (fun hq23 =>
               (zcI (fun hq24 =>
                (zcB (z_97 hq8) (fun r28 hq25 =>
                 (hq12 _ hq25)))) (fun _ =>
                zcN))) (fun _ =>
               (hq12 _ hq8)))))) (fun _ =>
             zcN))) (fun j64 hq9 =>
            (zcI (fun hq26 =>
             (zcI (fun hq27 =>
              (zcB (z_97 hq4) (fun r30 hq28 =>
               (hq9 _ hq28)))) (fun _ =>
              zcN))) (fun _ =>
             (hq9 _ hq4)))))) (fun _ =>
           zcN))) (fun _ =>
          (zcS hq4)))) (fun _ =>
         zcN))))) (fun _ =>
       zcN))))) (fun _ =>
     (zcS hq1)))))))
theorem z_409 {n : Nat} {a1 : Int32} {a2 : Int32}  (hc : ZR c) : zc (d_409 n a1 a2 c) ZR := by
  unfold d_409
  exact (zcI (fun hq1 =>
   (zcJ (P := fun y : Unit => (fun _ : Unit => True) y) (fun p2 hq2 =>
    (zcB (z_412 hc) (fun r3 hq4 =>
     (zcS hq4)))) (fun j117 hq3 =>
    (zcJ (P := fun y : Unit => (fun _ : Unit => True) y) (fun p4 hq5 =>
     (zcI (fun hq7 =>
      (zcL (P := ZR) (ZR_pI hc (by decide)) (fun c6 hq8 =>
       (zcB (z_381 hq8) (fun r8 hq9 =>
        (zcB (z_380 hq9) (fun r10 hq10 =>
         (zcB (z_381 hq10) (fun r11 hq11 =>
          (zcS hq11)))))))))) (fun _ =>
      zcN))) (fun j124 hq6 =>
     (zcJ (P := fun y : Unit => (fun _ : Unit => True) y) (fun p13 hq12 =>
      (zcS hc)) (fun j194 hq13 =>
      (zcJ (P := fun y : Unit => (fun _ : Unit => True) y) (fun p14 hq14 =>
       (zcI (fun hq16 =>
        (zcL (P := ZR) (ZR_pI hc (by decide)) (fun c16 hq17 =>
         (zcB (z_381 hq17) (fun r18 hq18 =>
          (zcS hq18)))))) (fun _ =>
        zcN))) (fun j151 hq15 =>
       (zcI (fun hq19 =>
        (zcB (z_382 hc) (fun r21 hq20 =>
         (zcI (fun hq21 =>
          (zcL (P := ZR) (ZR_pI hq20 (by decide)) (fun c23 hq22 =>
           (zcB (z_411 hq22) (fun r25 hq23 =>
            (zcS hq23)))))) (fun _ =>
          zcN))))) (fun _ =>
        (zcI (fun hq24 =>
         (zcB (z_411 hc) (fun r27 hq25 =>
          (zcS hq25)))) (fun _ =>
         (zcI (fun hq26 =>
          (hq3 _ trivial)) (fun _ =>
          (zcI (fun hq27 =>
           (hq3 _ trivial)) (fun _ =>
           (zcI (fun hq28 =>
            (hq6 _ trivial)) (fun _ =>
            (zcI (fun hq29 =>
             (hq6 _ trivial)) (fun _ =>
             (zcI (fun hq30 =>
              (hq6 _ trivial)) (fun _ =>
              (zcI (fun hq31 =>
               (hq13 _ trivial)) (fun _ =>
               (zcI (fun hq32 =>
                (hq13 _ trivial)) (fun _ =>
                (zcI (fun hq33 =>
                 (hq13 _ trivial)) (fun _ =>
                 (zcI (fun hq34 =>
                  (hq13 _ trivial)) (fun _ =>
                  (zcI (fun hq35 =>
                   (hq13 _ trivial)) (fun _ =>
                   (zcI (fun hq36 =>
                    (hq13 _ trivial)) (fun _ =>
                    (zcI (fun hq37 =>
                     (hq15 _ trivial)) (fun _ =>
                     (zcI (fun hq38 =>
                      (hq15 _ trivial)) (fun _ =>
                      (zcI (fun hq39 =>
                       (zcB (z_410 hc) (fun r42 hq40 =>
                        (zcI (fun hq41 =>
                         (zcL (P := ZR) (ZR_pI hq40 (by decide)) (fun c44 hq42 =>
                          (zcB (z_381 hq42) (fun r46 hq43 =>
                           (zcS hq43)))))) (fun _ =>
                         zcN))))) (fun _ =>
                       (zcI (fun hq44 =>
                        (zcB (z_410 hc) (fun r49 hq45 =>
                         (zcS hq45)))) (fun _ =>
                        (hq13 _ trivial)))))))))))))))))))))))))))))))))))))))))))) (fun _ =>
   zcN))
theorem z_408 {n : Nat} {a1 : Int32}  (hc : ZR c) : zc (d_408 n a1 c) ZR := by
  unfold d_408
  exact (zcI (fun hq1 =>
   (zcJ (P := fun y : Int32 => (fun _ : Int32 => True) y) (fun p2 hq2 =>
    (zcI (fun hq4 =>
     (zcB (z_103 hc) (fun r70 hq5 =>
      (zcS hq5)))) (fun _ =>
     (zcI (fun hq6 =>
      (zcl (fun v6 =>
       (zcl (fun v9 =>
        (zcI (fun hq7 =>
         (zcJ (P := fun y : Int32 => (fun _ : Int32 => True) y) (fun p12 hq8 =>
          (zcI (fun hq10 =>
           (zcJ (P := fun y : Int64 × cS => (fun r : Int64 × cS => ZR r.2) y) (fun p16 hq11 =>
            (zcJ (P := fun y : cS => ZR y) (fun p17 hq13 =>
             (zcI (fun hq15 =>
              (zcI (fun hq16 =>
               (zcL (P := ZR) (ZR_pL hq13) (fun c19 hq17 =>
                (zcI (fun hq18 =>
                 (zcI (fun hq19 =>
                  (zcL (P := ZR) (ZR_pI hq17 (by decide)) (fun c23 hq20 =>
                   (zcI (fun hq21 =>
                    (zcI (fun hq22 =>
                     (zcL (P := ZR) (ZR_pI hq20 (by decide)) (fun c27 hq23 =>
                      (zcL (P := ZR) (ZR_p4 hq23 (by decide)) (fun c29 hq24 =>
                       (zcI (fun hq25 =>
                        (zcL (P := ZR) (ZR_pI hq24 (by decide)) (fun c32 hq26 =>
                         (zcI (fun hq27 =>
                          (zcL (P := ZR) (ZR_pI hq26 (by decide)) (fun c35 hq28 =>
                           (zcB (z_409 hq28) (fun r37 hq29 =>
                            (zcB (z_380 hq29) (fun r38 hq30 =>
                             (zcI (fun hq31 =>
                              (zcI (fun hq32 =>
                               (zcL (P := ZR) (ZR_pI hq30 (by decide)) (fun c41 hq33 =>
                                (zcS hq33)))) (fun _ =>
                               zcN))) (fun _ =>
                              zcN))))))))) (fun _ =>
                          zcN))))) (fun _ =>
                        zcN))))))) (fun _ =>
                     zcN))) (fun _ =>
                    zcN))))) (fun _ =>
                  zcN))) (fun _ =>
                 zcN))))) (fun _ =>
               zcN))) (fun _ =>
              (zcS hq13)))) (fun j264 hq14 =>
             (zcI (fun hq34 =>
              (hq14 _ hq11)) (fun _ =>
              (zcI (fun hq35 =>
               (zcB (z_97 hq11) (fun r44 hq36 =>
                (hq14 _ hq36)))) (fun _ =>
               zcN))))))) (fun j246 hq12 =>
            (zcI (fun hq37 =>
             (zcI (fun hq38 =>
              (zcl (fun v47 =>
               (zcB (zcW (I := (fun r : Int32 × cS => ZR r.2)) (X := ZR) (fun s50 hq39 =>
                (zcI (fun hq40 =>
                 (zcI (fun hq41 =>
                  (zcS hq39)) (fun _ =>
                  (zcI (fun hq42 =>
                   (zcJ (P := fun y : cS => ZR y) (fun p53 hq43 =>
                    (zcl (fun v55 =>
                     (zcS hq43)))) (fun j164 hq44 =>
                    (zcI (fun hq45 =>
                     (zcI (fun hq46 =>
                      (zcB (z_97 hq39) (fun r58 hq47 =>
                       (hq44 _ hq47)))) (fun _ =>
                      zcN))) (fun _ =>
                     (hq44 _ hq39)))))) (fun _ =>
                   zcN))))) (fun _ =>
                 zcN))) hc) (fun x59 hq48 =>
                (zcJ (P := fun y : cS => ZR y) (fun p60 hq49 =>
                 (zcL (P := ZR) (ZR_p4 hq49 (by decide)) (fun c61 hq51 =>
                  (zcB (z_380 hq51) (fun r63 hq52 =>
                   (zcI (fun hq53 =>
                    (zcI (fun hq54 =>
                     (zcJ (P := fun y : Unit => (fun _ : Unit => True) y) (fun p65 hq55 =>
                      (zcB (z_103 hq52) (fun r66 hq57 =>
                       (hq12 _ hq57)))) (fun j242 hq56 =>
                      (zcI (fun hq58 =>
                       (zcI (fun hq59 =>
                        (zcI (fun hq60 =>
                         (hq12 _ hq52)) (fun _ =>
                         (hq56 _ trivial)))) (fun _ =>
                        zcN))) (fun _ =>
                       (hq56 _ trivial)))))) (fun _ =>
                     zcN))) (fun _ =>
                    (hq12 _ hq52)))))))) (fun j190 hq50 =>
                 (zcI (fun hq61 =>
                  (hq50 _ hq48)) (fun _ =>
                  (zcI (fun hq62 =>
                   (zcB (z_97 hq48) (fun r69 hq63 =>
                    (hq50 _ hq63)))) (fun _ =>
                   zcN))))))))))) (fun _ =>
              zcN))) (fun _ =>
             (hq12 _ hc)))))) (fun _ =>
           zcN))) (fun j90 hq9 =>
          (zcI (fun hq64 =>
           (hq9 _ trivial)) (fun _ =>
           (hq9 _ trivial)))))) (fun _ =>
         zcN))))))) (fun _ =>
      zcN))))) (fun j46 hq3 =>
    (zcJ (P := fun y : Unit => (fun _ : Unit => True) y) (fun p71 hq65 =>
     (hq3 _ trivial)) (fun j41 hq66 =>
     (zcI (fun hq67 =>
      (hq66 _ trivial)) (fun _ =>
      (zcI (fun hq68 =>
       (zcJ (P := fun y : Unit => (fun _ : Unit => True) y) (fun p73 hq69 =>
        (hq3 _ trivial)) (fun j45 hq70 =>
        (zcI (fun hq71 =>
         (zcI (fun hq72 =>
          (zcI (fun hq73 =>
           (hq70 _ trivial)) (fun _ =>
           (hq66 _ trivial)))) (fun _ =>
          zcN))) (fun _ =>
         (hq70 _ trivial)))))) (fun _ =>
       zcN))))))))) (fun _ =>
   zcN))
theorem z_405 {n : Nat} {a1 : Int32}  (hc : ZR c) : zc (d_405 n a1 c) ZR := by
  unfold d_405
  exact (zcl (fun v2 =>
   (zcB (z_381 hc) (fun r4 hq1 =>
    (zcI (fun hq2 =>
     (zcB (zcW (I := (fun r : Int32 × cS => ZR r.2)) (X := ZR) (fun s7 hq3 =>
      (zcI (fun hq4 =>
       (zcI (fun hq5 =>
        (zcS hq3)) (fun _ =>
        (zcI (fun hq6 =>
         (zcJ (P := fun y : cS => ZR y) (fun p10 hq7 =>
          (zcl (fun v12 =>
           (zcS hq7)))) (fun j60 hq8 =>
          (zcI (fun hq9 =>
           (zcI (fun hq10 =>
            (zcB (z_97 hq3) (fun r15 hq11 =>
             (hq8 _ hq11)))) (fun _ =>
            zcN))) (fun _ =>
           (hq8 _ hq3)))))) (fun _ =>
         zcN))))) (fun _ =>
       zcN))) hq1) (fun x16 hq12 =>
      (zcI (fun hq13 =>
       (zcJ (P := fun y : cS => ZR y) (fun p18 hq14 =>
        (zcB (z_380 hq14) (fun r19 hq16 =>
         (zcI (fun hq17 =>
          (zcI (fun hq18 =>
           (zcl (fun v22 =>
            (zcI (fun hq19 =>
             (zcl (fun v26 =>
              (zcI (fun hq20 =>
               (zcL (P := ZR) (ZR_pL hq16) (fun c29 hq21 =>
                (zcI (fun hq22 =>
                 (zcL (P := ZR) (ZR_pI hq21 (by decide)) (fun c32 hq23 =>
                  (zcI (fun hq24 =>
                   (zcL (P := ZR) (ZR_pI hq23 (by decide)) (fun c35 hq25 =>
                    (zcI (fun hq26 =>
                     (zcL (P := ZR) (ZR_pI hq25 (by decide)) (fun c38 hq27 =>
                      (zcB0 (fun v40 =>
                       (zcJ (P := fun y : cS => ZR y) (fun p41 hq28 =>
                        (zcB (z_380 hq28) (fun r42 hq30 =>
                         (zcI (fun hq31 =>
                          (zcB (z_396 hq30) (fun r43 hq32 =>
                           (zcB (z_380 hq32) (fun r44 hq33 =>
                            (zcI (fun hq34 =>
                             (zcI (fun hq35 =>
                              (zcL (P := ZR) (ZR_pI hq33 (by decide)) (fun c47 hq36 =>
                               (zcB (zcW (I := (fun r : Int32 × cS => ZR r.2)) (X := ZR) (fun s50 hq37 =>
                                (zcI (fun hq38 =>
                                 (zcS hq37)) (fun _ =>
                                 (zcI (fun hq39 =>
                                  (zcB (z_408 hq37) (fun r51 hq40 =>
                                   (zcJ (P := fun y : Int32 × cS => (fun r : Int32 × cS => ZR r.2) y) (fun p52 hq41 =>
                                    (zcS hq41)) (fun j291 hq42 =>
                                    (zcJ (P := fun y : cS => ZR y) (fun p54 hq43 =>
                                     (hq42 _ hq43)) (fun j290 hq44 =>
                                     (zcI (fun hq45 =>
                                      (zcB (z_379 hq40) (fun r55 hq46 =>
                                       (zcI (fun hq47 =>
                                        (hq42 _ hq46)) (fun _ =>
                                        (hq44 _ hq46)))))) (fun _ =>
                                      (hq44 _ hq40)))))))))) (fun _ =>
                                  (zcS hq37)))))) hq36) (fun x56 hq48 =>
                                (zcS hq48)))))) (fun _ =>
                              zcN))) (fun _ =>
                             zcN))))))) (fun _ =>
                          (zcS hq30)))))) (fun j210 hq29 =>
                        (zcI (fun hq49 =>
                         (zcB (zcW (I := (fun r : Int32 × cS => ZR r.2)) (X := ZR) (fun s58 hq50 =>
                          (zcI (fun hq51 =>
                           (zcS hq50)) (fun _ =>
                           (zcI (fun hq52 =>
                            (zcB (z_406 hq50) (fun r59 hq53 =>
                             (zcB (z_379 hq53) (fun r60 hq54 =>
                              (zcS hq54)))))) (fun _ =>
                            (zcS hq50)))))) hq27) (fun x62 hq55 =>
                          (hq29 _ hq55)))) (fun _ =>
                         (hq29 _ hq27)))))))))) (fun _ =>
                     zcN))))) (fun _ =>
                   zcN))))) (fun _ =>
                 zcN))))) (fun _ =>
               zcN))))) (fun _ =>
             zcN))))) (fun _ =>
           zcN))) (fun _ =>
          (zcS hq16)))))) (fun j89 hq15 =>
        (zcI (fun hq56 =>
         (zcI (fun hq57 =>
          (zcB (z_97 hq12) (fun r64 hq58 =>
           (hq15 _ hq58)))) (fun _ =>
          zcN))) (fun _ =>
         (hq15 _ hq12)))))) (fun _ =>
       zcN))))) (fun _ =>
     (zcS hq1)))))))
theorem z_403 {n : Nat}   (hc : ZR c) : zc (d_403 n c) ZR := by
  unfold d_403
  exact (zcB (z_383 hc) (fun r1 hq1 =>
   (zcI (fun hq2 =>
    (zcB (z_379 hq1) (fun r4 hq3 =>
     (zcJ (P := fun y : Int32 × cS => (fun r : Int32 × cS => ZR r.2) y) (fun p5 hq4 =>
      (zcI (fun hq6 =>
       (zcl (fun v7 =>
        (zcI (fun hq7 =>
         (zcL (P := ZR) (ZR_pL hq4) (fun c10 hq8 =>
          (zcI (fun hq9 =>
           (zcL (P := ZR) (ZR_pI hq8 (by decide)) (fun c13 hq10 =>
            (zcI (fun hq11 =>
             (zcL (P := ZR) (ZR_pI hq10 (by decide)) (fun c16 hq12 =>
              (zcI (fun hq13 =>
               (zcL (P := ZR) (ZR_pI hq12 (by decide)) (fun c19 hq14 =>
                (zcB (z_396 hq14) (fun r21 hq15 =>
                 (zcB (z_380 hq15) (fun r22 hq16 =>
                  (zcI (fun hq17 =>
                   (zcL (P := ZR) (ZR_p4 hq16 (by decide)) (fun c23 hq18 =>
                    (zcB (zcW (I := (fun r : Int32 × cS => ZR r.2)) (X := ZR) (fun s26 hq19 =>
                     (zcI (fun hq20 =>
                      (zcS hq19)) (fun _ =>
                      (zcI (fun hq21 =>
                       (zcB (z_102 hq19) (fun r27 hq22 =>
                        (zcI (fun hq23 =>
                         (zcB (z_102 hq22) (fun r28 hq24 =>
                          (zcI (fun hq25 =>
                           (zcS hq24)) (fun _ =>
                           (zcB (z_405 hq24) (fun r30 hq26 =>
                            (zcS hq26)))))))) (fun _ =>
                         (zcB (z_404 hq22) (fun r31 hq27 =>
                          (zcS hq27)))))))) (fun _ =>
                       (zcS hq19)))))) hq18) (fun x32 hq28 =>
                     (zcB (z_380 hq28) (fun r33 hq29 =>
                      (zcS hq29)))))))) (fun _ =>
                   (zcS hq16)))))))))) (fun _ =>
               zcN))))) (fun _ =>
             zcN))))) (fun _ =>
           zcN))))) (fun _ =>
         zcN))))) (fun _ =>
       (zcS hq4)))) (fun j73 hq5 =>
      (zcI (fun hq30 =>
       (hq5 _ hq3)) (fun _ =>
       (zcl (fun v35 =>
        (zcB (z_381 hq3) (fun r37 hq31 =>
         (zcI (fun hq32 =>
          (zcB0 (fun v39 =>
           (zcI (fun hq33 =>
            (hq5 _ hq31)) (fun _ =>
            (zcI (fun hq34 =>
             (zcB (z_97 hq31) (fun r42 hq35 =>
              (hq5 _ hq35)))) (fun _ =>
             zcN))))))) (fun _ =>
          (zcS hq31)))))))))))))) (fun _ =>
    (zcS hq1)))))
theorem z_104 {n : Nat}   (hc : ZR c) : zc (d_104 n c) ZR := by
  unfold d_104
  exact (zcL (P := ZR) (ZR_p4 hc (by decide)) (fun c1 hq1 =>
   (zcL (P := ZR) (ZR_p4 hq1 (by decide)) (fun c3 hq2 =>
    (zcL (P := ZR) (ZR_p4 hq2 (by decide)) (fun c5 hq3 =>
     (zcL (P := ZR) (ZR_p4 hq3 (by decide)) (fun c7 hq4 =>
      (zcL (P := ZR) (ZR_p4 hq4 (by decide)) (fun c9 hq5 =>
       (zcB (zcW (I := (fun r : Int32 × cS => ZR r.2)) (X := ZR) (fun s12 hq6 =>
        (zcI (fun hq7 =>
         (zcS hq6)) (fun _ =>
         (zcI (fun hq8 =>
          (zcL (P := ZR) (ZR_pI hq6 (by decide)) (fun c14 hq9 =>
           (zcl (fun v17 =>
            (zcS hq9)))))) (fun _ =>
          zcN))))) hq5) (fun x19 hq10 =>
        (zcB (zcW (I := ZR) (X := ZR) (fun s20 hq11 =>
         (zcI (fun hq12 =>
          (zcB (z_102 hq11) (fun r21 hq13 =>
           (zcI (fun hq14 =>
            (zcS hq13)) (fun _ =>
            (zcB (z_386 hq13) (fun r22 hq15 =>
             (zcS hq15)))))))) (fun _ =>
          (zcS hq11)))) hq10) (fun x23 hq16 =>
         (zcB (zcW (I := ZR) (X := ZR) (fun s24 hq17 =>
          (zcI (fun hq18 =>
           (zcB (z_102 hq17) (fun r25 hq19 =>
            (zcI (fun hq20 =>
             (zcS hq19)) (fun _ =>
             (zcB (z_400 hq19) (fun r26 hq21 =>
              (zcS hq21)))))))) (fun _ =>
           (zcS hq17)))) hq16) (fun x27 hq22 =>
          (zcB (zcW (I := ZR) (X := ZR) (fun s28 hq23 =>
           (zcI (fun hq24 =>
            (zcB (z_102 hq23) (fun r29 hq25 =>
             (zcI (fun hq26 =>
              (zcS hq25)) (fun _ =>
              (zcB (z_402 hq25) (fun r30 hq27 =>
               (zcS hq27)))))))) (fun _ =>
            (zcS hq23)))) hq22) (fun x31 hq28 =>
           (zcJ (P := fun y : cS => ZR y) (fun p32 hq29 =>
            (zcB (zcW (I := ZR) (X := ZR) (fun s33 hq31 =>
             (zcI (fun hq32 =>
              (zcB (z_102 hq31) (fun r34 hq33 =>
               (zcI (fun hq34 =>
                (zcS hq33)) (fun _ =>
                (zcB (z_403 hq33) (fun r35 hq35 =>
                 (zcS hq35)))))))) (fun _ =>
              (zcS hq31)))) hq29) (fun x36 hq36 =>
             (zcJ (P := fun y : cS => ZR y) (fun p37 hq37 =>
              (zcS hq37)) (fun j179 hq38 =>
              (zcI (fun hq39 =>
               (zcI (fun hq40 =>
                (zcI (fun hq41 =>
                 (hq38 _ hq36)) (fun _ =>
                 (zcB (z_103 hq36) (fun r39 hq42 =>
                  (hq38 _ hq42)))))) (fun _ =>
                zcN))) (fun _ =>
               (hq38 _ hq36)))))))) (fun j133 hq30 =>
            (zcI (fun hq43 =>
             (zcB0 (fun v40 =>
              (zcI (fun hq44 =>
               (zcB (z_103 hq28) (fun r41 hq45 =>
                (hq30 _ hq45)))) (fun _ =>
               (hq30 _ hq28)))))) (fun _ =>
             (hq30 _ hq28)))))))))))))))))))))))
end ZCR
