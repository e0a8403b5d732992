/-! INSTRUCTIONS and rows of tables that the chains need: by wip/whole/sx.py -/
theorem i_0_188 {sc : Nat × (Nat → Int32)} {fm : Value} : ri (rt_P sc fm) 0 188 (.aload_n 1) (189) := ⟨(by decide +kernel : rt_xt 0 188 = none), (by decide +kernel : rt_cd 0 188 = some (.aload_n 1)), rfl⟩
theorem i_0_189 {sc : Nat × (Nat → Int32)} {fm : Value} : ri (rt_P sc fm) 0 189 (.aload_n 0) (190) := ⟨(by decide +kernel : rt_xt 0 189 = none), (by decide +kernel : rt_cd 0 189 = some (.aload_n 0)), rfl⟩
theorem i_0_190 {sc : Nat × (Nat → Int32)} {fm : Value} : ri (rt_P sc fm) 0 190 (.iload 4) (192) := ⟨(by decide +kernel : rt_xt 0 190 = none), (by decide +kernel : rt_cd 0 190 = some (.iload 4)), rfl⟩
theorem i_0_192 {sc : Nat × (Nat → Int32)} {fm : Value} : ri (rt_P sc fm) 0 192 (.iconst 1) (193) := ⟨(by decide +kernel : rt_xt 0 192 = none), (by decide +kernel : rt_cd 0 192 = some (.iconst 1)), rfl⟩
theorem i_0_193 {sc : Nat × (Nat → Int32)} {fm : Value} : ri (rt_P sc fm) 0 193 (.iadd) (194) := ⟨(by decide +kernel : rt_xt 0 193 = none), (by decide +kernel : rt_cd 0 193 = some (.iadd)), rfl⟩
theorem i_0_194 {sc : Nat × (Nat → Int32)} {fm : Value} : ri (rt_P sc fm) 0 194 (.iaload) (195) := ⟨(by decide +kernel : rt_xt 0 194 = none), (by decide +kernel : rt_cd 0 194 = some (.iaload)), rfl⟩
theorem i_0_195 {sc : Nat × (Nat → Int32)} {fm : Value} : ri (rt_P sc fm) 0 195 (.aload_n 0) (196) := ⟨(by decide +kernel : rt_xt 0 195 = none), (by decide +kernel : rt_cd 0 195 = some (.aload_n 0)), rfl⟩
theorem i_0_196 {sc : Nat × (Nat → Int32)} {fm : Value} : ri (rt_P sc fm) 0 196 (.iload 4) (198) := ⟨(by decide +kernel : rt_xt 0 196 = none), (by decide +kernel : rt_cd 0 196 = some (.iload 4)), rfl⟩
theorem i_0_198 {sc : Nat × (Nat → Int32)} {fm : Value} : ri (rt_P sc fm) 0 198 (.iconst 2) (199) := ⟨(by decide +kernel : rt_xt 0 198 = none), (by decide +kernel : rt_cd 0 198 = some (.iconst 2)), rfl⟩
theorem i_0_199 {sc : Nat × (Nat → Int32)} {fm : Value} : ri (rt_P sc fm) 0 199 (.iadd) (200) := ⟨(by decide +kernel : rt_xt 0 199 = none), (by decide +kernel : rt_cd 0 199 = some (.iadd)), rfl⟩
theorem i_0_200 {sc : Nat × (Nat → Int32)} {fm : Value} : ri (rt_P sc fm) 0 200 (.iaload) (201) := ⟨(by decide +kernel : rt_xt 0 200 = none), (by decide +kernel : rt_cd 0 200 = some (.iaload)), rfl⟩
theorem i_0_201 {sc : Nat × (Nat → Int32)} {fm : Value} : ri (rt_P sc fm) 0 201 (.aload_n 0) (202) := ⟨(by decide +kernel : rt_xt 0 201 = none), (by decide +kernel : rt_cd 0 201 = some (.aload_n 0)), rfl⟩
theorem i_0_202 {sc : Nat × (Nat → Int32)} {fm : Value} : ri (rt_P sc fm) 0 202 (.iload 4) (204) := ⟨(by decide +kernel : rt_xt 0 202 = none), (by decide +kernel : rt_cd 0 202 = some (.iload 4)), rfl⟩
theorem i_0_204 {sc : Nat × (Nat → Int32)} {fm : Value} : ri (rt_P sc fm) 0 204 (.iconst 3) (205) := ⟨(by decide +kernel : rt_xt 0 204 = none), (by decide +kernel : rt_cd 0 204 = some (.iconst 3)), rfl⟩
theorem i_0_205 {sc : Nat × (Nat → Int32)} {fm : Value} : ri (rt_P sc fm) 0 205 (.iadd) (206) := ⟨(by decide +kernel : rt_xt 0 205 = none), (by decide +kernel : rt_cd 0 205 = some (.iadd)), rfl⟩
theorem i_0_206 {sc : Nat × (Nat → Int32)} {fm : Value} : ri (rt_P sc fm) 0 206 (.iaload) (207) := ⟨(by decide +kernel : rt_xt 0 206 = none), (by decide +kernel : rt_cd 0 206 = some (.iaload)), rfl⟩
theorem i_0_207 {sc : Nat × (Nat → Int32)} {fm : Value} : ri (rt_P sc fm) 0 207 (.aload_n 0) (208) := ⟨(by decide +kernel : rt_xt 0 207 = none), (by decide +kernel : rt_cd 0 207 = some (.aload_n 0)), rfl⟩
theorem i_0_208 {sc : Nat × (Nat → Int32)} {fm : Value} : ri (rt_P sc fm) 0 208 (.iload 4) (210) := ⟨(by decide +kernel : rt_xt 0 208 = none), (by decide +kernel : rt_cd 0 208 = some (.iload 4)), rfl⟩
theorem i_0_210 {sc : Nat × (Nat → Int32)} {fm : Value} : ri (rt_P sc fm) 0 210 (.iconst 4) (211) := ⟨(by decide +kernel : rt_xt 0 210 = none), (by decide +kernel : rt_cd 0 210 = some (.iconst 4)), rfl⟩
theorem i_0_211 {sc : Nat × (Nat → Int32)} {fm : Value} : ri (rt_P sc fm) 0 211 (.iadd) (212) := ⟨(by decide +kernel : rt_xt 0 211 = none), (by decide +kernel : rt_cd 0 211 = some (.iadd)), rfl⟩
theorem i_0_212 {sc : Nat × (Nat → Int32)} {fm : Value} : ri (rt_P sc fm) 0 212 (.iaload) (213) := ⟨(by decide +kernel : rt_xt 0 212 = none), (by decide +kernel : rt_cd 0 212 = some (.iaload)), rfl⟩
theorem i_0_213 {sc : Nat × (Nat → Int32)} {fm : Value} : ri (rt_P sc fm) 0 213 (.aload_n 0) (214) := ⟨(by decide +kernel : rt_xt 0 213 = none), (by decide +kernel : rt_cd 0 213 = some (.aload_n 0)), rfl⟩
theorem i_0_214 {sc : Nat × (Nat → Int32)} {fm : Value} : ri (rt_P sc fm) 0 214 (.iload 4) (216) := ⟨(by decide +kernel : rt_xt 0 214 = none), (by decide +kernel : rt_cd 0 214 = some (.iload 4)), rfl⟩
theorem i_0_216 {sc : Nat × (Nat → Int32)} {fm : Value} : ri (rt_P sc fm) 0 216 (.iconst 5) (217) := ⟨(by decide +kernel : rt_xt 0 216 = none), (by decide +kernel : rt_cd 0 216 = some (.iconst 5)), rfl⟩
theorem i_0_217 {sc : Nat × (Nat → Int32)} {fm : Value} : ri (rt_P sc fm) 0 217 (.iadd) (218) := ⟨(by decide +kernel : rt_xt 0 217 = none), (by decide +kernel : rt_cd 0 217 = some (.iadd)), rfl⟩
theorem i_0_218 {sc : Nat × (Nat → Int32)} {fm : Value} : ri (rt_P sc fm) 0 218 (.iaload) (219) := ⟨(by decide +kernel : rt_xt 0 218 = none), (by decide +kernel : rt_cd 0 218 = some (.iaload)), rfl⟩
theorem i_0_219 {sc : Nat × (Nat → Int32)} {fm : Value} : ri (rt_P sc fm) 0 219 (.invokevirtual 31) (222) := ⟨(by decide +kernel : rt_xt 0 219 = none), (by decide +kernel : rt_cd 0 219 = some (.invokevirtual 31)), rfl⟩
theorem c_0_31 {sc : Nat × (Nat → Int32)} {fm : Value} : rx_ct (rt_P sc fm) 0 31 = some (0, 56, 5) := (by decide +kernel : rt_ct 0 31 = some (0, 56, 5))
theorem a_14_56 {sc : Nat × (Nat → Int32)} {fm : Value} : rz_cn 14 (rx_yn (rt_P sc fm) 56).cls = true := (by decide +kernel : rz_cn 14 (rt_yn 56).cls = true)
theorem i_56_0 {sc : Nat × (Nat → Int32)} {fm : Value} : ri (rt_P sc fm) 56 0 (.aload_n 0) (1) := ⟨(by decide +kernel : rt_xt 56 0 = none), (by decide +kernel : rt_cd 56 0 = some (.aload_n 0)), rfl⟩
theorem i_56_1 {sc : Nat × (Nat → Int32)} {fm : Value} : ri (rt_P sc fm) 56 1 (.getfield 12) (4) := ⟨(by decide +kernel : rt_xt 56 1 = none), (by decide +kernel : rt_cd 56 1 = some (.getfield 12)), rfl⟩
theorem f_56_12 {sc : Nat × (Nat → Int32)} {fm : Value} : rx_ft (rt_P sc fm) 56 12 = some (14, 0) := (by decide +kernel : rt_ft 56 12 = some (14, 0))
theorem i_56_4 {sc : Nat × (Nat → Int32)} {fm : Value} : ri (rt_P sc fm) 56 4 (.getfield 95) (7) := ⟨(by decide +kernel : rt_xt 56 4 = none), (by decide +kernel : rt_cd 56 4 = some (.getfield 95)), rfl⟩
theorem f_56_95 {sc : Nat × (Nat → Int32)} {fm : Value} : rx_ft (rt_P sc fm) 56 95 = some (3, 1) := (by decide +kernel : rt_ft 56 95 = some (3, 1))
theorem i_56_7 {sc : Nat × (Nat → Int32)} {fm : Value} : ri (rt_P sc fm) 56 7 (.bipush 20) (9) := ⟨(by decide +kernel : rt_xt 56 7 = none), (by decide +kernel : rt_cd 56 7 = some (.bipush 20)), rfl⟩
theorem i_56_9 {sc : Nat × (Nat → Int32)} {fm : Value} : ri (rt_P sc fm) 56 9 (.iadd) (10) := ⟨(by decide +kernel : rt_xt 56 9 = none), (by decide +kernel : rt_cd 56 9 = some (.iadd)), rfl⟩
theorem i_56_10 {sc : Nat × (Nat → Int32)} {fm : Value} : ri (rt_P sc fm) 56 10 (.sipush 4000) (13) := ⟨(by decide +kernel : rt_xt 56 10 = none), (by decide +kernel : rt_cd 56 10 = some (.sipush 4000)), rfl⟩
theorem i_56_13 {sc : Nat × (Nat → Int32)} {fm : Value} : ri (rt_P sc fm) 56 13 (.if_icmp .le 5) (16) := ⟨(by decide +kernel : rt_xt 56 13 = none), (by decide +kernel : rt_cd 56 13 = some (.if_icmp .le 5)), rfl⟩
theorem i_56_18 {sc : Nat × (Nat → Int32)} {fm : Value} : ri (rt_P sc fm) 56 18 (.aload_n 0) (19) := ⟨(by decide +kernel : rt_xt 56 18 = none), (by decide +kernel : rt_cd 56 18 = some (.aload_n 0)), rfl⟩
theorem i_56_19 {sc : Nat × (Nat → Int32)} {fm : Value} : ri (rt_P sc fm) 56 19 (.getfield 12) (22) := ⟨(by decide +kernel : rt_xt 56 19 = none), (by decide +kernel : rt_cd 56 19 = some (.getfield 12)), rfl⟩
theorem i_56_22 {sc : Nat × (Nat → Int32)} {fm : Value} : ri (rt_P sc fm) 56 22 (.iload_n 1) (23) := ⟨(by decide +kernel : rt_xt 56 22 = none), (by decide +kernel : rt_cd 56 22 = some (.iload_n 1)), rfl⟩
theorem i_56_23 {sc : Nat × (Nat → Int32)} {fm : Value} : ri (rt_P sc fm) 56 23 (.invokevirtual 99) (26) := ⟨(by decide +kernel : rt_xt 56 23 = none), (by decide +kernel : rt_cd 56 23 = some (.invokevirtual 99)), rfl⟩
theorem c_56_99 {sc : Nat × (Nat → Int32)} {fm : Value} : rx_ct (rt_P sc fm) 56 99 = some (0, 24, 1) := (by decide +kernel : rt_ct 56 99 = some (0, 24, 1))
theorem a_3_24 {sc : Nat × (Nat → Int32)} {fm : Value} : rz_cn 3 (rx_yn (rt_P sc fm) 24).cls = true := (by decide +kernel : rz_cn 3 (rt_yn 24).cls = true)
theorem i_24_0 {sc : Nat × (Nat → Int32)} {fm : Value} : ri (rt_P sc fm) 24 0 (.bipush 24) (2) := ⟨(by decide +kernel : rt_xt 24 0 = none), (by decide +kernel : rt_cd 24 0 = some (.bipush 24)), rfl⟩
theorem i_24_2 {sc : Nat × (Nat → Int32)} {fm : Value} : ri (rt_P sc fm) 24 2 (.istore_n 2) (3) := ⟨(by decide +kernel : rt_xt 24 2 = none), (by decide +kernel : rt_cd 24 2 = some (.istore_n 2)), rfl⟩
theorem i_24_3 {sc : Nat × (Nat → Int32)} {fm : Value} : ri (rt_P sc fm) 24 3 (.iload_n 2) (4) := ⟨(by decide +kernel : rt_xt 24 3 = none), (by decide +kernel : rt_cd 24 3 = some (.iload_n 2)), rfl⟩
theorem i_24_4 {sc : Nat × (Nat → Int32)} {fm : Value} : ri (rt_P sc fm) 24 4 (.ifCond .lt 39) (7) := ⟨(by decide +kernel : rt_xt 24 4 = none), (by decide +kernel : rt_cd 24 4 = some (.ifCond .lt 39)), rfl⟩
theorem i_24_7 {sc : Nat × (Nat → Int32)} {fm : Value} : ri (rt_P sc fm) 24 7 (.aload_n 0) (8) := ⟨(by decide +kernel : rt_xt 24 7 = none), (by decide +kernel : rt_cd 24 7 = some (.aload_n 0)), rfl⟩
theorem i_24_8 {sc : Nat × (Nat → Int32)} {fm : Value} : ri (rt_P sc fm) 24 8 (.getfield 41) (11) := ⟨(by decide +kernel : rt_xt 24 8 = none), (by decide +kernel : rt_cd 24 8 = some (.getfield 41)), rfl⟩
theorem f_24_41 {sc : Nat × (Nat → Int32)} {fm : Value} : rx_ft (rt_P sc fm) 24 41 = some (3, 1) := (by decide +kernel : rt_ft 24 41 = some (3, 1))
theorem i_24_11 {sc : Nat × (Nat → Int32)} {fm : Value} : ri (rt_P sc fm) 24 11 (.sipush 4000) (14) := ⟨(by decide +kernel : rt_xt 24 11 = none), (by decide +kernel : rt_cd 24 11 = some (.sipush 4000)), rfl⟩
theorem i_24_14 {sc : Nat × (Nat → Int32)} {fm : Value} : ri (rt_P sc fm) 24 14 (.if_icmp .ge 29) (17) := ⟨(by decide +kernel : rt_xt 24 14 = none), (by decide +kernel : rt_cd 24 14 = some (.if_icmp .ge 29)), rfl⟩
theorem i_24_17 {sc : Nat × (Nat → Int32)} {fm : Value} : ri (rt_P sc fm) 24 17 (.aload_n 0) (18) := ⟨(by decide +kernel : rt_xt 24 17 = none), (by decide +kernel : rt_cd 24 17 = some (.aload_n 0)), rfl⟩
theorem i_24_18 {sc : Nat × (Nat → Int32)} {fm : Value} : ri (rt_P sc fm) 24 18 (.getfield 9) (21) := ⟨(by decide +kernel : rt_xt 24 18 = none), (by decide +kernel : rt_cd 24 18 = some (.getfield 9)), rfl⟩
theorem f_24_9 {sc : Nat × (Nat → Int32)} {fm : Value} : rx_ft (rt_P sc fm) 24 9 = some (3, 0) := (by decide +kernel : rt_ft 24 9 = some (3, 0))
theorem i_24_21 {sc : Nat × (Nat → Int32)} {fm : Value} : ri (rt_P sc fm) 24 21 (.aload_n 0) (22) := ⟨(by decide +kernel : rt_xt 24 21 = none), (by decide +kernel : rt_cd 24 21 = some (.aload_n 0)), rfl⟩
theorem i_24_22 {sc : Nat × (Nat → Int32)} {fm : Value} : ri (rt_P sc fm) 24 22 (.dup) (23) := ⟨(by decide +kernel : rt_xt 24 22 = none), (by decide +kernel : rt_cd 24 22 = some (.dup)), rfl⟩
theorem i_24_23 {sc : Nat × (Nat → Int32)} {fm : Value} : ri (rt_P sc fm) 24 23 (.getfield 41) (26) := ⟨(by decide +kernel : rt_xt 24 23 = none), (by decide +kernel : rt_cd 24 23 = some (.getfield 41)), rfl⟩
theorem i_24_26 {sc : Nat × (Nat → Int32)} {fm : Value} : ri (rt_P sc fm) 24 26 (.dup_x1) (27) := ⟨(by decide +kernel : rt_xt 24 26 = none), (by decide +kernel : rt_cd 24 26 = some (.dup_x1)), rfl⟩
theorem i_24_27 {sc : Nat × (Nat → Int32)} {fm : Value} : ri (rt_P sc fm) 24 27 (.iconst 1) (28) := ⟨(by decide +kernel : rt_xt 24 27 = none), (by decide +kernel : rt_cd 24 27 = some (.iconst 1)), rfl⟩
theorem i_24_28 {sc : Nat × (Nat → Int32)} {fm : Value} : ri (rt_P sc fm) 24 28 (.iadd) (29) := ⟨(by decide +kernel : rt_xt 24 28 = none), (by decide +kernel : rt_cd 24 28 = some (.iadd)), rfl⟩
theorem i_24_29 {sc : Nat × (Nat → Int32)} {fm : Value} : ri (rt_P sc fm) 24 29 (.putfield 41) (32) := ⟨(by decide +kernel : rt_xt 24 29 = none), (by decide +kernel : rt_cd 24 29 = some (.putfield 41)), rfl⟩
theorem p_24_41 {sc : Nat × (Nat → Int32)} {fm : Value} : rx_pt (rt_P sc fm) 24 41 = some (3, 1, .int) := (by decide +kernel : rt_pt 24 41 = some (3, 1, .int))
theorem i_24_32 {sc : Nat × (Nat → Int32)} {fm : Value} : ri (rt_P sc fm) 24 32 (.iload_n 1) (33) := ⟨(by decide +kernel : rt_xt 24 32 = none), (by decide +kernel : rt_cd 24 32 = some (.iload_n 1)), rfl⟩
theorem i_24_33 {sc : Nat × (Nat → Int32)} {fm : Value} : ri (rt_P sc fm) 24 33 (.iload_n 2) (34) := ⟨(by decide +kernel : rt_xt 24 33 = none), (by decide +kernel : rt_cd 24 33 = some (.iload_n 2)), rfl⟩
theorem i_24_34 {sc : Nat × (Nat → Int32)} {fm : Value} : ri (rt_P sc fm) 24 34 (.ishr) (35) := ⟨(by decide +kernel : rt_xt 24 34 = none), (by decide +kernel : rt_cd 24 34 = some (.ishr)), rfl⟩
theorem i_24_35 {sc : Nat × (Nat → Int32)} {fm : Value} : ri (rt_P sc fm) 24 35 (.i2b) (36) := ⟨(by decide +kernel : rt_xt 24 35 = none), (by decide +kernel : rt_cd 24 35 = some (.i2b)), rfl⟩
theorem i_24_36 {sc : Nat × (Nat → Int32)} {fm : Value} : ri (rt_P sc fm) 24 36 (.bastore) (37) := ⟨(by decide +kernel : rt_xt 24 36 = none), (by decide +kernel : rt_cd 24 36 = some (.bastore)), rfl⟩
theorem i_24_37 {sc : Nat × (Nat → Int32)} {fm : Value} : ri (rt_P sc fm) 24 37 (.iinc 2 (-8)) (40) := ⟨(by decide +kernel : rt_xt 24 37 = none), (by decide +kernel : rt_cd 24 37 = some (.iinc 2 (-8))), rfl⟩
theorem i_24_40 {sc : Nat × (Nat → Int32)} {fm : Value} : ri (rt_P sc fm) 24 40 (.goto (-37)) (43) := ⟨(by decide +kernel : rt_xt 24 40 = none), (by decide +kernel : rt_cd 24 40 = some (.goto (-37))), rfl⟩
theorem i_24_43 {sc : Nat × (Nat → Int32)} {fm : Value} : ri (rt_P sc fm) 24 43 (.return_) (44) := ⟨(by decide +kernel : rt_xt 24 43 = none), (by decide +kernel : rt_cd 24 43 = some (.return_)), rfl⟩
theorem r_24 {sc : Nat × (Nat → Int32)} {fm : Value} : rx_rt (rt_P sc fm) 24 = none := (by decide +kernel : rt_rt 24 = none)
theorem i_56_26 {sc : Nat × (Nat → Int32)} {fm : Value} : ri (rt_P sc fm) 56 26 (.aload_n 0) (27) := ⟨(by decide +kernel : rt_xt 56 26 = none), (by decide +kernel : rt_cd 56 26 = some (.aload_n 0)), rfl⟩
theorem i_56_27 {sc : Nat × (Nat → Int32)} {fm : Value} : ri (rt_P sc fm) 56 27 (.getfield 12) (30) := ⟨(by decide +kernel : rt_xt 56 27 = none), (by decide +kernel : rt_cd 56 27 = some (.getfield 12)), rfl⟩
theorem i_56_30 {sc : Nat × (Nat → Int32)} {fm : Value} : ri (rt_P sc fm) 56 30 (.iload_n 2) (31) := ⟨(by decide +kernel : rt_xt 56 30 = none), (by decide +kernel : rt_cd 56 30 = some (.iload_n 2)), rfl⟩
theorem i_56_31 {sc : Nat × (Nat → Int32)} {fm : Value} : ri (rt_P sc fm) 56 31 (.invokevirtual 99) (34) := ⟨(by decide +kernel : rt_xt 56 31 = none), (by decide +kernel : rt_cd 56 31 = some (.invokevirtual 99)), rfl⟩
theorem i_56_34 {sc : Nat × (Nat → Int32)} {fm : Value} : ri (rt_P sc fm) 56 34 (.aload_n 0) (35) := ⟨(by decide +kernel : rt_xt 56 34 = none), (by decide +kernel : rt_cd 56 34 = some (.aload_n 0)), rfl⟩
theorem i_56_35 {sc : Nat × (Nat → Int32)} {fm : Value} : ri (rt_P sc fm) 56 35 (.getfield 12) (38) := ⟨(by decide +kernel : rt_xt 56 35 = none), (by decide +kernel : rt_cd 56 35 = some (.getfield 12)), rfl⟩
theorem i_56_38 {sc : Nat × (Nat → Int32)} {fm : Value} : ri (rt_P sc fm) 56 38 (.iload_n 3) (39) := ⟨(by decide +kernel : rt_xt 56 38 = none), (by decide +kernel : rt_cd 56 38 = some (.iload_n 3)), rfl⟩
theorem i_56_39 {sc : Nat × (Nat → Int32)} {fm : Value} : ri (rt_P sc fm) 56 39 (.invokevirtual 99) (42) := ⟨(by decide +kernel : rt_xt 56 39 = none), (by decide +kernel : rt_cd 56 39 = some (.invokevirtual 99)), rfl⟩
theorem i_56_42 {sc : Nat × (Nat → Int32)} {fm : Value} : ri (rt_P sc fm) 56 42 (.aload_n 0) (43) := ⟨(by decide +kernel : rt_xt 56 42 = none), (by decide +kernel : rt_cd 56 42 = some (.aload_n 0)), rfl⟩
theorem i_56_43 {sc : Nat × (Nat → Int32)} {fm : Value} : ri (rt_P sc fm) 56 43 (.getfield 12) (46) := ⟨(by decide +kernel : rt_xt 56 43 = none), (by decide +kernel : rt_cd 56 43 = some (.getfield 12)), rfl⟩
theorem i_56_46 {sc : Nat × (Nat → Int32)} {fm : Value} : ri (rt_P sc fm) 56 46 (.iload 4) (48) := ⟨(by decide +kernel : rt_xt 56 46 = none), (by decide +kernel : rt_cd 56 46 = some (.iload 4)), rfl⟩
theorem i_56_48 {sc : Nat × (Nat → Int32)} {fm : Value} : ri (rt_P sc fm) 56 48 (.invokevirtual 99) (51) := ⟨(by decide +kernel : rt_xt 56 48 = none), (by decide +kernel : rt_cd 56 48 = some (.invokevirtual 99)), rfl⟩
theorem i_56_51 {sc : Nat × (Nat → Int32)} {fm : Value} : ri (rt_P sc fm) 56 51 (.aload_n 0) (52) := ⟨(by decide +kernel : rt_xt 56 51 = none), (by decide +kernel : rt_cd 56 51 = some (.aload_n 0)), rfl⟩
theorem i_56_52 {sc : Nat × (Nat → Int32)} {fm : Value} : ri (rt_P sc fm) 56 52 (.getfield 12) (55) := ⟨(by decide +kernel : rt_xt 56 52 = none), (by decide +kernel : rt_cd 56 52 = some (.getfield 12)), rfl⟩
theorem i_56_55 {sc : Nat × (Nat → Int32)} {fm : Value} : ri (rt_P sc fm) 56 55 (.iload 5) (57) := ⟨(by decide +kernel : rt_xt 56 55 = none), (by decide +kernel : rt_cd 56 55 = some (.iload 5)), rfl⟩
theorem i_56_57 {sc : Nat × (Nat → Int32)} {fm : Value} : ri (rt_P sc fm) 56 57 (.invokevirtual 99) (60) := ⟨(by decide +kernel : rt_xt 56 57 = none), (by decide +kernel : rt_cd 56 57 = some (.invokevirtual 99)), rfl⟩
theorem i_56_60 {sc : Nat × (Nat → Int32)} {fm : Value} : ri (rt_P sc fm) 56 60 (.aload_n 0) (61) := ⟨(by decide +kernel : rt_xt 56 60 = none), (by decide +kernel : rt_cd 56 60 = some (.aload_n 0)), rfl⟩
theorem i_56_61 {sc : Nat × (Nat → Int32)} {fm : Value} : ri (rt_P sc fm) 56 61 (.getfield 12) (64) := ⟨(by decide +kernel : rt_xt 56 61 = none), (by decide +kernel : rt_cd 56 61 = some (.getfield 12)), rfl⟩
theorem i_56_64 {sc : Nat × (Nat → Int32)} {fm : Value} : ri (rt_P sc fm) 56 64 (.getfield 95) (67) := ⟨(by decide +kernel : rt_xt 56 64 = none), (by decide +kernel : rt_cd 56 64 = some (.getfield 95)), rfl⟩
theorem i_56_67 {sc : Nat × (Nat → Int32)} {fm : Value} : ri (rt_P sc fm) 56 67 (.ireturn) (68) := ⟨(by decide +kernel : rt_xt 56 67 = none), (by decide +kernel : rt_cd 56 67 = some (.ireturn)), rfl⟩
theorem r_56 {sc : Nat × (Nat → Int32)} {fm : Value} : rx_rt (rt_P sc fm) 56 = (some FieldType.int) := (by decide +kernel : rt_rt 56 = (some FieldType.int))
theorem i_0_222 {sc : Nat × (Nat → Int32)} {fm : Value} : ri (rt_P sc fm) 0 222 (.aload_n 2) (223) := ⟨(by decide +kernel : rt_xt 0 222 = none), (by decide +kernel : rt_cd 0 222 = some (.aload_n 2)), rfl⟩
theorem i_0_223 {sc : Nat × (Nat → Int32)} {fm : Value} : ri (rt_P sc fm) 0 223 (.aload_n 0) (224) := ⟨(by decide +kernel : rt_xt 0 223 = none), (by decide +kernel : rt_cd 0 223 = some (.aload_n 0)), rfl⟩
theorem i_0_224 {sc : Nat × (Nat → Int32)} {fm : Value} : ri (rt_P sc fm) 0 224 (.iload 4) (226) := ⟨(by decide +kernel : rt_xt 0 224 = none), (by decide +kernel : rt_cd 0 224 = some (.iload 4)), rfl⟩
theorem i_0_226 {sc : Nat × (Nat → Int32)} {fm : Value} : ri (rt_P sc fm) 0 226 (.iconst 1) (227) := ⟨(by decide +kernel : rt_xt 0 226 = none), (by decide +kernel : rt_cd 0 226 = some (.iconst 1)), rfl⟩
theorem i_0_227 {sc : Nat × (Nat → Int32)} {fm : Value} : ri (rt_P sc fm) 0 227 (.iadd) (228) := ⟨(by decide +kernel : rt_xt 0 227 = none), (by decide +kernel : rt_cd 0 227 = some (.iadd)), rfl⟩
theorem i_0_228 {sc : Nat × (Nat → Int32)} {fm : Value} : ri (rt_P sc fm) 0 228 (.iaload) (229) := ⟨(by decide +kernel : rt_xt 0 228 = none), (by decide +kernel : rt_cd 0 228 = some (.iaload)), rfl⟩
theorem i_0_229 {sc : Nat × (Nat → Int32)} {fm : Value} : ri (rt_P sc fm) 0 229 (.aload_n 0) (230) := ⟨(by decide +kernel : rt_xt 0 229 = none), (by decide +kernel : rt_cd 0 229 = some (.aload_n 0)), rfl⟩
theorem i_0_230 {sc : Nat × (Nat → Int32)} {fm : Value} : ri (rt_P sc fm) 0 230 (.iload 4) (232) := ⟨(by decide +kernel : rt_xt 0 230 = none), (by decide +kernel : rt_cd 0 230 = some (.iload 4)), rfl⟩
theorem i_0_232 {sc : Nat × (Nat → Int32)} {fm : Value} : ri (rt_P sc fm) 0 232 (.iconst 2) (233) := ⟨(by decide +kernel : rt_xt 0 232 = none), (by decide +kernel : rt_cd 0 232 = some (.iconst 2)), rfl⟩
theorem i_0_233 {sc : Nat × (Nat → Int32)} {fm : Value} : ri (rt_P sc fm) 0 233 (.iadd) (234) := ⟨(by decide +kernel : rt_xt 0 233 = none), (by decide +kernel : rt_cd 0 233 = some (.iadd)), rfl⟩
theorem i_0_234 {sc : Nat × (Nat → Int32)} {fm : Value} : ri (rt_P sc fm) 0 234 (.iaload) (235) := ⟨(by decide +kernel : rt_xt 0 234 = none), (by decide +kernel : rt_cd 0 234 = some (.iaload)), rfl⟩
theorem i_0_235 {sc : Nat × (Nat → Int32)} {fm : Value} : ri (rt_P sc fm) 0 235 (.aload_n 0) (236) := ⟨(by decide +kernel : rt_xt 0 235 = none), (by decide +kernel : rt_cd 0 235 = some (.aload_n 0)), rfl⟩
theorem i_0_236 {sc : Nat × (Nat → Int32)} {fm : Value} : ri (rt_P sc fm) 0 236 (.iload 4) (238) := ⟨(by decide +kernel : rt_xt 0 236 = none), (by decide +kernel : rt_cd 0 236 = some (.iload 4)), rfl⟩
theorem i_0_238 {sc : Nat × (Nat → Int32)} {fm : Value} : ri (rt_P sc fm) 0 238 (.iconst 3) (239) := ⟨(by decide +kernel : rt_xt 0 238 = none), (by decide +kernel : rt_cd 0 238 = some (.iconst 3)), rfl⟩
theorem i_0_239 {sc : Nat × (Nat → Int32)} {fm : Value} : ri (rt_P sc fm) 0 239 (.iadd) (240) := ⟨(by decide +kernel : rt_xt 0 239 = none), (by decide +kernel : rt_cd 0 239 = some (.iadd)), rfl⟩
theorem i_0_240 {sc : Nat × (Nat → Int32)} {fm : Value} : ri (rt_P sc fm) 0 240 (.iaload) (241) := ⟨(by decide +kernel : rt_xt 0 240 = none), (by decide +kernel : rt_cd 0 240 = some (.iaload)), rfl⟩
theorem i_0_241 {sc : Nat × (Nat → Int32)} {fm : Value} : ri (rt_P sc fm) 0 241 (.aload_n 0) (242) := ⟨(by decide +kernel : rt_xt 0 241 = none), (by decide +kernel : rt_cd 0 241 = some (.aload_n 0)), rfl⟩
theorem i_0_242 {sc : Nat × (Nat → Int32)} {fm : Value} : ri (rt_P sc fm) 0 242 (.iload 4) (244) := ⟨(by decide +kernel : rt_xt 0 242 = none), (by decide +kernel : rt_cd 0 242 = some (.iload 4)), rfl⟩
theorem i_0_244 {sc : Nat × (Nat → Int32)} {fm : Value} : ri (rt_P sc fm) 0 244 (.iconst 4) (245) := ⟨(by decide +kernel : rt_xt 0 244 = none), (by decide +kernel : rt_cd 0 244 = some (.iconst 4)), rfl⟩
theorem i_0_245 {sc : Nat × (Nat → Int32)} {fm : Value} : ri (rt_P sc fm) 0 245 (.iadd) (246) := ⟨(by decide +kernel : rt_xt 0 245 = none), (by decide +kernel : rt_cd 0 245 = some (.iadd)), rfl⟩
theorem i_0_246 {sc : Nat × (Nat → Int32)} {fm : Value} : ri (rt_P sc fm) 0 246 (.iaload) (247) := ⟨(by decide +kernel : rt_xt 0 246 = none), (by decide +kernel : rt_cd 0 246 = some (.iaload)), rfl⟩
theorem i_0_247 {sc : Nat × (Nat → Int32)} {fm : Value} : ri (rt_P sc fm) 0 247 (.aload_n 0) (248) := ⟨(by decide +kernel : rt_xt 0 247 = none), (by decide +kernel : rt_cd 0 247 = some (.aload_n 0)), rfl⟩
theorem i_0_248 {sc : Nat × (Nat → Int32)} {fm : Value} : ri (rt_P sc fm) 0 248 (.iload 4) (250) := ⟨(by decide +kernel : rt_xt 0 248 = none), (by decide +kernel : rt_cd 0 248 = some (.iload 4)), rfl⟩
theorem i_0_250 {sc : Nat × (Nat → Int32)} {fm : Value} : ri (rt_P sc fm) 0 250 (.iconst 5) (251) := ⟨(by decide +kernel : rt_xt 0 250 = none), (by decide +kernel : rt_cd 0 250 = some (.iconst 5)), rfl⟩
theorem i_0_251 {sc : Nat × (Nat → Int32)} {fm : Value} : ri (rt_P sc fm) 0 251 (.iadd) (252) := ⟨(by decide +kernel : rt_xt 0 251 = none), (by decide +kernel : rt_cd 0 251 = some (.iadd)), rfl⟩
theorem i_0_252 {sc : Nat × (Nat → Int32)} {fm : Value} : ri (rt_P sc fm) 0 252 (.iaload) (253) := ⟨(by decide +kernel : rt_xt 0 252 = none), (by decide +kernel : rt_cd 0 252 = some (.iaload)), rfl⟩
theorem i_0_253 {sc : Nat × (Nat → Int32)} {fm : Value} : ri (rt_P sc fm) 0 253 (.invokevirtual 35) (256) := ⟨(by decide +kernel : rt_xt 0 253 = none), (by decide +kernel : rt_cd 0 253 = some (.invokevirtual 35)), rfl⟩
theorem c_0_35 {sc : Nat × (Nat → Int32)} {fm : Value} : rx_ct (rt_P sc fm) 0 35 = some (0, 93, 5) := (by decide +kernel : rt_ct 0 35 = some (0, 93, 5))
theorem a_15_93 {sc : Nat × (Nat → Int32)} {fm : Value} : rz_cn 15 (rx_yn (rt_P sc fm) 93).cls = true := (by decide +kernel : rz_cn 15 (rt_yn 93).cls = true)
theorem i_93_0 {sc : Nat × (Nat → Int32)} {fm : Value} : ri (rt_P sc fm) 93 0 (.aload_n 0) (1) := ⟨(by decide +kernel : rt_xt 93 0 = none), (by decide +kernel : rt_cd 93 0 = some (.aload_n 0)), rfl⟩
theorem i_93_1 {sc : Nat × (Nat → Int32)} {fm : Value} : ri (rt_P sc fm) 93 1 (.iconst 0) (2) := ⟨(by decide +kernel : rt_xt 93 1 = none), (by decide +kernel : rt_cd 93 1 = some (.iconst 0)), rfl⟩
theorem i_93_2 {sc : Nat × (Nat → Int32)} {fm : Value} : ri (rt_P sc fm) 93 2 (.putfield 356) (5) := ⟨(by decide +kernel : rt_xt 93 2 = none), (by decide +kernel : rt_cd 93 2 = some (.putfield 356)), rfl⟩
theorem p_93_356 {sc : Nat × (Nat → Int32)} {fm : Value} : rx_pt (rt_P sc fm) 93 356 = some (15, 0, .int) := (by decide +kernel : rt_pt 93 356 = some (15, 0, .int))
theorem i_93_5 {sc : Nat × (Nat → Int32)} {fm : Value} : ri (rt_P sc fm) 93 5 (.aload_n 0) (6) := ⟨(by decide +kernel : rt_xt 93 5 = none), (by decide +kernel : rt_cd 93 5 = some (.aload_n 0)), rfl⟩
theorem i_93_6 {sc : Nat × (Nat → Int32)} {fm : Value} : ri (rt_P sc fm) 93 6 (.getfield 359) (9) := ⟨(by decide +kernel : rt_xt 93 6 = none), (by decide +kernel : rt_cd 93 6 = some (.getfield 359)), rfl⟩
theorem f_93_359 {sc : Nat × (Nat → Int32)} {fm : Value} : rx_ft (rt_P sc fm) 93 359 = some (15, 2) := (by decide +kernel : rt_ft 93 359 = some (15, 2))
theorem i_93_9 {sc : Nat × (Nat → Int32)} {fm : Value} : ri (rt_P sc fm) 93 9 (.bipush 20) (11) := ⟨(by decide +kernel : rt_xt 93 9 = none), (by decide +kernel : rt_cd 93 9 = some (.bipush 20)), rfl⟩
theorem i_93_11 {sc : Nat × (Nat → Int32)} {fm : Value} : ri (rt_P sc fm) 93 11 (.iadd) (12) := ⟨(by decide +kernel : rt_xt 93 11 = none), (by decide +kernel : rt_cd 93 11 = some (.iadd)), rfl⟩
theorem i_93_12 {sc : Nat × (Nat → Int32)} {fm : Value} : ri (rt_P sc fm) 93 12 (.sipush 4000) (15) := ⟨(by decide +kernel : rt_xt 93 12 = none), (by decide +kernel : rt_cd 93 12 = some (.sipush 4000)), rfl⟩
theorem i_93_15 {sc : Nat × (Nat → Int32)} {fm : Value} : ri (rt_P sc fm) 93 15 (.if_icmp .le 5) (18) := ⟨(by decide +kernel : rt_xt 93 15 = none), (by decide +kernel : rt_cd 93 15 = some (.if_icmp .le 5)), rfl⟩
theorem i_93_20 {sc : Nat × (Nat → Int32)} {fm : Value} : ri (rt_P sc fm) 93 20 (.aload_n 0) (21) := ⟨(by decide +kernel : rt_xt 93 20 = none), (by decide +kernel : rt_cd 93 20 = some (.aload_n 0)), rfl⟩
theorem i_93_21 {sc : Nat × (Nat → Int32)} {fm : Value} : ri (rt_P sc fm) 93 21 (.iload_n 1) (22) := ⟨(by decide +kernel : rt_xt 93 21 = none), (by decide +kernel : rt_cd 93 21 = some (.iload_n 1)), rfl⟩
theorem i_93_22 {sc : Nat × (Nat → Int32)} {fm : Value} : ri (rt_P sc fm) 93 22 (.invokevirtual 362) (25) := ⟨(by decide +kernel : rt_xt 93 22 = none), (by decide +kernel : rt_cd 93 22 = some (.invokevirtual 362)), rfl⟩
theorem c_93_362 {sc : Nat × (Nat → Int32)} {fm : Value} : rx_ct (rt_P sc fm) 93 362 = some (0, 94, 1) := (by decide +kernel : rt_ct 93 362 = some (0, 94, 1))
theorem a_15_94 {sc : Nat × (Nat → Int32)} {fm : Value} : rz_cn 15 (rx_yn (rt_P sc fm) 94).cls = true := (by decide +kernel : rz_cn 15 (rt_yn 94).cls = true)
theorem i_94_0 {sc : Nat × (Nat → Int32)} {fm : Value} : ri (rt_P sc fm) 94 0 (.bipush 24) (2) := ⟨(by decide +kernel : rt_xt 94 0 = none), (by decide +kernel : rt_cd 94 0 = some (.bipush 24)), rfl⟩
theorem i_94_2 {sc : Nat × (Nat → Int32)} {fm : Value} : ri (rt_P sc fm) 94 2 (.istore_n 2) (3) := ⟨(by decide +kernel : rt_xt 94 2 = none), (by decide +kernel : rt_cd 94 2 = some (.istore_n 2)), rfl⟩
theorem i_94_3 {sc : Nat × (Nat → Int32)} {fm : Value} : ri (rt_P sc fm) 94 3 (.iload_n 2) (4) := ⟨(by decide +kernel : rt_xt 94 3 = none), (by decide +kernel : rt_cd 94 3 = some (.iload_n 2)), rfl⟩
theorem i_94_4 {sc : Nat × (Nat → Int32)} {fm : Value} : ri (rt_P sc fm) 94 4 (.ifCond .lt 35) (7) := ⟨(by decide +kernel : rt_xt 94 4 = none), (by decide +kernel : rt_cd 94 4 = some (.ifCond .lt 35)), rfl⟩
theorem i_94_7 {sc : Nat × (Nat → Int32)} {fm : Value} : ri (rt_P sc fm) 94 7 (.aload_n 0) (8) := ⟨(by decide +kernel : rt_xt 94 7 = none), (by decide +kernel : rt_cd 94 7 = some (.aload_n 0)), rfl⟩
theorem i_94_8 {sc : Nat × (Nat → Int32)} {fm : Value} : ri (rt_P sc fm) 94 8 (.getfield 9) (11) := ⟨(by decide +kernel : rt_xt 94 8 = none), (by decide +kernel : rt_cd 94 8 = some (.getfield 9)), rfl⟩
theorem f_94_9 {sc : Nat × (Nat → Int32)} {fm : Value} : rx_ft (rt_P sc fm) 94 9 = some (15, 1) := (by decide +kernel : rt_ft 94 9 = some (15, 1))
theorem i_94_11 {sc : Nat × (Nat → Int32)} {fm : Value} : ri (rt_P sc fm) 94 11 (.aload_n 0) (12) := ⟨(by decide +kernel : rt_xt 94 11 = none), (by decide +kernel : rt_cd 94 11 = some (.aload_n 0)), rfl⟩
theorem i_94_12 {sc : Nat × (Nat → Int32)} {fm : Value} : ri (rt_P sc fm) 94 12 (.getfield 359) (15) := ⟨(by decide +kernel : rt_xt 94 12 = none), (by decide +kernel : rt_cd 94 12 = some (.getfield 359)), rfl⟩
theorem f_94_359 {sc : Nat × (Nat → Int32)} {fm : Value} : rx_ft (rt_P sc fm) 94 359 = some (15, 2) := (by decide +kernel : rt_ft 94 359 = some (15, 2))
theorem i_94_15 {sc : Nat × (Nat → Int32)} {fm : Value} : ri (rt_P sc fm) 94 15 (.iload_n 1) (16) := ⟨(by decide +kernel : rt_xt 94 15 = none), (by decide +kernel : rt_cd 94 15 = some (.iload_n 1)), rfl⟩
theorem i_94_16 {sc : Nat × (Nat → Int32)} {fm : Value} : ri (rt_P sc fm) 94 16 (.iload_n 2) (17) := ⟨(by decide +kernel : rt_xt 94 16 = none), (by decide +kernel : rt_cd 94 16 = some (.iload_n 2)), rfl⟩
theorem i_94_17 {sc : Nat × (Nat → Int32)} {fm : Value} : ri (rt_P sc fm) 94 17 (.ishr) (18) := ⟨(by decide +kernel : rt_xt 94 17 = none), (by decide +kernel : rt_cd 94 17 = some (.ishr)), rfl⟩
theorem i_94_18 {sc : Nat × (Nat → Int32)} {fm : Value} : ri (rt_P sc fm) 94 18 (.sipush 255) (21) := ⟨(by decide +kernel : rt_xt 94 18 = none), (by decide +kernel : rt_cd 94 18 = some (.sipush 255)), rfl⟩
theorem i_94_21 {sc : Nat × (Nat → Int32)} {fm : Value} : ri (rt_P sc fm) 94 21 (.iand) (22) := ⟨(by decide +kernel : rt_xt 94 21 = none), (by decide +kernel : rt_cd 94 21 = some (.iand)), rfl⟩
theorem i_94_22 {sc : Nat × (Nat → Int32)} {fm : Value} : ri (rt_P sc fm) 94 22 (.iastore) (23) := ⟨(by decide +kernel : rt_xt 94 22 = none), (by decide +kernel : rt_cd 94 22 = some (.iastore)), rfl⟩
theorem i_94_23 {sc : Nat × (Nat → Int32)} {fm : Value} : ri (rt_P sc fm) 94 23 (.aload_n 0) (24) := ⟨(by decide +kernel : rt_xt 94 23 = none), (by decide +kernel : rt_cd 94 23 = some (.aload_n 0)), rfl⟩
theorem i_94_24 {sc : Nat × (Nat → Int32)} {fm : Value} : ri (rt_P sc fm) 94 24 (.dup) (25) := ⟨(by decide +kernel : rt_xt 94 24 = none), (by decide +kernel : rt_cd 94 24 = some (.dup)), rfl⟩
theorem i_94_25 {sc : Nat × (Nat → Int32)} {fm : Value} : ri (rt_P sc fm) 94 25 (.getfield 359) (28) := ⟨(by decide +kernel : rt_xt 94 25 = none), (by decide +kernel : rt_cd 94 25 = some (.getfield 359)), rfl⟩
theorem i_94_28 {sc : Nat × (Nat → Int32)} {fm : Value} : ri (rt_P sc fm) 94 28 (.iconst 1) (29) := ⟨(by decide +kernel : rt_xt 94 28 = none), (by decide +kernel : rt_cd 94 28 = some (.iconst 1)), rfl⟩
theorem i_94_29 {sc : Nat × (Nat → Int32)} {fm : Value} : ri (rt_P sc fm) 94 29 (.iadd) (30) := ⟨(by decide +kernel : rt_xt 94 29 = none), (by decide +kernel : rt_cd 94 29 = some (.iadd)), rfl⟩
theorem i_94_30 {sc : Nat × (Nat → Int32)} {fm : Value} : ri (rt_P sc fm) 94 30 (.putfield 359) (33) := ⟨(by decide +kernel : rt_xt 94 30 = none), (by decide +kernel : rt_cd 94 30 = some (.putfield 359)), rfl⟩
theorem p_94_359 {sc : Nat × (Nat → Int32)} {fm : Value} : rx_pt (rt_P sc fm) 94 359 = some (15, 2, .int) := (by decide +kernel : rt_pt 94 359 = some (15, 2, .int))
theorem i_94_33 {sc : Nat × (Nat → Int32)} {fm : Value} : ri (rt_P sc fm) 94 33 (.iinc 2 (-8)) (36) := ⟨(by decide +kernel : rt_xt 94 33 = none), (by decide +kernel : rt_cd 94 33 = some (.iinc 2 (-8))), rfl⟩
theorem i_94_36 {sc : Nat × (Nat → Int32)} {fm : Value} : ri (rt_P sc fm) 94 36 (.goto (-33)) (39) := ⟨(by decide +kernel : rt_xt 94 36 = none), (by decide +kernel : rt_cd 94 36 = some (.goto (-33))), rfl⟩
theorem i_94_39 {sc : Nat × (Nat → Int32)} {fm : Value} : ri (rt_P sc fm) 94 39 (.return_) (40) := ⟨(by decide +kernel : rt_xt 94 39 = none), (by decide +kernel : rt_cd 94 39 = some (.return_)), rfl⟩
theorem r_94 {sc : Nat × (Nat → Int32)} {fm : Value} : rx_rt (rt_P sc fm) 94 = none := (by decide +kernel : rt_rt 94 = none)
theorem i_93_25 {sc : Nat × (Nat → Int32)} {fm : Value} : ri (rt_P sc fm) 93 25 (.aload_n 0) (26) := ⟨(by decide +kernel : rt_xt 93 25 = none), (by decide +kernel : rt_cd 93 25 = some (.aload_n 0)), rfl⟩
theorem i_93_26 {sc : Nat × (Nat → Int32)} {fm : Value} : ri (rt_P sc fm) 93 26 (.iload_n 2) (27) := ⟨(by decide +kernel : rt_xt 93 26 = none), (by decide +kernel : rt_cd 93 26 = some (.iload_n 2)), rfl⟩
theorem i_93_27 {sc : Nat × (Nat → Int32)} {fm : Value} : ri (rt_P sc fm) 93 27 (.invokevirtual 362) (30) := ⟨(by decide +kernel : rt_xt 93 27 = none), (by decide +kernel : rt_cd 93 27 = some (.invokevirtual 362)), rfl⟩
theorem i_93_30 {sc : Nat × (Nat → Int32)} {fm : Value} : ri (rt_P sc fm) 93 30 (.aload_n 0) (31) := ⟨(by decide +kernel : rt_xt 93 30 = none), (by decide +kernel : rt_cd 93 30 = some (.aload_n 0)), rfl⟩
theorem i_93_31 {sc : Nat × (Nat → Int32)} {fm : Value} : ri (rt_P sc fm) 93 31 (.iload_n 3) (32) := ⟨(by decide +kernel : rt_xt 93 31 = none), (by decide +kernel : rt_cd 93 31 = some (.iload_n 3)), rfl⟩
theorem i_93_32 {sc : Nat × (Nat → Int32)} {fm : Value} : ri (rt_P sc fm) 93 32 (.invokevirtual 362) (35) := ⟨(by decide +kernel : rt_xt 93 32 = none), (by decide +kernel : rt_cd 93 32 = some (.invokevirtual 362)), rfl⟩
theorem i_93_35 {sc : Nat × (Nat → Int32)} {fm : Value} : ri (rt_P sc fm) 93 35 (.aload_n 0) (36) := ⟨(by decide +kernel : rt_xt 93 35 = none), (by decide +kernel : rt_cd 93 35 = some (.aload_n 0)), rfl⟩
theorem i_93_36 {sc : Nat × (Nat → Int32)} {fm : Value} : ri (rt_P sc fm) 93 36 (.iload 4) (38) := ⟨(by decide +kernel : rt_xt 93 36 = none), (by decide +kernel : rt_cd 93 36 = some (.iload 4)), rfl⟩
theorem i_93_38 {sc : Nat × (Nat → Int32)} {fm : Value} : ri (rt_P sc fm) 93 38 (.invokevirtual 362) (41) := ⟨(by decide +kernel : rt_xt 93 38 = none), (by decide +kernel : rt_cd 93 38 = some (.invokevirtual 362)), rfl⟩
theorem i_93_41 {sc : Nat × (Nat → Int32)} {fm : Value} : ri (rt_P sc fm) 93 41 (.aload_n 0) (42) := ⟨(by decide +kernel : rt_xt 93 41 = none), (by decide +kernel : rt_cd 93 41 = some (.aload_n 0)), rfl⟩
theorem i_93_42 {sc : Nat × (Nat → Int32)} {fm : Value} : ri (rt_P sc fm) 93 42 (.iload 5) (44) := ⟨(by decide +kernel : rt_xt 93 42 = none), (by decide +kernel : rt_cd 93 42 = some (.iload 5)), rfl⟩
theorem i_93_44 {sc : Nat × (Nat → Int32)} {fm : Value} : ri (rt_P sc fm) 93 44 (.invokevirtual 362) (47) := ⟨(by decide +kernel : rt_xt 93 44 = none), (by decide +kernel : rt_cd 93 44 = some (.invokevirtual 362)), rfl⟩
theorem i_93_47 {sc : Nat × (Nat → Int32)} {fm : Value} : ri (rt_P sc fm) 93 47 (.aload_n 0) (48) := ⟨(by decide +kernel : rt_xt 93 47 = none), (by decide +kernel : rt_cd 93 47 = some (.aload_n 0)), rfl⟩
theorem i_93_48 {sc : Nat × (Nat → Int32)} {fm : Value} : ri (rt_P sc fm) 93 48 (.getfield 359) (51) := ⟨(by decide +kernel : rt_xt 93 48 = none), (by decide +kernel : rt_cd 93 48 = some (.getfield 359)), rfl⟩
theorem i_93_51 {sc : Nat × (Nat → Int32)} {fm : Value} : ri (rt_P sc fm) 93 51 (.ireturn) (52) := ⟨(by decide +kernel : rt_xt 93 51 = none), (by decide +kernel : rt_cd 93 51 = some (.ireturn)), rfl⟩
theorem r_93 {sc : Nat × (Nat → Int32)} {fm : Value} : rx_rt (rt_P sc fm) 93 = (some FieldType.int) := (by decide +kernel : rt_rt 93 = (some FieldType.int))
theorem i_0_256 {sc : Nat × (Nat → Int32)} {fm : Value} : ri (rt_P sc fm) 0 256 (.if_icmp .eq 1078) (259) := ⟨(by decide +kernel : rt_xt 0 256 = none), (by decide +kernel : rt_cd 0 256 = some (.if_icmp .eq 1078)), rfl⟩
theorem i_0_261 {sc : Nat × (Nat → Int32)} {fm : Value} : ri (rt_P sc fm) 0 261 (.aload_n 1) (262) := ⟨(by decide +kernel : rt_xt 0 261 = none), (by decide +kernel : rt_cd 0 261 = some (.aload_n 1)), rfl⟩
theorem i_0_262 {sc : Nat × (Nat → Int32)} {fm : Value} : ri (rt_P sc fm) 0 262 (.aload_n 0) (263) := ⟨(by decide +kernel : rt_xt 0 262 = none), (by decide +kernel : rt_cd 0 262 = some (.aload_n 0)), rfl⟩
theorem i_0_263 {sc : Nat × (Nat → Int32)} {fm : Value} : ri (rt_P sc fm) 0 263 (.iload 4) (265) := ⟨(by decide +kernel : rt_xt 0 263 = none), (by decide +kernel : rt_cd 0 263 = some (.iload 4)), rfl⟩
theorem i_0_265 {sc : Nat × (Nat → Int32)} {fm : Value} : ri (rt_P sc fm) 0 265 (.iconst 1) (266) := ⟨(by decide +kernel : rt_xt 0 265 = none), (by decide +kernel : rt_cd 0 265 = some (.iconst 1)), rfl⟩
theorem i_0_266 {sc : Nat × (Nat → Int32)} {fm : Value} : ri (rt_P sc fm) 0 266 (.iadd) (267) := ⟨(by decide +kernel : rt_xt 0 266 = none), (by decide +kernel : rt_cd 0 266 = some (.iadd)), rfl⟩
theorem i_0_267 {sc : Nat × (Nat → Int32)} {fm : Value} : ri (rt_P sc fm) 0 267 (.iaload) (268) := ⟨(by decide +kernel : rt_xt 0 267 = none), (by decide +kernel : rt_cd 0 267 = some (.iaload)), rfl⟩
theorem i_0_268 {sc : Nat × (Nat → Int32)} {fm : Value} : ri (rt_P sc fm) 0 268 (.invokevirtual 36) (271) := ⟨(by decide +kernel : rt_xt 0 268 = none), (by decide +kernel : rt_cd 0 268 = some (.invokevirtual 36)), rfl⟩
theorem c_0_36 {sc : Nat × (Nat → Int32)} {fm : Value} : rx_ct (rt_P sc fm) 0 36 = some (0, 57, 1) := (by decide +kernel : rt_ct 0 36 = some (0, 57, 1))
theorem a_14_57 {sc : Nat × (Nat → Int32)} {fm : Value} : rz_cn 14 (rx_yn (rt_P sc fm) 57).cls = true := (by decide +kernel : rz_cn 14 (rt_yn 57).cls = true)
theorem i_57_0 {sc : Nat × (Nat → Int32)} {fm : Value} : ri (rt_P sc fm) 57 0 (.iload_n 1) (1) := ⟨(by decide +kernel : rt_xt 57 0 = none), (by decide +kernel : rt_cd 57 0 = some (.iload_n 1)), rfl⟩
theorem i_57_1 {sc : Nat × (Nat → Int32)} {fm : Value} : ri (rt_P sc fm) 57 1 (.ifCond .lt 14) (4) := ⟨(by decide +kernel : rt_xt 57 1 = none), (by decide +kernel : rt_cd 57 1 = some (.ifCond .lt 14)), rfl⟩
theorem i_57_15 {sc : Nat × (Nat → Int32)} {fm : Value} : ri (rt_P sc fm) 57 15 (.iconst (-1)) (16) := ⟨(by decide +kernel : rt_xt 57 15 = none), (by decide +kernel : rt_cd 57 15 = some (.iconst (-1))), rfl⟩
theorem i_57_16 {sc : Nat × (Nat → Int32)} {fm : Value} : ri (rt_P sc fm) 57 16 (.ireturn) (17) := ⟨(by decide +kernel : rt_xt 57 16 = none), (by decide +kernel : rt_cd 57 16 = some (.ireturn)), rfl⟩
theorem r_57 {sc : Nat × (Nat → Int32)} {fm : Value} : rx_rt (rt_P sc fm) 57 = (some FieldType.int) := (by decide +kernel : rt_rt 57 = (some FieldType.int))
theorem i_0_271 {sc : Nat × (Nat → Int32)} {fm : Value} : ri (rt_P sc fm) 0 271 (.aload_n 2) (272) := ⟨(by decide +kernel : rt_xt 0 271 = none), (by decide +kernel : rt_cd 0 271 = some (.aload_n 2)), rfl⟩
theorem i_0_272 {sc : Nat × (Nat → Int32)} {fm : Value} : ri (rt_P sc fm) 0 272 (.aload_n 0) (273) := ⟨(by decide +kernel : rt_xt 0 272 = none), (by decide +kernel : rt_cd 0 272 = some (.aload_n 0)), rfl⟩
theorem i_0_273 {sc : Nat × (Nat → Int32)} {fm : Value} : ri (rt_P sc fm) 0 273 (.iload 4) (275) := ⟨(by decide +kernel : rt_xt 0 273 = none), (by decide +kernel : rt_cd 0 273 = some (.iload 4)), rfl⟩
theorem i_0_275 {sc : Nat × (Nat → Int32)} {fm : Value} : ri (rt_P sc fm) 0 275 (.iconst 1) (276) := ⟨(by decide +kernel : rt_xt 0 275 = none), (by decide +kernel : rt_cd 0 275 = some (.iconst 1)), rfl⟩
theorem i_0_276 {sc : Nat × (Nat → Int32)} {fm : Value} : ri (rt_P sc fm) 0 276 (.iadd) (277) := ⟨(by decide +kernel : rt_xt 0 276 = none), (by decide +kernel : rt_cd 0 276 = some (.iadd)), rfl⟩
theorem i_0_277 {sc : Nat × (Nat → Int32)} {fm : Value} : ri (rt_P sc fm) 0 277 (.iaload) (278) := ⟨(by decide +kernel : rt_xt 0 277 = none), (by decide +kernel : rt_cd 0 277 = some (.iaload)), rfl⟩
theorem i_0_278 {sc : Nat × (Nat → Int32)} {fm : Value} : ri (rt_P sc fm) 0 278 (.invokevirtual 39) (281) := ⟨(by decide +kernel : rt_xt 0 278 = none), (by decide +kernel : rt_cd 0 278 = some (.invokevirtual 39)), rfl⟩
theorem c_0_39 {sc : Nat × (Nat → Int32)} {fm : Value} : rx_ct (rt_P sc fm) 0 39 = some (0, 95, 1) := (by decide +kernel : rt_ct 0 39 = some (0, 95, 1))
theorem a_15_95 {sc : Nat × (Nat → Int32)} {fm : Value} : rz_cn 15 (rx_yn (rt_P sc fm) 95).cls = true := (by decide +kernel : rz_cn 15 (rt_yn 95).cls = true)
theorem i_95_0 {sc : Nat × (Nat → Int32)} {fm : Value} : ri (rt_P sc fm) 95 0 (.aload_n 0) (1) := ⟨(by decide +kernel : rt_xt 95 0 = none), (by decide +kernel : rt_cd 95 0 = some (.aload_n 0)), rfl⟩
theorem i_95_1 {sc : Nat × (Nat → Int32)} {fm : Value} : ri (rt_P sc fm) 95 1 (.iconst 0) (2) := ⟨(by decide +kernel : rt_xt 95 1 = none), (by decide +kernel : rt_cd 95 1 = some (.iconst 0)), rfl⟩
theorem i_95_2 {sc : Nat × (Nat → Int32)} {fm : Value} : ri (rt_P sc fm) 95 2 (.putfield 356) (5) := ⟨(by decide +kernel : rt_xt 95 2 = none), (by decide +kernel : rt_cd 95 2 = some (.putfield 356)), rfl⟩
theorem p_95_356 {sc : Nat × (Nat → Int32)} {fm : Value} : rx_pt (rt_P sc fm) 95 356 = some (15, 0, .int) := (by decide +kernel : rt_pt 95 356 = some (15, 0, .int))
theorem i_95_5 {sc : Nat × (Nat → Int32)} {fm : Value} : ri (rt_P sc fm) 95 5 (.iload_n 1) (6) := ⟨(by decide +kernel : rt_xt 95 5 = none), (by decide +kernel : rt_cd 95 5 = some (.iload_n 1)), rfl⟩
theorem i_95_6 {sc : Nat × (Nat → Int32)} {fm : Value} : ri (rt_P sc fm) 95 6 (.ifCond .lt 11) (9) := ⟨(by decide +kernel : rt_xt 95 6 = none), (by decide +kernel : rt_cd 95 6 = some (.ifCond .lt 11)), rfl⟩
theorem i_95_17 {sc : Nat × (Nat → Int32)} {fm : Value} : ri (rt_P sc fm) 95 17 (.iconst (-1)) (18) := ⟨(by decide +kernel : rt_xt 95 17 = none), (by decide +kernel : rt_cd 95 17 = some (.iconst (-1))), rfl⟩
theorem i_95_18 {sc : Nat × (Nat → Int32)} {fm : Value} : ri (rt_P sc fm) 95 18 (.ireturn) (19) := ⟨(by decide +kernel : rt_xt 95 18 = none), (by decide +kernel : rt_cd 95 18 = some (.ireturn)), rfl⟩
theorem r_95 {sc : Nat × (Nat → Int32)} {fm : Value} : rx_rt (rt_P sc fm) 95 = (some FieldType.int) := (by decide +kernel : rt_rt 95 = (some FieldType.int))
theorem i_0_281 {sc : Nat × (Nat → Int32)} {fm : Value} : ri (rt_P sc fm) 0 281 (.if_icmp .eq 1053) (284) := ⟨(by decide +kernel : rt_xt 0 281 = none), (by decide +kernel : rt_cd 0 281 = some (.if_icmp .eq 1053)), rfl⟩
theorem i_57_4 {sc : Nat × (Nat → Int32)} {fm : Value} : ri (rt_P sc fm) 57 4 (.iload_n 1) (5) := ⟨(by decide +kernel : rt_xt 57 4 = none), (by decide +kernel : rt_cd 57 4 = some (.iload_n 1)), rfl⟩
theorem i_57_5 {sc : Nat × (Nat → Int32)} {fm : Value} : ri (rt_P sc fm) 57 5 (.aload_n 0) (6) := ⟨(by decide +kernel : rt_xt 57 5 = none), (by decide +kernel : rt_cd 57 5 = some (.aload_n 0)), rfl⟩
theorem i_57_6 {sc : Nat × (Nat → Int32)} {fm : Value} : ri (rt_P sc fm) 57 6 (.getfield 12) (9) := ⟨(by decide +kernel : rt_xt 57 6 = none), (by decide +kernel : rt_cd 57 6 = some (.getfield 12)), rfl⟩
theorem f_57_12 {sc : Nat × (Nat → Int32)} {fm : Value} : rx_ft (rt_P sc fm) 57 12 = some (14, 0) := (by decide +kernel : rt_ft 57 12 = some (14, 0))
theorem i_57_9 {sc : Nat × (Nat → Int32)} {fm : Value} : ri (rt_P sc fm) 57 9 (.getfield 95) (12) := ⟨(by decide +kernel : rt_xt 57 9 = none), (by decide +kernel : rt_cd 57 9 = some (.getfield 95)), rfl⟩
theorem f_57_95 {sc : Nat × (Nat → Int32)} {fm : Value} : rx_ft (rt_P sc fm) 57 95 = some (3, 1) := (by decide +kernel : rt_ft 57 95 = some (3, 1))
theorem i_57_12 {sc : Nat × (Nat → Int32)} {fm : Value} : ri (rt_P sc fm) 57 12 (.if_icmp .le 5) (15) := ⟨(by decide +kernel : rt_xt 57 12 = none), (by decide +kernel : rt_cd 57 12 = some (.if_icmp .le 5)), rfl⟩
theorem i_57_17 {sc : Nat × (Nat → Int32)} {fm : Value} : ri (rt_P sc fm) 57 17 (.aload_n 0) (18) := ⟨(by decide +kernel : rt_xt 57 17 = none), (by decide +kernel : rt_cd 57 17 = some (.aload_n 0)), rfl⟩
theorem i_57_18 {sc : Nat × (Nat → Int32)} {fm : Value} : ri (rt_P sc fm) 57 18 (.getfield 12) (21) := ⟨(by decide +kernel : rt_xt 57 18 = none), (by decide +kernel : rt_cd 57 18 = some (.getfield 12)), rfl⟩
theorem i_57_21 {sc : Nat × (Nat → Int32)} {fm : Value} : ri (rt_P sc fm) 57 21 (.iload_n 1) (22) := ⟨(by decide +kernel : rt_xt 57 21 = none), (by decide +kernel : rt_cd 57 21 = some (.iload_n 1)), rfl⟩
theorem i_57_22 {sc : Nat × (Nat → Int32)} {fm : Value} : ri (rt_P sc fm) 57 22 (.putfield 95) (25) := ⟨(by decide +kernel : rt_xt 57 22 = none), (by decide +kernel : rt_cd 57 22 = some (.putfield 95)), rfl⟩
theorem p_57_95 {sc : Nat × (Nat → Int32)} {fm : Value} : rx_pt (rt_P sc fm) 57 95 = some (3, 1, .int) := (by decide +kernel : rt_pt 57 95 = some (3, 1, .int))
theorem i_57_25 {sc : Nat × (Nat → Int32)} {fm : Value} : ri (rt_P sc fm) 57 25 (.iload_n 1) (26) := ⟨(by decide +kernel : rt_xt 57 25 = none), (by decide +kernel : rt_cd 57 25 = some (.iload_n 1)), rfl⟩
theorem i_57_26 {sc : Nat × (Nat → Int32)} {fm : Value} : ri (rt_P sc fm) 57 26 (.ireturn) (27) := ⟨(by decide +kernel : rt_xt 57 26 = none), (by decide +kernel : rt_cd 57 26 = some (.ireturn)), rfl⟩
theorem i_95_9 {sc : Nat × (Nat → Int32)} {fm : Value} : ri (rt_P sc fm) 95 9 (.iload_n 1) (10) := ⟨(by decide +kernel : rt_xt 95 9 = none), (by decide +kernel : rt_cd 95 9 = some (.iload_n 1)), rfl⟩
theorem i_95_10 {sc : Nat × (Nat → Int32)} {fm : Value} : ri (rt_P sc fm) 95 10 (.aload_n 0) (11) := ⟨(by decide +kernel : rt_xt 95 10 = none), (by decide +kernel : rt_cd 95 10 = some (.aload_n 0)), rfl⟩
theorem i_95_11 {sc : Nat × (Nat → Int32)} {fm : Value} : ri (rt_P sc fm) 95 11 (.getfield 359) (14) := ⟨(by decide +kernel : rt_xt 95 11 = none), (by decide +kernel : rt_cd 95 11 = some (.getfield 359)), rfl⟩
theorem f_95_359 {sc : Nat × (Nat → Int32)} {fm : Value} : rx_ft (rt_P sc fm) 95 359 = some (15, 2) := (by decide +kernel : rt_ft 95 359 = some (15, 2))
theorem i_95_14 {sc : Nat × (Nat → Int32)} {fm : Value} : ri (rt_P sc fm) 95 14 (.if_icmp .le 5) (17) := ⟨(by decide +kernel : rt_xt 95 14 = none), (by decide +kernel : rt_cd 95 14 = some (.if_icmp .le 5)), rfl⟩
theorem i_95_19 {sc : Nat × (Nat → Int32)} {fm : Value} : ri (rt_P sc fm) 95 19 (.aload_n 0) (20) := ⟨(by decide +kernel : rt_xt 95 19 = none), (by decide +kernel : rt_cd 95 19 = some (.aload_n 0)), rfl⟩
theorem i_95_20 {sc : Nat × (Nat → Int32)} {fm : Value} : ri (rt_P sc fm) 95 20 (.iload_n 1) (21) := ⟨(by decide +kernel : rt_xt 95 20 = none), (by decide +kernel : rt_cd 95 20 = some (.iload_n 1)), rfl⟩
theorem i_95_21 {sc : Nat × (Nat → Int32)} {fm : Value} : ri (rt_P sc fm) 95 21 (.putfield 359) (24) := ⟨(by decide +kernel : rt_xt 95 21 = none), (by decide +kernel : rt_cd 95 21 = some (.putfield 359)), rfl⟩
theorem p_95_359 {sc : Nat × (Nat → Int32)} {fm : Value} : rx_pt (rt_P sc fm) 95 359 = some (15, 2, .int) := (by decide +kernel : rt_pt 95 359 = some (15, 2, .int))
theorem i_95_24 {sc : Nat × (Nat → Int32)} {fm : Value} : ri (rt_P sc fm) 95 24 (.iload_n 1) (25) := ⟨(by decide +kernel : rt_xt 95 24 = none), (by decide +kernel : rt_cd 95 24 = some (.iload_n 1)), rfl⟩
theorem i_95_25 {sc : Nat × (Nat → Int32)} {fm : Value} : ri (rt_P sc fm) 95 25 (.ireturn) (26) := ⟨(by decide +kernel : rt_xt 95 25 = none), (by decide +kernel : rt_cd 95 25 = some (.ireturn)), rfl⟩
theorem i_0_286 {sc : Nat × (Nat → Int32)} {fm : Value} : ri (rt_P sc fm) 0 286 (.aload_n 1) (287) := ⟨(by decide +kernel : rt_xt 0 286 = none), (by decide +kernel : rt_cd 0 286 = some (.aload_n 1)), rfl⟩
theorem i_0_287 {sc : Nat × (Nat → Int32)} {fm : Value} : ri (rt_P sc fm) 0 287 (.aload_n 0) (288) := ⟨(by decide +kernel : rt_xt 0 287 = none), (by decide +kernel : rt_cd 0 287 = some (.aload_n 0)), rfl⟩
theorem i_0_288 {sc : Nat × (Nat → Int32)} {fm : Value} : ri (rt_P sc fm) 0 288 (.iload 4) (290) := ⟨(by decide +kernel : rt_xt 0 288 = none), (by decide +kernel : rt_cd 0 288 = some (.iload 4)), rfl⟩
theorem i_0_290 {sc : Nat × (Nat → Int32)} {fm : Value} : ri (rt_P sc fm) 0 290 (.iconst 1) (291) := ⟨(by decide +kernel : rt_xt 0 290 = none), (by decide +kernel : rt_cd 0 290 = some (.iconst 1)), rfl⟩
theorem i_0_291 {sc : Nat × (Nat → Int32)} {fm : Value} : ri (rt_P sc fm) 0 291 (.iadd) (292) := ⟨(by decide +kernel : rt_xt 0 291 = none), (by decide +kernel : rt_cd 0 291 = some (.iadd)), rfl⟩
theorem i_0_292 {sc : Nat × (Nat → Int32)} {fm : Value} : ri (rt_P sc fm) 0 292 (.iaload) (293) := ⟨(by decide +kernel : rt_xt 0 292 = none), (by decide +kernel : rt_cd 0 292 = some (.iaload)), rfl⟩
theorem i_0_293 {sc : Nat × (Nat → Int32)} {fm : Value} : ri (rt_P sc fm) 0 293 (.invokevirtual 40) (296) := ⟨(by decide +kernel : rt_xt 0 293 = none), (by decide +kernel : rt_cd 0 293 = some (.invokevirtual 40)), rfl⟩
theorem c_0_40 {sc : Nat × (Nat → Int32)} {fm : Value} : rx_ct (rt_P sc fm) 0 40 = some (0, 58, 1) := (by decide +kernel : rt_ct 0 40 = some (0, 58, 1))
theorem a_14_58 {sc : Nat × (Nat → Int32)} {fm : Value} : rz_cn 14 (rx_yn (rt_P sc fm) 58).cls = true := (by decide +kernel : rz_cn 14 (rt_yn 58).cls = true)
theorem i_58_0 {sc : Nat × (Nat → Int32)} {fm : Value} : ri (rt_P sc fm) 58 0 (.iload_n 1) (1) := ⟨(by decide +kernel : rt_xt 58 0 = none), (by decide +kernel : rt_cd 58 0 = some (.iload_n 1)), rfl⟩
theorem i_58_1 {sc : Nat × (Nat → Int32)} {fm : Value} : ri (rt_P sc fm) 58 1 (.ifCond .lt 14) (4) := ⟨(by decide +kernel : rt_xt 58 1 = none), (by decide +kernel : rt_cd 58 1 = some (.ifCond .lt 14)), rfl⟩
theorem i_58_15 {sc : Nat × (Nat → Int32)} {fm : Value} : ri (rt_P sc fm) 58 15 (.iconst (-1)) (16) := ⟨(by decide +kernel : rt_xt 58 15 = none), (by decide +kernel : rt_cd 58 15 = some (.iconst (-1))), rfl⟩
theorem i_58_16 {sc : Nat × (Nat → Int32)} {fm : Value} : ri (rt_P sc fm) 58 16 (.ireturn) (17) := ⟨(by decide +kernel : rt_xt 58 16 = none), (by decide +kernel : rt_cd 58 16 = some (.ireturn)), rfl⟩
theorem r_58 {sc : Nat × (Nat → Int32)} {fm : Value} : rx_rt (rt_P sc fm) 58 = (some FieldType.int) := (by decide +kernel : rt_rt 58 = (some FieldType.int))
theorem i_0_296 {sc : Nat × (Nat → Int32)} {fm : Value} : ri (rt_P sc fm) 0 296 (.aload_n 2) (297) := ⟨(by decide +kernel : rt_xt 0 296 = none), (by decide +kernel : rt_cd 0 296 = some (.aload_n 2)), rfl⟩
theorem i_0_297 {sc : Nat × (Nat → Int32)} {fm : Value} : ri (rt_P sc fm) 0 297 (.aload_n 0) (298) := ⟨(by decide +kernel : rt_xt 0 297 = none), (by decide +kernel : rt_cd 0 297 = some (.aload_n 0)), rfl⟩
theorem i_0_298 {sc : Nat × (Nat → Int32)} {fm : Value} : ri (rt_P sc fm) 0 298 (.iload 4) (300) := ⟨(by decide +kernel : rt_xt 0 298 = none), (by decide +kernel : rt_cd 0 298 = some (.iload 4)), rfl⟩
theorem i_0_300 {sc : Nat × (Nat → Int32)} {fm : Value} : ri (rt_P sc fm) 0 300 (.iconst 1) (301) := ⟨(by decide +kernel : rt_xt 0 300 = none), (by decide +kernel : rt_cd 0 300 = some (.iconst 1)), rfl⟩
theorem i_0_301 {sc : Nat × (Nat → Int32)} {fm : Value} : ri (rt_P sc fm) 0 301 (.iadd) (302) := ⟨(by decide +kernel : rt_xt 0 301 = none), (by decide +kernel : rt_cd 0 301 = some (.iadd)), rfl⟩
theorem i_0_302 {sc : Nat × (Nat → Int32)} {fm : Value} : ri (rt_P sc fm) 0 302 (.iaload) (303) := ⟨(by decide +kernel : rt_xt 0 302 = none), (by decide +kernel : rt_cd 0 302 = some (.iaload)), rfl⟩
theorem i_0_303 {sc : Nat × (Nat → Int32)} {fm : Value} : ri (rt_P sc fm) 0 303 (.invokevirtual 43) (306) := ⟨(by decide +kernel : rt_xt 0 303 = none), (by decide +kernel : rt_cd 0 303 = some (.invokevirtual 43)), rfl⟩
theorem c_0_43 {sc : Nat × (Nat → Int32)} {fm : Value} : rx_ct (rt_P sc fm) 0 43 = some (0, 96, 1) := (by decide +kernel : rt_ct 0 43 = some (0, 96, 1))
theorem a_15_96 {sc : Nat × (Nat → Int32)} {fm : Value} : rz_cn 15 (rx_yn (rt_P sc fm) 96).cls = true := (by decide +kernel : rz_cn 15 (rt_yn 96).cls = true)
theorem i_96_0 {sc : Nat × (Nat → Int32)} {fm : Value} : ri (rt_P sc fm) 96 0 (.aload_n 0) (1) := ⟨(by decide +kernel : rt_xt 96 0 = none), (by decide +kernel : rt_cd 96 0 = some (.aload_n 0)), rfl⟩
theorem i_96_1 {sc : Nat × (Nat → Int32)} {fm : Value} : ri (rt_P sc fm) 96 1 (.iconst 0) (2) := ⟨(by decide +kernel : rt_xt 96 1 = none), (by decide +kernel : rt_cd 96 1 = some (.iconst 0)), rfl⟩
theorem i_96_2 {sc : Nat × (Nat → Int32)} {fm : Value} : ri (rt_P sc fm) 96 2 (.putfield 356) (5) := ⟨(by decide +kernel : rt_xt 96 2 = none), (by decide +kernel : rt_cd 96 2 = some (.putfield 356)), rfl⟩
theorem p_96_356 {sc : Nat × (Nat → Int32)} {fm : Value} : rx_pt (rt_P sc fm) 96 356 = some (15, 0, .int) := (by decide +kernel : rt_pt 96 356 = some (15, 0, .int))
theorem i_96_5 {sc : Nat × (Nat → Int32)} {fm : Value} : ri (rt_P sc fm) 96 5 (.iload_n 1) (6) := ⟨(by decide +kernel : rt_xt 96 5 = none), (by decide +kernel : rt_cd 96 5 = some (.iload_n 1)), rfl⟩
theorem i_96_6 {sc : Nat × (Nat → Int32)} {fm : Value} : ri (rt_P sc fm) 96 6 (.ifCond .lt 20) (9) := ⟨(by decide +kernel : rt_xt 96 6 = none), (by decide +kernel : rt_cd 96 6 = some (.ifCond .lt 20)), rfl⟩
theorem i_96_26 {sc : Nat × (Nat → Int32)} {fm : Value} : ri (rt_P sc fm) 96 26 (.iconst (-1)) (27) := ⟨(by decide +kernel : rt_xt 96 26 = none), (by decide +kernel : rt_cd 96 26 = some (.iconst (-1))), rfl⟩
theorem i_96_27 {sc : Nat × (Nat → Int32)} {fm : Value} : ri (rt_P sc fm) 96 27 (.ireturn) (28) := ⟨(by decide +kernel : rt_xt 96 27 = none), (by decide +kernel : rt_cd 96 27 = some (.ireturn)), rfl⟩
theorem r_96 {sc : Nat × (Nat → Int32)} {fm : Value} : rx_rt (rt_P sc fm) 96 = (some FieldType.int) := (by decide +kernel : rt_rt 96 = (some FieldType.int))
theorem i_0_306 {sc : Nat × (Nat → Int32)} {fm : Value} : ri (rt_P sc fm) 0 306 (.if_icmp .eq 1028) (309) := ⟨(by decide +kernel : rt_xt 0 306 = none), (by decide +kernel : rt_cd 0 306 = some (.if_icmp .eq 1028)), rfl⟩
theorem i_58_4 {sc : Nat × (Nat → Int32)} {fm : Value} : ri (rt_P sc fm) 58 4 (.iload_n 1) (5) := ⟨(by decide +kernel : rt_xt 58 4 = none), (by decide +kernel : rt_cd 58 4 = some (.iload_n 1)), rfl⟩
theorem i_58_5 {sc : Nat × (Nat → Int32)} {fm : Value} : ri (rt_P sc fm) 58 5 (.aload_n 0) (6) := ⟨(by decide +kernel : rt_xt 58 5 = none), (by decide +kernel : rt_cd 58 5 = some (.aload_n 0)), rfl⟩
theorem i_58_6 {sc : Nat × (Nat → Int32)} {fm : Value} : ri (rt_P sc fm) 58 6 (.getfield 91) (9) := ⟨(by decide +kernel : rt_xt 58 6 = none), (by decide +kernel : rt_cd 58 6 = some (.getfield 91)), rfl⟩
theorem f_58_91 {sc : Nat × (Nat → Int32)} {fm : Value} : rx_ft (rt_P sc fm) 58 91 = some (14, 9) := (by decide +kernel : rt_ft 58 91 = some (14, 9))
theorem i_58_9 {sc : Nat × (Nat → Int32)} {fm : Value} : ri (rt_P sc fm) 58 9 (.getfield 103) (12) := ⟨(by decide +kernel : rt_xt 58 9 = none), (by decide +kernel : rt_cd 58 9 = some (.getfield 103)), rfl⟩
theorem f_58_103 {sc : Nat × (Nat → Int32)} {fm : Value} : rx_ft (rt_P sc fm) 58 103 = some (12, 1) := (by decide +kernel : rt_ft 58 103 = some (12, 1))
theorem i_58_12 {sc : Nat × (Nat → Int32)} {fm : Value} : ri (rt_P sc fm) 58 12 (.if_icmp .lt 5) (15) := ⟨(by decide +kernel : rt_xt 58 12 = none), (by decide +kernel : rt_cd 58 12 = some (.if_icmp .lt 5)), rfl⟩
theorem i_96_9 {sc : Nat × (Nat → Int32)} {fm : Value} : ri (rt_P sc fm) 96 9 (.iload_n 1) (10) := ⟨(by decide +kernel : rt_xt 96 9 = none), (by decide +kernel : rt_cd 96 9 = some (.iload_n 1)), rfl⟩
theorem i_96_10 {sc : Nat × (Nat → Int32)} {fm : Value} : ri (rt_P sc fm) 96 10 (.aload_n 0) (11) := ⟨(by decide +kernel : rt_xt 96 10 = none), (by decide +kernel : rt_cd 96 10 = some (.aload_n 0)), rfl⟩
theorem i_96_11 {sc : Nat × (Nat → Int32)} {fm : Value} : ri (rt_P sc fm) 96 11 (.getfield 366) (14) := ⟨(by decide +kernel : rt_xt 96 11 = none), (by decide +kernel : rt_cd 96 11 = some (.getfield 366)), rfl⟩
theorem f_96_366 {sc : Nat × (Nat → Int32)} {fm : Value} : rx_ft (rt_P sc fm) 96 366 = some (15, 4) := (by decide +kernel : rt_ft 96 366 = some (15, 4))
theorem i_96_14 {sc : Nat × (Nat → Int32)} {fm : Value} : ri (rt_P sc fm) 96 14 (.if_icmp .ge 12) (17) := ⟨(by decide +kernel : rt_xt 96 14 = none), (by decide +kernel : rt_cd 96 14 = some (.if_icmp .ge 12)), rfl⟩
theorem i_0_311 {sc : Nat × (Nat → Int32)} {fm : Value} : ri (rt_P sc fm) 0 311 (.aload_n 1) (312) := ⟨(by decide +kernel : rt_xt 0 311 = none), (by decide +kernel : rt_cd 0 311 = some (.aload_n 1)), rfl⟩
theorem i_0_312 {sc : Nat × (Nat → Int32)} {fm : Value} : ri (rt_P sc fm) 0 312 (.aload_n 3) (313) := ⟨(by decide +kernel : rt_xt 0 312 = none), (by decide +kernel : rt_cd 0 312 = some (.aload_n 3)), rfl⟩
theorem i_0_313 {sc : Nat × (Nat → Int32)} {fm : Value} : ri (rt_P sc fm) 0 313 (.invokestatic 44) (316) := ⟨(by decide +kernel : rt_xt 0 313 = none), (by decide +kernel : rt_cd 0 313 = some (.invokestatic 44)), rfl⟩
theorem c_0_44 {sc : Nat × (Nat → Int32)} {fm : Value} : rx_ct (rt_P sc fm) 0 44 = some (3, 16, 2) := (by decide +kernel : rt_ct 0 44 = some (3, 16, 2))
theorem i_16_0 {sc : Nat × (Nat → Int32)} {fm : Value} : ri (rt_P sc fm) 16 0 (.aload_n 1) (1) := ⟨(by decide +kernel : rt_xt 16 0 = none), (by decide +kernel : rt_cd 16 0 = some (.aload_n 1)), rfl⟩
theorem i_16_1 {sc : Nat × (Nat → Int32)} {fm : Value} : ri (rt_P sc fm) 16 1 (.iconst 0) (2) := ⟨(by decide +kernel : rt_xt 16 1 = none), (by decide +kernel : rt_cd 16 1 = some (.iconst 0)), rfl⟩
theorem i_16_2 {sc : Nat × (Nat → Int32)} {fm : Value} : ri (rt_P sc fm) 16 2 (.aload_n 0) (3) := ⟨(by decide +kernel : rt_xt 16 2 = none), (by decide +kernel : rt_cd 16 2 = some (.aload_n 0)), rfl⟩
theorem i_16_3 {sc : Nat × (Nat → Int32)} {fm : Value} : ri (rt_P sc fm) 16 3 (.invokevirtual 7) (6) := ⟨(by decide +kernel : rt_xt 16 3 = none), (by decide +kernel : rt_cd 16 3 = some (.invokevirtual 7)), rfl⟩
theorem c_16_7 {sc : Nat × (Nat → Int32)} {fm : Value} : rx_ct (rt_P sc fm) 16 7 = some (0, 59, 0) := (by decide +kernel : rt_ct 16 7 = some (0, 59, 0))
theorem a_14_59 {sc : Nat × (Nat → Int32)} {fm : Value} : rz_cn 14 (rx_yn (rt_P sc fm) 59).cls = true := (by decide +kernel : rz_cn 14 (rt_yn 59).cls = true)
theorem i_59_0 {sc : Nat × (Nat → Int32)} {fm : Value} : ri (rt_P sc fm) 59 0 (.aload_n 0) (1) := ⟨(by decide +kernel : rt_xt 59 0 = none), (by decide +kernel : rt_cd 59 0 = some (.aload_n 0)), rfl⟩
theorem i_59_1 {sc : Nat × (Nat → Int32)} {fm : Value} : ri (rt_P sc fm) 59 1 (.invokevirtual 108) (4) := ⟨(by decide +kernel : rt_xt 59 1 = none), (by decide +kernel : rt_cd 59 1 = some (.invokevirtual 108)), rfl⟩
theorem c_59_108 {sc : Nat × (Nat → Int32)} {fm : Value} : rx_ct (rt_P sc fm) 59 108 = some (0, 90, 0) := (by decide +kernel : rt_ct 59 108 = some (0, 90, 0))
theorem a_14_90 {sc : Nat × (Nat → Int32)} {fm : Value} : rz_cn 14 (rx_yn (rt_P sc fm) 90).cls = true := (by decide +kernel : rz_cn 14 (rt_yn 90).cls = true)
theorem i_90_0 {sc : Nat × (Nat → Int32)} {fm : Value} : ri (rt_P sc fm) 90 0 (.aload_n 0) (1) := ⟨(by decide +kernel : rt_xt 90 0 = none), (by decide +kernel : rt_cd 90 0 = some (.aload_n 0)), rfl⟩
theorem i_90_1 {sc : Nat × (Nat → Int32)} {fm : Value} : ri (rt_P sc fm) 90 1 (.getfield 28) (4) := ⟨(by decide +kernel : rt_xt 90 1 = none), (by decide +kernel : rt_cd 90 1 = some (.getfield 28)), rfl⟩
theorem f_90_28 {sc : Nat × (Nat → Int32)} {fm : Value} : rx_ft (rt_P sc fm) 90 28 = some (14, 2) := (by decide +kernel : rt_ft 90 28 = some (14, 2))
theorem i_90_4 {sc : Nat × (Nat → Int32)} {fm : Value} : ri (rt_P sc fm) 90 4 (.invokevirtual 319) (7) := ⟨(by decide +kernel : rt_xt 90 4 = none), (by decide +kernel : rt_cd 90 4 = some (.invokevirtual 319)), rfl⟩
theorem c_90_319 {sc : Nat × (Nat → Int32)} {fm : Value} : rx_ct (rt_P sc fm) 90 319 = some (0, 20, 0) := (by decide +kernel : rt_ct 90 319 = some (0, 20, 0))
theorem a_2_20 {sc : Nat × (Nat → Int32)} {fm : Value} : rz_cn 2 (rx_yn (rt_P sc fm) 20).cls = true := (by decide +kernel : rz_cn 2 (rt_yn 20).cls = true)
theorem i_20_0 {sc : Nat × (Nat → Int32)} {fm : Value} : ri (rt_P sc fm) 20 0 (.aload_n 0) (1) := ⟨(by decide +kernel : rt_xt 20 0 = none), (by decide +kernel : rt_cd 20 0 = some (.aload_n 0)), rfl⟩
theorem i_20_1 {sc : Nat × (Nat → Int32)} {fm : Value} : ri (rt_P sc fm) 20 1 (.getfield 46) (4) := ⟨(by decide +kernel : rt_xt 20 1 = none), (by decide +kernel : rt_cd 20 1 = some (.getfield 46)), rfl⟩
theorem f_20_46 {sc : Nat × (Nat → Int32)} {fm : Value} : rx_ft (rt_P sc fm) 20 46 = some (2, 13) := (by decide +kernel : rt_ft 20 46 = some (2, 13))
theorem i_20_4 {sc : Nat × (Nat → Int32)} {fm : Value} : ri (rt_P sc fm) 20 4 (.iconst 0) (5) := ⟨(by decide +kernel : rt_xt 20 4 = none), (by decide +kernel : rt_cd 20 4 = some (.iconst 0)), rfl⟩
theorem i_20_5 {sc : Nat × (Nat → Int32)} {fm : Value} : ri (rt_P sc fm) 20 5 (.aload_n 0) (6) := ⟨(by decide +kernel : rt_xt 20 5 = none), (by decide +kernel : rt_cd 20 5 = some (.aload_n 0)), rfl⟩
theorem i_20_6 {sc : Nat × (Nat → Int32)} {fm : Value} : ri (rt_P sc fm) 20 6 (.getfield 71) (9) := ⟨(by decide +kernel : rt_xt 20 6 = none), (by decide +kernel : rt_cd 20 6 = some (.getfield 71)), rfl⟩
theorem f_20_71 {sc : Nat × (Nat → Int32)} {fm : Value} : rx_ft (rt_P sc fm) 20 71 = some (2, 7) := (by decide +kernel : rt_ft 20 71 = some (2, 7))
theorem i_20_9 {sc : Nat × (Nat → Int32)} {fm : Value} : ri (rt_P sc fm) 20 9 (.iconst 0) (10) := ⟨(by decide +kernel : rt_xt 20 9 = none), (by decide +kernel : rt_cd 20 9 = some (.iconst 0)), rfl⟩
theorem i_20_10 {sc : Nat × (Nat → Int32)} {fm : Value} : ri (rt_P sc fm) 20 10 (.invokestatic 75) (13) := ⟨(by decide +kernel : rt_xt 20 10 = none), (by decide +kernel : rt_cd 20 10 = some (.invokestatic 75)), rfl⟩
theorem c_20_75 {sc : Nat × (Nat → Int32)} {fm : Value} : rx_ct (rt_P sc fm) 20 75 = some (1, 154, 4) := (by decide +kernel : rt_ct 20 75 = some (1, 154, 4))
theorem i_154_0 {sc : Nat × (Nat → Int32)} {fm : Value} : ri (rt_P sc fm) 154 0 (.aload_n 0) (1) := ⟨(by decide +kernel : rt_xt 154 0 = none), (by decide +kernel : rt_cd 154 0 = some (.aload_n 0)), rfl⟩
theorem i_154_1 {sc : Nat × (Nat → Int32)} {fm : Value} : ri (rt_P sc fm) 154 1 (.arraylength) (2) := ⟨(by decide +kernel : rt_xt 154 1 = none), (by decide +kernel : rt_cd 154 1 = some (.arraylength)), rfl⟩
theorem i_154_2 {sc : Nat × (Nat → Int32)} {fm : Value} : ri (rt_P sc fm) 154 2 (.iload_n 1) (3) := ⟨(by decide +kernel : rt_xt 154 2 = none), (by decide +kernel : rt_cd 154 2 = some (.iload_n 1)), rfl⟩
theorem i_154_3 {sc : Nat × (Nat → Int32)} {fm : Value} : ri (rt_P sc fm) 154 3 (.iload_n 2) (4) := ⟨(by decide +kernel : rt_xt 154 3 = none), (by decide +kernel : rt_cd 154 3 = some (.iload_n 2)), rfl⟩
theorem i_154_4 {sc : Nat × (Nat → Int32)} {fm : Value} : ri (rt_P sc fm) 154 4 (.invokestatic 13) (7) := ⟨(by decide +kernel : rt_xt 154 4 = none), (by decide +kernel : rt_cd 154 4 = some (.invokestatic 13)), rfl⟩
theorem c_154_13 {sc : Nat × (Nat → Int32)} {fm : Value} : rx_ct (rt_P sc fm) 154 13 = some (1, 151, 3) := (by decide +kernel : rt_ct 154 13 = some (1, 151, 3))
theorem i_151_0 {sc : Nat × (Nat → Int32)} {fm : Value} : ri (rt_P sc fm) 151 0 (.iload_n 1) (1) := ⟨(by decide +kernel : rt_xt 151 0 = none), (by decide +kernel : rt_cd 151 0 = some (.iload_n 1)), rfl⟩
theorem i_151_1 {sc : Nat × (Nat → Int32)} {fm : Value} : ri (rt_P sc fm) 151 1 (.iload_n 2) (2) := ⟨(by decide +kernel : rt_xt 151 1 = none), (by decide +kernel : rt_cd 151 1 = some (.iload_n 2)), rfl⟩
theorem i_151_2 {sc : Nat × (Nat → Int32)} {fm : Value} : ri (rt_P sc fm) 151 2 (.if_icmp .le 44) (5) := ⟨(by decide +kernel : rt_xt 151 2 = none), (by decide +kernel : rt_cd 151 2 = some (.if_icmp .le 44)), rfl⟩
theorem i_151_46 {sc : Nat × (Nat → Int32)} {fm : Value} : ri (rt_P sc fm) 151 46 (.iload_n 1) (47) := ⟨(by decide +kernel : rt_xt 151 46 = none), (by decide +kernel : rt_cd 151 46 = some (.iload_n 1)), rfl⟩
theorem i_151_47 {sc : Nat × (Nat → Int32)} {fm : Value} : ri (rt_P sc fm) 151 47 (.ifCond .ge 12) (50) := ⟨(by decide +kernel : rt_xt 151 47 = none), (by decide +kernel : rt_cd 151 47 = some (.ifCond .ge 12)), rfl⟩
theorem i_151_59 {sc : Nat × (Nat → Int32)} {fm : Value} : ri (rt_P sc fm) 151 59 (.iload_n 2) (60) := ⟨(by decide +kernel : rt_xt 151 59 = none), (by decide +kernel : rt_cd 151 59 = some (.iload_n 2)), rfl⟩
theorem i_151_60 {sc : Nat × (Nat → Int32)} {fm : Value} : ri (rt_P sc fm) 151 60 (.iload_n 0) (61) := ⟨(by decide +kernel : rt_xt 151 60 = none), (by decide +kernel : rt_cd 151 60 = some (.iload_n 0)), rfl⟩
theorem i_151_61 {sc : Nat × (Nat → Int32)} {fm : Value} : ri (rt_P sc fm) 151 61 (.if_icmp .le 12) (64) := ⟨(by decide +kernel : rt_xt 151 61 = none), (by decide +kernel : rt_cd 151 61 = some (.if_icmp .le 12)), rfl⟩
theorem i_151_73 {sc : Nat × (Nat → Int32)} {fm : Value} : ri (rt_P sc fm) 151 73 (.return_) (74) := ⟨(by decide +kernel : rt_xt 151 73 = none), (by decide +kernel : rt_cd 151 73 = some (.return_)), rfl⟩
theorem r_151 {sc : Nat × (Nat → Int32)} {fm : Value} : rx_rt (rt_P sc fm) 151 = none := (by decide +kernel : rt_rt 151 = none)
theorem i_154_7 {sc : Nat × (Nat → Int32)} {fm : Value} : ri (rt_P sc fm) 154 7 (.iload_n 1) (8) := ⟨(by decide +kernel : rt_xt 154 7 = none), (by decide +kernel : rt_cd 154 7 = some (.iload_n 1)), rfl⟩
theorem i_154_8 {sc : Nat × (Nat → Int32)} {fm : Value} : ri (rt_P sc fm) 154 8 (.istore 4) (10) := ⟨(by decide +kernel : rt_xt 154 8 = none), (by decide +kernel : rt_cd 154 8 = some (.istore 4)), rfl⟩
theorem i_154_10 {sc : Nat × (Nat → Int32)} {fm : Value} : ri (rt_P sc fm) 154 10 (.iload 4) (12) := ⟨(by decide +kernel : rt_xt 154 10 = none), (by decide +kernel : rt_cd 154 10 = some (.iload 4)), rfl⟩
theorem i_154_12 {sc : Nat × (Nat → Int32)} {fm : Value} : ri (rt_P sc fm) 154 12 (.iload_n 2) (13) := ⟨(by decide +kernel : rt_xt 154 12 = none), (by decide +kernel : rt_cd 154 12 = some (.iload_n 2)), rfl⟩
theorem i_154_13 {sc : Nat × (Nat → Int32)} {fm : Value} : ri (rt_P sc fm) 154 13 (.if_icmp .ge 14) (16) := ⟨(by decide +kernel : rt_xt 154 13 = none), (by decide +kernel : rt_cd 154 13 = some (.if_icmp .ge 14)), rfl⟩
theorem i_154_27 {sc : Nat × (Nat → Int32)} {fm : Value} : ri (rt_P sc fm) 154 27 (.return_) (28) := ⟨(by decide +kernel : rt_xt 154 27 = none), (by decide +kernel : rt_cd 154 27 = some (.return_)), rfl⟩
theorem r_154 {sc : Nat × (Nat → Int32)} {fm : Value} : rx_rt (rt_P sc fm) 154 = none := (by decide +kernel : rt_rt 154 = none)
theorem i_20_13 {sc : Nat × (Nat → Int32)} {fm : Value} : ri (rt_P sc fm) 20 13 (.return_) (14) := ⟨(by decide +kernel : rt_xt 20 13 = none), (by decide +kernel : rt_cd 20 13 = some (.return_)), rfl⟩
theorem r_20 {sc : Nat × (Nat → Int32)} {fm : Value} : rx_rt (rt_P sc fm) 20 = none := (by decide +kernel : rt_rt 20 = none)
theorem i_90_7 {sc : Nat × (Nat → Int32)} {fm : Value} : ri (rt_P sc fm) 90 7 (.aload_n 0) (8) := ⟨(by decide +kernel : rt_xt 90 7 = none), (by decide +kernel : rt_cd 90 7 = some (.aload_n 0)), rfl⟩
theorem i_90_8 {sc : Nat × (Nat → Int32)} {fm : Value} : ri (rt_P sc fm) 90 8 (.getfield 69) (11) := ⟨(by decide +kernel : rt_xt 90 8 = none), (by decide +kernel : rt_cd 90 8 = some (.getfield 69)), rfl⟩
theorem f_90_69 {sc : Nat × (Nat → Int32)} {fm : Value} : rx_ft (rt_P sc fm) 90 69 = some (14, 7) := (by decide +kernel : rt_ft 90 69 = some (14, 7))
theorem i_90_11 {sc : Nat × (Nat → Int32)} {fm : Value} : ri (rt_P sc fm) 90 11 (.invokevirtual 380) (14) := ⟨(by decide +kernel : rt_xt 90 11 = none), (by decide +kernel : rt_cd 90 11 = some (.invokevirtual 380)), rfl⟩
theorem c_90_380 {sc : Nat × (Nat → Int32)} {fm : Value} : rx_ct (rt_P sc fm) 90 380 = some (0, 48, 0) := (by decide +kernel : rt_ct 90 380 = some (0, 48, 0))
theorem a_11_48 {sc : Nat × (Nat → Int32)} {fm : Value} : rz_cn 11 (rx_yn (rt_P sc fm) 48).cls = true := (by decide +kernel : rz_cn 11 (rt_yn 48).cls = true)
theorem i_48_0 {sc : Nat × (Nat → Int32)} {fm : Value} : ri (rt_P sc fm) 48 0 (.aload_n 0) (1) := ⟨(by decide +kernel : rt_xt 48 0 = none), (by decide +kernel : rt_cd 48 0 = some (.aload_n 0)), rfl⟩
theorem i_48_1 {sc : Nat × (Nat → Int32)} {fm : Value} : ri (rt_P sc fm) 48 1 (.getfield 18) (4) := ⟨(by decide +kernel : rt_xt 48 1 = none), (by decide +kernel : rt_cd 48 1 = some (.getfield 18)), rfl⟩
theorem f_48_18 {sc : Nat × (Nat → Int32)} {fm : Value} : rx_ft (rt_P sc fm) 48 18 = some (11, 6) := (by decide +kernel : rt_ft 48 18 = some (11, 6))
theorem i_48_4 {sc : Nat × (Nat → Int32)} {fm : Value} : ri (rt_P sc fm) 48 4 (.iconst 0) (5) := ⟨(by decide +kernel : rt_xt 48 4 = none), (by decide +kernel : rt_cd 48 4 = some (.iconst 0)), rfl⟩
theorem i_48_5 {sc : Nat × (Nat → Int32)} {fm : Value} : ri (rt_P sc fm) 48 5 (.invokestatic 56) (8) := ⟨(by decide +kernel : rt_xt 48 5 = none), (by decide +kernel : rt_cd 48 5 = some (.invokestatic 56)), rfl⟩
theorem c_48_56 {sc : Nat × (Nat → Int32)} {fm : Value} : rx_ct (rt_P sc fm) 48 56 = some (1, 153, 2) := (by decide +kernel : rt_ct 48 56 = some (1, 153, 2))
theorem i_48_8 {sc : Nat × (Nat → Int32)} {fm : Value} : ri (rt_P sc fm) 48 8 (.aload_n 0) (9) := ⟨(by decide +kernel : rt_xt 48 8 = none), (by decide +kernel : rt_cd 48 8 = some (.aload_n 0)), rfl⟩
theorem i_48_9 {sc : Nat × (Nat → Int32)} {fm : Value} : ri (rt_P sc fm) 48 9 (.getfield 18) (12) := ⟨(by decide +kernel : rt_xt 48 9 = none), (by decide +kernel : rt_cd 48 9 = some (.getfield 18)), rfl⟩
theorem i_48_12 {sc : Nat × (Nat → Int32)} {fm : Value} : ri (rt_P sc fm) 48 12 (.bipush 7) (14) := ⟨(by decide +kernel : rt_xt 48 12 = none), (by decide +kernel : rt_cd 48 12 = some (.bipush 7)), rfl⟩
theorem i_48_14 {sc : Nat × (Nat → Int32)} {fm : Value} : ri (rt_P sc fm) 48 14 (.bipush 10) (16) := ⟨(by decide +kernel : rt_xt 48 14 = none), (by decide +kernel : rt_cd 48 14 = some (.bipush 10)), rfl⟩
theorem i_48_16 {sc : Nat × (Nat → Int32)} {fm : Value} : ri (rt_P sc fm) 48 16 (.iconst (-1)) (17) := ⟨(by decide +kernel : rt_xt 48 16 = none), (by decide +kernel : rt_cd 48 16 = some (.iconst (-1))), rfl⟩
theorem i_48_17 {sc : Nat × (Nat → Int32)} {fm : Value} : ri (rt_P sc fm) 48 17 (.invokestatic 62) (20) := ⟨(by decide +kernel : rt_xt 48 17 = none), (by decide +kernel : rt_cd 48 17 = some (.invokestatic 62)), rfl⟩
theorem c_48_62 {sc : Nat × (Nat → Int32)} {fm : Value} : rx_ct (rt_P sc fm) 48 62 = some (1, 154, 4) := (by decide +kernel : rt_ct 48 62 = some (1, 154, 4))
theorem i_154_16 {sc : Nat × (Nat → Int32)} {fm : Value} : ri (rt_P sc fm) 154 16 (.aload_n 0) (17) := ⟨(by decide +kernel : rt_xt 154 16 = none), (by decide +kernel : rt_cd 154 16 = some (.aload_n 0)), rfl⟩
theorem i_154_17 {sc : Nat × (Nat → Int32)} {fm : Value} : ri (rt_P sc fm) 154 17 (.iload 4) (19) := ⟨(by decide +kernel : rt_xt 154 17 = none), (by decide +kernel : rt_cd 154 17 = some (.iload 4)), rfl⟩
theorem i_154_19 {sc : Nat × (Nat → Int32)} {fm : Value} : ri (rt_P sc fm) 154 19 (.iload_n 3) (20) := ⟨(by decide +kernel : rt_xt 154 19 = none), (by decide +kernel : rt_cd 154 19 = some (.iload_n 3)), rfl⟩
theorem i_154_20 {sc : Nat × (Nat → Int32)} {fm : Value} : ri (rt_P sc fm) 154 20 (.iastore) (21) := ⟨(by decide +kernel : rt_xt 154 20 = none), (by decide +kernel : rt_cd 154 20 = some (.iastore)), rfl⟩
theorem i_154_21 {sc : Nat × (Nat → Int32)} {fm : Value} : ri (rt_P sc fm) 154 21 (.iinc 4 1) (24) := ⟨(by decide +kernel : rt_xt 154 21 = none), (by decide +kernel : rt_cd 154 21 = some (.iinc 4 1)), rfl⟩
theorem i_154_24 {sc : Nat × (Nat → Int32)} {fm : Value} : ri (rt_P sc fm) 154 24 (.goto (-14)) (27) := ⟨(by decide +kernel : rt_xt 154 24 = none), (by decide +kernel : rt_cd 154 24 = some (.goto (-14))), rfl⟩
theorem i_48_20 {sc : Nat × (Nat → Int32)} {fm : Value} : ri (rt_P sc fm) 48 20 (.return_) (21) := ⟨(by decide +kernel : rt_xt 48 20 = none), (by decide +kernel : rt_cd 48 20 = some (.return_)), rfl⟩
theorem r_48 {sc : Nat × (Nat → Int32)} {fm : Value} : rx_rt (rt_P sc fm) 48 = none := (by decide +kernel : rt_rt 48 = none)
theorem i_90_14 {sc : Nat × (Nat → Int32)} {fm : Value} : ri (rt_P sc fm) 90 14 (.aload_n 0) (15) := ⟨(by decide +kernel : rt_xt 90 14 = none), (by decide +kernel : rt_cd 90 14 = some (.aload_n 0)), rfl⟩
theorem i_90_15 {sc : Nat × (Nat → Int32)} {fm : Value} : ri (rt_P sc fm) 90 15 (.getfield 62) (18) := ⟨(by decide +kernel : rt_xt 90 15 = none), (by decide +kernel : rt_cd 90 15 = some (.getfield 62)), rfl⟩
theorem f_90_62 {sc : Nat × (Nat → Int32)} {fm : Value} : rx_ft (rt_P sc fm) 90 62 = some (14, 6) := (by decide +kernel : rt_ft 90 62 = some (14, 6))
theorem i_90_18 {sc : Nat × (Nat → Int32)} {fm : Value} : ri (rt_P sc fm) 90 18 (.invokevirtual 312) (21) := ⟨(by decide +kernel : rt_xt 90 18 = none), (by decide +kernel : rt_cd 90 18 = some (.invokevirtual 312)), rfl⟩
theorem c_90_312 {sc : Nat × (Nat → Int32)} {fm : Value} : rx_ct (rt_P sc fm) 90 312 = some (0, 29, 0) := (by decide +kernel : rt_ct 90 312 = some (0, 29, 0))
theorem a_5_29 {sc : Nat × (Nat → Int32)} {fm : Value} : rz_cn 5 (rx_yn (rt_P sc fm) 29).cls = true := (by decide +kernel : rz_cn 5 (rt_yn 29).cls = true)
theorem i_29_0 {sc : Nat × (Nat → Int32)} {fm : Value} : ri (rt_P sc fm) 29 0 (.aload_n 0) (1) := ⟨(by decide +kernel : rt_xt 29 0 = none), (by decide +kernel : rt_cd 29 0 = some (.aload_n 0)), rfl⟩
theorem i_29_1 {sc : Nat × (Nat → Int32)} {fm : Value} : ri (rt_P sc fm) 29 1 (.iconst (-1)) (2) := ⟨(by decide +kernel : rt_xt 29 1 = none), (by decide +kernel : rt_cd 29 1 = some (.iconst (-1))), rfl⟩
theorem i_29_2 {sc : Nat × (Nat → Int32)} {fm : Value} : ri (rt_P sc fm) 29 2 (.putfield 9) (5) := ⟨(by decide +kernel : rt_xt 29 2 = none), (by decide +kernel : rt_cd 29 2 = some (.putfield 9)), rfl⟩
theorem p_29_9 {sc : Nat × (Nat → Int32)} {fm : Value} : rx_pt (rt_P sc fm) 29 9 = some (5, 3, .int) := (by decide +kernel : rt_pt 29 9 = some (5, 3, .int))
theorem i_29_5 {sc : Nat × (Nat → Int32)} {fm : Value} : ri (rt_P sc fm) 29 5 (.aload_n 0) (6) := ⟨(by decide +kernel : rt_xt 29 5 = none), (by decide +kernel : rt_cd 29 5 = some (.aload_n 0)), rfl⟩
theorem i_29_6 {sc : Nat × (Nat → Int32)} {fm : Value} : ri (rt_P sc fm) 29 6 (.iconst 0) (7) := ⟨(by decide +kernel : rt_xt 29 6 = none), (by decide +kernel : rt_cd 29 6 = some (.iconst 0)), rfl⟩
theorem i_29_7 {sc : Nat × (Nat → Int32)} {fm : Value} : ri (rt_P sc fm) 29 7 (.putfield 53) (10) := ⟨(by decide +kernel : rt_xt 29 7 = none), (by decide +kernel : rt_cd 29 7 = some (.putfield 53)), rfl⟩
theorem p_29_53 {sc : Nat × (Nat → Int32)} {fm : Value} : rx_pt (rt_P sc fm) 29 53 = some (5, 6, .int) := (by decide +kernel : rt_pt 29 53 = some (5, 6, .int))
theorem i_29_10 {sc : Nat × (Nat → Int32)} {fm : Value} : ri (rt_P sc fm) 29 10 (.aload_n 0) (11) := ⟨(by decide +kernel : rt_xt 29 10 = none), (by decide +kernel : rt_cd 29 10 = some (.aload_n 0)), rfl⟩
theorem i_29_11 {sc : Nat × (Nat → Int32)} {fm : Value} : ri (rt_P sc fm) 29 11 (.iconst 0) (12) := ⟨(by decide +kernel : rt_xt 29 11 = none), (by decide +kernel : rt_cd 29 11 = some (.iconst 0)), rfl⟩
theorem i_29_12 {sc : Nat × (Nat → Int32)} {fm : Value} : ri (rt_P sc fm) 29 12 (.putfield 56) (15) := ⟨(by decide +kernel : rt_xt 29 12 = none), (by decide +kernel : rt_cd 29 12 = some (.putfield 56)), rfl⟩
theorem p_29_56 {sc : Nat × (Nat → Int32)} {fm : Value} : rx_pt (rt_P sc fm) 29 56 = some (5, 16, .int) := (by decide +kernel : rt_pt 29 56 = some (5, 16, .int))
theorem i_29_15 {sc : Nat × (Nat → Int32)} {fm : Value} : ri (rt_P sc fm) 29 15 (.return_) (16) := ⟨(by decide +kernel : rt_xt 29 15 = none), (by decide +kernel : rt_cd 29 15 = some (.return_)), rfl⟩
theorem r_29 {sc : Nat × (Nat → Int32)} {fm : Value} : rx_rt (rt_P sc fm) 29 = none := (by decide +kernel : rt_rt 29 = none)
theorem i_90_21 {sc : Nat × (Nat → Int32)} {fm : Value} : ri (rt_P sc fm) 90 21 (.aload_n 0) (22) := ⟨(by decide +kernel : rt_xt 90 21 = none), (by decide +kernel : rt_cd 90 21 = some (.aload_n 0)), rfl⟩
theorem i_90_22 {sc : Nat × (Nat → Int32)} {fm : Value} : ri (rt_P sc fm) 90 22 (.getfield 78) (25) := ⟨(by decide +kernel : rt_xt 90 22 = none), (by decide +kernel : rt_cd 90 22 = some (.getfield 78)), rfl⟩
theorem f_90_78 {sc : Nat × (Nat → Int32)} {fm : Value} : rx_ft (rt_P sc fm) 90 78 = some (14, 8) := (by decide +kernel : rt_ft 90 78 = some (14, 8))
theorem i_90_25 {sc : Nat × (Nat → Int32)} {fm : Value} : ri (rt_P sc fm) 90 25 (.invokevirtual 383) (28) := ⟨(by decide +kernel : rt_xt 90 25 = none), (by decide +kernel : rt_cd 90 25 = some (.invokevirtual 383)), rfl⟩
theorem c_90_383 {sc : Nat × (Nat → Int32)} {fm : Value} : rx_ct (rt_P sc fm) 90 383 = some (0, 53, 0) := (by decide +kernel : rt_ct 90 383 = some (0, 53, 0))
theorem a_13_53 {sc : Nat × (Nat → Int32)} {fm : Value} : rz_cn 13 (rx_yn (rt_P sc fm) 53).cls = true := (by decide +kernel : rz_cn 13 (rt_yn 53).cls = true)
theorem i_53_0 {sc : Nat × (Nat → Int32)} {fm : Value} : ri (rt_P sc fm) 53 0 (.aload_n 0) (1) := ⟨(by decide +kernel : rt_xt 53 0 = none), (by decide +kernel : rt_cd 53 0 = some (.aload_n 0)), rfl⟩
theorem i_53_1 {sc : Nat × (Nat → Int32)} {fm : Value} : ri (rt_P sc fm) 53 1 (.iconst 0) (2) := ⟨(by decide +kernel : rt_xt 53 1 = none), (by decide +kernel : rt_cd 53 1 = some (.iconst 0)), rfl⟩
theorem i_53_2 {sc : Nat × (Nat → Int32)} {fm : Value} : ri (rt_P sc fm) 53 2 (.putfield 45) (5) := ⟨(by decide +kernel : rt_xt 53 2 = none), (by decide +kernel : rt_cd 53 2 = some (.putfield 45)), rfl⟩
theorem p_53_45 {sc : Nat × (Nat → Int32)} {fm : Value} : rx_pt (rt_P sc fm) 53 45 = some (13, 7, .int) := (by decide +kernel : rt_pt 53 45 = some (13, 7, .int))
theorem i_53_5 {sc : Nat × (Nat → Int32)} {fm : Value} : ri (rt_P sc fm) 53 5 (.aload_n 0) (6) := ⟨(by decide +kernel : rt_xt 53 5 = none), (by decide +kernel : rt_cd 53 5 = some (.aload_n 0)), rfl⟩
theorem i_53_6 {sc : Nat × (Nat → Int32)} {fm : Value} : ri (rt_P sc fm) 53 6 (.iconst (-1)) (7) := ⟨(by decide +kernel : rt_xt 53 6 = none), (by decide +kernel : rt_cd 53 6 = some (.iconst (-1))), rfl⟩
theorem i_53_7 {sc : Nat × (Nat → Int32)} {fm : Value} : ri (rt_P sc fm) 53 7 (.putfield 26) (10) := ⟨(by decide +kernel : rt_xt 53 7 = none), (by decide +kernel : rt_cd 53 7 = some (.putfield 26)), rfl⟩
theorem p_53_26 {sc : Nat × (Nat → Int32)} {fm : Value} : rx_pt (rt_P sc fm) 53 26 = some (13, 8, .int) := (by decide +kernel : rt_pt 53 26 = some (13, 8, .int))
theorem i_53_10 {sc : Nat × (Nat → Int32)} {fm : Value} : ri (rt_P sc fm) 53 10 (.aload_n 0) (11) := ⟨(by decide +kernel : rt_xt 53 10 = none), (by decide +kernel : rt_cd 53 10 = some (.aload_n 0)), rfl⟩
theorem i_53_11 {sc : Nat × (Nat → Int32)} {fm : Value} : ri (rt_P sc fm) 53 11 (.iconst (-1)) (12) := ⟨(by decide +kernel : rt_xt 53 11 = none), (by decide +kernel : rt_cd 53 11 = some (.iconst (-1))), rfl⟩
theorem i_53_12 {sc : Nat × (Nat → Int32)} {fm : Value} : ri (rt_P sc fm) 53 12 (.putfield 30) (15) := ⟨(by decide +kernel : rt_xt 53 12 = none), (by decide +kernel : rt_cd 53 12 = some (.putfield 30)), rfl⟩
theorem p_53_30 {sc : Nat × (Nat → Int32)} {fm : Value} : rx_pt (rt_P sc fm) 53 30 = some (13, 9, .int) := (by decide +kernel : rt_pt 53 30 = some (13, 9, .int))
theorem i_53_15 {sc : Nat × (Nat → Int32)} {fm : Value} : ri (rt_P sc fm) 53 15 (.return_) (16) := ⟨(by decide +kernel : rt_xt 53 15 = none), (by decide +kernel : rt_cd 53 15 = some (.return_)), rfl⟩
theorem r_53 {sc : Nat × (Nat → Int32)} {fm : Value} : rx_rt (rt_P sc fm) 53 = none := (by decide +kernel : rt_rt 53 = none)
theorem i_90_28 {sc : Nat × (Nat → Int32)} {fm : Value} : ri (rt_P sc fm) 90 28 (.return_) (29) := ⟨(by decide +kernel : rt_xt 90 28 = none), (by decide +kernel : rt_cd 90 28 = some (.return_)), rfl⟩
theorem r_90 {sc : Nat × (Nat → Int32)} {fm : Value} : rx_rt (rt_P sc fm) 90 = none := (by decide +kernel : rt_rt 90 = none)
theorem i_59_4 {sc : Nat × (Nat → Int32)} {fm : Value} : ri (rt_P sc fm) 59 4 (.aload_n 0) (5) := ⟨(by decide +kernel : rt_xt 59 4 = none), (by decide +kernel : rt_cd 59 4 = some (.aload_n 0)), rfl⟩
theorem i_59_5 {sc : Nat × (Nat → Int32)} {fm : Value} : ri (rt_P sc fm) 59 5 (.getfield 44) (8) := ⟨(by decide +kernel : rt_xt 59 5 = none), (by decide +kernel : rt_cd 59 5 = some (.getfield 44)), rfl⟩
theorem f_59_44 {sc : Nat × (Nat → Int32)} {fm : Value} : rx_ft (rt_P sc fm) 59 44 = some (14, 4) := (by decide +kernel : rt_ft 59 44 = some (14, 4))
theorem i_59_8 {sc : Nat × (Nat → Int32)} {fm : Value} : ri (rt_P sc fm) 59 8 (.invokevirtual 111) (11) := ⟨(by decide +kernel : rt_xt 59 8 = none), (by decide +kernel : rt_cd 59 8 = some (.invokevirtual 111)), rfl⟩
theorem c_59_111 {sc : Nat × (Nat → Int32)} {fm : Value} : rx_ct (rt_P sc fm) 59 111 = some (0, 40, 0) := (by decide +kernel : rt_ct 59 111 = some (0, 40, 0))
theorem a_10_40 {sc : Nat × (Nat → Int32)} {fm : Value} : rz_cn 10 (rx_yn (rt_P sc fm) 40).cls = true := (by decide +kernel : rz_cn 10 (rt_yn 40).cls = true)
theorem i_40_0 {sc : Nat × (Nat → Int32)} {fm : Value} : ri (rt_P sc fm) 40 0 (.aload_n 0) (1) := ⟨(by decide +kernel : rt_xt 40 0 = none), (by decide +kernel : rt_cd 40 0 = some (.aload_n 0)), rfl⟩
theorem i_40_1 {sc : Nat × (Nat → Int32)} {fm : Value} : ri (rt_P sc fm) 40 1 (.getfield 15) (4) := ⟨(by decide +kernel : rt_xt 40 1 = none), (by decide +kernel : rt_cd 40 1 = some (.getfield 15)), rfl⟩
theorem f_40_15 {sc : Nat × (Nat → Int32)} {fm : Value} : rx_ft (rt_P sc fm) 40 15 = some (10, 1) := (by decide +kernel : rt_ft 40 15 = some (10, 1))
theorem i_40_4 {sc : Nat × (Nat → Int32)} {fm : Value} : ri (rt_P sc fm) 40 4 (.invokevirtual 27) (7) := ⟨(by decide +kernel : rt_xt 40 4 = none), (by decide +kernel : rt_cd 40 4 = some (.invokevirtual 27)), rfl⟩
theorem c_40_27 {sc : Nat × (Nat → Int32)} {fm : Value} : rx_ct (rt_P sc fm) 40 27 = some (0, 36, 0) := (by decide +kernel : rt_ct 40 27 = some (0, 36, 0))
theorem a_9_36 {sc : Nat × (Nat → Int32)} {fm : Value} : rz_cn 9 (rx_yn (rt_P sc fm) 36).cls = true := (by decide +kernel : rz_cn 9 (rt_yn 36).cls = true)
theorem i_36_0 {sc : Nat × (Nat → Int32)} {fm : Value} : ri (rt_P sc fm) 36 0 (.aload_n 0) (1) := ⟨(by decide +kernel : rt_xt 36 0 = none), (by decide +kernel : rt_cd 36 0 = some (.aload_n 0)), rfl⟩
theorem i_36_1 {sc : Nat × (Nat → Int32)} {fm : Value} : ri (rt_P sc fm) 36 1 (.iconst 0) (2) := ⟨(by decide +kernel : rt_xt 36 1 = none), (by decide +kernel : rt_cd 36 1 = some (.iconst 0)), rfl⟩
theorem i_36_2 {sc : Nat × (Nat → Int32)} {fm : Value} : ri (rt_P sc fm) 36 2 (.putfield 51) (5) := ⟨(by decide +kernel : rt_xt 36 2 = none), (by decide +kernel : rt_cd 36 2 = some (.putfield 51)), rfl⟩
theorem p_36_51 {sc : Nat × (Nat → Int32)} {fm : Value} : rx_pt (rt_P sc fm) 36 51 = some (9, 0, .boolean) := (by decide +kernel : rt_pt 36 51 = some (9, 0, .boolean))
theorem i_36_5 {sc : Nat × (Nat → Int32)} {fm : Value} : ri (rt_P sc fm) 36 5 (.aload_n 0) (6) := ⟨(by decide +kernel : rt_xt 36 5 = none), (by decide +kernel : rt_cd 36 5 = some (.aload_n 0)), rfl⟩
theorem i_36_6 {sc : Nat × (Nat → Int32)} {fm : Value} : ri (rt_P sc fm) 36 6 (.iconst 0) (7) := ⟨(by decide +kernel : rt_xt 36 6 = none), (by decide +kernel : rt_cd 36 6 = some (.iconst 0)), rfl⟩
theorem i_36_7 {sc : Nat × (Nat → Int32)} {fm : Value} : ri (rt_P sc fm) 36 7 (.putfield 55) (10) := ⟨(by decide +kernel : rt_xt 36 7 = none), (by decide +kernel : rt_cd 36 7 = some (.putfield 55)), rfl⟩
theorem p_36_55 {sc : Nat × (Nat → Int32)} {fm : Value} : rx_pt (rt_P sc fm) 36 55 = some (9, 2, .int) := (by decide +kernel : rt_pt 36 55 = some (9, 2, .int))
theorem i_36_10 {sc : Nat × (Nat → Int32)} {fm : Value} : ri (rt_P sc fm) 36 10 (.aload_n 0) (11) := ⟨(by decide +kernel : rt_xt 36 10 = none), (by decide +kernel : rt_cd 36 10 = some (.aload_n 0)), rfl⟩
theorem i_36_11 {sc : Nat × (Nat → Int32)} {fm : Value} : ri (rt_P sc fm) 36 11 (.iconst 0) (12) := ⟨(by decide +kernel : rt_xt 36 11 = none), (by decide +kernel : rt_cd 36 11 = some (.iconst 0)), rfl⟩
theorem i_36_12 {sc : Nat × (Nat → Int32)} {fm : Value} : ri (rt_P sc fm) 36 12 (.putfield 59) (15) := ⟨(by decide +kernel : rt_xt 36 12 = none), (by decide +kernel : rt_cd 36 12 = some (.putfield 59)), rfl⟩
theorem p_36_59 {sc : Nat × (Nat → Int32)} {fm : Value} : rx_pt (rt_P sc fm) 36 59 = some (9, 4, .int) := (by decide +kernel : rt_pt 36 59 = some (9, 4, .int))
theorem i_36_15 {sc : Nat × (Nat → Int32)} {fm : Value} : ri (rt_P sc fm) 36 15 (.aload_n 0) (16) := ⟨(by decide +kernel : rt_xt 36 15 = none), (by decide +kernel : rt_cd 36 15 = some (.aload_n 0)), rfl⟩
theorem i_36_16 {sc : Nat × (Nat → Int32)} {fm : Value} : ri (rt_P sc fm) 36 16 (.iconst 0) (17) := ⟨(by decide +kernel : rt_xt 36 16 = none), (by decide +kernel : rt_cd 36 16 = some (.iconst 0)), rfl⟩
theorem i_36_17 {sc : Nat × (Nat → Int32)} {fm : Value} : ri (rt_P sc fm) 36 17 (.putfield 62) (20) := ⟨(by decide +kernel : rt_xt 36 17 = none), (by decide +kernel : rt_cd 36 17 = some (.putfield 62)), rfl⟩
theorem p_36_62 {sc : Nat × (Nat → Int32)} {fm : Value} : rx_pt (rt_P sc fm) 36 62 = some (9, 7, .int) := (by decide +kernel : rt_pt 36 62 = some (9, 7, .int))
theorem i_36_20 {sc : Nat × (Nat → Int32)} {fm : Value} : ri (rt_P sc fm) 36 20 (.aload_n 0) (21) := ⟨(by decide +kernel : rt_xt 36 20 = none), (by decide +kernel : rt_cd 36 20 = some (.aload_n 0)), rfl⟩
theorem i_36_21 {sc : Nat × (Nat → Int32)} {fm : Value} : ri (rt_P sc fm) 36 21 (.iconst 0) (22) := ⟨(by decide +kernel : rt_xt 36 21 = none), (by decide +kernel : rt_cd 36 21 = some (.iconst 0)), rfl⟩
theorem i_36_22 {sc : Nat × (Nat → Int32)} {fm : Value} : ri (rt_P sc fm) 36 22 (.putfield 65) (25) := ⟨(by decide +kernel : rt_xt 36 22 = none), (by decide +kernel : rt_cd 36 22 = some (.putfield 65)), rfl⟩
theorem p_36_65 {sc : Nat × (Nat → Int32)} {fm : Value} : rx_pt (rt_P sc fm) 36 65 = some (9, 10, .int) := (by decide +kernel : rt_pt 36 65 = some (9, 10, .int))
theorem i_36_25 {sc : Nat × (Nat → Int32)} {fm : Value} : ri (rt_P sc fm) 36 25 (.return_) (26) := ⟨(by decide +kernel : rt_xt 36 25 = none), (by decide +kernel : rt_cd 36 25 = some (.return_)), rfl⟩
theorem r_36 {sc : Nat × (Nat → Int32)} {fm : Value} : rx_rt (rt_P sc fm) 36 = none := (by decide +kernel : rt_rt 36 = none)
theorem i_40_7 {sc : Nat × (Nat → Int32)} {fm : Value} : ri (rt_P sc fm) 40 7 (.aload_n 0) (8) := ⟨(by decide +kernel : rt_xt 40 7 = none), (by decide +kernel : rt_cd 40 7 = some (.aload_n 0)), rfl⟩
theorem i_40_8 {sc : Nat × (Nat → Int32)} {fm : Value} : ri (rt_P sc fm) 40 8 (.getfield 19) (11) := ⟨(by decide +kernel : rt_xt 40 8 = none), (by decide +kernel : rt_cd 40 8 = some (.getfield 19)), rfl⟩
theorem f_40_19 {sc : Nat × (Nat → Int32)} {fm : Value} : rx_ft (rt_P sc fm) 40 19 = some (10, 2) := (by decide +kernel : rt_ft 40 19 = some (10, 2))
theorem i_40_11 {sc : Nat × (Nat → Int32)} {fm : Value} : ri (rt_P sc fm) 40 11 (.iconst 0) (12) := ⟨(by decide +kernel : rt_xt 40 11 = none), (by decide +kernel : rt_cd 40 11 = some (.iconst 0)), rfl⟩
theorem i_40_12 {sc : Nat × (Nat → Int32)} {fm : Value} : ri (rt_P sc fm) 40 12 (.putfield 32) (15) := ⟨(by decide +kernel : rt_xt 40 12 = none), (by decide +kernel : rt_cd 40 12 = some (.putfield 32)), rfl⟩
theorem p_40_32 {sc : Nat × (Nat → Int32)} {fm : Value} : rx_pt (rt_P sc fm) 40 32 = some (2, 7, .int) := (by decide +kernel : rt_pt 40 32 = some (2, 7, .int))
theorem i_40_15 {sc : Nat × (Nat → Int32)} {fm : Value} : ri (rt_P sc fm) 40 15 (.aload_n 0) (16) := ⟨(by decide +kernel : rt_xt 40 15 = none), (by decide +kernel : rt_cd 40 15 = some (.aload_n 0)), rfl⟩
theorem i_40_16 {sc : Nat × (Nat → Int32)} {fm : Value} : ri (rt_P sc fm) 40 16 (.getfield 23) (19) := ⟨(by decide +kernel : rt_xt 40 16 = none), (by decide +kernel : rt_cd 40 16 = some (.getfield 23)), rfl⟩
theorem f_40_23 {sc : Nat × (Nat → Int32)} {fm : Value} : rx_ft (rt_P sc fm) 40 23 = some (10, 3) := (by decide +kernel : rt_ft 40 23 = some (10, 3))
theorem i_40_19 {sc : Nat × (Nat → Int32)} {fm : Value} : ri (rt_P sc fm) 40 19 (.invokevirtual 38) (22) := ⟨(by decide +kernel : rt_xt 40 19 = none), (by decide +kernel : rt_cd 40 19 = some (.invokevirtual 38)), rfl⟩
theorem c_40_38 {sc : Nat × (Nat → Int32)} {fm : Value} : rx_ct (rt_P sc fm) 40 38 = some (0, 33, 0) := (by decide +kernel : rt_ct 40 38 = some (0, 33, 0))
theorem a_7_33 {sc : Nat × (Nat → Int32)} {fm : Value} : rz_cn 7 (rx_yn (rt_P sc fm) 33).cls = true := (by decide +kernel : rz_cn 7 (rt_yn 33).cls = true)
theorem i_33_0 {sc : Nat × (Nat → Int32)} {fm : Value} : ri (rt_P sc fm) 33 0 (.aload_n 0) (1) := ⟨(by decide +kernel : rt_xt 33 0 = none), (by decide +kernel : rt_cd 33 0 = some (.aload_n 0)), rfl⟩
theorem i_33_1 {sc : Nat × (Nat → Int32)} {fm : Value} : ri (rt_P sc fm) 33 1 (.iconst 0) (2) := ⟨(by decide +kernel : rt_xt 33 1 = none), (by decide +kernel : rt_cd 33 1 = some (.iconst 0)), rfl⟩
theorem i_33_2 {sc : Nat × (Nat → Int32)} {fm : Value} : ri (rt_P sc fm) 33 2 (.putfield 52) (5) := ⟨(by decide +kernel : rt_xt 33 2 = none), (by decide +kernel : rt_cd 33 2 = some (.putfield 52)), rfl⟩
theorem p_33_52 {sc : Nat × (Nat → Int32)} {fm : Value} : rx_pt (rt_P sc fm) 33 52 = some (7, 11, .int) := (by decide +kernel : rt_pt 33 52 = some (7, 11, .int))
theorem i_33_5 {sc : Nat × (Nat → Int32)} {fm : Value} : ri (rt_P sc fm) 33 5 (.aload_n 0) (6) := ⟨(by decide +kernel : rt_xt 33 5 = none), (by decide +kernel : rt_cd 33 5 = some (.aload_n 0)), rfl⟩
theorem i_33_6 {sc : Nat × (Nat → Int32)} {fm : Value} : ri (rt_P sc fm) 33 6 (.iconst (-1)) (7) := ⟨(by decide +kernel : rt_xt 33 6 = none), (by decide +kernel : rt_cd 33 6 = some (.iconst (-1))), rfl⟩
theorem i_33_7 {sc : Nat × (Nat → Int32)} {fm : Value} : ri (rt_P sc fm) 33 7 (.putfield 48) (10) := ⟨(by decide +kernel : rt_xt 33 7 = none), (by decide +kernel : rt_cd 33 7 = some (.putfield 48)), rfl⟩
theorem p_33_48 {sc : Nat × (Nat → Int32)} {fm : Value} : rx_pt (rt_P sc fm) 33 48 = some (7, 12, .int) := (by decide +kernel : rt_pt 33 48 = some (7, 12, .int))
theorem i_33_10 {sc : Nat × (Nat → Int32)} {fm : Value} : ri (rt_P sc fm) 33 10 (.aload_n 0) (11) := ⟨(by decide +kernel : rt_xt 33 10 = none), (by decide +kernel : rt_cd 33 10 = some (.aload_n 0)), rfl⟩
theorem i_33_11 {sc : Nat × (Nat → Int32)} {fm : Value} : ri (rt_P sc fm) 33 11 (.iconst 0) (12) := ⟨(by decide +kernel : rt_xt 33 11 = none), (by decide +kernel : rt_cd 33 11 = some (.iconst 0)), rfl⟩
theorem i_33_12 {sc : Nat × (Nat → Int32)} {fm : Value} : ri (rt_P sc fm) 33 12 (.putfield 55) (15) := ⟨(by decide +kernel : rt_xt 33 12 = none), (by decide +kernel : rt_cd 33 12 = some (.putfield 55)), rfl⟩
theorem p_33_55 {sc : Nat × (Nat → Int32)} {fm : Value} : rx_pt (rt_P sc fm) 33 55 = some (7, 13, .int) := (by decide +kernel : rt_pt 33 55 = some (7, 13, .int))
theorem i_33_15 {sc : Nat × (Nat → Int32)} {fm : Value} : ri (rt_P sc fm) 33 15 (.aload_n 0) (16) := ⟨(by decide +kernel : rt_xt 33 15 = none), (by decide +kernel : rt_cd 33 15 = some (.aload_n 0)), rfl⟩
theorem i_33_16 {sc : Nat × (Nat → Int32)} {fm : Value} : ri (rt_P sc fm) 33 16 (.getfield 45) (19) := ⟨(by decide +kernel : rt_xt 33 16 = none), (by decide +kernel : rt_cd 33 16 = some (.getfield 45)), rfl⟩
theorem f_33_45 {sc : Nat × (Nat → Int32)} {fm : Value} : rx_ft (rt_P sc fm) 33 45 = some (7, 10) := (by decide +kernel : rt_ft 33 45 = some (7, 10))
theorem i_33_19 {sc : Nat × (Nat → Int32)} {fm : Value} : ri (rt_P sc fm) 33 19 (.iconst 0) (20) := ⟨(by decide +kernel : rt_xt 33 19 = none), (by decide +kernel : rt_cd 33 19 = some (.iconst 0)), rfl⟩
theorem i_33_20 {sc : Nat × (Nat → Int32)} {fm : Value} : ri (rt_P sc fm) 33 20 (.invokestatic 58) (23) := ⟨(by decide +kernel : rt_xt 33 20 = none), (by decide +kernel : rt_cd 33 20 = some (.invokestatic 58)), rfl⟩
theorem c_33_58 {sc : Nat × (Nat → Int32)} {fm : Value} : rx_ct (rt_P sc fm) 33 58 = some (1, 153, 2) := (by decide +kernel : rt_ct 33 58 = some (1, 153, 2))
theorem i_33_23 {sc : Nat × (Nat → Int32)} {fm : Value} : ri (rt_P sc fm) 33 23 (.return_) (24) := ⟨(by decide +kernel : rt_xt 33 23 = none), (by decide +kernel : rt_cd 33 23 = some (.return_)), rfl⟩
theorem r_33 {sc : Nat × (Nat → Int32)} {fm : Value} : rx_rt (rt_P sc fm) 33 = none := (by decide +kernel : rt_rt 33 = none)
theorem i_40_22 {sc : Nat × (Nat → Int32)} {fm : Value} : ri (rt_P sc fm) 40 22 (.aload_n 0) (23) := ⟨(by decide +kernel : rt_xt 40 22 = none), (by decide +kernel : rt_cd 40 22 = some (.aload_n 0)), rfl⟩
theorem i_40_23 {sc : Nat × (Nat → Int32)} {fm : Value} : ri (rt_P sc fm) 40 23 (.iconst 0) (24) := ⟨(by decide +kernel : rt_xt 40 23 = none), (by decide +kernel : rt_cd 40 23 = some (.iconst 0)), rfl⟩
theorem i_40_24 {sc : Nat × (Nat → Int32)} {fm : Value} : ri (rt_P sc fm) 40 24 (.putfield 43) (27) := ⟨(by decide +kernel : rt_xt 40 24 = none), (by decide +kernel : rt_cd 40 24 = some (.putfield 43)), rfl⟩
theorem p_40_43 {sc : Nat × (Nat → Int32)} {fm : Value} : rx_pt (rt_P sc fm) 40 43 = some (10, 4, .int) := (by decide +kernel : rt_pt 40 43 = some (10, 4, .int))
theorem i_40_27 {sc : Nat × (Nat → Int32)} {fm : Value} : ri (rt_P sc fm) 40 27 (.aload_n 0) (28) := ⟨(by decide +kernel : rt_xt 40 27 = none), (by decide +kernel : rt_cd 40 27 = some (.aload_n 0)), rfl⟩
theorem i_40_28 {sc : Nat × (Nat → Int32)} {fm : Value} : ri (rt_P sc fm) 40 28 (.iconst 0) (29) := ⟨(by decide +kernel : rt_xt 40 28 = none), (by decide +kernel : rt_cd 40 28 = some (.iconst 0)), rfl⟩
theorem i_40_29 {sc : Nat × (Nat → Int32)} {fm : Value} : ri (rt_P sc fm) 40 29 (.putfield 46) (32) := ⟨(by decide +kernel : rt_xt 40 29 = none), (by decide +kernel : rt_cd 40 29 = some (.putfield 46)), rfl⟩
theorem p_40_46 {sc : Nat × (Nat → Int32)} {fm : Value} : rx_pt (rt_P sc fm) 40 46 = some (10, 5, .int) := (by decide +kernel : rt_pt 40 46 = some (10, 5, .int))
theorem i_40_32 {sc : Nat × (Nat → Int32)} {fm : Value} : ri (rt_P sc fm) 40 32 (.aload_n 0) (33) := ⟨(by decide +kernel : rt_xt 40 32 = none), (by decide +kernel : rt_cd 40 32 = some (.aload_n 0)), rfl⟩
theorem i_40_33 {sc : Nat × (Nat → Int32)} {fm : Value} : ri (rt_P sc fm) 40 33 (.iconst 0) (34) := ⟨(by decide +kernel : rt_xt 40 33 = none), (by decide +kernel : rt_cd 40 33 = some (.iconst 0)), rfl⟩
theorem i_40_34 {sc : Nat × (Nat → Int32)} {fm : Value} : ri (rt_P sc fm) 40 34 (.putfield 49) (37) := ⟨(by decide +kernel : rt_xt 40 34 = none), (by decide +kernel : rt_cd 40 34 = some (.putfield 49)), rfl⟩
theorem p_40_49 {sc : Nat × (Nat → Int32)} {fm : Value} : rx_pt (rt_P sc fm) 40 49 = some (10, 7, .int) := (by decide +kernel : rt_pt 40 49 = some (10, 7, .int))
theorem i_40_37 {sc : Nat × (Nat → Int32)} {fm : Value} : ri (rt_P sc fm) 40 37 (.aload_n 0) (38) := ⟨(by decide +kernel : rt_xt 40 37 = none), (by decide +kernel : rt_cd 40 37 = some (.aload_n 0)), rfl⟩
theorem i_40_38 {sc : Nat × (Nat → Int32)} {fm : Value} : ri (rt_P sc fm) 40 38 (.getfield 9) (41) := ⟨(by decide +kernel : rt_xt 40 38 = none), (by decide +kernel : rt_cd 40 38 = some (.getfield 9)), rfl⟩
theorem f_40_9 {sc : Nat × (Nat → Int32)} {fm : Value} : rx_ft (rt_P sc fm) 40 9 = some (10, 0) := (by decide +kernel : rt_ft 40 9 = some (10, 0))
theorem i_40_41 {sc : Nat × (Nat → Int32)} {fm : Value} : ri (rt_P sc fm) 40 41 (.invokevirtual 52) (44) := ⟨(by decide +kernel : rt_xt 40 41 = none), (by decide +kernel : rt_cd 40 41 = some (.invokevirtual 52)), rfl⟩
theorem c_40_52 {sc : Nat × (Nat → Int32)} {fm : Value} : rx_ct (rt_P sc fm) 40 52 = some (0, 25, 0) := (by decide +kernel : rt_ct 40 52 = some (0, 25, 0))
theorem a_3_25 {sc : Nat × (Nat → Int32)} {fm : Value} : rz_cn 3 (rx_yn (rt_P sc fm) 25).cls = true := (by decide +kernel : rz_cn 3 (rt_yn 25).cls = true)
theorem i_25_0 {sc : Nat × (Nat → Int32)} {fm : Value} : ri (rt_P sc fm) 25 0 (.aload_n 0) (1) := ⟨(by decide +kernel : rt_xt 25 0 = none), (by decide +kernel : rt_cd 25 0 = some (.aload_n 0)), rfl⟩
theorem i_25_1 {sc : Nat × (Nat → Int32)} {fm : Value} : ri (rt_P sc fm) 25 1 (.iconst 0) (2) := ⟨(by decide +kernel : rt_xt 25 1 = none), (by decide +kernel : rt_cd 25 1 = some (.iconst 0)), rfl⟩
theorem i_25_2 {sc : Nat × (Nat → Int32)} {fm : Value} : ri (rt_P sc fm) 25 2 (.putfield 44) (5) := ⟨(by decide +kernel : rt_xt 25 2 = none), (by decide +kernel : rt_cd 25 2 = some (.putfield 44)), rfl⟩
theorem p_25_44 {sc : Nat × (Nat → Int32)} {fm : Value} : rx_pt (rt_P sc fm) 25 44 = some (3, 7, .int) := (by decide +kernel : rt_pt 25 44 = some (3, 7, .int))
theorem i_25_5 {sc : Nat × (Nat → Int32)} {fm : Value} : ri (rt_P sc fm) 25 5 (.aload_n 0) (6) := ⟨(by decide +kernel : rt_xt 25 5 = none), (by decide +kernel : rt_cd 25 5 = some (.aload_n 0)), rfl⟩
theorem i_25_6 {sc : Nat × (Nat → Int32)} {fm : Value} : ri (rt_P sc fm) 25 6 (.iconst 0) (7) := ⟨(by decide +kernel : rt_xt 25 6 = none), (by decide +kernel : rt_cd 25 6 = some (.iconst 0)), rfl⟩
theorem i_25_7 {sc : Nat × (Nat → Int32)} {fm : Value} : ri (rt_P sc fm) 25 7 (.putfield 47) (10) := ⟨(by decide +kernel : rt_xt 25 7 = none), (by decide +kernel : rt_cd 25 7 = some (.putfield 47)), rfl⟩
theorem p_25_47 {sc : Nat × (Nat → Int32)} {fm : Value} : rx_pt (rt_P sc fm) 25 47 = some (3, 6, .int) := (by decide +kernel : rt_pt 25 47 = some (3, 6, .int))
theorem i_25_10 {sc : Nat × (Nat → Int32)} {fm : Value} : ri (rt_P sc fm) 25 10 (.iconst 0) (11) := ⟨(by decide +kernel : rt_xt 25 10 = none), (by decide +kernel : rt_cd 25 10 = some (.iconst 0)), rfl⟩
theorem i_25_11 {sc : Nat × (Nat → Int32)} {fm : Value} : ri (rt_P sc fm) 25 11 (.istore_n 1) (12) := ⟨(by decide +kernel : rt_xt 25 11 = none), (by decide +kernel : rt_cd 25 11 = some (.istore_n 1)), rfl⟩
theorem i_25_12 {sc : Nat × (Nat → Int32)} {fm : Value} : ri (rt_P sc fm) 25 12 (.iload_n 1) (13) := ⟨(by decide +kernel : rt_xt 25 12 = none), (by decide +kernel : rt_cd 25 12 = some (.iload_n 1)), rfl⟩
theorem i_25_13 {sc : Nat × (Nat → Int32)} {fm : Value} : ri (rt_P sc fm) 25 13 (.sipush 4000) (16) := ⟨(by decide +kernel : rt_xt 25 13 = none), (by decide +kernel : rt_cd 25 13 = some (.sipush 4000)), rfl⟩
theorem i_25_16 {sc : Nat × (Nat → Int32)} {fm : Value} : ri (rt_P sc fm) 25 16 (.if_icmp .gt 76) (19) := ⟨(by decide +kernel : rt_xt 25 16 = none), (by decide +kernel : rt_cd 25 16 = some (.if_icmp .gt 76)), rfl⟩
theorem i_25_19 {sc : Nat × (Nat → Int32)} {fm : Value} : ri (rt_P sc fm) 25 19 (.aload_n 0) (20) := ⟨(by decide +kernel : rt_xt 25 19 = none), (by decide +kernel : rt_cd 25 19 = some (.aload_n 0)), rfl⟩
theorem i_25_20 {sc : Nat × (Nat → Int32)} {fm : Value} : ri (rt_P sc fm) 25 20 (.invokevirtual 50) (23) := ⟨(by decide +kernel : rt_xt 25 20 = none), (by decide +kernel : rt_cd 25 20 = some (.invokevirtual 50)), rfl⟩
theorem c_25_50 {sc : Nat × (Nat → Int32)} {fm : Value} : rx_ct (rt_P sc fm) 25 50 = some (0, 26, 0) := (by decide +kernel : rt_ct 25 50 = some (0, 26, 0))
theorem a_3_26 {sc : Nat × (Nat → Int32)} {fm : Value} : rz_cn 3 (rx_yn (rt_P sc fm) 26).cls = true := (by decide +kernel : rz_cn 3 (rt_yn 26).cls = true)
theorem i_26_0 {sc : Nat × (Nat → Int32)} {fm : Value} : ri (rt_P sc fm) 26 0 (.aload_n 0) (1) := ⟨(by decide +kernel : rt_xt 26 0 = none), (by decide +kernel : rt_cd 26 0 = some (.aload_n 0)), rfl⟩
theorem i_26_1 {sc : Nat × (Nat → Int32)} {fm : Value} : ri (rt_P sc fm) 26 1 (.getfield 44) (4) := ⟨(by decide +kernel : rt_xt 26 1 = none), (by decide +kernel : rt_cd 26 1 = some (.getfield 44)), rfl⟩
theorem f_26_44 {sc : Nat × (Nat → Int32)} {fm : Value} : rx_ft (rt_P sc fm) 26 44 = some (3, 7) := (by decide +kernel : rt_ft 26 44 = some (3, 7))
theorem i_26_4 {sc : Nat × (Nat → Int32)} {fm : Value} : ri (rt_P sc fm) 26 4 (.aload_n 0) (5) := ⟨(by decide +kernel : rt_xt 26 4 = none), (by decide +kernel : rt_cd 26 4 = some (.aload_n 0)), rfl⟩
theorem i_26_5 {sc : Nat × (Nat → Int32)} {fm : Value} : ri (rt_P sc fm) 26 5 (.getfield 41) (8) := ⟨(by decide +kernel : rt_xt 26 5 = none), (by decide +kernel : rt_cd 26 5 = some (.getfield 41)), rfl⟩
theorem f_26_41 {sc : Nat × (Nat → Int32)} {fm : Value} : rx_ft (rt_P sc fm) 26 41 = some (3, 1) := (by decide +kernel : rt_ft 26 41 = some (3, 1))
theorem i_26_8 {sc : Nat × (Nat → Int32)} {fm : Value} : ri (rt_P sc fm) 26 8 (.if_icmp .ge 44) (11) := ⟨(by decide +kernel : rt_xt 26 8 = none), (by decide +kernel : rt_cd 26 8 = some (.if_icmp .ge 44)), rfl⟩
theorem i_26_52 {sc : Nat × (Nat → Int32)} {fm : Value} : ri (rt_P sc fm) 26 52 (.return_) (53) := ⟨(by decide +kernel : rt_xt 26 52 = none), (by decide +kernel : rt_cd 26 52 = some (.return_)), rfl⟩
theorem r_26 {sc : Nat × (Nat → Int32)} {fm : Value} : rx_rt (rt_P sc fm) 26 = none := (by decide +kernel : rt_rt 26 = none)
theorem i_25_23 {sc : Nat × (Nat → Int32)} {fm : Value} : ri (rt_P sc fm) 25 23 (.aload_n 0) (24) := ⟨(by decide +kernel : rt_xt 25 23 = none), (by decide +kernel : rt_cd 25 23 = some (.aload_n 0)), rfl⟩
theorem i_25_24 {sc : Nat × (Nat → Int32)} {fm : Value} : ri (rt_P sc fm) 25 24 (.getfield 19) (27) := ⟨(by decide +kernel : rt_xt 25 24 = none), (by decide +kernel : rt_cd 25 24 = some (.getfield 19)), rfl⟩
theorem f_25_19 {sc : Nat × (Nat → Int32)} {fm : Value} : rx_ft (rt_P sc fm) 25 19 = some (3, 3) := (by decide +kernel : rt_ft 25 19 = some (3, 3))
theorem i_25_27 {sc : Nat × (Nat → Int32)} {fm : Value} : ri (rt_P sc fm) 25 27 (.aload_n 0) (28) := ⟨(by decide +kernel : rt_xt 25 27 = none), (by decide +kernel : rt_cd 25 27 = some (.aload_n 0)), rfl⟩
theorem i_25_28 {sc : Nat × (Nat → Int32)} {fm : Value} : ri (rt_P sc fm) 25 28 (.getfield 47) (31) := ⟨(by decide +kernel : rt_xt 25 28 = none), (by decide +kernel : rt_cd 25 28 = some (.getfield 47)), rfl⟩
theorem f_25_47 {sc : Nat × (Nat → Int32)} {fm : Value} : rx_ft (rt_P sc fm) 25 47 = some (3, 6) := (by decide +kernel : rt_ft 25 47 = some (3, 6))
theorem i_25_31 {sc : Nat × (Nat → Int32)} {fm : Value} : ri (rt_P sc fm) 25 31 (.aload_n 0) (32) := ⟨(by decide +kernel : rt_xt 25 31 = none), (by decide +kernel : rt_cd 25 31 = some (.aload_n 0)), rfl⟩
theorem i_25_32 {sc : Nat × (Nat → Int32)} {fm : Value} : ri (rt_P sc fm) 25 32 (.getfield 44) (35) := ⟨(by decide +kernel : rt_xt 25 32 = none), (by decide +kernel : rt_cd 25 32 = some (.getfield 44)), rfl⟩
theorem f_25_44 {sc : Nat × (Nat → Int32)} {fm : Value} : rx_ft (rt_P sc fm) 25 44 = some (3, 7) := (by decide +kernel : rt_ft 25 44 = some (3, 7))
theorem i_25_35 {sc : Nat × (Nat → Int32)} {fm : Value} : ri (rt_P sc fm) 25 35 (.iastore) (36) := ⟨(by decide +kernel : rt_xt 25 35 = none), (by decide +kernel : rt_cd 25 35 = some (.iastore)), rfl⟩
theorem i_25_36 {sc : Nat × (Nat → Int32)} {fm : Value} : ri (rt_P sc fm) 25 36 (.aload_n 0) (37) := ⟨(by decide +kernel : rt_xt 25 36 = none), (by decide +kernel : rt_cd 25 36 = some (.aload_n 0)), rfl⟩
theorem i_25_37 {sc : Nat × (Nat → Int32)} {fm : Value} : ri (rt_P sc fm) 25 37 (.getfield 44) (40) := ⟨(by decide +kernel : rt_xt 25 37 = none), (by decide +kernel : rt_cd 25 37 = some (.getfield 44)), rfl⟩
theorem i_25_40 {sc : Nat × (Nat → Int32)} {fm : Value} : ri (rt_P sc fm) 25 40 (.aload_n 0) (41) := ⟨(by decide +kernel : rt_xt 25 40 = none), (by decide +kernel : rt_cd 25 40 = some (.aload_n 0)), rfl⟩
theorem i_25_41 {sc : Nat × (Nat → Int32)} {fm : Value} : ri (rt_P sc fm) 25 41 (.getfield 41) (44) := ⟨(by decide +kernel : rt_xt 25 41 = none), (by decide +kernel : rt_cd 25 41 = some (.getfield 41)), rfl⟩
theorem f_25_41 {sc : Nat × (Nat → Int32)} {fm : Value} : rx_ft (rt_P sc fm) 25 41 = some (3, 1) := (by decide +kernel : rt_ft 25 41 = some (3, 1))
theorem i_25_44 {sc : Nat × (Nat → Int32)} {fm : Value} : ri (rt_P sc fm) 25 44 (.if_icmp .lt 15) (47) := ⟨(by decide +kernel : rt_xt 25 44 = none), (by decide +kernel : rt_cd 25 44 = some (.if_icmp .lt 15)), rfl⟩
theorem i_25_47 {sc : Nat × (Nat → Int32)} {fm : Value} : ri (rt_P sc fm) 25 47 (.aload_n 0) (48) := ⟨(by decide +kernel : rt_xt 25 47 = none), (by decide +kernel : rt_cd 25 47 = some (.aload_n 0)), rfl⟩
theorem i_25_48 {sc : Nat × (Nat → Int32)} {fm : Value} : ri (rt_P sc fm) 25 48 (.getfield 15) (51) := ⟨(by decide +kernel : rt_xt 25 48 = none), (by decide +kernel : rt_cd 25 48 = some (.getfield 15)), rfl⟩
theorem f_25_15 {sc : Nat × (Nat → Int32)} {fm : Value} : rx_ft (rt_P sc fm) 25 15 = some (3, 2) := (by decide +kernel : rt_ft 25 15 = some (3, 2))
theorem i_25_51 {sc : Nat × (Nat → Int32)} {fm : Value} : ri (rt_P sc fm) 25 51 (.aload_n 0) (52) := ⟨(by decide +kernel : rt_xt 25 51 = none), (by decide +kernel : rt_cd 25 51 = some (.aload_n 0)), rfl⟩
theorem i_25_52 {sc : Nat × (Nat → Int32)} {fm : Value} : ri (rt_P sc fm) 25 52 (.getfield 47) (55) := ⟨(by decide +kernel : rt_xt 25 52 = none), (by decide +kernel : rt_cd 25 52 = some (.getfield 47)), rfl⟩
theorem i_25_55 {sc : Nat × (Nat → Int32)} {fm : Value} : ri (rt_P sc fm) 25 55 (.iconst 0) (56) := ⟨(by decide +kernel : rt_xt 25 55 = none), (by decide +kernel : rt_cd 25 55 = some (.iconst 0)), rfl⟩
theorem i_25_56 {sc : Nat × (Nat → Int32)} {fm : Value} : ri (rt_P sc fm) 25 56 (.iastore) (57) := ⟨(by decide +kernel : rt_xt 25 56 = none), (by decide +kernel : rt_cd 25 56 = some (.iastore)), rfl⟩
theorem i_25_57 {sc : Nat × (Nat → Int32)} {fm : Value} : ri (rt_P sc fm) 25 57 (.iconst (-1)) (58) := ⟨(by decide +kernel : rt_xt 25 57 = none), (by decide +kernel : rt_cd 25 57 = some (.iconst (-1))), rfl⟩
theorem i_25_58 {sc : Nat × (Nat → Int32)} {fm : Value} : ri (rt_P sc fm) 25 58 (.ireturn) (59) := ⟨(by decide +kernel : rt_xt 25 58 = none), (by decide +kernel : rt_cd 25 58 = some (.ireturn)), rfl⟩
theorem r_25 {sc : Nat × (Nat → Int32)} {fm : Value} : rx_rt (rt_P sc fm) 25 = (some FieldType.int) := (by decide +kernel : rt_rt 25 = (some FieldType.int))
theorem i_40_44 {sc : Nat × (Nat → Int32)} {fm : Value} : ri (rt_P sc fm) 40 44 (.istore_n 1) (45) := ⟨(by decide +kernel : rt_xt 40 44 = none), (by decide +kernel : rt_cd 40 44 = some (.istore_n 1)), rfl⟩
theorem i_40_45 {sc : Nat × (Nat → Int32)} {fm : Value} : ri (rt_P sc fm) 40 45 (.aload_n 0) (46) := ⟨(by decide +kernel : rt_xt 40 45 = none), (by decide +kernel : rt_cd 40 45 = some (.aload_n 0)), rfl⟩
theorem i_40_46 {sc : Nat × (Nat → Int32)} {fm : Value} : ri (rt_P sc fm) 40 46 (.getfield 9) (49) := ⟨(by decide +kernel : rt_xt 40 46 = none), (by decide +kernel : rt_cd 40 46 = some (.getfield 9)), rfl⟩
theorem i_40_49 {sc : Nat × (Nat → Int32)} {fm : Value} : ri (rt_P sc fm) 40 49 (.iconst 0) (50) := ⟨(by decide +kernel : rt_xt 40 49 = none), (by decide +kernel : rt_cd 40 49 = some (.iconst 0)), rfl⟩
theorem i_40_50 {sc : Nat × (Nat → Int32)} {fm : Value} : ri (rt_P sc fm) 40 50 (.putfield 58) (53) := ⟨(by decide +kernel : rt_xt 40 50 = none), (by decide +kernel : rt_cd 40 50 = some (.putfield 58)), rfl⟩
theorem p_40_58 {sc : Nat × (Nat → Int32)} {fm : Value} : rx_pt (rt_P sc fm) 40 58 = some (3, 1, .int) := (by decide +kernel : rt_pt 40 58 = some (3, 1, .int))
theorem i_40_53 {sc : Nat × (Nat → Int32)} {fm : Value} : ri (rt_P sc fm) 40 53 (.iload_n 1) (54) := ⟨(by decide +kernel : rt_xt 40 53 = none), (by decide +kernel : rt_cd 40 53 = some (.iload_n 1)), rfl⟩
theorem i_40_54 {sc : Nat × (Nat → Int32)} {fm : Value} : ri (rt_P sc fm) 40 54 (.ifCond .lt 9) (57) := ⟨(by decide +kernel : rt_xt 40 54 = none), (by decide +kernel : rt_cd 40 54 = some (.ifCond .lt 9)), rfl⟩
theorem i_40_63 {sc : Nat × (Nat → Int32)} {fm : Value} : ri (rt_P sc fm) 40 63 (.return_) (64) := ⟨(by decide +kernel : rt_xt 40 63 = none), (by decide +kernel : rt_cd 40 63 = some (.return_)), rfl⟩
theorem r_40 {sc : Nat × (Nat → Int32)} {fm : Value} : rx_rt (rt_P sc fm) 40 = none := (by decide +kernel : rt_rt 40 = none)
theorem i_59_11 {sc : Nat × (Nat → Int32)} {fm : Value} : ri (rt_P sc fm) 59 11 (.aload_n 0) (12) := ⟨(by decide +kernel : rt_xt 59 11 = none), (by decide +kernel : rt_cd 59 11 = some (.aload_n 0)), rfl⟩
theorem i_59_12 {sc : Nat × (Nat → Int32)} {fm : Value} : ri (rt_P sc fm) 59 12 (.getfield 44) (15) := ⟨(by decide +kernel : rt_xt 59 12 = none), (by decide +kernel : rt_cd 59 12 = some (.getfield 44)), rfl⟩
theorem i_59_15 {sc : Nat × (Nat → Int32)} {fm : Value} : ri (rt_P sc fm) 59 15 (.invokevirtual 114) (18) := ⟨(by decide +kernel : rt_xt 59 15 = none), (by decide +kernel : rt_cd 59 15 = some (.invokevirtual 114)), rfl⟩
theorem c_59_114 {sc : Nat × (Nat → Int32)} {fm : Value} : rx_ct (rt_P sc fm) 59 114 = some (0, 44, 0) := (by decide +kernel : rt_ct 59 114 = some (0, 44, 0))
theorem a_10_44 {sc : Nat × (Nat → Int32)} {fm : Value} : rz_cn 10 (rx_yn (rt_P sc fm) 44).cls = true := (by decide +kernel : rz_cn 10 (rt_yn 44).cls = true)
theorem i_44_0 {sc : Nat × (Nat → Int32)} {fm : Value} : ri (rt_P sc fm) 44 0 (.iconst 0) (1) := ⟨(by decide +kernel : rt_xt 44 0 = none), (by decide +kernel : rt_cd 44 0 = some (.iconst 0)), rfl⟩
theorem i_44_1 {sc : Nat × (Nat → Int32)} {fm : Value} : ri (rt_P sc fm) 44 1 (.istore_n 1) (2) := ⟨(by decide +kernel : rt_xt 44 1 = none), (by decide +kernel : rt_cd 44 1 = some (.istore_n 1)), rfl⟩
theorem i_44_2 {sc : Nat × (Nat → Int32)} {fm : Value} : ri (rt_P sc fm) 44 2 (.iload_n 1) (3) := ⟨(by decide +kernel : rt_xt 44 2 = none), (by decide +kernel : rt_cd 44 2 = some (.iload_n 1)), rfl⟩
theorem i_44_3 {sc : Nat × (Nat → Int32)} {fm : Value} : ri (rt_P sc fm) 44 3 (.sipush 4000) (6) := ⟨(by decide +kernel : rt_xt 44 3 = none), (by decide +kernel : rt_cd 44 3 = some (.sipush 4000)), rfl⟩
theorem i_44_6 {sc : Nat × (Nat → Int32)} {fm : Value} : ri (rt_P sc fm) 44 6 (.if_icmp .ge 23) (9) := ⟨(by decide +kernel : rt_xt 44 6 = none), (by decide +kernel : rt_cd 44 6 = some (.if_icmp .ge 23)), rfl⟩
theorem i_44_9 {sc : Nat × (Nat → Int32)} {fm : Value} : ri (rt_P sc fm) 44 9 (.aload_n 0) (10) := ⟨(by decide +kernel : rt_xt 44 9 = none), (by decide +kernel : rt_cd 44 9 = some (.aload_n 0)), rfl⟩
theorem i_44_10 {sc : Nat × (Nat → Int32)} {fm : Value} : ri (rt_P sc fm) 44 10 (.invokevirtual 82) (13) := ⟨(by decide +kernel : rt_xt 44 10 = none), (by decide +kernel : rt_cd 44 10 = some (.invokevirtual 82)), rfl⟩
theorem c_44_82 {sc : Nat × (Nat → Int32)} {fm : Value} : rx_ct (rt_P sc fm) 44 82 = some (0, 43, 0) := (by decide +kernel : rt_ct 44 82 = some (0, 43, 0))
theorem a_10_43 {sc : Nat × (Nat → Int32)} {fm : Value} : rz_cn 10 (rx_yn (rt_P sc fm) 43).cls = true := (by decide +kernel : rz_cn 10 (rt_yn 43).cls = true)
theorem i_43_0 {sc : Nat × (Nat → Int32)} {fm : Value} : ri (rt_P sc fm) 43 0 (.aload_n 0) (1) := ⟨(by decide +kernel : rt_xt 43 0 = none), (by decide +kernel : rt_cd 43 0 = some (.aload_n 0)), rfl⟩
theorem i_43_1 {sc : Nat × (Nat → Int32)} {fm : Value} : ri (rt_P sc fm) 43 1 (.getfield 9) (4) := ⟨(by decide +kernel : rt_xt 43 1 = none), (by decide +kernel : rt_cd 43 1 = some (.getfield 9)), rfl⟩
theorem f_43_9 {sc : Nat × (Nat → Int32)} {fm : Value} : rx_ft (rt_P sc fm) 43 9 = some (10, 0) := (by decide +kernel : rt_ft 43 9 = some (10, 0))
theorem i_43_4 {sc : Nat × (Nat → Int32)} {fm : Value} : ri (rt_P sc fm) 43 4 (.getfield 76) (7) := ⟨(by decide +kernel : rt_xt 43 4 = none), (by decide +kernel : rt_cd 43 4 = some (.getfield 76)), rfl⟩
theorem f_43_76 {sc : Nat × (Nat → Int32)} {fm : Value} : rx_ft (rt_P sc fm) 43 76 = some (3, 2) := (by decide +kernel : rt_ft 43 76 = some (3, 2))
theorem i_43_7 {sc : Nat × (Nat → Int32)} {fm : Value} : ri (rt_P sc fm) 43 7 (.aload_n 0) (8) := ⟨(by decide +kernel : rt_xt 43 7 = none), (by decide +kernel : rt_cd 43 7 = some (.aload_n 0)), rfl⟩
theorem i_43_8 {sc : Nat × (Nat → Int32)} {fm : Value} : ri (rt_P sc fm) 43 8 (.getfield 49) (11) := ⟨(by decide +kernel : rt_xt 43 8 = none), (by decide +kernel : rt_cd 43 8 = some (.getfield 49)), rfl⟩
theorem f_43_49 {sc : Nat × (Nat → Int32)} {fm : Value} : rx_ft (rt_P sc fm) 43 49 = some (10, 7) := (by decide +kernel : rt_ft 43 49 = some (10, 7))
theorem i_43_11 {sc : Nat × (Nat → Int32)} {fm : Value} : ri (rt_P sc fm) 43 11 (.iaload) (12) := ⟨(by decide +kernel : rt_xt 43 11 = none), (by decide +kernel : rt_cd 43 11 = some (.iaload)), rfl⟩
theorem i_43_12 {sc : Nat × (Nat → Int32)} {fm : Value} : ri (rt_P sc fm) 43 12 (.ireturn) (13) := ⟨(by decide +kernel : rt_xt 43 12 = none), (by decide +kernel : rt_cd 43 12 = some (.ireturn)), rfl⟩
theorem r_43 {sc : Nat × (Nat → Int32)} {fm : Value} : rx_rt (rt_P sc fm) 43 = (some FieldType.int) := (by decide +kernel : rt_rt 43 = (some FieldType.int))
theorem i_44_13 {sc : Nat × (Nat → Int32)} {fm : Value} : ri (rt_P sc fm) 44 13 (.sipush 200) (16) := ⟨(by decide +kernel : rt_xt 44 13 = none), (by decide +kernel : rt_cd 44 13 = some (.sipush 200)), rfl⟩
theorem i_44_16 {sc : Nat × (Nat → Int32)} {fm : Value} : ri (rt_P sc fm) 44 16 (.if_icmp .ne 13) (19) := ⟨(by decide +kernel : rt_xt 44 16 = none), (by decide +kernel : rt_cd 44 16 = some (.if_icmp .ne 13)), rfl⟩
theorem i_44_29 {sc : Nat × (Nat → Int32)} {fm : Value} : ri (rt_P sc fm) 44 29 (.iconst 0) (30) := ⟨(by decide +kernel : rt_xt 44 29 = none), (by decide +kernel : rt_cd 44 29 = some (.iconst 0)), rfl⟩
theorem i_44_30 {sc : Nat × (Nat → Int32)} {fm : Value} : ri (rt_P sc fm) 44 30 (.istore_n 1) (31) := ⟨(by decide +kernel : rt_xt 44 30 = none), (by decide +kernel : rt_cd 44 30 = some (.istore_n 1)), rfl⟩
theorem i_44_31 {sc : Nat × (Nat → Int32)} {fm : Value} : ri (rt_P sc fm) 44 31 (.iload_n 1) (32) := ⟨(by decide +kernel : rt_xt 44 31 = none), (by decide +kernel : rt_cd 44 31 = some (.iload_n 1)), rfl⟩
theorem i_44_32 {sc : Nat × (Nat → Int32)} {fm : Value} : ri (rt_P sc fm) 44 32 (.sipush 4000) (35) := ⟨(by decide +kernel : rt_xt 44 32 = none), (by decide +kernel : rt_cd 44 32 = some (.sipush 4000)), rfl⟩
theorem i_44_35 {sc : Nat × (Nat → Int32)} {fm : Value} : ri (rt_P sc fm) 44 35 (.if_icmp .ge 23) (38) := ⟨(by decide +kernel : rt_xt 44 35 = none), (by decide +kernel : rt_cd 44 35 = some (.if_icmp .ge 23)), rfl⟩
theorem i_44_38 {sc : Nat × (Nat → Int32)} {fm : Value} : ri (rt_P sc fm) 44 38 (.aload_n 0) (39) := ⟨(by decide +kernel : rt_xt 44 38 = none), (by decide +kernel : rt_cd 44 38 = some (.aload_n 0)), rfl⟩
theorem i_44_39 {sc : Nat × (Nat → Int32)} {fm : Value} : ri (rt_P sc fm) 44 39 (.invokevirtual 82) (42) := ⟨(by decide +kernel : rt_xt 44 39 = none), (by decide +kernel : rt_cd 44 39 = some (.invokevirtual 82)), rfl⟩
theorem i_44_42 {sc : Nat × (Nat → Int32)} {fm : Value} : ri (rt_P sc fm) 44 42 (.sipush 201) (45) := ⟨(by decide +kernel : rt_xt 44 42 = none), (by decide +kernel : rt_cd 44 42 = some (.sipush 201)), rfl⟩
theorem i_44_45 {sc : Nat × (Nat → Int32)} {fm : Value} : ri (rt_P sc fm) 44 45 (.if_icmp .ne 13) (48) := ⟨(by decide +kernel : rt_xt 44 45 = none), (by decide +kernel : rt_cd 44 45 = some (.if_icmp .ne 13)), rfl⟩
theorem i_44_58 {sc : Nat × (Nat → Int32)} {fm : Value} : ri (rt_P sc fm) 44 58 (.iconst 0) (59) := ⟨(by decide +kernel : rt_xt 44 58 = none), (by decide +kernel : rt_cd 44 58 = some (.iconst 0)), rfl⟩
theorem i_44_59 {sc : Nat × (Nat → Int32)} {fm : Value} : ri (rt_P sc fm) 44 59 (.istore_n 1) (60) := ⟨(by decide +kernel : rt_xt 44 59 = none), (by decide +kernel : rt_cd 44 59 = some (.istore_n 1)), rfl⟩
theorem i_44_60 {sc : Nat × (Nat → Int32)} {fm : Value} : ri (rt_P sc fm) 44 60 (.iload_n 1) (61) := ⟨(by decide +kernel : rt_xt 44 60 = none), (by decide +kernel : rt_cd 44 60 = some (.iload_n 1)), rfl⟩
theorem i_44_61 {sc : Nat × (Nat → Int32)} {fm : Value} : ri (rt_P sc fm) 44 61 (.sipush 4000) (64) := ⟨(by decide +kernel : rt_xt 44 61 = none), (by decide +kernel : rt_cd 44 61 = some (.sipush 4000)), rfl⟩
theorem i_44_64 {sc : Nat × (Nat → Int32)} {fm : Value} : ri (rt_P sc fm) 44 64 (.if_icmp .ge 23) (67) := ⟨(by decide +kernel : rt_xt 44 64 = none), (by decide +kernel : rt_cd 44 64 = some (.if_icmp .ge 23)), rfl⟩
theorem i_44_67 {sc : Nat × (Nat → Int32)} {fm : Value} : ri (rt_P sc fm) 44 67 (.aload_n 0) (68) := ⟨(by decide +kernel : rt_xt 44 67 = none), (by decide +kernel : rt_cd 44 67 = some (.aload_n 0)), rfl⟩
theorem i_44_68 {sc : Nat × (Nat → Int32)} {fm : Value} : ri (rt_P sc fm) 44 68 (.invokevirtual 82) (71) := ⟨(by decide +kernel : rt_xt 44 68 = none), (by decide +kernel : rt_cd 44 68 = some (.invokevirtual 82)), rfl⟩
theorem i_44_71 {sc : Nat × (Nat → Int32)} {fm : Value} : ri (rt_P sc fm) 44 71 (.sipush 206) (74) := ⟨(by decide +kernel : rt_xt 44 71 = none), (by decide +kernel : rt_cd 44 71 = some (.sipush 206)), rfl⟩
theorem i_44_74 {sc : Nat × (Nat → Int32)} {fm : Value} : ri (rt_P sc fm) 44 74 (.if_icmp .ne 13) (77) := ⟨(by decide +kernel : rt_xt 44 74 = none), (by decide +kernel : rt_cd 44 74 = some (.if_icmp .ne 13)), rfl⟩
theorem i_44_87 {sc : Nat × (Nat → Int32)} {fm : Value} : ri (rt_P sc fm) 44 87 (.return_) (88) := ⟨(by decide +kernel : rt_xt 44 87 = none), (by decide +kernel : rt_cd 44 87 = some (.return_)), rfl⟩
theorem r_44 {sc : Nat × (Nat → Int32)} {fm : Value} : rx_rt (rt_P sc fm) 44 = none := (by decide +kernel : rt_rt 44 = none)
theorem i_59_18 {sc : Nat × (Nat → Int32)} {fm : Value} : ri (rt_P sc fm) 59 18 (.aload_n 0) (19) := ⟨(by decide +kernel : rt_xt 59 18 = none), (by decide +kernel : rt_cd 59 18 = some (.aload_n 0)), rfl⟩
theorem i_59_19 {sc : Nat × (Nat → Int32)} {fm : Value} : ri (rt_P sc fm) 59 19 (.getfield 44) (22) := ⟨(by decide +kernel : rt_xt 59 19 = none), (by decide +kernel : rt_cd 59 19 = some (.getfield 44)), rfl⟩
theorem i_59_22 {sc : Nat × (Nat → Int32)} {fm : Value} : ri (rt_P sc fm) 59 22 (.invokevirtual 117) (25) := ⟨(by decide +kernel : rt_xt 59 22 = none), (by decide +kernel : rt_cd 59 22 = some (.invokevirtual 117)), rfl⟩
theorem c_59_117 {sc : Nat × (Nat → Int32)} {fm : Value} : rx_ct (rt_P sc fm) 59 117 = some (0, 45, 0) := (by decide +kernel : rt_ct 59 117 = some (0, 45, 0))
theorem a_10_45 {sc : Nat × (Nat → Int32)} {fm : Value} : rz_cn 10 (rx_yn (rt_P sc fm) 45).cls = true := (by decide +kernel : rz_cn 10 (rt_yn 45).cls = true)
theorem i_45_0 {sc : Nat × (Nat → Int32)} {fm : Value} : ri (rt_P sc fm) 45 0 (.iconst 0) (1) := ⟨(by decide +kernel : rt_xt 45 0 = none), (by decide +kernel : rt_cd 45 0 = some (.iconst 0)), rfl⟩
theorem i_45_1 {sc : Nat × (Nat → Int32)} {fm : Value} : ri (rt_P sc fm) 45 1 (.istore_n 1) (2) := ⟨(by decide +kernel : rt_xt 45 1 = none), (by decide +kernel : rt_cd 45 1 = some (.istore_n 1)), rfl⟩
theorem i_45_2 {sc : Nat × (Nat → Int32)} {fm : Value} : ri (rt_P sc fm) 45 2 (.iload_n 1) (3) := ⟨(by decide +kernel : rt_xt 45 2 = none), (by decide +kernel : rt_cd 45 2 = some (.iload_n 1)), rfl⟩
theorem i_45_3 {sc : Nat × (Nat → Int32)} {fm : Value} : ri (rt_P sc fm) 45 3 (.sipush 4000) (6) := ⟨(by decide +kernel : rt_xt 45 3 = none), (by decide +kernel : rt_cd 45 3 = some (.sipush 4000)), rfl⟩
theorem i_45_6 {sc : Nat × (Nat → Int32)} {fm : Value} : ri (rt_P sc fm) 45 6 (.if_icmp .ge 122) (9) := ⟨(by decide +kernel : rt_xt 45 6 = none), (by decide +kernel : rt_cd 45 6 = some (.if_icmp .ge 122)), rfl⟩
theorem i_45_9 {sc : Nat × (Nat → Int32)} {fm : Value} : ri (rt_P sc fm) 45 9 (.aload_n 0) (10) := ⟨(by decide +kernel : rt_xt 45 9 = none), (by decide +kernel : rt_cd 45 9 = some (.aload_n 0)), rfl⟩
theorem i_45_10 {sc : Nat × (Nat → Int32)} {fm : Value} : ri (rt_P sc fm) 45 10 (.invokevirtual 82) (13) := ⟨(by decide +kernel : rt_xt 45 10 = none), (by decide +kernel : rt_cd 45 10 = some (.invokevirtual 82)), rfl⟩
theorem c_45_82 {sc : Nat × (Nat → Int32)} {fm : Value} : rx_ct (rt_P sc fm) 45 82 = some (0, 43, 0) := (by decide +kernel : rt_ct 45 82 = some (0, 43, 0))
theorem i_45_13 {sc : Nat × (Nat → Int32)} {fm : Value} : ri (rt_P sc fm) 45 13 (.sipush 202) (16) := ⟨(by decide +kernel : rt_xt 45 13 = none), (by decide +kernel : rt_cd 45 13 = some (.sipush 202)), rfl⟩
theorem i_45_16 {sc : Nat × (Nat → Int32)} {fm : Value} : ri (rt_P sc fm) 45 16 (.if_icmp .ne 112) (19) := ⟨(by decide +kernel : rt_xt 45 16 = none), (by decide +kernel : rt_cd 45 16 = some (.if_icmp .ne 112)), rfl⟩
theorem i_45_128 {sc : Nat × (Nat → Int32)} {fm : Value} : ri (rt_P sc fm) 45 128 (.aload_n 0) (129) := ⟨(by decide +kernel : rt_xt 45 128 = none), (by decide +kernel : rt_cd 45 128 = some (.aload_n 0)), rfl⟩
theorem i_45_129 {sc : Nat × (Nat → Int32)} {fm : Value} : ri (rt_P sc fm) 45 129 (.getfield 15) (132) := ⟨(by decide +kernel : rt_xt 45 129 = none), (by decide +kernel : rt_cd 45 129 = some (.getfield 15)), rfl⟩
theorem f_45_15 {sc : Nat × (Nat → Int32)} {fm : Value} : rx_ft (rt_P sc fm) 45 15 = some (10, 1) := (by decide +kernel : rt_ft 45 15 = some (10, 1))
theorem i_45_132 {sc : Nat × (Nat → Int32)} {fm : Value} : ri (rt_P sc fm) 45 132 (.getfield 118) (135) := ⟨(by decide +kernel : rt_xt 45 132 = none), (by decide +kernel : rt_cd 45 132 = some (.getfield 118)), rfl⟩
theorem f_45_118 {sc : Nat × (Nat → Int32)} {fm : Value} : rx_ft (rt_P sc fm) 45 118 = some (9, 10) := (by decide +kernel : rt_ft 45 118 = some (9, 10))
theorem i_45_135 {sc : Nat × (Nat → Int32)} {fm : Value} : ri (rt_P sc fm) 45 135 (.ifCond .eq 10) (138) := ⟨(by decide +kernel : rt_xt 45 135 = none), (by decide +kernel : rt_cd 45 135 = some (.ifCond .eq 10)), rfl⟩
theorem i_45_145 {sc : Nat × (Nat → Int32)} {fm : Value} : ri (rt_P sc fm) 45 145 (.aload_n 0) (146) := ⟨(by decide +kernel : rt_xt 45 145 = none), (by decide +kernel : rt_cd 45 145 = some (.aload_n 0)), rfl⟩
theorem i_45_146 {sc : Nat × (Nat → Int32)} {fm : Value} : ri (rt_P sc fm) 45 146 (.iconst 2) (147) := ⟨(by decide +kernel : rt_xt 45 146 = none), (by decide +kernel : rt_cd 45 146 = some (.iconst 2)), rfl⟩
theorem i_45_147 {sc : Nat × (Nat → Int32)} {fm : Value} : ri (rt_P sc fm) 45 147 (.aload_n 0) (148) := ⟨(by decide +kernel : rt_xt 45 147 = none), (by decide +kernel : rt_cd 45 147 = some (.aload_n 0)), rfl⟩
theorem i_45_148 {sc : Nat × (Nat → Int32)} {fm : Value} : ri (rt_P sc fm) 45 148 (.invokevirtual 79) (151) := ⟨(by decide +kernel : rt_xt 45 148 = none), (by decide +kernel : rt_cd 45 148 = some (.invokevirtual 79)), rfl⟩
theorem c_45_79 {sc : Nat × (Nat → Int32)} {fm : Value} : rx_ct (rt_P sc fm) 45 79 = some (0, 42, 0) := (by decide +kernel : rt_ct 45 79 = some (0, 42, 0))
theorem a_10_42 {sc : Nat × (Nat → Int32)} {fm : Value} : rz_cn 10 (rx_yn (rt_P sc fm) 42).cls = true := (by decide +kernel : rz_cn 10 (rt_yn 42).cls = true)
theorem i_42_0 {sc : Nat × (Nat → Int32)} {fm : Value} : ri (rt_P sc fm) 42 0 (.aload_n 0) (1) := ⟨(by decide +kernel : rt_xt 42 0 = none), (by decide +kernel : rt_cd 42 0 = some (.aload_n 0)), rfl⟩
theorem i_42_1 {sc : Nat × (Nat → Int32)} {fm : Value} : ri (rt_P sc fm) 42 1 (.getfield 9) (4) := ⟨(by decide +kernel : rt_xt 42 1 = none), (by decide +kernel : rt_cd 42 1 = some (.getfield 9)), rfl⟩
theorem f_42_9 {sc : Nat × (Nat → Int32)} {fm : Value} : rx_ft (rt_P sc fm) 42 9 = some (10, 0) := (by decide +kernel : rt_ft 42 9 = some (10, 0))
theorem i_42_4 {sc : Nat × (Nat → Int32)} {fm : Value} : ri (rt_P sc fm) 42 4 (.getfield 72) (7) := ⟨(by decide +kernel : rt_xt 42 4 = none), (by decide +kernel : rt_cd 42 4 = some (.getfield 72)), rfl⟩
theorem f_42_72 {sc : Nat × (Nat → Int32)} {fm : Value} : rx_ft (rt_P sc fm) 42 72 = some (3, 3) := (by decide +kernel : rt_ft 42 72 = some (3, 3))
theorem i_42_7 {sc : Nat × (Nat → Int32)} {fm : Value} : ri (rt_P sc fm) 42 7 (.aload_n 0) (8) := ⟨(by decide +kernel : rt_xt 42 7 = none), (by decide +kernel : rt_cd 42 7 = some (.aload_n 0)), rfl⟩
theorem i_42_8 {sc : Nat × (Nat → Int32)} {fm : Value} : ri (rt_P sc fm) 42 8 (.getfield 49) (11) := ⟨(by decide +kernel : rt_xt 42 8 = none), (by decide +kernel : rt_cd 42 8 = some (.getfield 49)), rfl⟩
theorem f_42_49 {sc : Nat × (Nat → Int32)} {fm : Value} : rx_ft (rt_P sc fm) 42 49 = some (10, 7) := (by decide +kernel : rt_ft 42 49 = some (10, 7))
theorem i_42_11 {sc : Nat × (Nat → Int32)} {fm : Value} : ri (rt_P sc fm) 42 11 (.iaload) (12) := ⟨(by decide +kernel : rt_xt 42 11 = none), (by decide +kernel : rt_cd 42 11 = some (.iaload)), rfl⟩
theorem i_42_12 {sc : Nat × (Nat → Int32)} {fm : Value} : ri (rt_P sc fm) 42 12 (.ireturn) (13) := ⟨(by decide +kernel : rt_xt 42 12 = none), (by decide +kernel : rt_cd 42 12 = some (.ireturn)), rfl⟩
theorem r_42 {sc : Nat × (Nat → Int32)} {fm : Value} : rx_rt (rt_P sc fm) 42 = (some FieldType.int) := (by decide +kernel : rt_rt 42 = (some FieldType.int))
theorem i_45_151 {sc : Nat × (Nat → Int32)} {fm : Value} : ri (rt_P sc fm) 45 151 (.invokevirtual 61) (154) := ⟨(by decide +kernel : rt_xt 45 151 = none), (by decide +kernel : rt_cd 45 151 = some (.invokevirtual 61)), rfl⟩
theorem c_45_61 {sc : Nat × (Nat → Int32)} {fm : Value} : rx_ct (rt_P sc fm) 45 61 = some (0, 41, 2) := (by decide +kernel : rt_ct 45 61 = some (0, 41, 2))
theorem a_10_41 {sc : Nat × (Nat → Int32)} {fm : Value} : rz_cn 10 (rx_yn (rt_P sc fm) 41).cls = true := (by decide +kernel : rz_cn 10 (rt_yn 41).cls = true)
theorem i_41_0 {sc : Nat × (Nat → Int32)} {fm : Value} : ri (rt_P sc fm) 41 0 (.aload_n 0) (1) := ⟨(by decide +kernel : rt_xt 41 0 = none), (by decide +kernel : rt_cd 41 0 = some (.aload_n 0)), rfl⟩
theorem i_41_1 {sc : Nat × (Nat → Int32)} {fm : Value} : ri (rt_P sc fm) 41 1 (.iload_n 1) (2) := ⟨(by decide +kernel : rt_xt 41 1 = none), (by decide +kernel : rt_cd 41 1 = some (.iload_n 1)), rfl⟩
theorem i_41_2 {sc : Nat × (Nat → Int32)} {fm : Value} : ri (rt_P sc fm) 41 2 (.putfield 43) (5) := ⟨(by decide +kernel : rt_xt 41 2 = none), (by decide +kernel : rt_cd 41 2 = some (.putfield 43)), rfl⟩
theorem p_41_43 {sc : Nat × (Nat → Int32)} {fm : Value} : rx_pt (rt_P sc fm) 41 43 = some (10, 4, .int) := (by decide +kernel : rt_pt 41 43 = some (10, 4, .int))
theorem i_41_5 {sc : Nat × (Nat → Int32)} {fm : Value} : ri (rt_P sc fm) 41 5 (.aload_n 0) (6) := ⟨(by decide +kernel : rt_xt 41 5 = none), (by decide +kernel : rt_cd 41 5 = some (.aload_n 0)), rfl⟩
theorem i_41_6 {sc : Nat × (Nat → Int32)} {fm : Value} : ri (rt_P sc fm) 41 6 (.iload_n 2) (7) := ⟨(by decide +kernel : rt_xt 41 6 = none), (by decide +kernel : rt_cd 41 6 = some (.iload_n 2)), rfl⟩
theorem i_41_7 {sc : Nat × (Nat → Int32)} {fm : Value} : ri (rt_P sc fm) 41 7 (.putfield 46) (10) := ⟨(by decide +kernel : rt_xt 41 7 = none), (by decide +kernel : rt_cd 41 7 = some (.putfield 46)), rfl⟩
theorem p_41_46 {sc : Nat × (Nat → Int32)} {fm : Value} : rx_pt (rt_P sc fm) 41 46 = some (10, 5, .int) := (by decide +kernel : rt_pt 41 46 = some (10, 5, .int))
theorem x_41_10 {sc : Nat × (Nat → Int32)} {fm : Value} : rx_xt (rt_P sc fm) 41 10 = some ("java/lang/IllegalArgumentException", 5, 82) := (by decide +kernel : rt_xt 41 10 = some ("java/lang/IllegalArgumentException", 5, 82))
theorem h0_45_151_34 {sc : Nat × (Nat → Int32)} {fm : Value} : rx_ht (rt_P sc fm) 45 151 "java/lang/IllegalArgumentException" = none := (by decide +kernel : rt_ht 45 151 "java/lang/IllegalArgumentException" = none)
theorem hh_45 {sc : Nat × (Nat → Int32)} {fm : Value} : rx_hh (rt_P sc fm) 45 = [] := (by decide +kernel : rt_hh 45 = [])
theorem h0_59_22_34 {sc : Nat × (Nat → Int32)} {fm : Value} : rx_ht (rt_P sc fm) 59 22 "java/lang/IllegalArgumentException" = none := (by decide +kernel : rt_ht 59 22 "java/lang/IllegalArgumentException" = none)
theorem hh_59 {sc : Nat × (Nat → Int32)} {fm : Value} : rx_hh (rt_P sc fm) 59 = [] := (by decide +kernel : rt_hh 59 = [])
theorem h_16_3_34 {sc : Nat × (Nat → Int32)} {fm : Value} : rx_ht (rt_P sc fm) 16 3 "java/lang/IllegalArgumentException" = some (11, 2) := (by decide +kernel : rt_ht 16 3 "java/lang/IllegalArgumentException" = some (11, 2))
theorem i_16_12 {sc : Nat × (Nat → Int32)} {fm : Value} : ri (rt_P sc fm) 16 12 (.iconst 1) (13) := ⟨(by decide +kernel : rt_xt 16 12 = none), (by decide +kernel : rt_cd 16 12 = some (.iconst 1)), rfl⟩
theorem i_16_13 {sc : Nat × (Nat → Int32)} {fm : Value} : ri (rt_P sc fm) 16 13 (.ireturn) (14) := ⟨(by decide +kernel : rt_xt 16 13 = none), (by decide +kernel : rt_cd 16 13 = some (.ireturn)), rfl⟩
theorem r_16 {sc : Nat × (Nat → Int32)} {fm : Value} : rx_rt (rt_P sc fm) 16 = (some FieldType.int) := (by decide +kernel : rt_rt 16 = (some FieldType.int))
theorem i_0_316 {sc : Nat × (Nat → Int32)} {fm : Value} : ri (rt_P sc fm) 0 316 (.istore 5) (318) := ⟨(by decide +kernel : rt_xt 0 316 = none), (by decide +kernel : rt_cd 0 316 = some (.istore 5)), rfl⟩
theorem i_0_318 {sc : Nat × (Nat → Int32)} {fm : Value} : ri (rt_P sc fm) 0 318 (.aload_n 2) (319) := ⟨(by decide +kernel : rt_xt 0 318 = none), (by decide +kernel : rt_cd 0 318 = some (.aload_n 2)), rfl⟩
theorem i_0_319 {sc : Nat × (Nat → Int32)} {fm : Value} : ri (rt_P sc fm) 0 319 (.invokevirtual 49) (322) := ⟨(by decide +kernel : rt_xt 0 319 = none), (by decide +kernel : rt_cd 0 319 = some (.invokevirtual 49)), rfl⟩
theorem c_0_49 {sc : Nat × (Nat → Int32)} {fm : Value} : rx_ct (rt_P sc fm) 0 49 = some (0, 106, 0) := (by decide +kernel : rt_ct 0 49 = some (0, 106, 0))
theorem a_15_106 {sc : Nat × (Nat → Int32)} {fm : Value} : rz_cn 15 (rx_yn (rt_P sc fm) 106).cls = true := (by decide +kernel : rz_cn 15 (rt_yn 106).cls = true)
theorem i_106_0 {sc : Nat × (Nat → Int32)} {fm : Value} : ri (rt_P sc fm) 106 0 (.aload_n 0) (1) := ⟨(by decide +kernel : rt_xt 106 0 = none), (by decide +kernel : rt_cd 106 0 = some (.aload_n 0)), rfl⟩
theorem i_106_1 {sc : Nat × (Nat → Int32)} {fm : Value} : ri (rt_P sc fm) 106 1 (.getfield 359) (4) := ⟨(by decide +kernel : rt_xt 106 1 = none), (by decide +kernel : rt_cd 106 1 = some (.getfield 359)), rfl⟩
theorem f_106_359 {sc : Nat × (Nat → Int32)} {fm : Value} : rx_ft (rt_P sc fm) 106 359 = some (15, 2) := (by decide +kernel : rt_ft 106 359 = some (15, 2))
theorem i_106_4 {sc : Nat × (Nat → Int32)} {fm : Value} : ri (rt_P sc fm) 106 4 (.istore_n 1) (5) := ⟨(by decide +kernel : rt_xt 106 4 = none), (by decide +kernel : rt_cd 106 4 = some (.istore_n 1)), rfl⟩
theorem i_106_5 {sc : Nat × (Nat → Int32)} {fm : Value} : ri (rt_P sc fm) 106 5 (.aload_n 0) (6) := ⟨(by decide +kernel : rt_xt 106 5 = none), (by decide +kernel : rt_cd 106 5 = some (.aload_n 0)), rfl⟩
theorem i_106_6 {sc : Nat × (Nat → Int32)} {fm : Value} : ri (rt_P sc fm) 106 6 (.iconst 0) (7) := ⟨(by decide +kernel : rt_xt 106 6 = none), (by decide +kernel : rt_cd 106 6 = some (.iconst 0)), rfl⟩
theorem i_106_7 {sc : Nat × (Nat → Int32)} {fm : Value} : ri (rt_P sc fm) 106 7 (.putfield 359) (10) := ⟨(by decide +kernel : rt_xt 106 7 = none), (by decide +kernel : rt_cd 106 7 = some (.putfield 359)), rfl⟩
theorem p_106_359 {sc : Nat × (Nat → Int32)} {fm : Value} : rx_pt (rt_P sc fm) 106 359 = some (15, 2, .int) := (by decide +kernel : rt_pt 106 359 = some (15, 2, .int))
theorem i_106_10 {sc : Nat × (Nat → Int32)} {fm : Value} : ri (rt_P sc fm) 106 10 (.aload_n 0) (11) := ⟨(by decide +kernel : rt_xt 106 10 = none), (by decide +kernel : rt_cd 106 10 = some (.aload_n 0)), rfl⟩
theorem i_106_11 {sc : Nat × (Nat → Int32)} {fm : Value} : ri (rt_P sc fm) 106 11 (.iconst 0) (12) := ⟨(by decide +kernel : rt_xt 106 11 = none), (by decide +kernel : rt_cd 106 11 = some (.iconst 0)), rfl⟩
theorem i_106_12 {sc : Nat × (Nat → Int32)} {fm : Value} : ri (rt_P sc fm) 106 12 (.putfield 409) (15) := ⟨(by decide +kernel : rt_xt 106 12 = none), (by decide +kernel : rt_cd 106 12 = some (.putfield 409)), rfl⟩
theorem p_106_409 {sc : Nat × (Nat → Int32)} {fm : Value} : rx_pt (rt_P sc fm) 106 409 = some (15, 13, .boolean) := (by decide +kernel : rt_pt 106 409 = some (15, 13, .boolean))
theorem i_106_15 {sc : Nat × (Nat → Int32)} {fm : Value} : ri (rt_P sc fm) 106 15 (.aload_n 0) (16) := ⟨(by decide +kernel : rt_xt 106 15 = none), (by decide +kernel : rt_cd 106 15 = some (.aload_n 0)), rfl⟩
theorem i_106_16 {sc : Nat × (Nat → Int32)} {fm : Value} : ri (rt_P sc fm) 106 16 (.iconst 0) (17) := ⟨(by decide +kernel : rt_xt 106 16 = none), (by decide +kernel : rt_cd 106 16 = some (.iconst 0)), rfl⟩
theorem i_106_17 {sc : Nat × (Nat → Int32)} {fm : Value} : ri (rt_P sc fm) 106 17 (.putfield 412) (20) := ⟨(by decide +kernel : rt_xt 106 17 = none), (by decide +kernel : rt_cd 106 17 = some (.putfield 412)), rfl⟩
theorem p_106_412 {sc : Nat × (Nat → Int32)} {fm : Value} : rx_pt (rt_P sc fm) 106 412 = some (15, 11, .int) := (by decide +kernel : rt_pt 106 412 = some (15, 11, .int))
theorem i_106_20 {sc : Nat × (Nat → Int32)} {fm : Value} : ri (rt_P sc fm) 106 20 (.aload_n 0) (21) := ⟨(by decide +kernel : rt_xt 106 20 = none), (by decide +kernel : rt_cd 106 20 = some (.aload_n 0)), rfl⟩
theorem i_106_21 {sc : Nat × (Nat → Int32)} {fm : Value} : ri (rt_P sc fm) 106 21 (.iconst 0) (22) := ⟨(by decide +kernel : rt_xt 106 21 = none), (by decide +kernel : rt_cd 106 21 = some (.iconst 0)), rfl⟩
theorem i_106_22 {sc : Nat × (Nat → Int32)} {fm : Value} : ri (rt_P sc fm) 106 22 (.putfield 415) (25) := ⟨(by decide +kernel : rt_xt 106 22 = none), (by decide +kernel : rt_cd 106 22 = some (.putfield 415)), rfl⟩
theorem p_106_415 {sc : Nat × (Nat → Int32)} {fm : Value} : rx_pt (rt_P sc fm) 106 415 = some (15, 12, .int) := (by decide +kernel : rt_pt 106 415 = some (15, 12, .int))
theorem i_106_25 {sc : Nat × (Nat → Int32)} {fm : Value} : ri (rt_P sc fm) 106 25 (.aload_n 0) (26) := ⟨(by decide +kernel : rt_xt 106 25 = none), (by decide +kernel : rt_cd 106 25 = some (.aload_n 0)), rfl⟩
theorem i_106_26 {sc : Nat × (Nat → Int32)} {fm : Value} : ri (rt_P sc fm) 106 26 (.iconst 0) (27) := ⟨(by decide +kernel : rt_xt 106 26 = none), (by decide +kernel : rt_cd 106 26 = some (.iconst 0)), rfl⟩
theorem i_106_27 {sc : Nat × (Nat → Int32)} {fm : Value} : ri (rt_P sc fm) 106 27 (.putfield 634) (30) := ⟨(by decide +kernel : rt_xt 106 27 = none), (by decide +kernel : rt_cd 106 27 = some (.putfield 634)), rfl⟩
theorem p_106_634 {sc : Nat × (Nat → Int32)} {fm : Value} : rx_pt (rt_P sc fm) 106 634 = some (15, 14, .boolean) := (by decide +kernel : rt_pt 106 634 = some (15, 14, .boolean))
theorem i_106_30 {sc : Nat × (Nat → Int32)} {fm : Value} : ri (rt_P sc fm) 106 30 (.aload_n 0) (31) := ⟨(by decide +kernel : rt_xt 106 30 = none), (by decide +kernel : rt_cd 106 30 = some (.aload_n 0)), rfl⟩
theorem i_106_31 {sc : Nat × (Nat → Int32)} {fm : Value} : ri (rt_P sc fm) 106 31 (.invokevirtual 637) (34) := ⟨(by decide +kernel : rt_xt 106 31 = none), (by decide +kernel : rt_cd 106 31 = some (.invokevirtual 637)), rfl⟩
theorem c_106_637 {sc : Nat × (Nat → Int32)} {fm : Value} : rx_ct (rt_P sc fm) 106 637 = some (0, 133, 0) := (by decide +kernel : rt_ct 106 637 = some (0, 133, 0))
theorem a_15_133 {sc : Nat × (Nat → Int32)} {fm : Value} : rz_cn 15 (rx_yn (rt_P sc fm) 133).cls = true := (by decide +kernel : rz_cn 15 (rt_yn 133).cls = true)
theorem i_133_0 {sc : Nat × (Nat → Int32)} {fm : Value} : ri (rt_P sc fm) 133 0 (.aload_n 0) (1) := ⟨(by decide +kernel : rt_xt 133 0 = none), (by decide +kernel : rt_cd 133 0 = some (.aload_n 0)), rfl⟩
theorem i_133_1 {sc : Nat × (Nat → Int32)} {fm : Value} : ri (rt_P sc fm) 133 1 (.iconst 0) (2) := ⟨(by decide +kernel : rt_xt 133 1 = none), (by decide +kernel : rt_cd 133 1 = some (.iconst 0)), rfl⟩
theorem i_133_2 {sc : Nat × (Nat → Int32)} {fm : Value} : ri (rt_P sc fm) 133 2 (.putfield 894) (5) := ⟨(by decide +kernel : rt_xt 133 2 = none), (by decide +kernel : rt_cd 133 2 = some (.putfield 894)), rfl⟩
theorem p_133_894 {sc : Nat × (Nat → Int32)} {fm : Value} : rx_pt (rt_P sc fm) 133 894 = some (15, 106, .boolean) := (by decide +kernel : rt_pt 133 894 = some (15, 106, .boolean))
theorem i_133_5 {sc : Nat × (Nat → Int32)} {fm : Value} : ri (rt_P sc fm) 133 5 (.aload_n 0) (6) := ⟨(by decide +kernel : rt_xt 133 5 = none), (by decide +kernel : rt_cd 133 5 = some (.aload_n 0)), rfl⟩
theorem i_133_6 {sc : Nat × (Nat → Int32)} {fm : Value} : ri (rt_P sc fm) 133 6 (.iconst 0) (7) := ⟨(by decide +kernel : rt_xt 133 6 = none), (by decide +kernel : rt_cd 133 6 = some (.iconst 0)), rfl⟩
theorem i_133_7 {sc : Nat × (Nat → Int32)} {fm : Value} : ri (rt_P sc fm) 133 7 (.putfield 897) (10) := ⟨(by decide +kernel : rt_xt 133 7 = none), (by decide +kernel : rt_cd 133 7 = some (.putfield 897)), rfl⟩
theorem p_133_897 {sc : Nat × (Nat → Int32)} {fm : Value} : rx_pt (rt_P sc fm) 133 897 = some (15, 111, .int) := (by decide +kernel : rt_pt 133 897 = some (15, 111, .int))
theorem i_133_10 {sc : Nat × (Nat → Int32)} {fm : Value} : ri (rt_P sc fm) 133 10 (.aload_n 0) (11) := ⟨(by decide +kernel : rt_xt 133 10 = none), (by decide +kernel : rt_cd 133 10 = some (.aload_n 0)), rfl⟩
theorem i_133_11 {sc : Nat × (Nat → Int32)} {fm : Value} : ri (rt_P sc fm) 133 11 (.iconst (-1)) (12) := ⟨(by decide +kernel : rt_xt 133 11 = none), (by decide +kernel : rt_cd 133 11 = some (.iconst (-1))), rfl⟩
theorem i_133_12 {sc : Nat × (Nat → Int32)} {fm : Value} : ri (rt_P sc fm) 133 12 (.putfield 292) (15) := ⟨(by decide +kernel : rt_xt 133 12 = none), (by decide +kernel : rt_cd 133 12 = some (.putfield 292)), rfl⟩
theorem p_133_292 {sc : Nat × (Nat → Int32)} {fm : Value} : rx_pt (rt_P sc fm) 133 292 = some (15, 97, .int) := (by decide +kernel : rt_pt 133 292 = some (15, 97, .int))
theorem i_133_15 {sc : Nat × (Nat → Int32)} {fm : Value} : ri (rt_P sc fm) 133 15 (.aload_n 0) (16) := ⟨(by decide +kernel : rt_xt 133 15 = none), (by decide +kernel : rt_cd 133 15 = some (.aload_n 0)), rfl⟩
theorem i_133_16 {sc : Nat × (Nat → Int32)} {fm : Value} : ri (rt_P sc fm) 133 16 (.iconst 0) (17) := ⟨(by decide +kernel : rt_xt 133 16 = none), (by decide +kernel : rt_cd 133 16 = some (.iconst 0)), rfl⟩
theorem i_133_17 {sc : Nat × (Nat → Int32)} {fm : Value} : ri (rt_P sc fm) 133 17 (.putfield 874) (20) := ⟨(by decide +kernel : rt_xt 133 17 = none), (by decide +kernel : rt_cd 133 17 = some (.putfield 874)), rfl⟩
theorem p_133_874 {sc : Nat × (Nat → Int32)} {fm : Value} : rx_pt (rt_P sc fm) 133 874 = some (15, 102, .int) := (by decide +kernel : rt_pt 133 874 = some (15, 102, .int))
theorem i_133_20 {sc : Nat × (Nat → Int32)} {fm : Value} : ri (rt_P sc fm) 133 20 (.aload_n 0) (21) := ⟨(by decide +kernel : rt_xt 133 20 = none), (by decide +kernel : rt_cd 133 20 = some (.aload_n 0)), rfl⟩
theorem i_133_21 {sc : Nat × (Nat → Int32)} {fm : Value} : ri (rt_P sc fm) 133 21 (.iconst 0) (22) := ⟨(by decide +kernel : rt_xt 133 21 = none), (by decide +kernel : rt_cd 133 21 = some (.iconst 0)), rfl⟩
theorem i_133_22 {sc : Nat × (Nat → Int32)} {fm : Value} : ri (rt_P sc fm) 133 22 (.putfield 900) (25) := ⟨(by decide +kernel : rt_xt 133 22 = none), (by decide +kernel : rt_cd 133 22 = some (.putfield 900)), rfl⟩
theorem p_133_900 {sc : Nat × (Nat → Int32)} {fm : Value} : rx_pt (rt_P sc fm) 133 900 = some (15, 130, .boolean) := (by decide +kernel : rt_pt 133 900 = some (15, 130, .boolean))
theorem i_133_25 {sc : Nat × (Nat → Int32)} {fm : Value} : ri (rt_P sc fm) 133 25 (.return_) (26) := ⟨(by decide +kernel : rt_xt 133 25 = none), (by decide +kernel : rt_cd 133 25 = some (.return_)), rfl⟩
theorem r_133 {sc : Nat × (Nat → Int32)} {fm : Value} : rx_rt (rt_P sc fm) 133 = none := (by decide +kernel : rt_rt 133 = none)
theorem i_106_34 {sc : Nat × (Nat → Int32)} {fm : Value} : ri (rt_P sc fm) 106 34 (.aload_n 0) (35) := ⟨(by decide +kernel : rt_xt 106 34 = none), (by decide +kernel : rt_cd 106 34 = some (.aload_n 0)), rfl⟩
theorem i_106_35 {sc : Nat × (Nat → Int32)} {fm : Value} : ri (rt_P sc fm) 106 35 (.iload_n 1) (36) := ⟨(by decide +kernel : rt_xt 106 35 = none), (by decide +kernel : rt_cd 106 35 = some (.iload_n 1)), rfl⟩
theorem i_106_36 {sc : Nat × (Nat → Int32)} {fm : Value} : ri (rt_P sc fm) 106 36 (.invokevirtual 640) (39) := ⟨(by decide +kernel : rt_xt 106 36 = none), (by decide +kernel : rt_cd 106 36 = some (.invokevirtual 640)), rfl⟩
theorem c_106_640 {sc : Nat × (Nat → Int32)} {fm : Value} : rx_ct (rt_P sc fm) 106 640 = some (0, 99, 1) := (by decide +kernel : rt_ct 106 640 = some (0, 99, 1))
theorem a_15_99 {sc : Nat × (Nat → Int32)} {fm : Value} : rz_cn 15 (rx_yn (rt_P sc fm) 99).cls = true := (by decide +kernel : rz_cn 15 (rt_yn 99).cls = true)
theorem i_99_0 {sc : Nat × (Nat → Int32)} {fm : Value} : ri (rt_P sc fm) 99 0 (.aload_n 0) (1) := ⟨(by decide +kernel : rt_xt 99 0 = none), (by decide +kernel : rt_cd 99 0 = some (.aload_n 0)), rfl⟩
theorem i_99_1 {sc : Nat × (Nat → Int32)} {fm : Value} : ri (rt_P sc fm) 99 1 (.iconst 0) (2) := ⟨(by decide +kernel : rt_xt 99 1 = none), (by decide +kernel : rt_cd 99 1 = some (.iconst 0)), rfl⟩
theorem i_99_2 {sc : Nat × (Nat → Int32)} {fm : Value} : ri (rt_P sc fm) 99 2 (.putfield 418) (5) := ⟨(by decide +kernel : rt_xt 99 2 = none), (by decide +kernel : rt_cd 99 2 = some (.putfield 418)), rfl⟩
theorem p_99_418 {sc : Nat × (Nat → Int32)} {fm : Value} : rx_pt (rt_P sc fm) 99 418 = some (15, 7, .int) := (by decide +kernel : rt_pt 99 418 = some (15, 7, .int))
theorem i_99_5 {sc : Nat × (Nat → Int32)} {fm : Value} : ri (rt_P sc fm) 99 5 (.iconst 0) (6) := ⟨(by decide +kernel : rt_xt 99 5 = none), (by decide +kernel : rt_cd 99 5 = some (.iconst 0)), rfl⟩
theorem i_99_6 {sc : Nat × (Nat → Int32)} {fm : Value} : ri (rt_P sc fm) 99 6 (.istore_n 2) (7) := ⟨(by decide +kernel : rt_xt 99 6 = none), (by decide +kernel : rt_cd 99 6 = some (.istore_n 2)), rfl⟩
theorem i_99_7 {sc : Nat × (Nat → Int32)} {fm : Value} : ri (rt_P sc fm) 99 7 (.iload_n 2) (8) := ⟨(by decide +kernel : rt_xt 99 7 = none), (by decide +kernel : rt_cd 99 7 = some (.iload_n 2)), rfl⟩
theorem i_99_8 {sc : Nat × (Nat → Int32)} {fm : Value} : ri (rt_P sc fm) 99 8 (.iload_n 1) (9) := ⟨(by decide +kernel : rt_xt 99 8 = none), (by decide +kernel : rt_cd 99 8 = some (.iload_n 1)), rfl⟩
theorem i_99_9 {sc : Nat × (Nat → Int32)} {fm : Value} : ri (rt_P sc fm) 99 9 (.if_icmp .ge 410) (12) := ⟨(by decide +kernel : rt_xt 99 9 = none), (by decide +kernel : rt_cd 99 9 = some (.if_icmp .ge 410)), rfl⟩
theorem i_99_419 {sc : Nat × (Nat → Int32)} {fm : Value} : ri (rt_P sc fm) 99 419 (.aload_n 0) (420) := ⟨(by decide +kernel : rt_xt 99 419 = none), (by decide +kernel : rt_cd 99 419 = some (.aload_n 0)), rfl⟩
theorem i_99_420 {sc : Nat × (Nat → Int32)} {fm : Value} : ri (rt_P sc fm) 99 420 (.iconst 5) (421) := ⟨(by decide +kernel : rt_xt 99 420 = none), (by decide +kernel : rt_cd 99 420 = some (.iconst 5)), rfl⟩
theorem i_99_421 {sc : Nat × (Nat → Int32)} {fm : Value} : ri (rt_P sc fm) 99 421 (.iload_n 1) (422) := ⟨(by decide +kernel : rt_xt 99 421 = none), (by decide +kernel : rt_cd 99 421 = some (.iload_n 1)), rfl⟩
theorem i_99_422 {sc : Nat × (Nat → Int32)} {fm : Value} : ri (rt_P sc fm) 99 422 (.lconst 0) (423) := ⟨(by decide +kernel : rt_xt 99 422 = none), (by decide +kernel : rt_cd 99 422 = some (.lconst 0)), rfl⟩
theorem i_99_423 {sc : Nat × (Nat → Int32)} {fm : Value} : ri (rt_P sc fm) 99 423 (.invokevirtual 440) (426) := ⟨(by decide +kernel : rt_xt 99 423 = none), (by decide +kernel : rt_cd 99 423 = some (.invokevirtual 440)), rfl⟩
theorem c_99_440 {sc : Nat × (Nat → Int32)} {fm : Value} : rx_ct (rt_P sc fm) 99 440 = some (0, 98, 3) := (by decide +kernel : rt_ct 99 440 = some (0, 98, 3))
theorem a_15_98 {sc : Nat × (Nat → Int32)} {fm : Value} : rz_cn 15 (rx_yn (rt_P sc fm) 98).cls = true := (by decide +kernel : rz_cn 15 (rt_yn 98).cls = true)
theorem i_98_0 {sc : Nat × (Nat → Int32)} {fm : Value} : ri (rt_P sc fm) 98 0 (.aload_n 0) (1) := ⟨(by decide +kernel : rt_xt 98 0 = none), (by decide +kernel : rt_cd 98 0 = some (.aload_n 0)), rfl⟩
theorem i_98_1 {sc : Nat × (Nat → Int32)} {fm : Value} : ri (rt_P sc fm) 98 1 (.getfield 84) (4) := ⟨(by decide +kernel : rt_xt 98 1 = none), (by decide +kernel : rt_cd 98 1 = some (.getfield 84)), rfl⟩
theorem f_98_84 {sc : Nat × (Nat → Int32)} {fm : Value} : rx_ft (rt_P sc fm) 98 84 = some (15, 8) := (by decide +kernel : rt_ft 98 84 = some (15, 8))
theorem i_98_4 {sc : Nat × (Nat → Int32)} {fm : Value} : ri (rt_P sc fm) 98 4 (.aload_n 0) (5) := ⟨(by decide +kernel : rt_xt 98 4 = none), (by decide +kernel : rt_cd 98 4 = some (.aload_n 0)), rfl⟩
theorem i_98_5 {sc : Nat × (Nat → Int32)} {fm : Value} : ri (rt_P sc fm) 98 5 (.getfield 418) (8) := ⟨(by decide +kernel : rt_xt 98 5 = none), (by decide +kernel : rt_cd 98 5 = some (.getfield 418)), rfl⟩
theorem f_98_418 {sc : Nat × (Nat → Int32)} {fm : Value} : rx_ft (rt_P sc fm) 98 418 = some (15, 7) := (by decide +kernel : rt_ft 98 418 = some (15, 7))
theorem i_98_8 {sc : Nat × (Nat → Int32)} {fm : Value} : ri (rt_P sc fm) 98 8 (.iload_n 1) (9) := ⟨(by decide +kernel : rt_xt 98 8 = none), (by decide +kernel : rt_cd 98 8 = some (.iload_n 1)), rfl⟩
theorem i_98_9 {sc : Nat × (Nat → Int32)} {fm : Value} : ri (rt_P sc fm) 98 9 (.iastore) (10) := ⟨(by decide +kernel : rt_xt 98 9 = none), (by decide +kernel : rt_cd 98 9 = some (.iastore)), rfl⟩
theorem i_98_10 {sc : Nat × (Nat → Int32)} {fm : Value} : ri (rt_P sc fm) 98 10 (.aload_n 0) (11) := ⟨(by decide +kernel : rt_xt 98 10 = none), (by decide +kernel : rt_cd 98 10 = some (.aload_n 0)), rfl⟩
theorem i_98_11 {sc : Nat × (Nat → Int32)} {fm : Value} : ri (rt_P sc fm) 98 11 (.getfield 87) (14) := ⟨(by decide +kernel : rt_xt 98 11 = none), (by decide +kernel : rt_cd 98 11 = some (.getfield 87)), rfl⟩
theorem f_98_87 {sc : Nat × (Nat → Int32)} {fm : Value} : rx_ft (rt_P sc fm) 98 87 = some (15, 9) := (by decide +kernel : rt_ft 98 87 = some (15, 9))
theorem i_98_14 {sc : Nat × (Nat → Int32)} {fm : Value} : ri (rt_P sc fm) 98 14 (.aload_n 0) (15) := ⟨(by decide +kernel : rt_xt 98 14 = none), (by decide +kernel : rt_cd 98 14 = some (.aload_n 0)), rfl⟩
theorem i_98_15 {sc : Nat × (Nat → Int32)} {fm : Value} : ri (rt_P sc fm) 98 15 (.getfield 418) (18) := ⟨(by decide +kernel : rt_xt 98 15 = none), (by decide +kernel : rt_cd 98 15 = some (.getfield 418)), rfl⟩
theorem i_98_18 {sc : Nat × (Nat → Int32)} {fm : Value} : ri (rt_P sc fm) 98 18 (.iload_n 2) (19) := ⟨(by decide +kernel : rt_xt 98 18 = none), (by decide +kernel : rt_cd 98 18 = some (.iload_n 2)), rfl⟩
theorem i_98_19 {sc : Nat × (Nat → Int32)} {fm : Value} : ri (rt_P sc fm) 98 19 (.iastore) (20) := ⟨(by decide +kernel : rt_xt 98 19 = none), (by decide +kernel : rt_cd 98 19 = some (.iastore)), rfl⟩
theorem i_98_20 {sc : Nat × (Nat → Int32)} {fm : Value} : ri (rt_P sc fm) 98 20 (.aload_n 0) (21) := ⟨(by decide +kernel : rt_xt 98 20 = none), (by decide +kernel : rt_cd 98 20 = some (.aload_n 0)), rfl⟩
theorem i_98_21 {sc : Nat × (Nat → Int32)} {fm : Value} : ri (rt_P sc fm) 98 21 (.getfield 90) (24) := ⟨(by decide +kernel : rt_xt 98 21 = none), (by decide +kernel : rt_cd 98 21 = some (.getfield 90)), rfl⟩
theorem f_98_90 {sc : Nat × (Nat → Int32)} {fm : Value} : rx_ft (rt_P sc fm) 98 90 = some (15, 10) := (by decide +kernel : rt_ft 98 90 = some (15, 10))
theorem i_98_24 {sc : Nat × (Nat → Int32)} {fm : Value} : ri (rt_P sc fm) 98 24 (.aload_n 0) (25) := ⟨(by decide +kernel : rt_xt 98 24 = none), (by decide +kernel : rt_cd 98 24 = some (.aload_n 0)), rfl⟩
theorem i_98_25 {sc : Nat × (Nat → Int32)} {fm : Value} : ri (rt_P sc fm) 98 25 (.getfield 418) (28) := ⟨(by decide +kernel : rt_xt 98 25 = none), (by decide +kernel : rt_cd 98 25 = some (.getfield 418)), rfl⟩
theorem i_98_28 {sc : Nat × (Nat → Int32)} {fm : Value} : ri (rt_P sc fm) 98 28 (.lload_n 3) (29) := ⟨(by decide +kernel : rt_xt 98 28 = none), (by decide +kernel : rt_cd 98 28 = some (.lload_n 3)), rfl⟩
theorem i_98_29 {sc : Nat × (Nat → Int32)} {fm : Value} : ri (rt_P sc fm) 98 29 (.lastore) (30) := ⟨(by decide +kernel : rt_xt 98 29 = none), (by decide +kernel : rt_cd 98 29 = some (.lastore)), rfl⟩
theorem i_98_30 {sc : Nat × (Nat → Int32)} {fm : Value} : ri (rt_P sc fm) 98 30 (.aload_n 0) (31) := ⟨(by decide +kernel : rt_xt 98 30 = none), (by decide +kernel : rt_cd 98 30 = some (.aload_n 0)), rfl⟩
theorem i_98_31 {sc : Nat × (Nat → Int32)} {fm : Value} : ri (rt_P sc fm) 98 31 (.dup) (32) := ⟨(by decide +kernel : rt_xt 98 31 = none), (by decide +kernel : rt_cd 98 31 = some (.dup)), rfl⟩
theorem i_98_32 {sc : Nat × (Nat → Int32)} {fm : Value} : ri (rt_P sc fm) 98 32 (.getfield 418) (35) := ⟨(by decide +kernel : rt_xt 98 32 = none), (by decide +kernel : rt_cd 98 32 = some (.getfield 418)), rfl⟩
theorem i_98_35 {sc : Nat × (Nat → Int32)} {fm : Value} : ri (rt_P sc fm) 98 35 (.iconst 1) (36) := ⟨(by decide +kernel : rt_xt 98 35 = none), (by decide +kernel : rt_cd 98 35 = some (.iconst 1)), rfl⟩
theorem i_98_36 {sc : Nat × (Nat → Int32)} {fm : Value} : ri (rt_P sc fm) 98 36 (.iadd) (37) := ⟨(by decide +kernel : rt_xt 98 36 = none), (by decide +kernel : rt_cd 98 36 = some (.iadd)), rfl⟩
theorem i_98_37 {sc : Nat × (Nat → Int32)} {fm : Value} : ri (rt_P sc fm) 98 37 (.putfield 418) (40) := ⟨(by decide +kernel : rt_xt 98 37 = none), (by decide +kernel : rt_cd 98 37 = some (.putfield 418)), rfl⟩
theorem p_98_418 {sc : Nat × (Nat → Int32)} {fm : Value} : rx_pt (rt_P sc fm) 98 418 = some (15, 7, .int) := (by decide +kernel : rt_pt 98 418 = some (15, 7, .int))
theorem i_98_40 {sc : Nat × (Nat → Int32)} {fm : Value} : ri (rt_P sc fm) 98 40 (.return_) (41) := ⟨(by decide +kernel : rt_xt 98 40 = none), (by decide +kernel : rt_cd 98 40 = some (.return_)), rfl⟩
theorem r_98 {sc : Nat × (Nat → Int32)} {fm : Value} : rx_rt (rt_P sc fm) 98 = none := (by decide +kernel : rt_rt 98 = none)
theorem i_99_426 {sc : Nat × (Nat → Int32)} {fm : Value} : ri (rt_P sc fm) 99 426 (.return_) (427) := ⟨(by decide +kernel : rt_xt 99 426 = none), (by decide +kernel : rt_cd 99 426 = some (.return_)), rfl⟩
theorem r_99 {sc : Nat × (Nat → Int32)} {fm : Value} : rx_rt (rt_P sc fm) 99 = none := (by decide +kernel : rt_rt 99 = none)
theorem i_106_39 {sc : Nat × (Nat → Int32)} {fm : Value} : ri (rt_P sc fm) 106 39 (.aload_n 0) (40) := ⟨(by decide +kernel : rt_xt 106 39 = none), (by decide +kernel : rt_cd 106 39 = some (.aload_n 0)), rfl⟩
theorem i_106_40 {sc : Nat × (Nat → Int32)} {fm : Value} : ri (rt_P sc fm) 106 40 (.getfield 409) (43) := ⟨(by decide +kernel : rt_xt 106 40 = none), (by decide +kernel : rt_cd 106 40 = some (.getfield 409)), rfl⟩
theorem f_106_409 {sc : Nat × (Nat → Int32)} {fm : Value} : rx_ft (rt_P sc fm) 106 409 = some (15, 13) := (by decide +kernel : rt_ft 106 409 = some (15, 13))
theorem i_106_43 {sc : Nat × (Nat → Int32)} {fm : Value} : ri (rt_P sc fm) 106 43 (.ifCond .ne 7) (46) := ⟨(by decide +kernel : rt_xt 106 43 = none), (by decide +kernel : rt_cd 106 43 = some (.ifCond .ne 7)), rfl⟩
theorem i_106_46 {sc : Nat × (Nat → Int32)} {fm : Value} : ri (rt_P sc fm) 106 46 (.aload_n 0) (47) := ⟨(by decide +kernel : rt_xt 106 46 = none), (by decide +kernel : rt_cd 106 46 = some (.aload_n 0)), rfl⟩
theorem i_106_47 {sc : Nat × (Nat → Int32)} {fm : Value} : ri (rt_P sc fm) 106 47 (.invokevirtual 643) (50) := ⟨(by decide +kernel : rt_xt 106 47 = none), (by decide +kernel : rt_cd 106 47 = some (.invokevirtual 643)), rfl⟩
theorem c_106_643 {sc : Nat × (Nat → Int32)} {fm : Value} : rx_ct (rt_P sc fm) 106 643 = some (0, 104, 0) := (by decide +kernel : rt_ct 106 643 = some (0, 104, 0))
theorem a_15_104 {sc : Nat × (Nat → Int32)} {fm : Value} : rz_cn 15 (rx_yn (rt_P sc fm) 104).cls = true := (by decide +kernel : rz_cn 15 (rt_yn 104).cls = true)
theorem i_104_0 {sc : Nat × (Nat → Int32)} {fm : Value} : ri (rt_P sc fm) 104 0 (.aload_n 0) (1) := ⟨(by decide +kernel : rt_xt 104 0 = none), (by decide +kernel : rt_cd 104 0 = some (.aload_n 0)), rfl⟩
theorem i_104_1 {sc : Nat × (Nat → Int32)} {fm : Value} : ri (rt_P sc fm) 104 1 (.iconst 0) (2) := ⟨(by decide +kernel : rt_xt 104 1 = none), (by decide +kernel : rt_cd 104 1 = some (.iconst 0)), rfl⟩
theorem i_104_2 {sc : Nat × (Nat → Int32)} {fm : Value} : ri (rt_P sc fm) 104 2 (.putfield 471) (5) := ⟨(by decide +kernel : rt_xt 104 2 = none), (by decide +kernel : rt_cd 104 2 = some (.putfield 471)), rfl⟩
theorem p_104_471 {sc : Nat × (Nat → Int32)} {fm : Value} : rx_pt (rt_P sc fm) 104 471 = some (15, 67, .int) := (by decide +kernel : rt_pt 104 471 = some (15, 67, .int))
theorem i_104_5 {sc : Nat × (Nat → Int32)} {fm : Value} : ri (rt_P sc fm) 104 5 (.aload_n 0) (6) := ⟨(by decide +kernel : rt_xt 104 5 = none), (by decide +kernel : rt_cd 104 5 = some (.aload_n 0)), rfl⟩
theorem i_104_6 {sc : Nat × (Nat → Int32)} {fm : Value} : ri (rt_P sc fm) 104 6 (.iconst 0) (7) := ⟨(by decide +kernel : rt_xt 104 6 = none), (by decide +kernel : rt_cd 104 6 = some (.iconst 0)), rfl⟩
theorem i_104_7 {sc : Nat × (Nat → Int32)} {fm : Value} : ri (rt_P sc fm) 104 7 (.putfield 447) (10) := ⟨(by decide +kernel : rt_xt 104 7 = none), (by decide +kernel : rt_cd 104 7 = some (.putfield 447)), rfl⟩
theorem p_104_447 {sc : Nat × (Nat → Int32)} {fm : Value} : rx_pt (rt_P sc fm) 104 447 = some (15, 15, .int) := (by decide +kernel : rt_pt 104 447 = some (15, 15, .int))
theorem i_104_10 {sc : Nat × (Nat → Int32)} {fm : Value} : ri (rt_P sc fm) 104 10 (.aload_n 0) (11) := ⟨(by decide +kernel : rt_xt 104 10 = none), (by decide +kernel : rt_cd 104 10 = some (.aload_n 0)), rfl⟩
theorem i_104_11 {sc : Nat × (Nat → Int32)} {fm : Value} : ri (rt_P sc fm) 104 11 (.iconst 0) (12) := ⟨(by decide +kernel : rt_xt 104 11 = none), (by decide +kernel : rt_cd 104 11 = some (.iconst 0)), rfl⟩
theorem i_104_12 {sc : Nat × (Nat → Int32)} {fm : Value} : ri (rt_P sc fm) 104 12 (.putfield 450) (15) := ⟨(by decide +kernel : rt_xt 104 12 = none), (by decide +kernel : rt_cd 104 12 = some (.putfield 450)), rfl⟩
theorem p_104_450 {sc : Nat × (Nat → Int32)} {fm : Value} : rx_pt (rt_P sc fm) 104 450 = some (15, 24, .int) := (by decide +kernel : rt_pt 104 450 = some (15, 24, .int))
theorem i_104_15 {sc : Nat × (Nat → Int32)} {fm : Value} : ri (rt_P sc fm) 104 15 (.aload_n 0) (16) := ⟨(by decide +kernel : rt_xt 104 15 = none), (by decide +kernel : rt_cd 104 15 = some (.aload_n 0)), rfl⟩
theorem i_104_16 {sc : Nat × (Nat → Int32)} {fm : Value} : ri (rt_P sc fm) 104 16 (.iconst 0) (17) := ⟨(by decide +kernel : rt_xt 104 16 = none), (by decide +kernel : rt_cd 104 16 = some (.iconst 0)), rfl⟩
theorem i_104_17 {sc : Nat × (Nat → Int32)} {fm : Value} : ri (rt_P sc fm) 104 17 (.putfield 453) (20) := ⟨(by decide +kernel : rt_xt 104 17 = none), (by decide +kernel : rt_cd 104 17 = some (.putfield 453)), rfl⟩
theorem p_104_453 {sc : Nat × (Nat → Int32)} {fm : Value} : rx_pt (rt_P sc fm) 104 453 = some (15, 34, .int) := (by decide +kernel : rt_pt 104 453 = some (15, 34, .int))
theorem i_104_20 {sc : Nat × (Nat → Int32)} {fm : Value} : ri (rt_P sc fm) 104 20 (.aload_n 0) (21) := ⟨(by decide +kernel : rt_xt 104 20 = none), (by decide +kernel : rt_cd 104 20 = some (.aload_n 0)), rfl⟩
theorem i_104_21 {sc : Nat × (Nat → Int32)} {fm : Value} : ri (rt_P sc fm) 104 21 (.iconst 0) (22) := ⟨(by decide +kernel : rt_xt 104 21 = none), (by decide +kernel : rt_cd 104 21 = some (.iconst 0)), rfl⟩
theorem i_104_22 {sc : Nat × (Nat → Int32)} {fm : Value} : ri (rt_P sc fm) 104 22 (.putfield 456) (25) := ⟨(by decide +kernel : rt_xt 104 22 = none), (by decide +kernel : rt_cd 104 22 = some (.putfield 456)), rfl⟩
theorem p_104_456 {sc : Nat × (Nat → Int32)} {fm : Value} : rx_pt (rt_P sc fm) 104 456 = some (15, 37, .int) := (by decide +kernel : rt_pt 104 456 = some (15, 37, .int))
theorem i_104_25 {sc : Nat × (Nat → Int32)} {fm : Value} : ri (rt_P sc fm) 104 25 (.iconst 0) (26) := ⟨(by decide +kernel : rt_xt 104 25 = none), (by decide +kernel : rt_cd 104 25 = some (.iconst 0)), rfl⟩
theorem i_104_26 {sc : Nat × (Nat → Int32)} {fm : Value} : ri (rt_P sc fm) 104 26 (.istore_n 1) (27) := ⟨(by decide +kernel : rt_xt 104 26 = none), (by decide +kernel : rt_cd 104 26 = some (.istore_n 1)), rfl⟩
theorem i_104_47 {sc : Nat × (Nat → Int32)} {fm : Value} : ri (rt_P sc fm) 104 47 (.aload_n 0) (48) := ⟨(by decide +kernel : rt_xt 104 47 = none), (by decide +kernel : rt_cd 104 47 = some (.aload_n 0)), rfl⟩
theorem i_104_48 {sc : Nat × (Nat → Int32)} {fm : Value} : ri (rt_P sc fm) 104 48 (.getfield 409) (51) := ⟨(by decide +kernel : rt_xt 104 48 = none), (by decide +kernel : rt_cd 104 48 = some (.getfield 409)), rfl⟩
theorem f_104_409 {sc : Nat × (Nat → Int32)} {fm : Value} : rx_ft (rt_P sc fm) 104 409 = some (15, 13) := (by decide +kernel : rt_ft 104 409 = some (15, 13))
theorem i_104_51 {sc : Nat × (Nat → Int32)} {fm : Value} : ri (rt_P sc fm) 104 51 (.ifCond .ne 18) (54) := ⟨(by decide +kernel : rt_xt 104 51 = none), (by decide +kernel : rt_cd 104 51 = some (.ifCond .ne 18)), rfl⟩
theorem i_104_54 {sc : Nat × (Nat → Int32)} {fm : Value} : ri (rt_P sc fm) 104 54 (.aload_n 0) (55) := ⟨(by decide +kernel : rt_xt 104 54 = none), (by decide +kernel : rt_cd 104 54 = some (.aload_n 0)), rfl⟩
theorem i_104_55 {sc : Nat × (Nat → Int32)} {fm : Value} : ri (rt_P sc fm) 104 55 (.iconst 0) (56) := ⟨(by decide +kernel : rt_xt 104 55 = none), (by decide +kernel : rt_cd 104 55 = some (.iconst 0)), rfl⟩
theorem i_104_56 {sc : Nat × (Nat → Int32)} {fm : Value} : ri (rt_P sc fm) 104 56 (.invokevirtual 490) (59) := ⟨(by decide +kernel : rt_xt 104 56 = none), (by decide +kernel : rt_cd 104 56 = some (.invokevirtual 490)), rfl⟩
theorem c_104_490 {sc : Nat × (Nat → Int32)} {fm : Value} : rx_ct (rt_P sc fm) 104 490 = some (0, 102, 1) := (by decide +kernel : rt_ct 104 490 = some (0, 102, 1))
theorem a_15_102 {sc : Nat × (Nat → Int32)} {fm : Value} : rz_cn 15 (rx_yn (rt_P sc fm) 102).cls = true := (by decide +kernel : rz_cn 15 (rt_yn 102).cls = true)
theorem i_102_0 {sc : Nat × (Nat → Int32)} {fm : Value} : ri (rt_P sc fm) 102 0 (.aload_n 0) (1) := ⟨(by decide +kernel : rt_xt 102 0 = none), (by decide +kernel : rt_cd 102 0 = some (.aload_n 0)), rfl⟩
theorem i_102_1 {sc : Nat × (Nat → Int32)} {fm : Value} : ri (rt_P sc fm) 102 1 (.getfield 409) (4) := ⟨(by decide +kernel : rt_xt 102 1 = none), (by decide +kernel : rt_cd 102 1 = some (.getfield 409)), rfl⟩
theorem f_102_409 {sc : Nat × (Nat → Int32)} {fm : Value} : rx_ft (rt_P sc fm) 102 409 = some (15, 13) := (by decide +kernel : rt_ft 102 409 = some (15, 13))
theorem i_102_4 {sc : Nat × (Nat → Int32)} {fm : Value} : ri (rt_P sc fm) 102 4 (.ifCond .ne 11) (7) := ⟨(by decide +kernel : rt_xt 102 4 = none), (by decide +kernel : rt_cd 102 4 = some (.ifCond .ne 11)), rfl⟩
theorem i_102_7 {sc : Nat × (Nat → Int32)} {fm : Value} : ri (rt_P sc fm) 102 7 (.aload_n 0) (8) := ⟨(by decide +kernel : rt_xt 102 7 = none), (by decide +kernel : rt_cd 102 7 = some (.aload_n 0)), rfl⟩
theorem i_102_8 {sc : Nat × (Nat → Int32)} {fm : Value} : ri (rt_P sc fm) 102 8 (.iload_n 1) (9) := ⟨(by decide +kernel : rt_xt 102 8 = none), (by decide +kernel : rt_cd 102 8 = some (.iload_n 1)), rfl⟩
theorem i_102_9 {sc : Nat × (Nat → Int32)} {fm : Value} : ri (rt_P sc fm) 102 9 (.invokevirtual 474) (12) := ⟨(by decide +kernel : rt_xt 102 9 = none), (by decide +kernel : rt_cd 102 9 = some (.invokevirtual 474)), rfl⟩
theorem c_102_474 {sc : Nat × (Nat → Int32)} {fm : Value} : rx_ct (rt_P sc fm) 102 474 = some (0, 100, 1) := (by decide +kernel : rt_ct 102 474 = some (0, 100, 1))
theorem a_15_100 {sc : Nat × (Nat → Int32)} {fm : Value} : rz_cn 15 (rx_yn (rt_P sc fm) 100).cls = true := (by decide +kernel : rz_cn 15 (rt_yn 100).cls = true)
theorem i_100_0 {sc : Nat × (Nat → Int32)} {fm : Value} : ri (rt_P sc fm) 100 0 (.aload_n 0) (1) := ⟨(by decide +kernel : rt_xt 100 0 = none), (by decide +kernel : rt_cd 100 0 = some (.aload_n 0)), rfl⟩
theorem i_100_1 {sc : Nat × (Nat → Int32)} {fm : Value} : ri (rt_P sc fm) 100 1 (.getfield 84) (4) := ⟨(by decide +kernel : rt_xt 100 1 = none), (by decide +kernel : rt_cd 100 1 = some (.getfield 84)), rfl⟩
theorem f_100_84 {sc : Nat × (Nat → Int32)} {fm : Value} : rx_ft (rt_P sc fm) 100 84 = some (15, 8) := (by decide +kernel : rt_ft 100 84 = some (15, 8))
theorem i_100_4 {sc : Nat × (Nat → Int32)} {fm : Value} : ri (rt_P sc fm) 100 4 (.aload_n 0) (5) := ⟨(by decide +kernel : rt_xt 100 4 = none), (by decide +kernel : rt_cd 100 4 = some (.aload_n 0)), rfl⟩
theorem i_100_5 {sc : Nat × (Nat → Int32)} {fm : Value} : ri (rt_P sc fm) 100 5 (.getfield 471) (8) := ⟨(by decide +kernel : rt_xt 100 5 = none), (by decide +kernel : rt_cd 100 5 = some (.getfield 471)), rfl⟩
theorem f_100_471 {sc : Nat × (Nat → Int32)} {fm : Value} : rx_ft (rt_P sc fm) 100 471 = some (15, 67) := (by decide +kernel : rt_ft 100 471 = some (15, 67))
theorem i_100_8 {sc : Nat × (Nat → Int32)} {fm : Value} : ri (rt_P sc fm) 100 8 (.iaload) (9) := ⟨(by decide +kernel : rt_xt 100 8 = none), (by decide +kernel : rt_cd 100 8 = some (.iaload)), rfl⟩
theorem i_100_9 {sc : Nat × (Nat → Int32)} {fm : Value} : ri (rt_P sc fm) 100 9 (.iconst 4) (10) := ⟨(by decide +kernel : rt_xt 100 9 = none), (by decide +kernel : rt_cd 100 9 = some (.iconst 4)), rfl⟩
theorem i_100_10 {sc : Nat × (Nat → Int32)} {fm : Value} : ri (rt_P sc fm) 100 10 (.if_icmp .ne 22) (13) := ⟨(by decide +kernel : rt_xt 100 10 = none), (by decide +kernel : rt_cd 100 10 = some (.if_icmp .ne 22)), rfl⟩
theorem i_100_32 {sc : Nat × (Nat → Int32)} {fm : Value} : ri (rt_P sc fm) 100 32 (.iconst 0) (33) := ⟨(by decide +kernel : rt_xt 100 32 = none), (by decide +kernel : rt_cd 100 32 = some (.iconst 0)), rfl⟩
theorem i_100_33 {sc : Nat × (Nat → Int32)} {fm : Value} : ri (rt_P sc fm) 100 33 (.ireturn) (34) := ⟨(by decide +kernel : rt_xt 100 33 = none), (by decide +kernel : rt_cd 100 33 = some (.ireturn)), rfl⟩
theorem r_100 {sc : Nat × (Nat → Int32)} {fm : Value} : rx_rt (rt_P sc fm) 100 = (some FieldType.boolean) := (by decide +kernel : rt_rt 100 = (some FieldType.boolean))
theorem i_102_12 {sc : Nat × (Nat → Int32)} {fm : Value} : ri (rt_P sc fm) 102 12 (.ifCond .ne 5) (15) := ⟨(by decide +kernel : rt_xt 102 12 = none), (by decide +kernel : rt_cd 102 12 = some (.ifCond .ne 5)), rfl⟩
theorem i_102_15 {sc : Nat × (Nat → Int32)} {fm : Value} : ri (rt_P sc fm) 102 15 (.iconst 0) (16) := ⟨(by decide +kernel : rt_xt 102 15 = none), (by decide +kernel : rt_cd 102 15 = some (.iconst 0)), rfl⟩
theorem i_102_16 {sc : Nat × (Nat → Int32)} {fm : Value} : ri (rt_P sc fm) 102 16 (.ireturn) (17) := ⟨(by decide +kernel : rt_xt 102 16 = none), (by decide +kernel : rt_cd 102 16 = some (.ireturn)), rfl⟩
theorem r_102 {sc : Nat × (Nat → Int32)} {fm : Value} : rx_rt (rt_P sc fm) 102 = (some FieldType.boolean) := (by decide +kernel : rt_rt 102 = (some FieldType.boolean))
theorem i_104_59 {sc : Nat × (Nat → Int32)} {fm : Value} : ri (rt_P sc fm) 104 59 (.ifCond .eq 10) (62) := ⟨(by decide +kernel : rt_xt 104 59 = none), (by decide +kernel : rt_cd 104 59 = some (.ifCond .eq 10)), rfl⟩
theorem i_104_69 {sc : Nat × (Nat → Int32)} {fm : Value} : ri (rt_P sc fm) 104 69 (.aload_n 0) (70) := ⟨(by decide +kernel : rt_xt 104 69 = none), (by decide +kernel : rt_cd 104 69 = some (.aload_n 0)), rfl⟩
theorem i_104_70 {sc : Nat × (Nat → Int32)} {fm : Value} : ri (rt_P sc fm) 104 70 (.getfield 409) (73) := ⟨(by decide +kernel : rt_xt 104 70 = none), (by decide +kernel : rt_cd 104 70 = some (.getfield 409)), rfl⟩
theorem i_104_73 {sc : Nat × (Nat → Int32)} {fm : Value} : ri (rt_P sc fm) 104 73 (.ifCond .ne 18) (76) := ⟨(by decide +kernel : rt_xt 104 73 = none), (by decide +kernel : rt_cd 104 73 = some (.ifCond .ne 18)), rfl⟩
theorem i_104_76 {sc : Nat × (Nat → Int32)} {fm : Value} : ri (rt_P sc fm) 104 76 (.aload_n 0) (77) := ⟨(by decide +kernel : rt_xt 104 76 = none), (by decide +kernel : rt_cd 104 76 = some (.aload_n 0)), rfl⟩
theorem i_104_77 {sc : Nat × (Nat → Int32)} {fm : Value} : ri (rt_P sc fm) 104 77 (.iconst 1) (78) := ⟨(by decide +kernel : rt_xt 104 77 = none), (by decide +kernel : rt_cd 104 77 = some (.iconst 1)), rfl⟩
theorem i_104_78 {sc : Nat × (Nat → Int32)} {fm : Value} : ri (rt_P sc fm) 104 78 (.invokevirtual 490) (81) := ⟨(by decide +kernel : rt_xt 104 78 = none), (by decide +kernel : rt_cd 104 78 = some (.invokevirtual 490)), rfl⟩
theorem i_104_81 {sc : Nat × (Nat → Int32)} {fm : Value} : ri (rt_P sc fm) 104 81 (.ifCond .eq 10) (84) := ⟨(by decide +kernel : rt_xt 104 81 = none), (by decide +kernel : rt_cd 104 81 = some (.ifCond .eq 10)), rfl⟩
theorem i_104_91 {sc : Nat × (Nat → Int32)} {fm : Value} : ri (rt_P sc fm) 104 91 (.aload_n 0) (92) := ⟨(by decide +kernel : rt_xt 104 91 = none), (by decide +kernel : rt_cd 104 91 = some (.aload_n 0)), rfl⟩
theorem i_104_92 {sc : Nat × (Nat → Int32)} {fm : Value} : ri (rt_P sc fm) 104 92 (.getfield 409) (95) := ⟨(by decide +kernel : rt_xt 104 92 = none), (by decide +kernel : rt_cd 104 92 = some (.getfield 409)), rfl⟩
theorem i_104_95 {sc : Nat × (Nat → Int32)} {fm : Value} : ri (rt_P sc fm) 104 95 (.ifCond .ne 19) (98) := ⟨(by decide +kernel : rt_xt 104 95 = none), (by decide +kernel : rt_cd 104 95 = some (.ifCond .ne 19)), rfl⟩
theorem i_104_98 {sc : Nat × (Nat → Int32)} {fm : Value} : ri (rt_P sc fm) 104 98 (.aload_n 0) (99) := ⟨(by decide +kernel : rt_xt 104 98 = none), (by decide +kernel : rt_cd 104 98 = some (.aload_n 0)), rfl⟩
theorem i_104_99 {sc : Nat × (Nat → Int32)} {fm : Value} : ri (rt_P sc fm) 104 99 (.bipush 6) (101) := ⟨(by decide +kernel : rt_xt 104 99 = none), (by decide +kernel : rt_cd 104 99 = some (.bipush 6)), rfl⟩
theorem i_104_101 {sc : Nat × (Nat → Int32)} {fm : Value} : ri (rt_P sc fm) 104 101 (.invokevirtual 490) (104) := ⟨(by decide +kernel : rt_xt 104 101 = none), (by decide +kernel : rt_cd 104 101 = some (.invokevirtual 490)), rfl⟩
theorem i_104_104 {sc : Nat × (Nat → Int32)} {fm : Value} : ri (rt_P sc fm) 104 104 (.ifCond .eq 10) (107) := ⟨(by decide +kernel : rt_xt 104 104 = none), (by decide +kernel : rt_cd 104 104 = some (.ifCond .eq 10)), rfl⟩
theorem i_104_114 {sc : Nat × (Nat → Int32)} {fm : Value} : ri (rt_P sc fm) 104 114 (.aload_n 0) (115) := ⟨(by decide +kernel : rt_xt 104 114 = none), (by decide +kernel : rt_cd 104 114 = some (.aload_n 0)), rfl⟩
theorem i_104_115 {sc : Nat × (Nat → Int32)} {fm : Value} : ri (rt_P sc fm) 104 115 (.getfield 409) (118) := ⟨(by decide +kernel : rt_xt 104 115 = none), (by decide +kernel : rt_cd 104 115 = some (.getfield 409)), rfl⟩
theorem i_104_118 {sc : Nat × (Nat → Int32)} {fm : Value} : ri (rt_P sc fm) 104 118 (.ifCond .ne 15) (121) := ⟨(by decide +kernel : rt_xt 104 118 = none), (by decide +kernel : rt_cd 104 118 = some (.ifCond .ne 15)), rfl⟩
theorem i_104_121 {sc : Nat × (Nat → Int32)} {fm : Value} : ri (rt_P sc fm) 104 121 (.aload_n 0) (122) := ⟨(by decide +kernel : rt_xt 104 121 = none), (by decide +kernel : rt_cd 104 121 = some (.aload_n 0)), rfl⟩
theorem i_104_122 {sc : Nat × (Nat → Int32)} {fm : Value} : ri (rt_P sc fm) 104 122 (.iconst 2) (123) := ⟨(by decide +kernel : rt_xt 104 122 = none), (by decide +kernel : rt_cd 104 122 = some (.iconst 2)), rfl⟩
theorem i_104_123 {sc : Nat × (Nat → Int32)} {fm : Value} : ri (rt_P sc fm) 104 123 (.invokevirtual 474) (126) := ⟨(by decide +kernel : rt_xt 104 123 = none), (by decide +kernel : rt_cd 104 123 = some (.invokevirtual 474)), rfl⟩
theorem c_104_474 {sc : Nat × (Nat → Int32)} {fm : Value} : rx_ct (rt_P sc fm) 104 474 = some (0, 100, 1) := (by decide +kernel : rt_ct 104 474 = some (0, 100, 1))
theorem i_104_126 {sc : Nat × (Nat → Int32)} {fm : Value} : ri (rt_P sc fm) 104 126 (.ifCond .ne 7) (129) := ⟨(by decide +kernel : rt_xt 104 126 = none), (by decide +kernel : rt_cd 104 126 = some (.ifCond .ne 7)), rfl⟩
theorem i_104_129 {sc : Nat × (Nat → Int32)} {fm : Value} : ri (rt_P sc fm) 104 129 (.aload_n 0) (130) := ⟨(by decide +kernel : rt_xt 104 129 = none), (by decide +kernel : rt_cd 104 129 = some (.aload_n 0)), rfl⟩
theorem i_104_130 {sc : Nat × (Nat → Int32)} {fm : Value} : ri (rt_P sc fm) 104 130 (.invokevirtual 480) (133) := ⟨(by decide +kernel : rt_xt 104 130 = none), (by decide +kernel : rt_cd 104 130 = some (.invokevirtual 480)), rfl⟩
theorem c_104_480 {sc : Nat × (Nat → Int32)} {fm : Value} : rx_ct (rt_P sc fm) 104 480 = some (0, 103, 0) := (by decide +kernel : rt_ct 104 480 = some (0, 103, 0))
theorem a_15_103 {sc : Nat × (Nat → Int32)} {fm : Value} : rz_cn 15 (rx_yn (rt_P sc fm) 103).cls = true := (by decide +kernel : rz_cn 15 (rt_yn 103).cls = true)
theorem i_103_0 {sc : Nat × (Nat → Int32)} {fm : Value} : ri (rt_P sc fm) 103 0 (.aload_n 0) (1) := ⟨(by decide +kernel : rt_xt 103 0 = none), (by decide +kernel : rt_cd 103 0 = some (.aload_n 0)), rfl⟩
theorem i_103_1 {sc : Nat × (Nat → Int32)} {fm : Value} : ri (rt_P sc fm) 103 1 (.iconst 2) (2) := ⟨(by decide +kernel : rt_xt 103 1 = none), (by decide +kernel : rt_cd 103 1 = some (.iconst 2)), rfl⟩
theorem i_103_2 {sc : Nat × (Nat → Int32)} {fm : Value} : ri (rt_P sc fm) 103 2 (.aload_n 0) (3) := ⟨(by decide +kernel : rt_xt 103 2 = none), (by decide +kernel : rt_cd 103 2 = some (.aload_n 0)), rfl⟩
theorem i_103_3 {sc : Nat × (Nat → Int32)} {fm : Value} : ri (rt_P sc fm) 103 3 (.getfield 87) (6) := ⟨(by decide +kernel : rt_xt 103 3 = none), (by decide +kernel : rt_cd 103 3 = some (.getfield 87)), rfl⟩
theorem f_103_87 {sc : Nat × (Nat → Int32)} {fm : Value} : rx_ft (rt_P sc fm) 103 87 = some (15, 9) := (by decide +kernel : rt_ft 103 87 = some (15, 9))
theorem i_103_6 {sc : Nat × (Nat → Int32)} {fm : Value} : ri (rt_P sc fm) 103 6 (.aload_n 0) (7) := ⟨(by decide +kernel : rt_xt 103 6 = none), (by decide +kernel : rt_cd 103 6 = some (.aload_n 0)), rfl⟩
theorem i_103_7 {sc : Nat × (Nat → Int32)} {fm : Value} : ri (rt_P sc fm) 103 7 (.getfield 471) (10) := ⟨(by decide +kernel : rt_xt 103 7 = none), (by decide +kernel : rt_cd 103 7 = some (.getfield 471)), rfl⟩
theorem f_103_471 {sc : Nat × (Nat → Int32)} {fm : Value} : rx_ft (rt_P sc fm) 103 471 = some (15, 67) := (by decide +kernel : rt_ft 103 471 = some (15, 67))
theorem i_103_10 {sc : Nat × (Nat → Int32)} {fm : Value} : ri (rt_P sc fm) 103 10 (.iaload) (11) := ⟨(by decide +kernel : rt_xt 103 10 = none), (by decide +kernel : rt_cd 103 10 = some (.iaload)), rfl⟩
theorem i_103_11 {sc : Nat × (Nat → Int32)} {fm : Value} : ri (rt_P sc fm) 103 11 (.invokevirtual 432) (14) := ⟨(by decide +kernel : rt_xt 103 11 = none), (by decide +kernel : rt_cd 103 11 = some (.invokevirtual 432)), rfl⟩
theorem c_103_432 {sc : Nat × (Nat → Int32)} {fm : Value} : rx_ct (rt_P sc fm) 103 432 = some (0, 97, 2) := (by decide +kernel : rt_ct 103 432 = some (0, 97, 2))
theorem a_15_97 {sc : Nat × (Nat → Int32)} {fm : Value} : rz_cn 15 (rx_yn (rt_P sc fm) 97).cls = true := (by decide +kernel : rz_cn 15 (rt_yn 97).cls = true)
theorem i_97_0 {sc : Nat × (Nat → Int32)} {fm : Value} : ri (rt_P sc fm) 97 0 (.aload_n 0) (1) := ⟨(by decide +kernel : rt_xt 97 0 = none), (by decide +kernel : rt_cd 97 0 = some (.aload_n 0)), rfl⟩
theorem i_97_1 {sc : Nat × (Nat → Int32)} {fm : Value} : ri (rt_P sc fm) 97 1 (.getfield 409) (4) := ⟨(by decide +kernel : rt_xt 97 1 = none), (by decide +kernel : rt_cd 97 1 = some (.getfield 409)), rfl⟩
theorem f_97_409 {sc : Nat × (Nat → Int32)} {fm : Value} : rx_ft (rt_P sc fm) 97 409 = some (15, 13) := (by decide +kernel : rt_ft 97 409 = some (15, 13))
theorem i_97_4 {sc : Nat × (Nat → Int32)} {fm : Value} : ri (rt_P sc fm) 97 4 (.ifCond .eq 4) (7) := ⟨(by decide +kernel : rt_xt 97 4 = none), (by decide +kernel : rt_cd 97 4 = some (.ifCond .eq 4)), rfl⟩
theorem i_97_8 {sc : Nat × (Nat → Int32)} {fm : Value} : ri (rt_P sc fm) 97 8 (.aload_n 0) (9) := ⟨(by decide +kernel : rt_xt 97 8 = none), (by decide +kernel : rt_cd 97 8 = some (.aload_n 0)), rfl⟩
theorem i_97_9 {sc : Nat × (Nat → Int32)} {fm : Value} : ri (rt_P sc fm) 97 9 (.iconst 1) (10) := ⟨(by decide +kernel : rt_xt 97 9 = none), (by decide +kernel : rt_cd 97 9 = some (.iconst 1)), rfl⟩
theorem i_97_10 {sc : Nat × (Nat → Int32)} {fm : Value} : ri (rt_P sc fm) 97 10 (.putfield 409) (13) := ⟨(by decide +kernel : rt_xt 97 10 = none), (by decide +kernel : rt_cd 97 10 = some (.putfield 409)), rfl⟩
theorem p_97_409 {sc : Nat × (Nat → Int32)} {fm : Value} : rx_pt (rt_P sc fm) 97 409 = some (15, 13, .boolean) := (by decide +kernel : rt_pt 97 409 = some (15, 13, .boolean))
theorem i_97_13 {sc : Nat × (Nat → Int32)} {fm : Value} : ri (rt_P sc fm) 97 13 (.aload_n 0) (14) := ⟨(by decide +kernel : rt_xt 97 13 = none), (by decide +kernel : rt_cd 97 13 = some (.aload_n 0)), rfl⟩
theorem i_97_14 {sc : Nat × (Nat → Int32)} {fm : Value} : ri (rt_P sc fm) 97 14 (.iload_n 1) (15) := ⟨(by decide +kernel : rt_xt 97 14 = none), (by decide +kernel : rt_cd 97 14 = some (.iload_n 1)), rfl⟩
theorem i_97_15 {sc : Nat × (Nat → Int32)} {fm : Value} : ri (rt_P sc fm) 97 15 (.putfield 412) (18) := ⟨(by decide +kernel : rt_xt 97 15 = none), (by decide +kernel : rt_cd 97 15 = some (.putfield 412)), rfl⟩
theorem p_97_412 {sc : Nat × (Nat → Int32)} {fm : Value} : rx_pt (rt_P sc fm) 97 412 = some (15, 11, .int) := (by decide +kernel : rt_pt 97 412 = some (15, 11, .int))
theorem i_97_18 {sc : Nat × (Nat → Int32)} {fm : Value} : ri (rt_P sc fm) 97 18 (.aload_n 0) (19) := ⟨(by decide +kernel : rt_xt 97 18 = none), (by decide +kernel : rt_cd 97 18 = some (.aload_n 0)), rfl⟩
theorem i_97_19 {sc : Nat × (Nat → Int32)} {fm : Value} : ri (rt_P sc fm) 97 19 (.iload_n 2) (20) := ⟨(by decide +kernel : rt_xt 97 19 = none), (by decide +kernel : rt_cd 97 19 = some (.iload_n 2)), rfl⟩
theorem i_97_20 {sc : Nat × (Nat → Int32)} {fm : Value} : ri (rt_P sc fm) 97 20 (.putfield 415) (23) := ⟨(by decide +kernel : rt_xt 97 20 = none), (by decide +kernel : rt_cd 97 20 = some (.putfield 415)), rfl⟩
theorem p_97_415 {sc : Nat × (Nat → Int32)} {fm : Value} : rx_pt (rt_P sc fm) 97 415 = some (15, 12, .int) := (by decide +kernel : rt_pt 97 415 = some (15, 12, .int))
theorem i_97_23 {sc : Nat × (Nat → Int32)} {fm : Value} : ri (rt_P sc fm) 97 23 (.return_) (24) := ⟨(by decide +kernel : rt_xt 97 23 = none), (by decide +kernel : rt_cd 97 23 = some (.return_)), rfl⟩
theorem r_97 {sc : Nat × (Nat → Int32)} {fm : Value} : rx_rt (rt_P sc fm) 97 = none := (by decide +kernel : rt_rt 97 = none)
theorem i_103_14 {sc : Nat × (Nat → Int32)} {fm : Value} : ri (rt_P sc fm) 103 14 (.return_) (15) := ⟨(by decide +kernel : rt_xt 103 14 = none), (by decide +kernel : rt_cd 103 14 = some (.return_)), rfl⟩
theorem r_103 {sc : Nat × (Nat → Int32)} {fm : Value} : rx_rt (rt_P sc fm) 103 = none := (by decide +kernel : rt_rt 103 = none)
theorem i_104_133 {sc : Nat × (Nat → Int32)} {fm : Value} : ri (rt_P sc fm) 104 133 (.aload_n 0) (134) := ⟨(by decide +kernel : rt_xt 104 133 = none), (by decide +kernel : rt_cd 104 133 = some (.aload_n 0)), rfl⟩
theorem i_104_134 {sc : Nat × (Nat → Int32)} {fm : Value} : ri (rt_P sc fm) 104 134 (.getfield 409) (137) := ⟨(by decide +kernel : rt_xt 104 134 = none), (by decide +kernel : rt_cd 104 134 = some (.getfield 409)), rfl⟩
theorem i_104_137 {sc : Nat × (Nat → Int32)} {fm : Value} : ri (rt_P sc fm) 104 137 (.ifCond .ne 18) (140) := ⟨(by decide +kernel : rt_xt 104 137 = none), (by decide +kernel : rt_cd 104 137 = some (.ifCond .ne 18)), rfl⟩
theorem i_104_155 {sc : Nat × (Nat → Int32)} {fm : Value} : ri (rt_P sc fm) 104 155 (.aload_n 0) (156) := ⟨(by decide +kernel : rt_xt 104 155 = none), (by decide +kernel : rt_cd 104 155 = some (.aload_n 0)), rfl⟩
theorem i_104_156 {sc : Nat × (Nat → Int32)} {fm : Value} : ri (rt_P sc fm) 104 156 (.getfield 409) (159) := ⟨(by decide +kernel : rt_xt 104 156 = none), (by decide +kernel : rt_cd 104 156 = some (.getfield 409)), rfl⟩
theorem i_104_159 {sc : Nat × (Nat → Int32)} {fm : Value} : ri (rt_P sc fm) 104 159 (.ifCond .ne 20) (162) := ⟨(by decide +kernel : rt_xt 104 159 = none), (by decide +kernel : rt_cd 104 159 = some (.ifCond .ne 20)), rfl⟩
theorem i_104_179 {sc : Nat × (Nat → Int32)} {fm : Value} : ri (rt_P sc fm) 104 179 (.return_) (180) := ⟨(by decide +kernel : rt_xt 104 179 = none), (by decide +kernel : rt_cd 104 179 = some (.return_)), rfl⟩
theorem r_104 {sc : Nat × (Nat → Int32)} {fm : Value} : rx_rt (rt_P sc fm) 104 = none := (by decide +kernel : rt_rt 104 = none)
theorem i_106_50 {sc : Nat × (Nat → Int32)} {fm : Value} : ri (rt_P sc fm) 106 50 (.aload_n 0) (51) := ⟨(by decide +kernel : rt_xt 106 50 = none), (by decide +kernel : rt_cd 106 50 = some (.aload_n 0)), rfl⟩
theorem i_106_51 {sc : Nat × (Nat → Int32)} {fm : Value} : ri (rt_P sc fm) 106 51 (.getfield 409) (54) := ⟨(by decide +kernel : rt_xt 106 51 = none), (by decide +kernel : rt_cd 106 51 = some (.getfield 409)), rfl⟩
theorem i_106_54 {sc : Nat × (Nat → Int32)} {fm : Value} : ri (rt_P sc fm) 106 54 (.ifCond .ne 7) (57) := ⟨(by decide +kernel : rt_xt 106 54 = none), (by decide +kernel : rt_cd 106 54 = some (.ifCond .ne 7)), rfl⟩
theorem i_106_61 {sc : Nat × (Nat → Int32)} {fm : Value} : ri (rt_P sc fm) 106 61 (.iconst 0) (62) := ⟨(by decide +kernel : rt_xt 106 61 = none), (by decide +kernel : rt_cd 106 61 = some (.iconst 0)), rfl⟩
theorem i_106_62 {sc : Nat × (Nat → Int32)} {fm : Value} : ri (rt_P sc fm) 106 62 (.istore_n 2) (63) := ⟨(by decide +kernel : rt_xt 106 62 = none), (by decide +kernel : rt_cd 106 62 = some (.istore_n 2)), rfl⟩
theorem i_106_63 {sc : Nat × (Nat → Int32)} {fm : Value} : ri (rt_P sc fm) 106 63 (.iload_n 2) (64) := ⟨(by decide +kernel : rt_xt 106 63 = none), (by decide +kernel : rt_cd 106 63 = some (.iload_n 2)), rfl⟩
theorem i_106_64 {sc : Nat × (Nat → Int32)} {fm : Value} : ri (rt_P sc fm) 106 64 (.bipush 96) (66) := ⟨(by decide +kernel : rt_xt 106 64 = none), (by decide +kernel : rt_cd 106 64 = some (.bipush 96)), rfl⟩
theorem i_106_66 {sc : Nat × (Nat → Int32)} {fm : Value} : ri (rt_P sc fm) 106 66 (.if_icmp .ge 29) (69) := ⟨(by decide +kernel : rt_xt 106 66 = none), (by decide +kernel : rt_cd 106 66 = some (.if_icmp .ge 29)), rfl⟩
theorem i_106_69 {sc : Nat × (Nat → Int32)} {fm : Value} : ri (rt_P sc fm) 106 69 (.aload_n 0) (70) := ⟨(by decide +kernel : rt_xt 106 69 = none), (by decide +kernel : rt_cd 106 69 = some (.aload_n 0)), rfl⟩
theorem i_106_70 {sc : Nat × (Nat → Int32)} {fm : Value} : ri (rt_P sc fm) 106 70 (.getfield 409) (73) := ⟨(by decide +kernel : rt_xt 106 70 = none), (by decide +kernel : rt_cd 106 70 = some (.getfield 409)), rfl⟩
theorem i_106_73 {sc : Nat × (Nat → Int32)} {fm : Value} : ri (rt_P sc fm) 106 73 (.ifCond .ne 22) (76) := ⟨(by decide +kernel : rt_xt 106 73 = none), (by decide +kernel : rt_cd 106 73 = some (.ifCond .ne 22)), rfl⟩
theorem i_106_95 {sc : Nat × (Nat → Int32)} {fm : Value} : ri (rt_P sc fm) 106 95 (.aload_n 0) (96) := ⟨(by decide +kernel : rt_xt 106 95 = none), (by decide +kernel : rt_cd 106 95 = some (.aload_n 0)), rfl⟩
theorem i_106_96 {sc : Nat × (Nat → Int32)} {fm : Value} : ri (rt_P sc fm) 106 96 (.aload_n 0) (97) := ⟨(by decide +kernel : rt_xt 106 96 = none), (by decide +kernel : rt_cd 106 96 = some (.aload_n 0)), rfl⟩
theorem i_106_97 {sc : Nat × (Nat → Int32)} {fm : Value} : ri (rt_P sc fm) 106 97 (.getfield 409) (100) := ⟨(by decide +kernel : rt_xt 106 97 = none), (by decide +kernel : rt_cd 106 97 = some (.getfield 409)), rfl⟩
theorem i_106_100 {sc : Nat × (Nat → Int32)} {fm : Value} : ri (rt_P sc fm) 106 100 (.ifCond .eq 7) (103) := ⟨(by decide +kernel : rt_xt 106 100 = none), (by decide +kernel : rt_cd 106 100 = some (.ifCond .eq 7)), rfl⟩
theorem i_106_103 {sc : Nat × (Nat → Int32)} {fm : Value} : ri (rt_P sc fm) 106 103 (.iconst 1) (104) := ⟨(by decide +kernel : rt_xt 106 103 = none), (by decide +kernel : rt_cd 106 103 = some (.iconst 1)), rfl⟩
theorem i_106_104 {sc : Nat × (Nat → Int32)} {fm : Value} : ri (rt_P sc fm) 106 104 (.goto 4) (107) := ⟨(by decide +kernel : rt_xt 106 104 = none), (by decide +kernel : rt_cd 106 104 = some (.goto 4)), rfl⟩
theorem i_106_108 {sc : Nat × (Nat → Int32)} {fm : Value} : ri (rt_P sc fm) 106 108 (.putfield 356) (111) := ⟨(by decide +kernel : rt_xt 106 108 = none), (by decide +kernel : rt_cd 106 108 = some (.putfield 356)), rfl⟩
theorem p_106_356 {sc : Nat × (Nat → Int32)} {fm : Value} : rx_pt (rt_P sc fm) 106 356 = some (15, 0, .int) := (by decide +kernel : rt_pt 106 356 = some (15, 0, .int))
theorem i_106_111 {sc : Nat × (Nat → Int32)} {fm : Value} : ri (rt_P sc fm) 106 111 (.aload_n 0) (112) := ⟨(by decide +kernel : rt_xt 106 111 = none), (by decide +kernel : rt_cd 106 111 = some (.aload_n 0)), rfl⟩
theorem i_106_112 {sc : Nat × (Nat → Int32)} {fm : Value} : ri (rt_P sc fm) 106 112 (.getfield 409) (115) := ⟨(by decide +kernel : rt_xt 106 112 = none), (by decide +kernel : rt_cd 106 112 = some (.getfield 409)), rfl⟩
theorem i_106_115 {sc : Nat × (Nat → Int32)} {fm : Value} : ri (rt_P sc fm) 106 115 (.ifCond .eq 5) (118) := ⟨(by decide +kernel : rt_xt 106 115 = none), (by decide +kernel : rt_cd 106 115 = some (.ifCond .eq 5)), rfl⟩
theorem i_106_118 {sc : Nat × (Nat → Int32)} {fm : Value} : ri (rt_P sc fm) 106 118 (.iconst 0) (119) := ⟨(by decide +kernel : rt_xt 106 118 = none), (by decide +kernel : rt_cd 106 118 = some (.iconst 0)), rfl⟩
theorem i_106_119 {sc : Nat × (Nat → Int32)} {fm : Value} : ri (rt_P sc fm) 106 119 (.ireturn) (120) := ⟨(by decide +kernel : rt_xt 106 119 = none), (by decide +kernel : rt_cd 106 119 = some (.ireturn)), rfl⟩
theorem r_106 {sc : Nat × (Nat → Int32)} {fm : Value} : rx_rt (rt_P sc fm) 106 = (some FieldType.int) := (by decide +kernel : rt_rt 106 = (some FieldType.int))
theorem i_0_322 {sc : Nat × (Nat → Int32)} {fm : Value} : ri (rt_P sc fm) 0 322 (.istore 6) (324) := ⟨(by decide +kernel : rt_xt 0 322 = none), (by decide +kernel : rt_cd 0 322 = some (.istore 6)), rfl⟩
theorem i_0_324 {sc : Nat × (Nat → Int32)} {fm : Value} : ri (rt_P sc fm) 0 324 (.aload_n 2) (325) := ⟨(by decide +kernel : rt_xt 0 324 = none), (by decide +kernel : rt_cd 0 324 = some (.aload_n 2)), rfl⟩
theorem i_0_325 {sc : Nat × (Nat → Int32)} {fm : Value} : ri (rt_P sc fm) 0 325 (.invokevirtual 50) (328) := ⟨(by decide +kernel : rt_xt 0 325 = none), (by decide +kernel : rt_cd 0 325 = some (.invokevirtual 50)), rfl⟩
theorem c_0_50 {sc : Nat × (Nat → Int32)} {fm : Value} : rx_ct (rt_P sc fm) 0 50 = some (0, 92, 0) := (by decide +kernel : rt_ct 0 50 = some (0, 92, 0))
theorem a_15_92 {sc : Nat × (Nat → Int32)} {fm : Value} : rz_cn 15 (rx_yn (rt_P sc fm) 92).cls = true := (by decide +kernel : rz_cn 15 (rt_yn 92).cls = true)
theorem i_92_0 {sc : Nat × (Nat → Int32)} {fm : Value} : ri (rt_P sc fm) 92 0 (.aload_n 0) (1) := ⟨(by decide +kernel : rt_xt 92 0 = none), (by decide +kernel : rt_cd 92 0 = some (.aload_n 0)), rfl⟩
theorem i_92_1 {sc : Nat × (Nat → Int32)} {fm : Value} : ri (rt_P sc fm) 92 1 (.getfield 356) (4) := ⟨(by decide +kernel : rt_xt 92 1 = none), (by decide +kernel : rt_cd 92 1 = some (.getfield 356)), rfl⟩
theorem f_92_356 {sc : Nat × (Nat → Int32)} {fm : Value} : rx_ft (rt_P sc fm) 92 356 = some (15, 0) := (by decide +kernel : rt_ft 92 356 = some (15, 0))
theorem i_92_4 {sc : Nat × (Nat → Int32)} {fm : Value} : ri (rt_P sc fm) 92 4 (.ireturn) (5) := ⟨(by decide +kernel : rt_xt 92 4 = none), (by decide +kernel : rt_cd 92 4 = some (.ireturn)), rfl⟩
theorem r_92 {sc : Nat × (Nat → Int32)} {fm : Value} : rx_rt (rt_P sc fm) 92 = (some FieldType.int) := (by decide +kernel : rt_rt 92 = (some FieldType.int))
theorem i_0_328 {sc : Nat × (Nat → Int32)} {fm : Value} : ri (rt_P sc fm) 0 328 (.iload 5) (330) := ⟨(by decide +kernel : rt_xt 0 328 = none), (by decide +kernel : rt_cd 0 328 = some (.iload 5)), rfl⟩
theorem i_0_330 {sc : Nat × (Nat → Int32)} {fm : Value} : ri (rt_P sc fm) 0 330 (.if_icmp .eq 5) (333) := ⟨(by decide +kernel : rt_xt 0 330 = none), (by decide +kernel : rt_cd 0 330 = some (.if_icmp .eq 5)), rfl⟩
theorem i_0_335 {sc : Nat × (Nat → Int32)} {fm : Value} : ri (rt_P sc fm) 0 335 (.iload 5) (337) := ⟨(by decide +kernel : rt_xt 0 335 = none), (by decide +kernel : rt_cd 0 335 = some (.iload 5)), rfl⟩
theorem i_0_337 {sc : Nat × (Nat → Int32)} {fm : Value} : ri (rt_P sc fm) 0 337 (.ifCond .ne 15) (340) := ⟨(by decide +kernel : rt_xt 0 337 = none), (by decide +kernel : rt_cd 0 337 = some (.ifCond .ne 15)), rfl⟩
theorem i_0_352 {sc : Nat × (Nat → Int32)} {fm : Value} : ri (rt_P sc fm) 0 352 (.goto 982) (355) := ⟨(by decide +kernel : rt_xt 0 352 = none), (by decide +kernel : rt_cd 0 352 = some (.goto 982)), rfl⟩
theorem i_0_355 {sc : Nat × (Nat → Int32)} {fm : Value} : ri (rt_P sc fm) 0 355 (.aload_n 1) (356) := ⟨(by decide +kernel : rt_xt 0 355 = none), (by decide +kernel : rt_cd 0 355 = some (.aload_n 1)), rfl⟩
theorem i_0_356 {sc : Nat × (Nat → Int32)} {fm : Value} : ri (rt_P sc fm) 0 356 (.aload_n 0) (357) := ⟨(by decide +kernel : rt_xt 0 356 = none), (by decide +kernel : rt_cd 0 356 = some (.aload_n 0)), rfl⟩
theorem i_0_357 {sc : Nat × (Nat → Int32)} {fm : Value} : ri (rt_P sc fm) 0 357 (.iload 4) (359) := ⟨(by decide +kernel : rt_xt 0 357 = none), (by decide +kernel : rt_cd 0 357 = some (.iload 4)), rfl⟩
theorem i_0_359 {sc : Nat × (Nat → Int32)} {fm : Value} : ri (rt_P sc fm) 0 359 (.iconst 1) (360) := ⟨(by decide +kernel : rt_xt 0 359 = none), (by decide +kernel : rt_cd 0 359 = some (.iconst 1)), rfl⟩
theorem i_0_360 {sc : Nat × (Nat → Int32)} {fm : Value} : ri (rt_P sc fm) 0 360 (.iadd) (361) := ⟨(by decide +kernel : rt_xt 0 360 = none), (by decide +kernel : rt_cd 0 360 = some (.iadd)), rfl⟩
theorem i_0_361 {sc : Nat × (Nat → Int32)} {fm : Value} : ri (rt_P sc fm) 0 361 (.iaload) (362) := ⟨(by decide +kernel : rt_xt 0 361 = none), (by decide +kernel : rt_cd 0 361 = some (.iaload)), rfl⟩
theorem i_0_362 {sc : Nat × (Nat → Int32)} {fm : Value} : ri (rt_P sc fm) 0 362 (.invokevirtual 53) (365) := ⟨(by decide +kernel : rt_xt 0 362 = none), (by decide +kernel : rt_cd 0 362 = some (.invokevirtual 53)), rfl⟩
theorem c_0_53 {sc : Nat × (Nat → Int32)} {fm : Value} : rx_ct (rt_P sc fm) 0 53 = some (0, 60, 1) := (by decide +kernel : rt_ct 0 53 = some (0, 60, 1))
theorem a_14_60 {sc : Nat × (Nat → Int32)} {fm : Value} : rz_cn 14 (rx_yn (rt_P sc fm) 60).cls = true := (by decide +kernel : rz_cn 14 (rt_yn 60).cls = true)
theorem i_60_0 {sc : Nat × (Nat → Int32)} {fm : Value} : ri (rt_P sc fm) 60 0 (.iload_n 1) (1) := ⟨(by decide +kernel : rt_xt 60 0 = none), (by decide +kernel : rt_cd 60 0 = some (.iload_n 1)), rfl⟩
theorem i_60_1 {sc : Nat × (Nat → Int32)} {fm : Value} : ri (rt_P sc fm) 60 1 (.ifCond .ne 11) (4) := ⟨(by decide +kernel : rt_xt 60 1 = none), (by decide +kernel : rt_cd 60 1 = some (.ifCond .ne 11)), rfl⟩
theorem i_60_12 {sc : Nat × (Nat → Int32)} {fm : Value} : ri (rt_P sc fm) 60 12 (.iload_n 1) (13) := ⟨(by decide +kernel : rt_xt 60 12 = none), (by decide +kernel : rt_cd 60 12 = some (.iload_n 1)), rfl⟩
theorem i_60_13 {sc : Nat × (Nat → Int32)} {fm : Value} : ri (rt_P sc fm) 60 13 (.iconst 1) (14) := ⟨(by decide +kernel : rt_xt 60 13 = none), (by decide +kernel : rt_cd 60 13 = some (.iconst 1)), rfl⟩
theorem i_60_14 {sc : Nat × (Nat → Int32)} {fm : Value} : ri (rt_P sc fm) 60 14 (.if_icmp .ne 13) (17) := ⟨(by decide +kernel : rt_xt 60 14 = none), (by decide +kernel : rt_cd 60 14 = some (.if_icmp .ne 13)), rfl⟩
theorem i_60_27 {sc : Nat × (Nat → Int32)} {fm : Value} : ri (rt_P sc fm) 60 27 (.iconst (-1)) (28) := ⟨(by decide +kernel : rt_xt 60 27 = none), (by decide +kernel : rt_cd 60 27 = some (.iconst (-1))), rfl⟩
theorem i_60_28 {sc : Nat × (Nat → Int32)} {fm : Value} : ri (rt_P sc fm) 60 28 (.ireturn) (29) := ⟨(by decide +kernel : rt_xt 60 28 = none), (by decide +kernel : rt_cd 60 28 = some (.ireturn)), rfl⟩
theorem r_60 {sc : Nat × (Nat → Int32)} {fm : Value} : rx_rt (rt_P sc fm) 60 = (some FieldType.int) := (by decide +kernel : rt_rt 60 = (some FieldType.int))
theorem i_0_365 {sc : Nat × (Nat → Int32)} {fm : Value} : ri (rt_P sc fm) 0 365 (.aload_n 2) (366) := ⟨(by decide +kernel : rt_xt 0 365 = none), (by decide +kernel : rt_cd 0 365 = some (.aload_n 2)), rfl⟩
theorem i_0_366 {sc : Nat × (Nat → Int32)} {fm : Value} : ri (rt_P sc fm) 0 366 (.aload_n 0) (367) := ⟨(by decide +kernel : rt_xt 0 366 = none), (by decide +kernel : rt_cd 0 366 = some (.aload_n 0)), rfl⟩
theorem i_0_367 {sc : Nat × (Nat → Int32)} {fm : Value} : ri (rt_P sc fm) 0 367 (.iload 4) (369) := ⟨(by decide +kernel : rt_xt 0 367 = none), (by decide +kernel : rt_cd 0 367 = some (.iload 4)), rfl⟩
theorem i_0_369 {sc : Nat × (Nat → Int32)} {fm : Value} : ri (rt_P sc fm) 0 369 (.iconst 1) (370) := ⟨(by decide +kernel : rt_xt 0 369 = none), (by decide +kernel : rt_cd 0 369 = some (.iconst 1)), rfl⟩
theorem i_0_370 {sc : Nat × (Nat → Int32)} {fm : Value} : ri (rt_P sc fm) 0 370 (.iadd) (371) := ⟨(by decide +kernel : rt_xt 0 370 = none), (by decide +kernel : rt_cd 0 370 = some (.iadd)), rfl⟩
theorem i_0_371 {sc : Nat × (Nat → Int32)} {fm : Value} : ri (rt_P sc fm) 0 371 (.iaload) (372) := ⟨(by decide +kernel : rt_xt 0 371 = none), (by decide +kernel : rt_cd 0 371 = some (.iaload)), rfl⟩
theorem i_0_372 {sc : Nat × (Nat → Int32)} {fm : Value} : ri (rt_P sc fm) 0 372 (.invokevirtual 56) (375) := ⟨(by decide +kernel : rt_xt 0 372 = none), (by decide +kernel : rt_cd 0 372 = some (.invokevirtual 56)), rfl⟩
theorem c_0_56 {sc : Nat × (Nat → Int32)} {fm : Value} : rx_ct (rt_P sc fm) 0 56 = some (0, 107, 1) := (by decide +kernel : rt_ct 0 56 = some (0, 107, 1))
theorem a_15_107 {sc : Nat × (Nat → Int32)} {fm : Value} : rz_cn 15 (rx_yn (rt_P sc fm) 107).cls = true := (by decide +kernel : rz_cn 15 (rt_yn 107).cls = true)
theorem i_107_0 {sc : Nat × (Nat → Int32)} {fm : Value} : ri (rt_P sc fm) 107 0 (.aload_n 0) (1) := ⟨(by decide +kernel : rt_xt 107 0 = none), (by decide +kernel : rt_cd 107 0 = some (.aload_n 0)), rfl⟩
theorem i_107_1 {sc : Nat × (Nat → Int32)} {fm : Value} : ri (rt_P sc fm) 107 1 (.iconst 0) (2) := ⟨(by decide +kernel : rt_xt 107 1 = none), (by decide +kernel : rt_cd 107 1 = some (.iconst 0)), rfl⟩
theorem i_107_2 {sc : Nat × (Nat → Int32)} {fm : Value} : ri (rt_P sc fm) 107 2 (.putfield 356) (5) := ⟨(by decide +kernel : rt_xt 107 2 = none), (by decide +kernel : rt_cd 107 2 = some (.putfield 356)), rfl⟩
theorem p_107_356 {sc : Nat × (Nat → Int32)} {fm : Value} : rx_pt (rt_P sc fm) 107 356 = some (15, 0, .int) := (by decide +kernel : rt_pt 107 356 = some (15, 0, .int))
theorem i_107_5 {sc : Nat × (Nat → Int32)} {fm : Value} : ri (rt_P sc fm) 107 5 (.iload_n 1) (6) := ⟨(by decide +kernel : rt_xt 107 5 = none), (by decide +kernel : rt_cd 107 5 = some (.iload_n 1)), rfl⟩
theorem i_107_6 {sc : Nat × (Nat → Int32)} {fm : Value} : ri (rt_P sc fm) 107 6 (.ifCond .ne 10) (9) := ⟨(by decide +kernel : rt_xt 107 6 = none), (by decide +kernel : rt_cd 107 6 = some (.ifCond .ne 10)), rfl⟩
theorem i_107_16 {sc : Nat × (Nat → Int32)} {fm : Value} : ri (rt_P sc fm) 107 16 (.iload_n 1) (17) := ⟨(by decide +kernel : rt_xt 107 16 = none), (by decide +kernel : rt_cd 107 16 = some (.iload_n 1)), rfl⟩
theorem i_107_17 {sc : Nat × (Nat → Int32)} {fm : Value} : ri (rt_P sc fm) 107 17 (.iconst 1) (18) := ⟨(by decide +kernel : rt_xt 107 17 = none), (by decide +kernel : rt_cd 107 17 = some (.iconst 1)), rfl⟩
theorem i_107_18 {sc : Nat × (Nat → Int32)} {fm : Value} : ri (rt_P sc fm) 107 18 (.if_icmp .ne 10) (21) := ⟨(by decide +kernel : rt_xt 107 18 = none), (by decide +kernel : rt_cd 107 18 = some (.if_icmp .ne 10)), rfl⟩
theorem i_107_28 {sc : Nat × (Nat → Int32)} {fm : Value} : ri (rt_P sc fm) 107 28 (.iconst (-1)) (29) := ⟨(by decide +kernel : rt_xt 107 28 = none), (by decide +kernel : rt_cd 107 28 = some (.iconst (-1))), rfl⟩
theorem i_107_29 {sc : Nat × (Nat → Int32)} {fm : Value} : ri (rt_P sc fm) 107 29 (.ireturn) (30) := ⟨(by decide +kernel : rt_xt 107 29 = none), (by decide +kernel : rt_cd 107 29 = some (.ireturn)), rfl⟩
theorem r_107 {sc : Nat × (Nat → Int32)} {fm : Value} : rx_rt (rt_P sc fm) 107 = (some FieldType.int) := (by decide +kernel : rt_rt 107 = (some FieldType.int))
theorem i_0_375 {sc : Nat × (Nat → Int32)} {fm : Value} : ri (rt_P sc fm) 0 375 (.if_icmp .eq 959) (378) := ⟨(by decide +kernel : rt_xt 0 375 = none), (by decide +kernel : rt_cd 0 375 = some (.if_icmp .eq 959)), rfl⟩
theorem i_60_17 {sc : Nat × (Nat → Int32)} {fm : Value} : ri (rt_P sc fm) 60 17 (.aload_n 0) (18) := ⟨(by decide +kernel : rt_xt 60 17 = none), (by decide +kernel : rt_cd 60 17 = some (.aload_n 0)), rfl⟩
theorem i_60_18 {sc : Nat × (Nat → Int32)} {fm : Value} : ri (rt_P sc fm) 60 18 (.getfield 44) (21) := ⟨(by decide +kernel : rt_xt 60 18 = none), (by decide +kernel : rt_cd 60 18 = some (.getfield 44)), rfl⟩
theorem f_60_44 {sc : Nat × (Nat → Int32)} {fm : Value} : rx_ft (rt_P sc fm) 60 44 = some (14, 4) := (by decide +kernel : rt_ft 60 44 = some (14, 4))
theorem i_60_21 {sc : Nat × (Nat → Int32)} {fm : Value} : ri (rt_P sc fm) 60 21 (.getfield 139) (24) := ⟨(by decide +kernel : rt_xt 60 21 = none), (by decide +kernel : rt_cd 60 21 = some (.getfield 139)), rfl⟩
theorem f_60_139 {sc : Nat × (Nat → Int32)} {fm : Value} : rx_ft (rt_P sc fm) 60 139 = some (10, 5) := (by decide +kernel : rt_ft 60 139 = some (10, 5))
theorem i_60_24 {sc : Nat × (Nat → Int32)} {fm : Value} : ri (rt_P sc fm) 60 24 (.goto 4) (27) := ⟨(by decide +kernel : rt_xt 60 24 = none), (by decide +kernel : rt_cd 60 24 = some (.goto 4)), rfl⟩
theorem i_107_21 {sc : Nat × (Nat → Int32)} {fm : Value} : ri (rt_P sc fm) 107 21 (.aload_n 0) (22) := ⟨(by decide +kernel : rt_xt 107 21 = none), (by decide +kernel : rt_cd 107 21 = some (.aload_n 0)), rfl⟩
theorem i_107_22 {sc : Nat × (Nat → Int32)} {fm : Value} : ri (rt_P sc fm) 107 22 (.getfield 415) (25) := ⟨(by decide +kernel : rt_xt 107 22 = none), (by decide +kernel : rt_cd 107 22 = some (.getfield 415)), rfl⟩
theorem f_107_415 {sc : Nat × (Nat → Int32)} {fm : Value} : rx_ft (rt_P sc fm) 107 415 = some (15, 12) := (by decide +kernel : rt_ft 107 415 = some (15, 12))
theorem i_107_25 {sc : Nat × (Nat → Int32)} {fm : Value} : ri (rt_P sc fm) 107 25 (.goto 4) (28) := ⟨(by decide +kernel : rt_xt 107 25 = none), (by decide +kernel : rt_cd 107 25 = some (.goto 4)), rfl⟩
theorem i_60_4 {sc : Nat × (Nat → Int32)} {fm : Value} : ri (rt_P sc fm) 60 4 (.aload_n 0) (5) := ⟨(by decide +kernel : rt_xt 60 4 = none), (by decide +kernel : rt_cd 60 4 = some (.aload_n 0)), rfl⟩
theorem i_60_5 {sc : Nat × (Nat → Int32)} {fm : Value} : ri (rt_P sc fm) 60 5 (.getfield 44) (8) := ⟨(by decide +kernel : rt_xt 60 5 = none), (by decide +kernel : rt_cd 60 5 = some (.getfield 44)), rfl⟩
theorem i_60_8 {sc : Nat × (Nat → Int32)} {fm : Value} : ri (rt_P sc fm) 60 8 (.getfield 136) (11) := ⟨(by decide +kernel : rt_xt 60 8 = none), (by decide +kernel : rt_cd 60 8 = some (.getfield 136)), rfl⟩
theorem f_60_136 {sc : Nat × (Nat → Int32)} {fm : Value} : rx_ft (rt_P sc fm) 60 136 = some (10, 4) := (by decide +kernel : rt_ft 60 136 = some (10, 4))
theorem i_60_11 {sc : Nat × (Nat → Int32)} {fm : Value} : ri (rt_P sc fm) 60 11 (.ireturn) (12) := ⟨(by decide +kernel : rt_xt 60 11 = none), (by decide +kernel : rt_cd 60 11 = some (.ireturn)), rfl⟩
theorem i_107_9 {sc : Nat × (Nat → Int32)} {fm : Value} : ri (rt_P sc fm) 107 9 (.aload_n 0) (10) := ⟨(by decide +kernel : rt_xt 107 9 = none), (by decide +kernel : rt_cd 107 9 = some (.aload_n 0)), rfl⟩
theorem i_107_10 {sc : Nat × (Nat → Int32)} {fm : Value} : ri (rt_P sc fm) 107 10 (.getfield 412) (13) := ⟨(by decide +kernel : rt_xt 107 10 = none), (by decide +kernel : rt_cd 107 10 = some (.getfield 412)), rfl⟩
theorem f_107_412 {sc : Nat × (Nat → Int32)} {fm : Value} : rx_ft (rt_P sc fm) 107 412 = some (15, 11) := (by decide +kernel : rt_ft 107 412 = some (15, 11))
theorem i_107_13 {sc : Nat × (Nat → Int32)} {fm : Value} : ri (rt_P sc fm) 107 13 (.goto 16) (16) := ⟨(by decide +kernel : rt_xt 107 13 = none), (by decide +kernel : rt_cd 107 13 = some (.goto 16)), rfl⟩
theorem i_0_380 {sc : Nat × (Nat → Int32)} {fm : Value} : ri (rt_P sc fm) 0 380 (.aload_n 1) (381) := ⟨(by decide +kernel : rt_xt 0 380 = none), (by decide +kernel : rt_cd 0 380 = some (.aload_n 1)), rfl⟩
theorem i_0_381 {sc : Nat × (Nat → Int32)} {fm : Value} : ri (rt_P sc fm) 0 381 (.invokevirtual 57) (384) := ⟨(by decide +kernel : rt_xt 0 381 = none), (by decide +kernel : rt_cd 0 381 = some (.invokevirtual 57)), rfl⟩
theorem c_0_57 {sc : Nat × (Nat → Int32)} {fm : Value} : rx_ct (rt_P sc fm) 0 57 = some (0, 61, 0) := (by decide +kernel : rt_ct 0 57 = some (0, 61, 0))
theorem a_14_61 {sc : Nat × (Nat → Int32)} {fm : Value} : rz_cn 14 (rx_yn (rt_P sc fm) 61).cls = true := (by decide +kernel : rz_cn 14 (rt_yn 61).cls = true)
theorem i_61_0 {sc : Nat × (Nat → Int32)} {fm : Value} : ri (rt_P sc fm) 61 0 (.aload_n 0) (1) := ⟨(by decide +kernel : rt_xt 61 0 = none), (by decide +kernel : rt_cd 61 0 = some (.aload_n 0)), rfl⟩
theorem i_61_1 {sc : Nat × (Nat → Int32)} {fm : Value} : ri (rt_P sc fm) 61 1 (.getfield 19) (4) := ⟨(by decide +kernel : rt_xt 61 1 = none), (by decide +kernel : rt_cd 61 1 = some (.getfield 19)), rfl⟩
theorem f_61_19 {sc : Nat × (Nat → Int32)} {fm : Value} : rx_ft (rt_P sc fm) 61 19 = some (14, 1) := (by decide +kernel : rt_ft 61 19 = some (14, 1))
theorem i_61_4 {sc : Nat × (Nat → Int32)} {fm : Value} : ri (rt_P sc fm) 61 4 (.getfield 126) (7) := ⟨(by decide +kernel : rt_xt 61 4 = none), (by decide +kernel : rt_cd 61 4 = some (.getfield 126)), rfl⟩
theorem f_61_126 {sc : Nat × (Nat → Int32)} {fm : Value} : rx_ft (rt_P sc fm) 61 126 = some (9, 0) := (by decide +kernel : rt_ft 61 126 = some (9, 0))
theorem i_61_7 {sc : Nat × (Nat → Int32)} {fm : Value} : ri (rt_P sc fm) 61 7 (.ifCond .eq 13) (10) := ⟨(by decide +kernel : rt_xt 61 7 = none), (by decide +kernel : rt_cd 61 7 = some (.ifCond .eq 13)), rfl⟩
theorem i_61_20 {sc : Nat × (Nat → Int32)} {fm : Value} : ri (rt_P sc fm) 61 20 (.iconst (-1)) (21) := ⟨(by decide +kernel : rt_xt 61 20 = none), (by decide +kernel : rt_cd 61 20 = some (.iconst (-1))), rfl⟩
theorem i_61_21 {sc : Nat × (Nat → Int32)} {fm : Value} : ri (rt_P sc fm) 61 21 (.ireturn) (22) := ⟨(by decide +kernel : rt_xt 61 21 = none), (by decide +kernel : rt_cd 61 21 = some (.ireturn)), rfl⟩
theorem r_61 {sc : Nat × (Nat → Int32)} {fm : Value} : rx_rt (rt_P sc fm) 61 = (some FieldType.int) := (by decide +kernel : rt_rt 61 = (some FieldType.int))
theorem i_0_384 {sc : Nat × (Nat → Int32)} {fm : Value} : ri (rt_P sc fm) 0 384 (.aload_n 2) (385) := ⟨(by decide +kernel : rt_xt 0 384 = none), (by decide +kernel : rt_cd 0 384 = some (.aload_n 2)), rfl⟩
theorem i_0_385 {sc : Nat × (Nat → Int32)} {fm : Value} : ri (rt_P sc fm) 0 385 (.invokevirtual 60) (388) := ⟨(by decide +kernel : rt_xt 0 385 = none), (by decide +kernel : rt_cd 0 385 = some (.invokevirtual 60)), rfl⟩
theorem c_0_60 {sc : Nat × (Nat → Int32)} {fm : Value} : rx_ct (rt_P sc fm) 0 60 = some (0, 123, 0) := (by decide +kernel : rt_ct 0 60 = some (0, 123, 0))
theorem a_15_123 {sc : Nat × (Nat → Int32)} {fm : Value} : rz_cn 15 (rx_yn (rt_P sc fm) 123).cls = true := (by decide +kernel : rz_cn 15 (rt_yn 123).cls = true)
theorem i_123_0 {sc : Nat × (Nat → Int32)} {fm : Value} : ri (rt_P sc fm) 123 0 (.aload_n 0) (1) := ⟨(by decide +kernel : rt_xt 123 0 = none), (by decide +kernel : rt_cd 123 0 = some (.aload_n 0)), rfl⟩
theorem i_123_1 {sc : Nat × (Nat → Int32)} {fm : Value} : ri (rt_P sc fm) 123 1 (.iconst 0) (2) := ⟨(by decide +kernel : rt_xt 123 1 = none), (by decide +kernel : rt_cd 123 1 = some (.iconst 0)), rfl⟩
theorem i_123_2 {sc : Nat × (Nat → Int32)} {fm : Value} : ri (rt_P sc fm) 123 2 (.putfield 356) (5) := ⟨(by decide +kernel : rt_xt 123 2 = none), (by decide +kernel : rt_cd 123 2 = some (.putfield 356)), rfl⟩
theorem p_123_356 {sc : Nat × (Nat → Int32)} {fm : Value} : rx_pt (rt_P sc fm) 123 356 = some (15, 0, .int) := (by decide +kernel : rt_pt 123 356 = some (15, 0, .int))
theorem i_123_5 {sc : Nat × (Nat → Int32)} {fm : Value} : ri (rt_P sc fm) 123 5 (.aload_n 0) (6) := ⟨(by decide +kernel : rt_xt 123 5 = none), (by decide +kernel : rt_cd 123 5 = some (.aload_n 0)), rfl⟩
theorem i_123_6 {sc : Nat × (Nat → Int32)} {fm : Value} : ri (rt_P sc fm) 123 6 (.getfield 634) (9) := ⟨(by decide +kernel : rt_xt 123 6 = none), (by decide +kernel : rt_cd 123 6 = some (.getfield 634)), rfl⟩
theorem f_123_634 {sc : Nat × (Nat → Int32)} {fm : Value} : rx_ft (rt_P sc fm) 123 634 = some (15, 14) := (by decide +kernel : rt_ft 123 634 = some (15, 14))
theorem i_123_9 {sc : Nat × (Nat → Int32)} {fm : Value} : ri (rt_P sc fm) 123 9 (.ifCond .ne 5) (12) := ⟨(by decide +kernel : rt_xt 123 9 = none), (by decide +kernel : rt_cd 123 9 = some (.ifCond .ne 5)), rfl⟩
theorem i_123_12 {sc : Nat × (Nat → Int32)} {fm : Value} : ri (rt_P sc fm) 123 12 (.iconst (-1)) (13) := ⟨(by decide +kernel : rt_xt 123 12 = none), (by decide +kernel : rt_cd 123 12 = some (.iconst (-1))), rfl⟩
theorem i_123_13 {sc : Nat × (Nat → Int32)} {fm : Value} : ri (rt_P sc fm) 123 13 (.ireturn) (14) := ⟨(by decide +kernel : rt_xt 123 13 = none), (by decide +kernel : rt_cd 123 13 = some (.ireturn)), rfl⟩
theorem r_123 {sc : Nat × (Nat → Int32)} {fm : Value} : rx_rt (rt_P sc fm) 123 = (some FieldType.int) := (by decide +kernel : rt_rt 123 = (some FieldType.int))
theorem i_0_388 {sc : Nat × (Nat → Int32)} {fm : Value} : ri (rt_P sc fm) 0 388 (.if_icmp .eq 946) (391) := ⟨(by decide +kernel : rt_xt 0 388 = none), (by decide +kernel : rt_cd 0 388 = some (.if_icmp .eq 946)), rfl⟩
theorem i_0_393 {sc : Nat × (Nat → Int32)} {fm : Value} : ri (rt_P sc fm) 0 393 (.aload_n 1) (394) := ⟨(by decide +kernel : rt_xt 0 393 = none), (by decide +kernel : rt_cd 0 393 = some (.aload_n 1)), rfl⟩
theorem i_0_394 {sc : Nat × (Nat → Int32)} {fm : Value} : ri (rt_P sc fm) 0 394 (.aload_n 0) (395) := ⟨(by decide +kernel : rt_xt 0 394 = none), (by decide +kernel : rt_cd 0 394 = some (.aload_n 0)), rfl⟩
theorem i_0_395 {sc : Nat × (Nat → Int32)} {fm : Value} : ri (rt_P sc fm) 0 395 (.iload 4) (397) := ⟨(by decide +kernel : rt_xt 0 395 = none), (by decide +kernel : rt_cd 0 395 = some (.iload 4)), rfl⟩
theorem i_0_397 {sc : Nat × (Nat → Int32)} {fm : Value} : ri (rt_P sc fm) 0 397 (.iconst 1) (398) := ⟨(by decide +kernel : rt_xt 0 397 = none), (by decide +kernel : rt_cd 0 397 = some (.iconst 1)), rfl⟩
theorem i_0_398 {sc : Nat × (Nat → Int32)} {fm : Value} : ri (rt_P sc fm) 0 398 (.iadd) (399) := ⟨(by decide +kernel : rt_xt 0 398 = none), (by decide +kernel : rt_cd 0 398 = some (.iadd)), rfl⟩
theorem i_0_399 {sc : Nat × (Nat → Int32)} {fm : Value} : ri (rt_P sc fm) 0 399 (.iaload) (400) := ⟨(by decide +kernel : rt_xt 0 399 = none), (by decide +kernel : rt_cd 0 399 = some (.iaload)), rfl⟩
theorem i_0_400 {sc : Nat × (Nat → Int32)} {fm : Value} : ri (rt_P sc fm) 0 400 (.aload_n 0) (401) := ⟨(by decide +kernel : rt_xt 0 400 = none), (by decide +kernel : rt_cd 0 400 = some (.aload_n 0)), rfl⟩
theorem i_0_401 {sc : Nat × (Nat → Int32)} {fm : Value} : ri (rt_P sc fm) 0 401 (.iload 4) (403) := ⟨(by decide +kernel : rt_xt 0 401 = none), (by decide +kernel : rt_cd 0 401 = some (.iload 4)), rfl⟩
theorem i_0_403 {sc : Nat × (Nat → Int32)} {fm : Value} : ri (rt_P sc fm) 0 403 (.iconst 2) (404) := ⟨(by decide +kernel : rt_xt 0 403 = none), (by decide +kernel : rt_cd 0 403 = some (.iconst 2)), rfl⟩
theorem i_0_404 {sc : Nat × (Nat → Int32)} {fm : Value} : ri (rt_P sc fm) 0 404 (.iadd) (405) := ⟨(by decide +kernel : rt_xt 0 404 = none), (by decide +kernel : rt_cd 0 404 = some (.iadd)), rfl⟩
theorem i_0_405 {sc : Nat × (Nat → Int32)} {fm : Value} : ri (rt_P sc fm) 0 405 (.iaload) (406) := ⟨(by decide +kernel : rt_xt 0 405 = none), (by decide +kernel : rt_cd 0 405 = some (.iaload)), rfl⟩
theorem i_0_406 {sc : Nat × (Nat → Int32)} {fm : Value} : ri (rt_P sc fm) 0 406 (.invokevirtual 61) (409) := ⟨(by decide +kernel : rt_xt 0 406 = none), (by decide +kernel : rt_cd 0 406 = some (.invokevirtual 61)), rfl⟩
theorem c_0_61 {sc : Nat × (Nat → Int32)} {fm : Value} : rx_ct (rt_P sc fm) 0 61 = some (0, 62, 2) := (by decide +kernel : rt_ct 0 61 = some (0, 62, 2))
theorem a_14_62 {sc : Nat × (Nat → Int32)} {fm : Value} : rz_cn 14 (rx_yn (rt_P sc fm) 62).cls = true := (by decide +kernel : rz_cn 14 (rt_yn 62).cls = true)
theorem i_62_0 {sc : Nat × (Nat → Int32)} {fm : Value} : ri (rt_P sc fm) 62 0 (.aload_n 0) (1) := ⟨(by decide +kernel : rt_xt 62 0 = none), (by decide +kernel : rt_cd 62 0 = some (.aload_n 0)), rfl⟩
theorem i_62_1 {sc : Nat × (Nat → Int32)} {fm : Value} : ri (rt_P sc fm) 62 1 (.getfield 19) (4) := ⟨(by decide +kernel : rt_xt 62 1 = none), (by decide +kernel : rt_cd 62 1 = some (.getfield 19)), rfl⟩
theorem f_62_19 {sc : Nat × (Nat → Int32)} {fm : Value} : rx_ft (rt_P sc fm) 62 19 = some (14, 1) := (by decide +kernel : rt_ft 62 19 = some (14, 1))
theorem i_62_4 {sc : Nat × (Nat → Int32)} {fm : Value} : ri (rt_P sc fm) 62 4 (.getfield 126) (7) := ⟨(by decide +kernel : rt_xt 62 4 = none), (by decide +kernel : rt_cd 62 4 = some (.getfield 126)), rfl⟩
theorem f_62_126 {sc : Nat × (Nat → Int32)} {fm : Value} : rx_ft (rt_P sc fm) 62 126 = some (9, 0) := (by decide +kernel : rt_ft 62 126 = some (9, 0))
theorem i_62_7 {sc : Nat × (Nat → Int32)} {fm : Value} : ri (rt_P sc fm) 62 7 (.ifCond .ne 5) (10) := ⟨(by decide +kernel : rt_xt 62 7 = none), (by decide +kernel : rt_cd 62 7 = some (.ifCond .ne 5)), rfl⟩
theorem i_62_10 {sc : Nat × (Nat → Int32)} {fm : Value} : ri (rt_P sc fm) 62 10 (.iconst (-1)) (11) := ⟨(by decide +kernel : rt_xt 62 10 = none), (by decide +kernel : rt_cd 62 10 = some (.iconst (-1))), rfl⟩
theorem i_62_11 {sc : Nat × (Nat → Int32)} {fm : Value} : ri (rt_P sc fm) 62 11 (.ireturn) (12) := ⟨(by decide +kernel : rt_xt 62 11 = none), (by decide +kernel : rt_cd 62 11 = some (.ireturn)), rfl⟩
theorem r_62 {sc : Nat × (Nat → Int32)} {fm : Value} : rx_rt (rt_P sc fm) 62 = (some FieldType.int) := (by decide +kernel : rt_rt 62 = (some FieldType.int))
theorem i_0_409 {sc : Nat × (Nat → Int32)} {fm : Value} : ri (rt_P sc fm) 0 409 (.aload_n 2) (410) := ⟨(by decide +kernel : rt_xt 0 409 = none), (by decide +kernel : rt_cd 0 409 = some (.aload_n 2)), rfl⟩
theorem i_0_410 {sc : Nat × (Nat → Int32)} {fm : Value} : ri (rt_P sc fm) 0 410 (.aload_n 0) (411) := ⟨(by decide +kernel : rt_xt 0 410 = none), (by decide +kernel : rt_cd 0 410 = some (.aload_n 0)), rfl⟩
theorem i_0_411 {sc : Nat × (Nat → Int32)} {fm : Value} : ri (rt_P sc fm) 0 411 (.iload 4) (413) := ⟨(by decide +kernel : rt_xt 0 411 = none), (by decide +kernel : rt_cd 0 411 = some (.iload 4)), rfl⟩
theorem i_0_413 {sc : Nat × (Nat → Int32)} {fm : Value} : ri (rt_P sc fm) 0 413 (.iconst 1) (414) := ⟨(by decide +kernel : rt_xt 0 413 = none), (by decide +kernel : rt_cd 0 413 = some (.iconst 1)), rfl⟩
theorem i_0_414 {sc : Nat × (Nat → Int32)} {fm : Value} : ri (rt_P sc fm) 0 414 (.iadd) (415) := ⟨(by decide +kernel : rt_xt 0 414 = none), (by decide +kernel : rt_cd 0 414 = some (.iadd)), rfl⟩
theorem i_0_415 {sc : Nat × (Nat → Int32)} {fm : Value} : ri (rt_P sc fm) 0 415 (.iaload) (416) := ⟨(by decide +kernel : rt_xt 0 415 = none), (by decide +kernel : rt_cd 0 415 = some (.iaload)), rfl⟩
theorem i_0_416 {sc : Nat × (Nat → Int32)} {fm : Value} : ri (rt_P sc fm) 0 416 (.aload_n 0) (417) := ⟨(by decide +kernel : rt_xt 0 416 = none), (by decide +kernel : rt_cd 0 416 = some (.aload_n 0)), rfl⟩
theorem i_0_417 {sc : Nat × (Nat → Int32)} {fm : Value} : ri (rt_P sc fm) 0 417 (.iload 4) (419) := ⟨(by decide +kernel : rt_xt 0 417 = none), (by decide +kernel : rt_cd 0 417 = some (.iload 4)), rfl⟩
theorem i_0_419 {sc : Nat × (Nat → Int32)} {fm : Value} : ri (rt_P sc fm) 0 419 (.iconst 2) (420) := ⟨(by decide +kernel : rt_xt 0 419 = none), (by decide +kernel : rt_cd 0 419 = some (.iconst 2)), rfl⟩
theorem i_0_420 {sc : Nat × (Nat → Int32)} {fm : Value} : ri (rt_P sc fm) 0 420 (.iadd) (421) := ⟨(by decide +kernel : rt_xt 0 420 = none), (by decide +kernel : rt_cd 0 420 = some (.iadd)), rfl⟩
theorem i_0_421 {sc : Nat × (Nat → Int32)} {fm : Value} : ri (rt_P sc fm) 0 421 (.iaload) (422) := ⟨(by decide +kernel : rt_xt 0 421 = none), (by decide +kernel : rt_cd 0 421 = some (.iaload)), rfl⟩
theorem i_0_422 {sc : Nat × (Nat → Int32)} {fm : Value} : ri (rt_P sc fm) 0 422 (.invokevirtual 65) (425) := ⟨(by decide +kernel : rt_xt 0 422 = none), (by decide +kernel : rt_cd 0 422 = some (.invokevirtual 65)), rfl⟩
theorem c_0_65 {sc : Nat × (Nat → Int32)} {fm : Value} : rx_ct (rt_P sc fm) 0 65 = some (0, 118, 2) := (by decide +kernel : rt_ct 0 65 = some (0, 118, 2))
theorem a_15_118 {sc : Nat × (Nat → Int32)} {fm : Value} : rz_cn 15 (rx_yn (rt_P sc fm) 118).cls = true := (by decide +kernel : rz_cn 15 (rt_yn 118).cls = true)
theorem i_118_0 {sc : Nat × (Nat → Int32)} {fm : Value} : ri (rt_P sc fm) 118 0 (.aload_n 0) (1) := ⟨(by decide +kernel : rt_xt 118 0 = none), (by decide +kernel : rt_cd 118 0 = some (.aload_n 0)), rfl⟩
theorem i_118_1 {sc : Nat × (Nat → Int32)} {fm : Value} : ri (rt_P sc fm) 118 1 (.iconst 0) (2) := ⟨(by decide +kernel : rt_xt 118 1 = none), (by decide +kernel : rt_cd 118 1 = some (.iconst 0)), rfl⟩
theorem i_118_2 {sc : Nat × (Nat → Int32)} {fm : Value} : ri (rt_P sc fm) 118 2 (.putfield 356) (5) := ⟨(by decide +kernel : rt_xt 118 2 = none), (by decide +kernel : rt_cd 118 2 = some (.putfield 356)), rfl⟩
theorem p_118_356 {sc : Nat × (Nat → Int32)} {fm : Value} : rx_pt (rt_P sc fm) 118 356 = some (15, 0, .int) := (by decide +kernel : rt_pt 118 356 = some (15, 0, .int))
theorem i_118_5 {sc : Nat × (Nat → Int32)} {fm : Value} : ri (rt_P sc fm) 118 5 (.aload_n 0) (6) := ⟨(by decide +kernel : rt_xt 118 5 = none), (by decide +kernel : rt_cd 118 5 = some (.aload_n 0)), rfl⟩
theorem i_118_6 {sc : Nat × (Nat → Int32)} {fm : Value} : ri (rt_P sc fm) 118 6 (.getfield 634) (9) := ⟨(by decide +kernel : rt_xt 118 6 = none), (by decide +kernel : rt_cd 118 6 = some (.getfield 634)), rfl⟩
theorem f_118_634 {sc : Nat × (Nat → Int32)} {fm : Value} : rx_ft (rt_P sc fm) 118 634 = some (15, 14) := (by decide +kernel : rt_ft 118 634 = some (15, 14))
theorem i_118_9 {sc : Nat × (Nat → Int32)} {fm : Value} : ri (rt_P sc fm) 118 9 (.ifCond .ne 5) (12) := ⟨(by decide +kernel : rt_xt 118 9 = none), (by decide +kernel : rt_cd 118 9 = some (.ifCond .ne 5)), rfl⟩
theorem i_118_12 {sc : Nat × (Nat → Int32)} {fm : Value} : ri (rt_P sc fm) 118 12 (.iconst (-1)) (13) := ⟨(by decide +kernel : rt_xt 118 12 = none), (by decide +kernel : rt_cd 118 12 = some (.iconst (-1))), rfl⟩
theorem i_118_13 {sc : Nat × (Nat → Int32)} {fm : Value} : ri (rt_P sc fm) 118 13 (.ireturn) (14) := ⟨(by decide +kernel : rt_xt 118 13 = none), (by decide +kernel : rt_cd 118 13 = some (.ireturn)), rfl⟩
theorem r_118 {sc : Nat × (Nat → Int32)} {fm : Value} : rx_rt (rt_P sc fm) 118 = (some FieldType.int) := (by decide +kernel : rt_rt 118 = (some FieldType.int))
theorem i_0_425 {sc : Nat × (Nat → Int32)} {fm : Value} : ri (rt_P sc fm) 0 425 (.if_icmp .eq 909) (428) := ⟨(by decide +kernel : rt_xt 0 425 = none), (by decide +kernel : rt_cd 0 425 = some (.if_icmp .eq 909)), rfl⟩
theorem i_0_430 {sc : Nat × (Nat → Int32)} {fm : Value} : ri (rt_P sc fm) 0 430 (.aload_n 1) (431) := ⟨(by decide +kernel : rt_xt 0 430 = none), (by decide +kernel : rt_cd 0 430 = some (.aload_n 1)), rfl⟩
theorem i_0_431 {sc : Nat × (Nat → Int32)} {fm : Value} : ri (rt_P sc fm) 0 431 (.aload_n 0) (432) := ⟨(by decide +kernel : rt_xt 0 431 = none), (by decide +kernel : rt_cd 0 431 = some (.aload_n 0)), rfl⟩
theorem i_0_432 {sc : Nat × (Nat → Int32)} {fm : Value} : ri (rt_P sc fm) 0 432 (.iload 4) (434) := ⟨(by decide +kernel : rt_xt 0 432 = none), (by decide +kernel : rt_cd 0 432 = some (.iload 4)), rfl⟩
theorem i_0_434 {sc : Nat × (Nat → Int32)} {fm : Value} : ri (rt_P sc fm) 0 434 (.iconst 1) (435) := ⟨(by decide +kernel : rt_xt 0 434 = none), (by decide +kernel : rt_cd 0 434 = some (.iconst 1)), rfl⟩
theorem i_0_435 {sc : Nat × (Nat → Int32)} {fm : Value} : ri (rt_P sc fm) 0 435 (.iadd) (436) := ⟨(by decide +kernel : rt_xt 0 435 = none), (by decide +kernel : rt_cd 0 435 = some (.iadd)), rfl⟩
theorem i_0_436 {sc : Nat × (Nat → Int32)} {fm : Value} : ri (rt_P sc fm) 0 436 (.iaload) (437) := ⟨(by decide +kernel : rt_xt 0 436 = none), (by decide +kernel : rt_cd 0 436 = some (.iaload)), rfl⟩
theorem i_0_437 {sc : Nat × (Nat → Int32)} {fm : Value} : ri (rt_P sc fm) 0 437 (.aload_n 0) (438) := ⟨(by decide +kernel : rt_xt 0 437 = none), (by decide +kernel : rt_cd 0 437 = some (.aload_n 0)), rfl⟩
theorem i_0_438 {sc : Nat × (Nat → Int32)} {fm : Value} : ri (rt_P sc fm) 0 438 (.iload 4) (440) := ⟨(by decide +kernel : rt_xt 0 438 = none), (by decide +kernel : rt_cd 0 438 = some (.iload 4)), rfl⟩
theorem i_0_440 {sc : Nat × (Nat → Int32)} {fm : Value} : ri (rt_P sc fm) 0 440 (.iconst 2) (441) := ⟨(by decide +kernel : rt_xt 0 440 = none), (by decide +kernel : rt_cd 0 440 = some (.iconst 2)), rfl⟩
theorem i_0_441 {sc : Nat × (Nat → Int32)} {fm : Value} : ri (rt_P sc fm) 0 441 (.iadd) (442) := ⟨(by decide +kernel : rt_xt 0 441 = none), (by decide +kernel : rt_cd 0 441 = some (.iadd)), rfl⟩
theorem i_0_442 {sc : Nat × (Nat → Int32)} {fm : Value} : ri (rt_P sc fm) 0 442 (.iaload) (443) := ⟨(by decide +kernel : rt_xt 0 442 = none), (by decide +kernel : rt_cd 0 442 = some (.iaload)), rfl⟩
theorem i_0_443 {sc : Nat × (Nat → Int32)} {fm : Value} : ri (rt_P sc fm) 0 443 (.aload_n 0) (444) := ⟨(by decide +kernel : rt_xt 0 443 = none), (by decide +kernel : rt_cd 0 443 = some (.aload_n 0)), rfl⟩
theorem i_0_444 {sc : Nat × (Nat → Int32)} {fm : Value} : ri (rt_P sc fm) 0 444 (.iload 4) (446) := ⟨(by decide +kernel : rt_xt 0 444 = none), (by decide +kernel : rt_cd 0 444 = some (.iload 4)), rfl⟩
theorem i_0_446 {sc : Nat × (Nat → Int32)} {fm : Value} : ri (rt_P sc fm) 0 446 (.iconst 3) (447) := ⟨(by decide +kernel : rt_xt 0 446 = none), (by decide +kernel : rt_cd 0 446 = some (.iconst 3)), rfl⟩
theorem i_0_447 {sc : Nat × (Nat → Int32)} {fm : Value} : ri (rt_P sc fm) 0 447 (.iadd) (448) := ⟨(by decide +kernel : rt_xt 0 447 = none), (by decide +kernel : rt_cd 0 447 = some (.iadd)), rfl⟩
theorem i_0_448 {sc : Nat × (Nat → Int32)} {fm : Value} : ri (rt_P sc fm) 0 448 (.iaload) (449) := ⟨(by decide +kernel : rt_xt 0 448 = none), (by decide +kernel : rt_cd 0 448 = some (.iaload)), rfl⟩
theorem i_0_449 {sc : Nat × (Nat → Int32)} {fm : Value} : ri (rt_P sc fm) 0 449 (.aload_n 0) (450) := ⟨(by decide +kernel : rt_xt 0 449 = none), (by decide +kernel : rt_cd 0 449 = some (.aload_n 0)), rfl⟩
theorem i_0_450 {sc : Nat × (Nat → Int32)} {fm : Value} : ri (rt_P sc fm) 0 450 (.iload 4) (452) := ⟨(by decide +kernel : rt_xt 0 450 = none), (by decide +kernel : rt_cd 0 450 = some (.iload 4)), rfl⟩
theorem i_0_452 {sc : Nat × (Nat → Int32)} {fm : Value} : ri (rt_P sc fm) 0 452 (.iconst 4) (453) := ⟨(by decide +kernel : rt_xt 0 452 = none), (by decide +kernel : rt_cd 0 452 = some (.iconst 4)), rfl⟩
theorem i_0_453 {sc : Nat × (Nat → Int32)} {fm : Value} : ri (rt_P sc fm) 0 453 (.iadd) (454) := ⟨(by decide +kernel : rt_xt 0 453 = none), (by decide +kernel : rt_cd 0 453 = some (.iadd)), rfl⟩
theorem i_0_454 {sc : Nat × (Nat → Int32)} {fm : Value} : ri (rt_P sc fm) 0 454 (.iaload) (455) := ⟨(by decide +kernel : rt_xt 0 454 = none), (by decide +kernel : rt_cd 0 454 = some (.iaload)), rfl⟩
theorem i_0_455 {sc : Nat × (Nat → Int32)} {fm : Value} : ri (rt_P sc fm) 0 455 (.invokevirtual 66) (458) := ⟨(by decide +kernel : rt_xt 0 455 = none), (by decide +kernel : rt_cd 0 455 = some (.invokevirtual 66)), rfl⟩
theorem c_0_66 {sc : Nat × (Nat → Int32)} {fm : Value} : rx_ct (rt_P sc fm) 0 66 = some (0, 63, 4) := (by decide +kernel : rt_ct 0 66 = some (0, 63, 4))
theorem a_14_63 {sc : Nat × (Nat → Int32)} {fm : Value} : rz_cn 14 (rx_yn (rt_P sc fm) 63).cls = true := (by decide +kernel : rz_cn 14 (rt_yn 63).cls = true)
theorem i_63_0 {sc : Nat × (Nat → Int32)} {fm : Value} : ri (rt_P sc fm) 63 0 (.aload_n 0) (1) := ⟨(by decide +kernel : rt_xt 63 0 = none), (by decide +kernel : rt_cd 63 0 = some (.aload_n 0)), rfl⟩
theorem i_63_1 {sc : Nat × (Nat → Int32)} {fm : Value} : ri (rt_P sc fm) 63 1 (.getfield 19) (4) := ⟨(by decide +kernel : rt_xt 63 1 = none), (by decide +kernel : rt_cd 63 1 = some (.getfield 19)), rfl⟩
theorem f_63_19 {sc : Nat × (Nat → Int32)} {fm : Value} : rx_ft (rt_P sc fm) 63 19 = some (14, 1) := (by decide +kernel : rt_ft 63 19 = some (14, 1))
theorem i_63_4 {sc : Nat × (Nat → Int32)} {fm : Value} : ri (rt_P sc fm) 63 4 (.iload_n 1) (5) := ⟨(by decide +kernel : rt_xt 63 4 = none), (by decide +kernel : rt_cd 63 4 = some (.iload_n 1)), rfl⟩
theorem i_63_5 {sc : Nat × (Nat → Int32)} {fm : Value} : ri (rt_P sc fm) 63 5 (.invokevirtual 170) (8) := ⟨(by decide +kernel : rt_xt 63 5 = none), (by decide +kernel : rt_cd 63 5 = some (.invokevirtual 170)), rfl⟩
theorem c_63_170 {sc : Nat × (Nat → Int32)} {fm : Value} : rx_ct (rt_P sc fm) 63 170 = some (0, 37, 1) := (by decide +kernel : rt_ct 63 170 = some (0, 37, 1))
theorem a_9_37 {sc : Nat × (Nat → Int32)} {fm : Value} : rz_cn 9 (rx_yn (rt_P sc fm) 37).cls = true := (by decide +kernel : rz_cn 9 (rt_yn 37).cls = true)
theorem i_37_0 {sc : Nat × (Nat → Int32)} {fm : Value} : ri (rt_P sc fm) 37 0 (.aload_n 0) (1) := ⟨(by decide +kernel : rt_xt 37 0 = none), (by decide +kernel : rt_cd 37 0 = some (.aload_n 0)), rfl⟩
theorem i_37_1 {sc : Nat × (Nat → Int32)} {fm : Value} : ri (rt_P sc fm) 37 1 (.getfield 51) (4) := ⟨(by decide +kernel : rt_xt 37 1 = none), (by decide +kernel : rt_cd 37 1 = some (.getfield 51)), rfl⟩
theorem f_37_51 {sc : Nat × (Nat → Int32)} {fm : Value} : rx_ft (rt_P sc fm) 37 51 = some (9, 0) := (by decide +kernel : rt_ft 37 51 = some (9, 0))
theorem i_37_4 {sc : Nat × (Nat → Int32)} {fm : Value} : ri (rt_P sc fm) 37 4 (.ifCond .eq 19) (7) := ⟨(by decide +kernel : rt_xt 37 4 = none), (by decide +kernel : rt_cd 37 4 = some (.ifCond .eq 19)), rfl⟩
theorem i_37_23 {sc : Nat × (Nat → Int32)} {fm : Value} : ri (rt_P sc fm) 37 23 (.iconst 0) (24) := ⟨(by decide +kernel : rt_xt 37 23 = none), (by decide +kernel : rt_cd 37 23 = some (.iconst 0)), rfl⟩
theorem i_37_24 {sc : Nat × (Nat → Int32)} {fm : Value} : ri (rt_P sc fm) 37 24 (.ireturn) (25) := ⟨(by decide +kernel : rt_xt 37 24 = none), (by decide +kernel : rt_cd 37 24 = some (.ireturn)), rfl⟩
theorem r_37 {sc : Nat × (Nat → Int32)} {fm : Value} : rx_rt (rt_P sc fm) 37 = (some FieldType.boolean) := (by decide +kernel : rt_rt 37 = (some FieldType.boolean))
theorem i_63_8 {sc : Nat × (Nat → Int32)} {fm : Value} : ri (rt_P sc fm) 63 8 (.ifCond .ne 5) (11) := ⟨(by decide +kernel : rt_xt 63 8 = none), (by decide +kernel : rt_cd 63 8 = some (.ifCond .ne 5)), rfl⟩
theorem i_63_11 {sc : Nat × (Nat → Int32)} {fm : Value} : ri (rt_P sc fm) 63 11 (.iconst (-1)) (12) := ⟨(by decide +kernel : rt_xt 63 11 = none), (by decide +kernel : rt_cd 63 11 = some (.iconst (-1))), rfl⟩
theorem i_63_12 {sc : Nat × (Nat → Int32)} {fm : Value} : ri (rt_P sc fm) 63 12 (.ireturn) (13) := ⟨(by decide +kernel : rt_xt 63 12 = none), (by decide +kernel : rt_cd 63 12 = some (.ireturn)), rfl⟩
theorem r_63 {sc : Nat × (Nat → Int32)} {fm : Value} : rx_rt (rt_P sc fm) 63 = (some FieldType.int) := (by decide +kernel : rt_rt 63 = (some FieldType.int))
theorem i_0_458 {sc : Nat × (Nat → Int32)} {fm : Value} : ri (rt_P sc fm) 0 458 (.aload_n 2) (459) := ⟨(by decide +kernel : rt_xt 0 458 = none), (by decide +kernel : rt_cd 0 458 = some (.aload_n 2)), rfl⟩
theorem i_0_459 {sc : Nat × (Nat → Int32)} {fm : Value} : ri (rt_P sc fm) 0 459 (.aload_n 0) (460) := ⟨(by decide +kernel : rt_xt 0 459 = none), (by decide +kernel : rt_cd 0 459 = some (.aload_n 0)), rfl⟩
theorem i_0_460 {sc : Nat × (Nat → Int32)} {fm : Value} : ri (rt_P sc fm) 0 460 (.iload 4) (462) := ⟨(by decide +kernel : rt_xt 0 460 = none), (by decide +kernel : rt_cd 0 460 = some (.iload 4)), rfl⟩
theorem i_0_462 {sc : Nat × (Nat → Int32)} {fm : Value} : ri (rt_P sc fm) 0 462 (.iconst 1) (463) := ⟨(by decide +kernel : rt_xt 0 462 = none), (by decide +kernel : rt_cd 0 462 = some (.iconst 1)), rfl⟩
theorem i_0_463 {sc : Nat × (Nat → Int32)} {fm : Value} : ri (rt_P sc fm) 0 463 (.iadd) (464) := ⟨(by decide +kernel : rt_xt 0 463 = none), (by decide +kernel : rt_cd 0 463 = some (.iadd)), rfl⟩
theorem i_0_464 {sc : Nat × (Nat → Int32)} {fm : Value} : ri (rt_P sc fm) 0 464 (.iaload) (465) := ⟨(by decide +kernel : rt_xt 0 464 = none), (by decide +kernel : rt_cd 0 464 = some (.iaload)), rfl⟩
theorem i_0_465 {sc : Nat × (Nat → Int32)} {fm : Value} : ri (rt_P sc fm) 0 465 (.aload_n 0) (466) := ⟨(by decide +kernel : rt_xt 0 465 = none), (by decide +kernel : rt_cd 0 465 = some (.aload_n 0)), rfl⟩
theorem i_0_466 {sc : Nat × (Nat → Int32)} {fm : Value} : ri (rt_P sc fm) 0 466 (.iload 4) (468) := ⟨(by decide +kernel : rt_xt 0 466 = none), (by decide +kernel : rt_cd 0 466 = some (.iload 4)), rfl⟩
theorem i_0_468 {sc : Nat × (Nat → Int32)} {fm : Value} : ri (rt_P sc fm) 0 468 (.iconst 2) (469) := ⟨(by decide +kernel : rt_xt 0 468 = none), (by decide +kernel : rt_cd 0 468 = some (.iconst 2)), rfl⟩
theorem i_0_469 {sc : Nat × (Nat → Int32)} {fm : Value} : ri (rt_P sc fm) 0 469 (.iadd) (470) := ⟨(by decide +kernel : rt_xt 0 469 = none), (by decide +kernel : rt_cd 0 469 = some (.iadd)), rfl⟩
theorem i_0_470 {sc : Nat × (Nat → Int32)} {fm : Value} : ri (rt_P sc fm) 0 470 (.iaload) (471) := ⟨(by decide +kernel : rt_xt 0 470 = none), (by decide +kernel : rt_cd 0 470 = some (.iaload)), rfl⟩
theorem i_0_471 {sc : Nat × (Nat → Int32)} {fm : Value} : ri (rt_P sc fm) 0 471 (.aload_n 0) (472) := ⟨(by decide +kernel : rt_xt 0 471 = none), (by decide +kernel : rt_cd 0 471 = some (.aload_n 0)), rfl⟩
theorem i_0_472 {sc : Nat × (Nat → Int32)} {fm : Value} : ri (rt_P sc fm) 0 472 (.iload 4) (474) := ⟨(by decide +kernel : rt_xt 0 472 = none), (by decide +kernel : rt_cd 0 472 = some (.iload 4)), rfl⟩
theorem i_0_474 {sc : Nat × (Nat → Int32)} {fm : Value} : ri (rt_P sc fm) 0 474 (.iconst 3) (475) := ⟨(by decide +kernel : rt_xt 0 474 = none), (by decide +kernel : rt_cd 0 474 = some (.iconst 3)), rfl⟩
theorem i_0_475 {sc : Nat × (Nat → Int32)} {fm : Value} : ri (rt_P sc fm) 0 475 (.iadd) (476) := ⟨(by decide +kernel : rt_xt 0 475 = none), (by decide +kernel : rt_cd 0 475 = some (.iadd)), rfl⟩
theorem i_0_476 {sc : Nat × (Nat → Int32)} {fm : Value} : ri (rt_P sc fm) 0 476 (.iaload) (477) := ⟨(by decide +kernel : rt_xt 0 476 = none), (by decide +kernel : rt_cd 0 476 = some (.iaload)), rfl⟩
theorem i_0_477 {sc : Nat × (Nat → Int32)} {fm : Value} : ri (rt_P sc fm) 0 477 (.aload_n 0) (478) := ⟨(by decide +kernel : rt_xt 0 477 = none), (by decide +kernel : rt_cd 0 477 = some (.aload_n 0)), rfl⟩
theorem i_0_478 {sc : Nat × (Nat → Int32)} {fm : Value} : ri (rt_P sc fm) 0 478 (.iload 4) (480) := ⟨(by decide +kernel : rt_xt 0 478 = none), (by decide +kernel : rt_cd 0 478 = some (.iload 4)), rfl⟩
theorem i_0_480 {sc : Nat × (Nat → Int32)} {fm : Value} : ri (rt_P sc fm) 0 480 (.iconst 4) (481) := ⟨(by decide +kernel : rt_xt 0 480 = none), (by decide +kernel : rt_cd 0 480 = some (.iconst 4)), rfl⟩
theorem i_0_481 {sc : Nat × (Nat → Int32)} {fm : Value} : ri (rt_P sc fm) 0 481 (.iadd) (482) := ⟨(by decide +kernel : rt_xt 0 481 = none), (by decide +kernel : rt_cd 0 481 = some (.iadd)), rfl⟩
theorem i_0_482 {sc : Nat × (Nat → Int32)} {fm : Value} : ri (rt_P sc fm) 0 482 (.iaload) (483) := ⟨(by decide +kernel : rt_xt 0 482 = none), (by decide +kernel : rt_cd 0 482 = some (.iaload)), rfl⟩
theorem i_0_483 {sc : Nat × (Nat → Int32)} {fm : Value} : ri (rt_P sc fm) 0 483 (.invokevirtual 70) (486) := ⟨(by decide +kernel : rt_xt 0 483 = none), (by decide +kernel : rt_cd 0 483 = some (.invokevirtual 70)), rfl⟩
theorem c_0_70 {sc : Nat × (Nat → Int32)} {fm : Value} : rx_ct (rt_P sc fm) 0 70 = some (0, 120, 4) := (by decide +kernel : rt_ct 0 70 = some (0, 120, 4))
theorem a_15_120 {sc : Nat × (Nat → Int32)} {fm : Value} : rz_cn 15 (rx_yn (rt_P sc fm) 120).cls = true := (by decide +kernel : rz_cn 15 (rt_yn 120).cls = true)
theorem i_120_0 {sc : Nat × (Nat → Int32)} {fm : Value} : ri (rt_P sc fm) 120 0 (.aload_n 0) (1) := ⟨(by decide +kernel : rt_xt 120 0 = none), (by decide +kernel : rt_cd 120 0 = some (.aload_n 0)), rfl⟩
theorem i_120_1 {sc : Nat × (Nat → Int32)} {fm : Value} : ri (rt_P sc fm) 120 1 (.iconst 0) (2) := ⟨(by decide +kernel : rt_xt 120 1 = none), (by decide +kernel : rt_cd 120 1 = some (.iconst 0)), rfl⟩
theorem i_120_2 {sc : Nat × (Nat → Int32)} {fm : Value} : ri (rt_P sc fm) 120 2 (.putfield 356) (5) := ⟨(by decide +kernel : rt_xt 120 2 = none), (by decide +kernel : rt_cd 120 2 = some (.putfield 356)), rfl⟩
theorem p_120_356 {sc : Nat × (Nat → Int32)} {fm : Value} : rx_pt (rt_P sc fm) 120 356 = some (15, 0, .int) := (by decide +kernel : rt_pt 120 356 = some (15, 0, .int))
theorem i_120_5 {sc : Nat × (Nat → Int32)} {fm : Value} : ri (rt_P sc fm) 120 5 (.aload_n 0) (6) := ⟨(by decide +kernel : rt_xt 120 5 = none), (by decide +kernel : rt_cd 120 5 = some (.aload_n 0)), rfl⟩
theorem i_120_6 {sc : Nat × (Nat → Int32)} {fm : Value} : ri (rt_P sc fm) 120 6 (.iload_n 1) (7) := ⟨(by decide +kernel : rt_xt 120 6 = none), (by decide +kernel : rt_cd 120 6 = some (.iload_n 1)), rfl⟩
theorem i_120_7 {sc : Nat × (Nat → Int32)} {fm : Value} : ri (rt_P sc fm) 120 7 (.invokevirtual 724) (10) := ⟨(by decide +kernel : rt_xt 120 7 = none), (by decide +kernel : rt_cd 120 7 = some (.invokevirtual 724)), rfl⟩
theorem c_120_724 {sc : Nat × (Nat → Int32)} {fm : Value} : rx_ct (rt_P sc fm) 120 724 = some (0, 119, 1) := (by decide +kernel : rt_ct 120 724 = some (0, 119, 1))
theorem a_15_119 {sc : Nat × (Nat → Int32)} {fm : Value} : rz_cn 15 (rx_yn (rt_P sc fm) 119).cls = true := (by decide +kernel : rz_cn 15 (rt_yn 119).cls = true)
theorem i_119_0 {sc : Nat × (Nat → Int32)} {fm : Value} : ri (rt_P sc fm) 119 0 (.aload_n 0) (1) := ⟨(by decide +kernel : rt_xt 119 0 = none), (by decide +kernel : rt_cd 119 0 = some (.aload_n 0)), rfl⟩
theorem i_119_1 {sc : Nat × (Nat → Int32)} {fm : Value} : ri (rt_P sc fm) 119 1 (.getfield 634) (4) := ⟨(by decide +kernel : rt_xt 119 1 = none), (by decide +kernel : rt_cd 119 1 = some (.getfield 634)), rfl⟩
theorem f_119_634 {sc : Nat × (Nat → Int32)} {fm : Value} : rx_ft (rt_P sc fm) 119 634 = some (15, 14) := (by decide +kernel : rt_ft 119 634 = some (15, 14))
theorem i_119_4 {sc : Nat × (Nat → Int32)} {fm : Value} : ri (rt_P sc fm) 119 4 (.ifCond .eq 19) (7) := ⟨(by decide +kernel : rt_xt 119 4 = none), (by decide +kernel : rt_cd 119 4 = some (.ifCond .eq 19)), rfl⟩
theorem i_119_23 {sc : Nat × (Nat → Int32)} {fm : Value} : ri (rt_P sc fm) 119 23 (.iconst 0) (24) := ⟨(by decide +kernel : rt_xt 119 23 = none), (by decide +kernel : rt_cd 119 23 = some (.iconst 0)), rfl⟩
theorem i_119_24 {sc : Nat × (Nat → Int32)} {fm : Value} : ri (rt_P sc fm) 119 24 (.ireturn) (25) := ⟨(by decide +kernel : rt_xt 119 24 = none), (by decide +kernel : rt_cd 119 24 = some (.ireturn)), rfl⟩
theorem r_119 {sc : Nat × (Nat → Int32)} {fm : Value} : rx_rt (rt_P sc fm) 119 = (some FieldType.boolean) := (by decide +kernel : rt_rt 119 = (some FieldType.boolean))
theorem i_120_10 {sc : Nat × (Nat → Int32)} {fm : Value} : ri (rt_P sc fm) 120 10 (.ifCond .eq 31) (13) := ⟨(by decide +kernel : rt_xt 120 10 = none), (by decide +kernel : rt_cd 120 10 = some (.ifCond .eq 31)), rfl⟩
theorem i_120_41 {sc : Nat × (Nat → Int32)} {fm : Value} : ri (rt_P sc fm) 120 41 (.iconst (-1)) (42) := ⟨(by decide +kernel : rt_xt 120 41 = none), (by decide +kernel : rt_cd 120 41 = some (.iconst (-1))), rfl⟩
theorem i_120_42 {sc : Nat × (Nat → Int32)} {fm : Value} : ri (rt_P sc fm) 120 42 (.ireturn) (43) := ⟨(by decide +kernel : rt_xt 120 42 = none), (by decide +kernel : rt_cd 120 42 = some (.ireturn)), rfl⟩
theorem r_120 {sc : Nat × (Nat → Int32)} {fm : Value} : rx_rt (rt_P sc fm) 120 = (some FieldType.int) := (by decide +kernel : rt_rt 120 = (some FieldType.int))
theorem i_0_486 {sc : Nat × (Nat → Int32)} {fm : Value} : ri (rt_P sc fm) 0 486 (.if_icmp .eq 848) (489) := ⟨(by decide +kernel : rt_xt 0 486 = none), (by decide +kernel : rt_cd 0 486 = some (.if_icmp .eq 848)), rfl⟩
theorem i_0_491 {sc : Nat × (Nat → Int32)} {fm : Value} : ri (rt_P sc fm) 0 491 (.aload_n 1) (492) := ⟨(by decide +kernel : rt_xt 0 491 = none), (by decide +kernel : rt_cd 0 491 = some (.aload_n 1)), rfl⟩
theorem i_0_492 {sc : Nat × (Nat → Int32)} {fm : Value} : ri (rt_P sc fm) 0 492 (.aload_n 0) (493) := ⟨(by decide +kernel : rt_xt 0 492 = none), (by decide +kernel : rt_cd 0 492 = some (.aload_n 0)), rfl⟩
theorem i_0_493 {sc : Nat × (Nat → Int32)} {fm : Value} : ri (rt_P sc fm) 0 493 (.iload 4) (495) := ⟨(by decide +kernel : rt_xt 0 493 = none), (by decide +kernel : rt_cd 0 493 = some (.iload 4)), rfl⟩
theorem i_0_495 {sc : Nat × (Nat → Int32)} {fm : Value} : ri (rt_P sc fm) 0 495 (.iconst 1) (496) := ⟨(by decide +kernel : rt_xt 0 495 = none), (by decide +kernel : rt_cd 0 495 = some (.iconst 1)), rfl⟩
theorem i_0_496 {sc : Nat × (Nat → Int32)} {fm : Value} : ri (rt_P sc fm) 0 496 (.iadd) (497) := ⟨(by decide +kernel : rt_xt 0 496 = none), (by decide +kernel : rt_cd 0 496 = some (.iadd)), rfl⟩
theorem i_0_497 {sc : Nat × (Nat → Int32)} {fm : Value} : ri (rt_P sc fm) 0 497 (.iaload) (498) := ⟨(by decide +kernel : rt_xt 0 497 = none), (by decide +kernel : rt_cd 0 497 = some (.iaload)), rfl⟩
theorem i_0_498 {sc : Nat × (Nat → Int32)} {fm : Value} : ri (rt_P sc fm) 0 498 (.aload_n 0) (499) := ⟨(by decide +kernel : rt_xt 0 498 = none), (by decide +kernel : rt_cd 0 498 = some (.aload_n 0)), rfl⟩
theorem i_0_499 {sc : Nat × (Nat → Int32)} {fm : Value} : ri (rt_P sc fm) 0 499 (.iload 4) (501) := ⟨(by decide +kernel : rt_xt 0 499 = none), (by decide +kernel : rt_cd 0 499 = some (.iload 4)), rfl⟩
theorem i_0_501 {sc : Nat × (Nat → Int32)} {fm : Value} : ri (rt_P sc fm) 0 501 (.iconst 2) (502) := ⟨(by decide +kernel : rt_xt 0 501 = none), (by decide +kernel : rt_cd 0 501 = some (.iconst 2)), rfl⟩
theorem i_0_502 {sc : Nat × (Nat → Int32)} {fm : Value} : ri (rt_P sc fm) 0 502 (.iadd) (503) := ⟨(by decide +kernel : rt_xt 0 502 = none), (by decide +kernel : rt_cd 0 502 = some (.iadd)), rfl⟩
theorem i_0_503 {sc : Nat × (Nat → Int32)} {fm : Value} : ri (rt_P sc fm) 0 503 (.iaload) (504) := ⟨(by decide +kernel : rt_xt 0 503 = none), (by decide +kernel : rt_cd 0 503 = some (.iaload)), rfl⟩
theorem i_0_504 {sc : Nat × (Nat → Int32)} {fm : Value} : ri (rt_P sc fm) 0 504 (.aload_n 0) (505) := ⟨(by decide +kernel : rt_xt 0 504 = none), (by decide +kernel : rt_cd 0 504 = some (.aload_n 0)), rfl⟩
theorem i_0_505 {sc : Nat × (Nat → Int32)} {fm : Value} : ri (rt_P sc fm) 0 505 (.iload 4) (507) := ⟨(by decide +kernel : rt_xt 0 505 = none), (by decide +kernel : rt_cd 0 505 = some (.iload 4)), rfl⟩
theorem i_0_507 {sc : Nat × (Nat → Int32)} {fm : Value} : ri (rt_P sc fm) 0 507 (.iconst 3) (508) := ⟨(by decide +kernel : rt_xt 0 507 = none), (by decide +kernel : rt_cd 0 507 = some (.iconst 3)), rfl⟩
theorem i_0_508 {sc : Nat × (Nat → Int32)} {fm : Value} : ri (rt_P sc fm) 0 508 (.iadd) (509) := ⟨(by decide +kernel : rt_xt 0 508 = none), (by decide +kernel : rt_cd 0 508 = some (.iadd)), rfl⟩
theorem i_0_509 {sc : Nat × (Nat → Int32)} {fm : Value} : ri (rt_P sc fm) 0 509 (.iaload) (510) := ⟨(by decide +kernel : rt_xt 0 509 = none), (by decide +kernel : rt_cd 0 509 = some (.iaload)), rfl⟩
theorem i_0_510 {sc : Nat × (Nat → Int32)} {fm : Value} : ri (rt_P sc fm) 0 510 (.invokevirtual 71) (513) := ⟨(by decide +kernel : rt_xt 0 510 = none), (by decide +kernel : rt_cd 0 510 = some (.invokevirtual 71)), rfl⟩
theorem c_0_71 {sc : Nat × (Nat → Int32)} {fm : Value} : rx_ct (rt_P sc fm) 0 71 = some (0, 64, 3) := (by decide +kernel : rt_ct 0 71 = some (0, 64, 3))
theorem a_14_64 {sc : Nat × (Nat → Int32)} {fm : Value} : rz_cn 14 (rx_yn (rt_P sc fm) 64).cls = true := (by decide +kernel : rz_cn 14 (rt_yn 64).cls = true)
theorem i_64_0 {sc : Nat × (Nat → Int32)} {fm : Value} : ri (rt_P sc fm) 64 0 (.aload_n 0) (1) := ⟨(by decide +kernel : rt_xt 64 0 = none), (by decide +kernel : rt_cd 64 0 = some (.aload_n 0)), rfl⟩
theorem i_64_1 {sc : Nat × (Nat → Int32)} {fm : Value} : ri (rt_P sc fm) 64 1 (.getfield 28) (4) := ⟨(by decide +kernel : rt_xt 64 1 = none), (by decide +kernel : rt_cd 64 1 = some (.getfield 28)), rfl⟩
theorem f_64_28 {sc : Nat × (Nat → Int32)} {fm : Value} : rx_ft (rt_P sc fm) 64 28 = some (14, 2) := (by decide +kernel : rt_ft 64 28 = some (14, 2))
theorem i_64_4 {sc : Nat × (Nat → Int32)} {fm : Value} : ri (rt_P sc fm) 64 4 (.iload_n 1) (5) := ⟨(by decide +kernel : rt_xt 64 4 = none), (by decide +kernel : rt_cd 64 4 = some (.iload_n 1)), rfl⟩
theorem i_64_5 {sc : Nat × (Nat → Int32)} {fm : Value} : ri (rt_P sc fm) 64 5 (.invokevirtual 146) (8) := ⟨(by decide +kernel : rt_xt 64 5 = none), (by decide +kernel : rt_cd 64 5 = some (.invokevirtual 146)), rfl⟩
theorem c_64_146 {sc : Nat × (Nat → Int32)} {fm : Value} : rx_ct (rt_P sc fm) 64 146 = some (0, 21, 1) := (by decide +kernel : rt_ct 64 146 = some (0, 21, 1))
theorem a_2_21 {sc : Nat × (Nat → Int32)} {fm : Value} : rz_cn 2 (rx_yn (rt_P sc fm) 21).cls = true := (by decide +kernel : rz_cn 2 (rt_yn 21).cls = true)
theorem i_21_0 {sc : Nat × (Nat → Int32)} {fm : Value} : ri (rt_P sc fm) 21 0 (.iload_n 1) (1) := ⟨(by decide +kernel : rt_xt 21 0 = none), (by decide +kernel : rt_cd 21 0 = some (.iload_n 1)), rfl⟩
theorem i_21_1 {sc : Nat × (Nat → Int32)} {fm : Value} : ri (rt_P sc fm) 21 1 (.bipush 100) (3) := ⟨(by decide +kernel : rt_xt 21 1 = none), (by decide +kernel : rt_cd 21 1 = some (.bipush 100)), rfl⟩
theorem i_21_3 {sc : Nat × (Nat → Int32)} {fm : Value} : ri (rt_P sc fm) 21 3 (.idiv) (4) := ⟨(by decide +kernel : rt_xt 21 3 = none), (by decide +kernel : rt_cd 21 3 = some (.idiv)), rfl⟩
theorem i_21_4 {sc : Nat × (Nat → Int32)} {fm : Value} : ri (rt_P sc fm) 21 4 (.istore_n 2) (5) := ⟨(by decide +kernel : rt_xt 21 4 = none), (by decide +kernel : rt_cd 21 4 = some (.istore_n 2)), rfl⟩
theorem i_21_5 {sc : Nat × (Nat → Int32)} {fm : Value} : ri (rt_P sc fm) 21 5 (.iload_n 1) (6) := ⟨(by decide +kernel : rt_xt 21 5 = none), (by decide +kernel : rt_cd 21 5 = some (.iload_n 1)), rfl⟩
theorem i_21_6 {sc : Nat × (Nat → Int32)} {fm : Value} : ri (rt_P sc fm) 21 6 (.bipush 100) (8) := ⟨(by decide +kernel : rt_xt 21 6 = none), (by decide +kernel : rt_cd 21 6 = some (.bipush 100)), rfl⟩
theorem i_21_8 {sc : Nat × (Nat → Int32)} {fm : Value} : ri (rt_P sc fm) 21 8 (.irem) (9) := ⟨(by decide +kernel : rt_xt 21 8 = none), (by decide +kernel : rt_cd 21 8 = some (.irem)), rfl⟩
theorem i_21_9 {sc : Nat × (Nat → Int32)} {fm : Value} : ri (rt_P sc fm) 21 9 (.istore_n 3) (10) := ⟨(by decide +kernel : rt_xt 21 9 = none), (by decide +kernel : rt_cd 21 9 = some (.istore_n 3)), rfl⟩
theorem i_21_10 {sc : Nat × (Nat → Int32)} {fm : Value} : ri (rt_P sc fm) 21 10 (.aload_n 0) (11) := ⟨(by decide +kernel : rt_xt 21 10 = none), (by decide +kernel : rt_cd 21 10 = some (.aload_n 0)), rfl⟩
theorem i_21_11 {sc : Nat × (Nat → Int32)} {fm : Value} : ri (rt_P sc fm) 21 11 (.getfield 67) (14) := ⟨(by decide +kernel : rt_xt 21 11 = none), (by decide +kernel : rt_cd 21 11 = some (.getfield 67)), rfl⟩
theorem f_21_67 {sc : Nat × (Nat → Int32)} {fm : Value} : rx_ft (rt_P sc fm) 21 67 = some (2, 0) := (by decide +kernel : rt_ft 21 67 = some (2, 0))
theorem i_21_14 {sc : Nat × (Nat → Int32)} {fm : Value} : ri (rt_P sc fm) 21 14 (.getfield 81) (17) := ⟨(by decide +kernel : rt_xt 21 14 = none), (by decide +kernel : rt_cd 21 14 = some (.getfield 81)), rfl⟩
theorem f_21_81 {sc : Nat × (Nat → Int32)} {fm : Value} : rx_ft (rt_P sc fm) 21 81 = some (9, 0) := (by decide +kernel : rt_ft 21 81 = some (9, 0))
theorem i_21_17 {sc : Nat × (Nat → Int32)} {fm : Value} : ri (rt_P sc fm) 21 17 (.ifCond .eq 18) (20) := ⟨(by decide +kernel : rt_xt 21 17 = none), (by decide +kernel : rt_cd 21 17 = some (.ifCond .eq 18)), rfl⟩
theorem i_21_35 {sc : Nat × (Nat → Int32)} {fm : Value} : ri (rt_P sc fm) 21 35 (.iconst (-1)) (36) := ⟨(by decide +kernel : rt_xt 21 35 = none), (by decide +kernel : rt_cd 21 35 = some (.iconst (-1))), rfl⟩
theorem i_21_36 {sc : Nat × (Nat → Int32)} {fm : Value} : ri (rt_P sc fm) 21 36 (.ireturn) (37) := ⟨(by decide +kernel : rt_xt 21 36 = none), (by decide +kernel : rt_cd 21 36 = some (.ireturn)), rfl⟩
theorem r_21 {sc : Nat × (Nat → Int32)} {fm : Value} : rx_rt (rt_P sc fm) 21 = (some FieldType.int) := (by decide +kernel : rt_rt 21 = (some FieldType.int))
theorem i_64_8 {sc : Nat × (Nat → Int32)} {fm : Value} : ri (rt_P sc fm) 64 8 (.ifCond .lt 20) (11) := ⟨(by decide +kernel : rt_xt 64 8 = none), (by decide +kernel : rt_cd 64 8 = some (.ifCond .lt 20)), rfl⟩
theorem i_64_28 {sc : Nat × (Nat → Int32)} {fm : Value} : ri (rt_P sc fm) 64 28 (.iconst (-1)) (29) := ⟨(by decide +kernel : rt_xt 64 28 = none), (by decide +kernel : rt_cd 64 28 = some (.iconst (-1))), rfl⟩
theorem i_64_29 {sc : Nat × (Nat → Int32)} {fm : Value} : ri (rt_P sc fm) 64 29 (.ireturn) (30) := ⟨(by decide +kernel : rt_xt 64 29 = none), (by decide +kernel : rt_cd 64 29 = some (.ireturn)), rfl⟩
theorem r_64 {sc : Nat × (Nat → Int32)} {fm : Value} : rx_rt (rt_P sc fm) 64 = (some FieldType.int) := (by decide +kernel : rt_rt 64 = (some FieldType.int))
theorem i_0_513 {sc : Nat × (Nat → Int32)} {fm : Value} : ri (rt_P sc fm) 0 513 (.aload_n 2) (514) := ⟨(by decide +kernel : rt_xt 0 513 = none), (by decide +kernel : rt_cd 0 513 = some (.aload_n 2)), rfl⟩
theorem i_0_514 {sc : Nat × (Nat → Int32)} {fm : Value} : ri (rt_P sc fm) 0 514 (.aload_n 0) (515) := ⟨(by decide +kernel : rt_xt 0 514 = none), (by decide +kernel : rt_cd 0 514 = some (.aload_n 0)), rfl⟩
theorem i_0_515 {sc : Nat × (Nat → Int32)} {fm : Value} : ri (rt_P sc fm) 0 515 (.iload 4) (517) := ⟨(by decide +kernel : rt_xt 0 515 = none), (by decide +kernel : rt_cd 0 515 = some (.iload 4)), rfl⟩
theorem i_0_517 {sc : Nat × (Nat → Int32)} {fm : Value} : ri (rt_P sc fm) 0 517 (.iconst 1) (518) := ⟨(by decide +kernel : rt_xt 0 517 = none), (by decide +kernel : rt_cd 0 517 = some (.iconst 1)), rfl⟩
theorem i_0_518 {sc : Nat × (Nat → Int32)} {fm : Value} : ri (rt_P sc fm) 0 518 (.iadd) (519) := ⟨(by decide +kernel : rt_xt 0 518 = none), (by decide +kernel : rt_cd 0 518 = some (.iadd)), rfl⟩
theorem i_0_519 {sc : Nat × (Nat → Int32)} {fm : Value} : ri (rt_P sc fm) 0 519 (.iaload) (520) := ⟨(by decide +kernel : rt_xt 0 519 = none), (by decide +kernel : rt_cd 0 519 = some (.iaload)), rfl⟩
theorem i_0_520 {sc : Nat × (Nat → Int32)} {fm : Value} : ri (rt_P sc fm) 0 520 (.aload_n 0) (521) := ⟨(by decide +kernel : rt_xt 0 520 = none), (by decide +kernel : rt_cd 0 520 = some (.aload_n 0)), rfl⟩
theorem i_0_521 {sc : Nat × (Nat → Int32)} {fm : Value} : ri (rt_P sc fm) 0 521 (.iload 4) (523) := ⟨(by decide +kernel : rt_xt 0 521 = none), (by decide +kernel : rt_cd 0 521 = some (.iload 4)), rfl⟩
theorem i_0_523 {sc : Nat × (Nat → Int32)} {fm : Value} : ri (rt_P sc fm) 0 523 (.iconst 2) (524) := ⟨(by decide +kernel : rt_xt 0 523 = none), (by decide +kernel : rt_cd 0 523 = some (.iconst 2)), rfl⟩
theorem i_0_524 {sc : Nat × (Nat → Int32)} {fm : Value} : ri (rt_P sc fm) 0 524 (.iadd) (525) := ⟨(by decide +kernel : rt_xt 0 524 = none), (by decide +kernel : rt_cd 0 524 = some (.iadd)), rfl⟩
theorem i_0_525 {sc : Nat × (Nat → Int32)} {fm : Value} : ri (rt_P sc fm) 0 525 (.iaload) (526) := ⟨(by decide +kernel : rt_xt 0 525 = none), (by decide +kernel : rt_cd 0 525 = some (.iaload)), rfl⟩
theorem i_0_526 {sc : Nat × (Nat → Int32)} {fm : Value} : ri (rt_P sc fm) 0 526 (.aload_n 0) (527) := ⟨(by decide +kernel : rt_xt 0 526 = none), (by decide +kernel : rt_cd 0 526 = some (.aload_n 0)), rfl⟩
theorem i_0_527 {sc : Nat × (Nat → Int32)} {fm : Value} : ri (rt_P sc fm) 0 527 (.iload 4) (529) := ⟨(by decide +kernel : rt_xt 0 527 = none), (by decide +kernel : rt_cd 0 527 = some (.iload 4)), rfl⟩
theorem i_0_529 {sc : Nat × (Nat → Int32)} {fm : Value} : ri (rt_P sc fm) 0 529 (.iconst 3) (530) := ⟨(by decide +kernel : rt_xt 0 529 = none), (by decide +kernel : rt_cd 0 529 = some (.iconst 3)), rfl⟩
theorem i_0_530 {sc : Nat × (Nat → Int32)} {fm : Value} : ri (rt_P sc fm) 0 530 (.iadd) (531) := ⟨(by decide +kernel : rt_xt 0 530 = none), (by decide +kernel : rt_cd 0 530 = some (.iadd)), rfl⟩
theorem i_0_531 {sc : Nat × (Nat → Int32)} {fm : Value} : ri (rt_P sc fm) 0 531 (.iaload) (532) := ⟨(by decide +kernel : rt_xt 0 531 = none), (by decide +kernel : rt_cd 0 531 = some (.iaload)), rfl⟩
theorem i_0_532 {sc : Nat × (Nat → Int32)} {fm : Value} : ri (rt_P sc fm) 0 532 (.invokevirtual 75) (535) := ⟨(by decide +kernel : rt_xt 0 532 = none), (by decide +kernel : rt_cd 0 532 = some (.invokevirtual 75)), rfl⟩
theorem c_0_75 {sc : Nat × (Nat → Int32)} {fm : Value} : rx_ct (rt_P sc fm) 0 75 = some (0, 117, 3) := (by decide +kernel : rt_ct 0 75 = some (0, 117, 3))
theorem a_15_117 {sc : Nat × (Nat → Int32)} {fm : Value} : rz_cn 15 (rx_yn (rt_P sc fm) 117).cls = true := (by decide +kernel : rz_cn 15 (rt_yn 117).cls = true)
theorem i_117_0 {sc : Nat × (Nat → Int32)} {fm : Value} : ri (rt_P sc fm) 117 0 (.aload_n 0) (1) := ⟨(by decide +kernel : rt_xt 117 0 = none), (by decide +kernel : rt_cd 117 0 = some (.aload_n 0)), rfl⟩
theorem i_117_1 {sc : Nat × (Nat → Int32)} {fm : Value} : ri (rt_P sc fm) 117 1 (.iconst 0) (2) := ⟨(by decide +kernel : rt_xt 117 1 = none), (by decide +kernel : rt_cd 117 1 = some (.iconst 0)), rfl⟩
theorem i_117_2 {sc : Nat × (Nat → Int32)} {fm : Value} : ri (rt_P sc fm) 117 2 (.putfield 356) (5) := ⟨(by decide +kernel : rt_xt 117 2 = none), (by decide +kernel : rt_cd 117 2 = some (.putfield 356)), rfl⟩
theorem p_117_356 {sc : Nat × (Nat → Int32)} {fm : Value} : rx_pt (rt_P sc fm) 117 356 = some (15, 0, .int) := (by decide +kernel : rt_pt 117 356 = some (15, 0, .int))
theorem i_117_5 {sc : Nat × (Nat → Int32)} {fm : Value} : ri (rt_P sc fm) 117 5 (.aload_n 0) (6) := ⟨(by decide +kernel : rt_xt 117 5 = none), (by decide +kernel : rt_cd 117 5 = some (.aload_n 0)), rfl⟩
theorem i_117_6 {sc : Nat × (Nat → Int32)} {fm : Value} : ri (rt_P sc fm) 117 6 (.iload_n 1) (7) := ⟨(by decide +kernel : rt_xt 117 6 = none), (by decide +kernel : rt_cd 117 6 = some (.iload_n 1)), rfl⟩
theorem i_117_7 {sc : Nat × (Nat → Int32)} {fm : Value} : ri (rt_P sc fm) 117 7 (.invokevirtual 652) (10) := ⟨(by decide +kernel : rt_xt 117 7 = none), (by decide +kernel : rt_cd 117 7 = some (.invokevirtual 652)), rfl⟩
theorem c_117_652 {sc : Nat × (Nat → Int32)} {fm : Value} : rx_ct (rt_P sc fm) 117 652 = some (0, 109, 1) := (by decide +kernel : rt_ct 117 652 = some (0, 109, 1))
theorem a_15_109 {sc : Nat × (Nat → Int32)} {fm : Value} : rz_cn 15 (rx_yn (rt_P sc fm) 109).cls = true := (by decide +kernel : rz_cn 15 (rt_yn 109).cls = true)
theorem i_109_0 {sc : Nat × (Nat → Int32)} {fm : Value} : ri (rt_P sc fm) 109 0 (.aload_n 0) (1) := ⟨(by decide +kernel : rt_xt 109 0 = none), (by decide +kernel : rt_cd 109 0 = some (.aload_n 0)), rfl⟩
theorem i_109_1 {sc : Nat × (Nat → Int32)} {fm : Value} : ri (rt_P sc fm) 109 1 (.getfield 634) (4) := ⟨(by decide +kernel : rt_xt 109 1 = none), (by decide +kernel : rt_cd 109 1 = some (.getfield 634)), rfl⟩
theorem f_109_634 {sc : Nat × (Nat → Int32)} {fm : Value} : rx_ft (rt_P sc fm) 109 634 = some (15, 14) := (by decide +kernel : rt_ft 109 634 = some (15, 14))
theorem i_109_4 {sc : Nat × (Nat → Int32)} {fm : Value} : ri (rt_P sc fm) 109 4 (.ifCond .eq 18) (7) := ⟨(by decide +kernel : rt_xt 109 4 = none), (by decide +kernel : rt_cd 109 4 = some (.ifCond .eq 18)), rfl⟩
theorem i_109_22 {sc : Nat × (Nat → Int32)} {fm : Value} : ri (rt_P sc fm) 109 22 (.iconst 0) (23) := ⟨(by decide +kernel : rt_xt 109 22 = none), (by decide +kernel : rt_cd 109 22 = some (.iconst 0)), rfl⟩
theorem i_109_23 {sc : Nat × (Nat → Int32)} {fm : Value} : ri (rt_P sc fm) 109 23 (.ireturn) (24) := ⟨(by decide +kernel : rt_xt 109 23 = none), (by decide +kernel : rt_cd 109 23 = some (.ireturn)), rfl⟩
theorem r_109 {sc : Nat × (Nat → Int32)} {fm : Value} : rx_rt (rt_P sc fm) 109 = (some FieldType.boolean) := (by decide +kernel : rt_rt 109 = (some FieldType.boolean))
theorem i_117_10 {sc : Nat × (Nat → Int32)} {fm : Value} : ri (rt_P sc fm) 117 10 (.ifCond .eq 17) (13) := ⟨(by decide +kernel : rt_xt 117 10 = none), (by decide +kernel : rt_cd 117 10 = some (.ifCond .eq 17)), rfl⟩
theorem i_117_27 {sc : Nat × (Nat → Int32)} {fm : Value} : ri (rt_P sc fm) 117 27 (.iconst (-1)) (28) := ⟨(by decide +kernel : rt_xt 117 27 = none), (by decide +kernel : rt_cd 117 27 = some (.iconst (-1))), rfl⟩
theorem i_117_28 {sc : Nat × (Nat → Int32)} {fm : Value} : ri (rt_P sc fm) 117 28 (.ireturn) (29) := ⟨(by decide +kernel : rt_xt 117 28 = none), (by decide +kernel : rt_cd 117 28 = some (.ireturn)), rfl⟩
theorem r_117 {sc : Nat × (Nat → Int32)} {fm : Value} : rx_rt (rt_P sc fm) 117 = (some FieldType.int) := (by decide +kernel : rt_rt 117 = (some FieldType.int))
theorem i_0_535 {sc : Nat × (Nat → Int32)} {fm : Value} : ri (rt_P sc fm) 0 535 (.if_icmp .eq 799) (538) := ⟨(by decide +kernel : rt_xt 0 535 = none), (by decide +kernel : rt_cd 0 535 = some (.if_icmp .eq 799)), rfl⟩
theorem i_0_540 {sc : Nat × (Nat → Int32)} {fm : Value} : ri (rt_P sc fm) 0 540 (.aload_n 1) (541) := ⟨(by decide +kernel : rt_xt 0 540 = none), (by decide +kernel : rt_cd 0 540 = some (.aload_n 1)), rfl⟩
theorem i_0_541 {sc : Nat × (Nat → Int32)} {fm : Value} : ri (rt_P sc fm) 0 541 (.aload_n 0) (542) := ⟨(by decide +kernel : rt_xt 0 541 = none), (by decide +kernel : rt_cd 0 541 = some (.aload_n 0)), rfl⟩
theorem i_0_542 {sc : Nat × (Nat → Int32)} {fm : Value} : ri (rt_P sc fm) 0 542 (.iload 4) (544) := ⟨(by decide +kernel : rt_xt 0 542 = none), (by decide +kernel : rt_cd 0 542 = some (.iload 4)), rfl⟩
theorem i_0_544 {sc : Nat × (Nat → Int32)} {fm : Value} : ri (rt_P sc fm) 0 544 (.iconst 1) (545) := ⟨(by decide +kernel : rt_xt 0 544 = none), (by decide +kernel : rt_cd 0 544 = some (.iconst 1)), rfl⟩
theorem i_0_545 {sc : Nat × (Nat → Int32)} {fm : Value} : ri (rt_P sc fm) 0 545 (.iadd) (546) := ⟨(by decide +kernel : rt_xt 0 545 = none), (by decide +kernel : rt_cd 0 545 = some (.iadd)), rfl⟩
theorem i_0_546 {sc : Nat × (Nat → Int32)} {fm : Value} : ri (rt_P sc fm) 0 546 (.iaload) (547) := ⟨(by decide +kernel : rt_xt 0 546 = none), (by decide +kernel : rt_cd 0 546 = some (.iaload)), rfl⟩
theorem i_0_547 {sc : Nat × (Nat → Int32)} {fm : Value} : ri (rt_P sc fm) 0 547 (.invokevirtual 76) (550) := ⟨(by decide +kernel : rt_xt 0 547 = none), (by decide +kernel : rt_cd 0 547 = some (.invokevirtual 76)), rfl⟩
theorem c_0_76 {sc : Nat × (Nat → Int32)} {fm : Value} : rx_ct (rt_P sc fm) 0 76 = some (0, 65, 1) := (by decide +kernel : rt_ct 0 76 = some (0, 65, 1))
theorem a_14_65 {sc : Nat × (Nat → Int32)} {fm : Value} : rz_cn 14 (rx_yn (rt_P sc fm) 65).cls = true := (by decide +kernel : rz_cn 14 (rt_yn 65).cls = true)
theorem i_65_0 {sc : Nat × (Nat → Int32)} {fm : Value} : ri (rt_P sc fm) 65 0 (.aload_n 0) (1) := ⟨(by decide +kernel : rt_xt 65 0 = none), (by decide +kernel : rt_cd 65 0 = some (.aload_n 0)), rfl⟩
theorem i_65_1 {sc : Nat × (Nat → Int32)} {fm : Value} : ri (rt_P sc fm) 65 1 (.getfield 12) (4) := ⟨(by decide +kernel : rt_xt 65 1 = none), (by decide +kernel : rt_cd 65 1 = some (.getfield 12)), rfl⟩
theorem f_65_12 {sc : Nat × (Nat → Int32)} {fm : Value} : rx_ft (rt_P sc fm) 65 12 = some (14, 0) := (by decide +kernel : rt_ft 65 12 = some (14, 0))
theorem i_65_4 {sc : Nat × (Nat → Int32)} {fm : Value} : ri (rt_P sc fm) 65 4 (.getfield 95) (7) := ⟨(by decide +kernel : rt_xt 65 4 = none), (by decide +kernel : rt_cd 65 4 = some (.getfield 95)), rfl⟩
theorem f_65_95 {sc : Nat × (Nat → Int32)} {fm : Value} : rx_ft (rt_P sc fm) 65 95 = some (3, 1) := (by decide +kernel : rt_ft 65 95 = some (3, 1))
theorem i_65_7 {sc : Nat × (Nat → Int32)} {fm : Value} : ri (rt_P sc fm) 65 7 (.istore_n 2) (8) := ⟨(by decide +kernel : rt_xt 65 7 = none), (by decide +kernel : rt_cd 65 7 = some (.istore_n 2)), rfl⟩
theorem i_65_8 {sc : Nat × (Nat → Int32)} {fm : Value} : ri (rt_P sc fm) 65 8 (.aload_n 0) (9) := ⟨(by decide +kernel : rt_xt 65 8 = none), (by decide +kernel : rt_cd 65 8 = some (.aload_n 0)), rfl⟩
theorem i_65_9 {sc : Nat × (Nat → Int32)} {fm : Value} : ri (rt_P sc fm) 65 9 (.getfield 12) (12) := ⟨(by decide +kernel : rt_xt 65 9 = none), (by decide +kernel : rt_cd 65 9 = some (.getfield 12)), rfl⟩
theorem i_65_12 {sc : Nat × (Nat → Int32)} {fm : Value} : ri (rt_P sc fm) 65 12 (.iconst 0) (13) := ⟨(by decide +kernel : rt_xt 65 12 = none), (by decide +kernel : rt_cd 65 12 = some (.iconst 0)), rfl⟩
theorem i_65_13 {sc : Nat × (Nat → Int32)} {fm : Value} : ri (rt_P sc fm) 65 13 (.putfield 95) (16) := ⟨(by decide +kernel : rt_xt 65 13 = none), (by decide +kernel : rt_cd 65 13 = some (.putfield 95)), rfl⟩
theorem p_65_95 {sc : Nat × (Nat → Int32)} {fm : Value} : rx_pt (rt_P sc fm) 65 95 = some (3, 1, .int) := (by decide +kernel : rt_pt 65 95 = some (3, 1, .int))
theorem i_65_16 {sc : Nat × (Nat → Int32)} {fm : Value} : ri (rt_P sc fm) 65 16 (.aload_n 0) (17) := ⟨(by decide +kernel : rt_xt 65 16 = none), (by decide +kernel : rt_cd 65 16 = some (.aload_n 0)), rfl⟩
theorem i_65_17 {sc : Nat × (Nat → Int32)} {fm : Value} : ri (rt_P sc fm) 65 17 (.getfield 28) (20) := ⟨(by decide +kernel : rt_xt 65 17 = none), (by decide +kernel : rt_cd 65 17 = some (.getfield 28)), rfl⟩
theorem f_65_28 {sc : Nat × (Nat → Int32)} {fm : Value} : rx_ft (rt_P sc fm) 65 28 = some (14, 2) := (by decide +kernel : rt_ft 65 28 = some (14, 2))
theorem i_65_20 {sc : Nat × (Nat → Int32)} {fm : Value} : ri (rt_P sc fm) 65 20 (.iload_n 1) (21) := ⟨(by decide +kernel : rt_xt 65 20 = none), (by decide +kernel : rt_cd 65 20 = some (.iload_n 1)), rfl⟩
theorem i_65_21 {sc : Nat × (Nat → Int32)} {fm : Value} : ri (rt_P sc fm) 65 21 (.invokevirtual 146) (24) := ⟨(by decide +kernel : rt_xt 65 21 = none), (by decide +kernel : rt_cd 65 21 = some (.invokevirtual 146)), rfl⟩
theorem c_65_146 {sc : Nat × (Nat → Int32)} {fm : Value} : rx_ct (rt_P sc fm) 65 146 = some (0, 21, 1) := (by decide +kernel : rt_ct 65 146 = some (0, 21, 1))
theorem i_65_24 {sc : Nat × (Nat → Int32)} {fm : Value} : ri (rt_P sc fm) 65 24 (.istore_n 3) (25) := ⟨(by decide +kernel : rt_xt 65 24 = none), (by decide +kernel : rt_cd 65 24 = some (.istore_n 3)), rfl⟩
theorem i_65_25 {sc : Nat × (Nat → Int32)} {fm : Value} : ri (rt_P sc fm) 65 25 (.iload_n 3) (26) := ⟨(by decide +kernel : rt_xt 65 25 = none), (by decide +kernel : rt_cd 65 25 = some (.iload_n 3)), rfl⟩
theorem i_65_26 {sc : Nat × (Nat → Int32)} {fm : Value} : ri (rt_P sc fm) 65 26 (.ifCond .ge 5) (29) := ⟨(by decide +kernel : rt_xt 65 26 = none), (by decide +kernel : rt_cd 65 26 = some (.ifCond .ge 5)), rfl⟩
theorem i_65_29 {sc : Nat × (Nat → Int32)} {fm : Value} : ri (rt_P sc fm) 65 29 (.iconst (-1)) (30) := ⟨(by decide +kernel : rt_xt 65 29 = none), (by decide +kernel : rt_cd 65 29 = some (.iconst (-1))), rfl⟩
theorem i_65_30 {sc : Nat × (Nat → Int32)} {fm : Value} : ri (rt_P sc fm) 65 30 (.ireturn) (31) := ⟨(by decide +kernel : rt_xt 65 30 = none), (by decide +kernel : rt_cd 65 30 = some (.ireturn)), rfl⟩
theorem r_65 {sc : Nat × (Nat → Int32)} {fm : Value} : rx_rt (rt_P sc fm) 65 = (some FieldType.int) := (by decide +kernel : rt_rt 65 = (some FieldType.int))
theorem i_0_550 {sc : Nat × (Nat → Int32)} {fm : Value} : ri (rt_P sc fm) 0 550 (.aload_n 2) (551) := ⟨(by decide +kernel : rt_xt 0 550 = none), (by decide +kernel : rt_cd 0 550 = some (.aload_n 2)), rfl⟩
theorem i_0_551 {sc : Nat × (Nat → Int32)} {fm : Value} : ri (rt_P sc fm) 0 551 (.aload_n 0) (552) := ⟨(by decide +kernel : rt_xt 0 551 = none), (by decide +kernel : rt_cd 0 551 = some (.aload_n 0)), rfl⟩
theorem i_0_552 {sc : Nat × (Nat → Int32)} {fm : Value} : ri (rt_P sc fm) 0 552 (.iload 4) (554) := ⟨(by decide +kernel : rt_xt 0 552 = none), (by decide +kernel : rt_cd 0 552 = some (.iload 4)), rfl⟩
theorem i_0_554 {sc : Nat × (Nat → Int32)} {fm : Value} : ri (rt_P sc fm) 0 554 (.iconst 1) (555) := ⟨(by decide +kernel : rt_xt 0 554 = none), (by decide +kernel : rt_cd 0 554 = some (.iconst 1)), rfl⟩
theorem i_0_555 {sc : Nat × (Nat → Int32)} {fm : Value} : ri (rt_P sc fm) 0 555 (.iadd) (556) := ⟨(by decide +kernel : rt_xt 0 555 = none), (by decide +kernel : rt_cd 0 555 = some (.iadd)), rfl⟩
theorem i_0_556 {sc : Nat × (Nat → Int32)} {fm : Value} : ri (rt_P sc fm) 0 556 (.iaload) (557) := ⟨(by decide +kernel : rt_xt 0 556 = none), (by decide +kernel : rt_cd 0 556 = some (.iaload)), rfl⟩
theorem i_0_557 {sc : Nat × (Nat → Int32)} {fm : Value} : ri (rt_P sc fm) 0 557 (.invokevirtual 79) (560) := ⟨(by decide +kernel : rt_xt 0 557 = none), (by decide +kernel : rt_cd 0 557 = some (.invokevirtual 79)), rfl⟩
theorem c_0_79 {sc : Nat × (Nat → Int32)} {fm : Value} : rx_ct (rt_P sc fm) 0 79 = some (0, 121, 1) := (by decide +kernel : rt_ct 0 79 = some (0, 121, 1))
theorem a_15_121 {sc : Nat × (Nat → Int32)} {fm : Value} : rz_cn 15 (rx_yn (rt_P sc fm) 121).cls = true := (by decide +kernel : rz_cn 15 (rt_yn 121).cls = true)
theorem i_121_0 {sc : Nat × (Nat → Int32)} {fm : Value} : ri (rt_P sc fm) 121 0 (.aload_n 0) (1) := ⟨(by decide +kernel : rt_xt 121 0 = none), (by decide +kernel : rt_cd 121 0 = some (.aload_n 0)), rfl⟩
theorem i_121_1 {sc : Nat × (Nat → Int32)} {fm : Value} : ri (rt_P sc fm) 121 1 (.iconst 0) (2) := ⟨(by decide +kernel : rt_xt 121 1 = none), (by decide +kernel : rt_cd 121 1 = some (.iconst 0)), rfl⟩
theorem i_121_2 {sc : Nat × (Nat → Int32)} {fm : Value} : ri (rt_P sc fm) 121 2 (.putfield 356) (5) := ⟨(by decide +kernel : rt_xt 121 2 = none), (by decide +kernel : rt_cd 121 2 = some (.putfield 356)), rfl⟩
theorem p_121_356 {sc : Nat × (Nat → Int32)} {fm : Value} : rx_pt (rt_P sc fm) 121 356 = some (15, 0, .int) := (by decide +kernel : rt_pt 121 356 = some (15, 0, .int))
theorem i_121_5 {sc : Nat × (Nat → Int32)} {fm : Value} : ri (rt_P sc fm) 121 5 (.aload_n 0) (6) := ⟨(by decide +kernel : rt_xt 121 5 = none), (by decide +kernel : rt_cd 121 5 = some (.aload_n 0)), rfl⟩
theorem i_121_6 {sc : Nat × (Nat → Int32)} {fm : Value} : ri (rt_P sc fm) 121 6 (.aload_n 0) (7) := ⟨(by decide +kernel : rt_xt 121 6 = none), (by decide +kernel : rt_cd 121 6 = some (.aload_n 0)), rfl⟩
theorem i_121_7 {sc : Nat × (Nat → Int32)} {fm : Value} : ri (rt_P sc fm) 121 7 (.getfield 359) (10) := ⟨(by decide +kernel : rt_xt 121 7 = none), (by decide +kernel : rt_cd 121 7 = some (.getfield 359)), rfl⟩
theorem f_121_359 {sc : Nat × (Nat → Int32)} {fm : Value} : rx_ft (rt_P sc fm) 121 359 = some (15, 2) := (by decide +kernel : rt_ft 121 359 = some (15, 2))
theorem i_121_10 {sc : Nat × (Nat → Int32)} {fm : Value} : ri (rt_P sc fm) 121 10 (.putfield 739) (13) := ⟨(by decide +kernel : rt_xt 121 10 = none), (by decide +kernel : rt_cd 121 10 = some (.putfield 739)), rfl⟩
theorem p_121_739 {sc : Nat × (Nat → Int32)} {fm : Value} : rx_pt (rt_P sc fm) 121 739 = some (15, 81, .int) := (by decide +kernel : rt_pt 121 739 = some (15, 81, .int))
theorem i_121_13 {sc : Nat × (Nat → Int32)} {fm : Value} : ri (rt_P sc fm) 121 13 (.aload_n 0) (14) := ⟨(by decide +kernel : rt_xt 121 13 = none), (by decide +kernel : rt_cd 121 13 = some (.aload_n 0)), rfl⟩
theorem i_121_14 {sc : Nat × (Nat → Int32)} {fm : Value} : ri (rt_P sc fm) 121 14 (.iconst 0) (15) := ⟨(by decide +kernel : rt_xt 121 14 = none), (by decide +kernel : rt_cd 121 14 = some (.iconst 0)), rfl⟩
theorem i_121_15 {sc : Nat × (Nat → Int32)} {fm : Value} : ri (rt_P sc fm) 121 15 (.putfield 359) (18) := ⟨(by decide +kernel : rt_xt 121 15 = none), (by decide +kernel : rt_cd 121 15 = some (.putfield 359)), rfl⟩
theorem p_121_359 {sc : Nat × (Nat → Int32)} {fm : Value} : rx_pt (rt_P sc fm) 121 359 = some (15, 2, .int) := (by decide +kernel : rt_pt 121 359 = some (15, 2, .int))
theorem i_121_18 {sc : Nat × (Nat → Int32)} {fm : Value} : ri (rt_P sc fm) 121 18 (.aload_n 0) (19) := ⟨(by decide +kernel : rt_xt 121 18 = none), (by decide +kernel : rt_cd 121 18 = some (.aload_n 0)), rfl⟩
theorem i_121_19 {sc : Nat × (Nat → Int32)} {fm : Value} : ri (rt_P sc fm) 121 19 (.iload_n 1) (20) := ⟨(by decide +kernel : rt_xt 121 19 = none), (by decide +kernel : rt_cd 121 19 = some (.iload_n 1)), rfl⟩
theorem i_121_20 {sc : Nat × (Nat → Int32)} {fm : Value} : ri (rt_P sc fm) 121 20 (.invokevirtual 652) (23) := ⟨(by decide +kernel : rt_xt 121 20 = none), (by decide +kernel : rt_cd 121 20 = some (.invokevirtual 652)), rfl⟩
theorem c_121_652 {sc : Nat × (Nat → Int32)} {fm : Value} : rx_ct (rt_P sc fm) 121 652 = some (0, 109, 1) := (by decide +kernel : rt_ct 121 652 = some (0, 109, 1))
theorem i_121_23 {sc : Nat × (Nat → Int32)} {fm : Value} : ri (rt_P sc fm) 121 23 (.ifCond .ne 5) (26) := ⟨(by decide +kernel : rt_xt 121 23 = none), (by decide +kernel : rt_cd 121 23 = some (.ifCond .ne 5)), rfl⟩
theorem i_121_26 {sc : Nat × (Nat → Int32)} {fm : Value} : ri (rt_P sc fm) 121 26 (.iconst (-1)) (27) := ⟨(by decide +kernel : rt_xt 121 26 = none), (by decide +kernel : rt_cd 121 26 = some (.iconst (-1))), rfl⟩
theorem i_121_27 {sc : Nat × (Nat → Int32)} {fm : Value} : ri (rt_P sc fm) 121 27 (.ireturn) (28) := ⟨(by decide +kernel : rt_xt 121 27 = none), (by decide +kernel : rt_cd 121 27 = some (.ireturn)), rfl⟩
theorem r_121 {sc : Nat × (Nat → Int32)} {fm : Value} : rx_rt (rt_P sc fm) 121 = (some FieldType.int) := (by decide +kernel : rt_rt 121 = (some FieldType.int))
theorem i_0_560 {sc : Nat × (Nat → Int32)} {fm : Value} : ri (rt_P sc fm) 0 560 (.if_icmp .eq 774) (563) := ⟨(by decide +kernel : rt_xt 0 560 = none), (by decide +kernel : rt_cd 0 560 = some (.if_icmp .eq 774)), rfl⟩
theorem i_0_565 {sc : Nat × (Nat → Int32)} {fm : Value} : ri (rt_P sc fm) 0 565 (.aload_n 1) (566) := ⟨(by decide +kernel : rt_xt 0 565 = none), (by decide +kernel : rt_cd 0 565 = some (.aload_n 1)), rfl⟩
theorem i_0_566 {sc : Nat × (Nat → Int32)} {fm : Value} : ri (rt_P sc fm) 0 566 (.aload_n 0) (567) := ⟨(by decide +kernel : rt_xt 0 566 = none), (by decide +kernel : rt_cd 0 566 = some (.aload_n 0)), rfl⟩
theorem i_0_567 {sc : Nat × (Nat → Int32)} {fm : Value} : ri (rt_P sc fm) 0 567 (.iload 4) (569) := ⟨(by decide +kernel : rt_xt 0 567 = none), (by decide +kernel : rt_cd 0 567 = some (.iload 4)), rfl⟩
theorem i_0_569 {sc : Nat × (Nat → Int32)} {fm : Value} : ri (rt_P sc fm) 0 569 (.iconst 1) (570) := ⟨(by decide +kernel : rt_xt 0 569 = none), (by decide +kernel : rt_cd 0 569 = some (.iconst 1)), rfl⟩
theorem i_0_570 {sc : Nat × (Nat → Int32)} {fm : Value} : ri (rt_P sc fm) 0 570 (.iadd) (571) := ⟨(by decide +kernel : rt_xt 0 570 = none), (by decide +kernel : rt_cd 0 570 = some (.iadd)), rfl⟩
theorem i_0_571 {sc : Nat × (Nat → Int32)} {fm : Value} : ri (rt_P sc fm) 0 571 (.iaload) (572) := ⟨(by decide +kernel : rt_xt 0 571 = none), (by decide +kernel : rt_cd 0 571 = some (.iaload)), rfl⟩
theorem i_0_572 {sc : Nat × (Nat → Int32)} {fm : Value} : ri (rt_P sc fm) 0 572 (.invokevirtual 80) (575) := ⟨(by decide +kernel : rt_xt 0 572 = none), (by decide +kernel : rt_cd 0 572 = some (.invokevirtual 80)), rfl⟩
theorem c_0_80 {sc : Nat × (Nat → Int32)} {fm : Value} : rx_ct (rt_P sc fm) 0 80 = some (0, 66, 1) := (by decide +kernel : rt_ct 0 80 = some (0, 66, 1))
theorem a_14_66 {sc : Nat × (Nat → Int32)} {fm : Value} : rz_cn 14 (rx_yn (rt_P sc fm) 66).cls = true := (by decide +kernel : rz_cn 14 (rt_yn 66).cls = true)
theorem i_66_0 {sc : Nat × (Nat → Int32)} {fm : Value} : ri (rt_P sc fm) 66 0 (.aload_n 0) (1) := ⟨(by decide +kernel : rt_xt 66 0 = none), (by decide +kernel : rt_cd 66 0 = some (.aload_n 0)), rfl⟩
theorem i_66_1 {sc : Nat × (Nat → Int32)} {fm : Value} : ri (rt_P sc fm) 66 1 (.getfield 28) (4) := ⟨(by decide +kernel : rt_xt 66 1 = none), (by decide +kernel : rt_cd 66 1 = some (.getfield 28)), rfl⟩
theorem f_66_28 {sc : Nat × (Nat → Int32)} {fm : Value} : rx_ft (rt_P sc fm) 66 28 = some (14, 2) := (by decide +kernel : rt_ft 66 28 = some (14, 2))
theorem i_66_4 {sc : Nat × (Nat → Int32)} {fm : Value} : ri (rt_P sc fm) 66 4 (.iload_n 1) (5) := ⟨(by decide +kernel : rt_xt 66 4 = none), (by decide +kernel : rt_cd 66 4 = some (.iload_n 1)), rfl⟩
theorem i_66_5 {sc : Nat × (Nat → Int32)} {fm : Value} : ri (rt_P sc fm) 66 5 (.invokevirtual 146) (8) := ⟨(by decide +kernel : rt_xt 66 5 = none), (by decide +kernel : rt_cd 66 5 = some (.invokevirtual 146)), rfl⟩
theorem c_66_146 {sc : Nat × (Nat → Int32)} {fm : Value} : rx_ct (rt_P sc fm) 66 146 = some (0, 21, 1) := (by decide +kernel : rt_ct 66 146 = some (0, 21, 1))
theorem i_66_8 {sc : Nat × (Nat → Int32)} {fm : Value} : ri (rt_P sc fm) 66 8 (.ifCond .ge 7) (11) := ⟨(by decide +kernel : rt_xt 66 8 = none), (by decide +kernel : rt_cd 66 8 = some (.ifCond .ge 7)), rfl⟩
theorem i_66_11 {sc : Nat × (Nat → Int32)} {fm : Value} : ri (rt_P sc fm) 66 11 (.iconst (-1)) (12) := ⟨(by decide +kernel : rt_xt 66 11 = none), (by decide +kernel : rt_cd 66 11 = some (.iconst (-1))), rfl⟩
theorem i_66_12 {sc : Nat × (Nat → Int32)} {fm : Value} : ri (rt_P sc fm) 66 12 (.goto 11) (15) := ⟨(by decide +kernel : rt_xt 66 12 = none), (by decide +kernel : rt_cd 66 12 = some (.goto 11)), rfl⟩
theorem i_66_23 {sc : Nat × (Nat → Int32)} {fm : Value} : ri (rt_P sc fm) 66 23 (.ireturn) (24) := ⟨(by decide +kernel : rt_xt 66 23 = none), (by decide +kernel : rt_cd 66 23 = some (.ireturn)), rfl⟩
theorem r_66 {sc : Nat × (Nat → Int32)} {fm : Value} : rx_rt (rt_P sc fm) 66 = (some FieldType.int) := (by decide +kernel : rt_rt 66 = (some FieldType.int))
theorem i_0_575 {sc : Nat × (Nat → Int32)} {fm : Value} : ri (rt_P sc fm) 0 575 (.aload_n 2) (576) := ⟨(by decide +kernel : rt_xt 0 575 = none), (by decide +kernel : rt_cd 0 575 = some (.aload_n 2)), rfl⟩
theorem i_0_576 {sc : Nat × (Nat → Int32)} {fm : Value} : ri (rt_P sc fm) 0 576 (.aload_n 0) (577) := ⟨(by decide +kernel : rt_xt 0 576 = none), (by decide +kernel : rt_cd 0 576 = some (.aload_n 0)), rfl⟩
theorem i_0_577 {sc : Nat × (Nat → Int32)} {fm : Value} : ri (rt_P sc fm) 0 577 (.iload 4) (579) := ⟨(by decide +kernel : rt_xt 0 577 = none), (by decide +kernel : rt_cd 0 577 = some (.iload 4)), rfl⟩
theorem i_0_579 {sc : Nat × (Nat → Int32)} {fm : Value} : ri (rt_P sc fm) 0 579 (.iconst 1) (580) := ⟨(by decide +kernel : rt_xt 0 579 = none), (by decide +kernel : rt_cd 0 579 = some (.iconst 1)), rfl⟩
theorem i_0_580 {sc : Nat × (Nat → Int32)} {fm : Value} : ri (rt_P sc fm) 0 580 (.iadd) (581) := ⟨(by decide +kernel : rt_xt 0 580 = none), (by decide +kernel : rt_cd 0 580 = some (.iadd)), rfl⟩
theorem i_0_581 {sc : Nat × (Nat → Int32)} {fm : Value} : ri (rt_P sc fm) 0 581 (.iaload) (582) := ⟨(by decide +kernel : rt_xt 0 581 = none), (by decide +kernel : rt_cd 0 581 = some (.iaload)), rfl⟩
theorem i_0_582 {sc : Nat × (Nat → Int32)} {fm : Value} : ri (rt_P sc fm) 0 582 (.invokevirtual 83) (585) := ⟨(by decide +kernel : rt_xt 0 582 = none), (by decide +kernel : rt_cd 0 582 = some (.invokevirtual 83)), rfl⟩
theorem c_0_83 {sc : Nat × (Nat → Int32)} {fm : Value} : rx_ct (rt_P sc fm) 0 83 = some (0, 122, 1) := (by decide +kernel : rt_ct 0 83 = some (0, 122, 1))
theorem a_15_122 {sc : Nat × (Nat → Int32)} {fm : Value} : rz_cn 15 (rx_yn (rt_P sc fm) 122).cls = true := (by decide +kernel : rz_cn 15 (rt_yn 122).cls = true)
theorem i_122_0 {sc : Nat × (Nat → Int32)} {fm : Value} : ri (rt_P sc fm) 122 0 (.aload_n 0) (1) := ⟨(by decide +kernel : rt_xt 122 0 = none), (by decide +kernel : rt_cd 122 0 = some (.aload_n 0)), rfl⟩
theorem i_122_1 {sc : Nat × (Nat → Int32)} {fm : Value} : ri (rt_P sc fm) 122 1 (.iconst 0) (2) := ⟨(by decide +kernel : rt_xt 122 1 = none), (by decide +kernel : rt_cd 122 1 = some (.iconst 0)), rfl⟩
theorem i_122_2 {sc : Nat × (Nat → Int32)} {fm : Value} : ri (rt_P sc fm) 122 2 (.putfield 356) (5) := ⟨(by decide +kernel : rt_xt 122 2 = none), (by decide +kernel : rt_cd 122 2 = some (.putfield 356)), rfl⟩
theorem p_122_356 {sc : Nat × (Nat → Int32)} {fm : Value} : rx_pt (rt_P sc fm) 122 356 = some (15, 0, .int) := (by decide +kernel : rt_pt 122 356 = some (15, 0, .int))
theorem i_122_5 {sc : Nat × (Nat → Int32)} {fm : Value} : ri (rt_P sc fm) 122 5 (.aload_n 0) (6) := ⟨(by decide +kernel : rt_xt 122 5 = none), (by decide +kernel : rt_cd 122 5 = some (.aload_n 0)), rfl⟩
theorem i_122_6 {sc : Nat × (Nat → Int32)} {fm : Value} : ri (rt_P sc fm) 122 6 (.iload_n 1) (7) := ⟨(by decide +kernel : rt_xt 122 6 = none), (by decide +kernel : rt_cd 122 6 = some (.iload_n 1)), rfl⟩
theorem i_122_7 {sc : Nat × (Nat → Int32)} {fm : Value} : ri (rt_P sc fm) 122 7 (.invokevirtual 652) (10) := ⟨(by decide +kernel : rt_xt 122 7 = none), (by decide +kernel : rt_cd 122 7 = some (.invokevirtual 652)), rfl⟩
theorem c_122_652 {sc : Nat × (Nat → Int32)} {fm : Value} : rx_ct (rt_P sc fm) 122 652 = some (0, 109, 1) := (by decide +kernel : rt_ct 122 652 = some (0, 109, 1))
theorem i_122_10 {sc : Nat × (Nat → Int32)} {fm : Value} : ri (rt_P sc fm) 122 10 (.ifCond .ne 5) (13) := ⟨(by decide +kernel : rt_xt 122 10 = none), (by decide +kernel : rt_cd 122 10 = some (.ifCond .ne 5)), rfl⟩
theorem i_122_13 {sc : Nat × (Nat → Int32)} {fm : Value} : ri (rt_P sc fm) 122 13 (.iconst (-1)) (14) := ⟨(by decide +kernel : rt_xt 122 13 = none), (by decide +kernel : rt_cd 122 13 = some (.iconst (-1))), rfl⟩
theorem i_122_14 {sc : Nat × (Nat → Int32)} {fm : Value} : ri (rt_P sc fm) 122 14 (.ireturn) (15) := ⟨(by decide +kernel : rt_xt 122 14 = none), (by decide +kernel : rt_cd 122 14 = some (.ireturn)), rfl⟩
theorem r_122 {sc : Nat × (Nat → Int32)} {fm : Value} : rx_rt (rt_P sc fm) 122 = (some FieldType.int) := (by decide +kernel : rt_rt 122 = (some FieldType.int))
theorem i_0_585 {sc : Nat × (Nat → Int32)} {fm : Value} : ri (rt_P sc fm) 0 585 (.if_icmp .eq 749) (588) := ⟨(by decide +kernel : rt_xt 0 585 = none), (by decide +kernel : rt_cd 0 585 = some (.if_icmp .eq 749)), rfl⟩
theorem i_0_590 {sc : Nat × (Nat → Int32)} {fm : Value} : ri (rt_P sc fm) 0 590 (.aload_n 1) (591) := ⟨(by decide +kernel : rt_xt 0 590 = none), (by decide +kernel : rt_cd 0 590 = some (.aload_n 1)), rfl⟩
theorem i_0_591 {sc : Nat × (Nat → Int32)} {fm : Value} : ri (rt_P sc fm) 0 591 (.aload_n 0) (592) := ⟨(by decide +kernel : rt_xt 0 591 = none), (by decide +kernel : rt_cd 0 591 = some (.aload_n 0)), rfl⟩
theorem i_0_592 {sc : Nat × (Nat → Int32)} {fm : Value} : ri (rt_P sc fm) 0 592 (.iload 4) (594) := ⟨(by decide +kernel : rt_xt 0 592 = none), (by decide +kernel : rt_cd 0 592 = some (.iload 4)), rfl⟩
theorem i_0_594 {sc : Nat × (Nat → Int32)} {fm : Value} : ri (rt_P sc fm) 0 594 (.iconst 1) (595) := ⟨(by decide +kernel : rt_xt 0 594 = none), (by decide +kernel : rt_cd 0 594 = some (.iconst 1)), rfl⟩
theorem i_0_595 {sc : Nat × (Nat → Int32)} {fm : Value} : ri (rt_P sc fm) 0 595 (.iadd) (596) := ⟨(by decide +kernel : rt_xt 0 595 = none), (by decide +kernel : rt_cd 0 595 = some (.iadd)), rfl⟩
theorem i_0_596 {sc : Nat × (Nat → Int32)} {fm : Value} : ri (rt_P sc fm) 0 596 (.iaload) (597) := ⟨(by decide +kernel : rt_xt 0 596 = none), (by decide +kernel : rt_cd 0 596 = some (.iaload)), rfl⟩
theorem i_0_597 {sc : Nat × (Nat → Int32)} {fm : Value} : ri (rt_P sc fm) 0 597 (.aload_n 0) (598) := ⟨(by decide +kernel : rt_xt 0 597 = none), (by decide +kernel : rt_cd 0 597 = some (.aload_n 0)), rfl⟩
theorem i_0_598 {sc : Nat × (Nat → Int32)} {fm : Value} : ri (rt_P sc fm) 0 598 (.iload 4) (600) := ⟨(by decide +kernel : rt_xt 0 598 = none), (by decide +kernel : rt_cd 0 598 = some (.iload 4)), rfl⟩
theorem i_0_600 {sc : Nat × (Nat → Int32)} {fm : Value} : ri (rt_P sc fm) 0 600 (.iconst 2) (601) := ⟨(by decide +kernel : rt_xt 0 600 = none), (by decide +kernel : rt_cd 0 600 = some (.iconst 2)), rfl⟩
theorem i_0_601 {sc : Nat × (Nat → Int32)} {fm : Value} : ri (rt_P sc fm) 0 601 (.iadd) (602) := ⟨(by decide +kernel : rt_xt 0 601 = none), (by decide +kernel : rt_cd 0 601 = some (.iadd)), rfl⟩
theorem i_0_602 {sc : Nat × (Nat → Int32)} {fm : Value} : ri (rt_P sc fm) 0 602 (.iaload) (603) := ⟨(by decide +kernel : rt_xt 0 602 = none), (by decide +kernel : rt_cd 0 602 = some (.iaload)), rfl⟩
theorem i_0_603 {sc : Nat × (Nat → Int32)} {fm : Value} : ri (rt_P sc fm) 0 603 (.invokevirtual 84) (606) := ⟨(by decide +kernel : rt_xt 0 603 = none), (by decide +kernel : rt_cd 0 603 = some (.invokevirtual 84)), rfl⟩
theorem c_0_84 {sc : Nat × (Nat → Int32)} {fm : Value} : rx_ct (rt_P sc fm) 0 84 = some (0, 67, 2) := (by decide +kernel : rt_ct 0 84 = some (0, 67, 2))
theorem a_14_67 {sc : Nat × (Nat → Int32)} {fm : Value} : rz_cn 14 (rx_yn (rt_P sc fm) 67).cls = true := (by decide +kernel : rz_cn 14 (rt_yn 67).cls = true)
theorem i_67_0 {sc : Nat × (Nat → Int32)} {fm : Value} : ri (rt_P sc fm) 67 0 (.aload_n 0) (1) := ⟨(by decide +kernel : rt_xt 67 0 = none), (by decide +kernel : rt_cd 67 0 = some (.aload_n 0)), rfl⟩
theorem i_67_1 {sc : Nat × (Nat → Int32)} {fm : Value} : ri (rt_P sc fm) 67 1 (.iload_n 1) (2) := ⟨(by decide +kernel : rt_xt 67 1 = none), (by decide +kernel : rt_cd 67 1 = some (.iload_n 1)), rfl⟩
theorem i_67_2 {sc : Nat × (Nat → Int32)} {fm : Value} : ri (rt_P sc fm) 67 2 (.iload_n 2) (3) := ⟨(by decide +kernel : rt_xt 67 2 = none), (by decide +kernel : rt_cd 67 2 = some (.iload_n 2)), rfl⟩
theorem i_67_3 {sc : Nat × (Nat → Int32)} {fm : Value} : ri (rt_P sc fm) 67 3 (.invokevirtual 230) (6) := ⟨(by decide +kernel : rt_xt 67 3 = none), (by decide +kernel : rt_cd 67 3 = some (.invokevirtual 230)), rfl⟩
theorem c_67_230 {sc : Nat × (Nat → Int32)} {fm : Value} : rx_ct (rt_P sc fm) 67 230 = some (0, 70, 2) := (by decide +kernel : rt_ct 67 230 = some (0, 70, 2))
theorem a_14_70 {sc : Nat × (Nat → Int32)} {fm : Value} : rz_cn 14 (rx_yn (rt_P sc fm) 70).cls = true := (by decide +kernel : rz_cn 14 (rt_yn 70).cls = true)
theorem i_70_0 {sc : Nat × (Nat → Int32)} {fm : Value} : ri (rt_P sc fm) 70 0 (.aload_n 0) (1) := ⟨(by decide +kernel : rt_xt 70 0 = none), (by decide +kernel : rt_cd 70 0 = some (.aload_n 0)), rfl⟩
theorem i_70_1 {sc : Nat × (Nat → Int32)} {fm : Value} : ri (rt_P sc fm) 70 1 (.getfield 28) (4) := ⟨(by decide +kernel : rt_xt 70 1 = none), (by decide +kernel : rt_cd 70 1 = some (.getfield 28)), rfl⟩
theorem f_70_28 {sc : Nat × (Nat → Int32)} {fm : Value} : rx_ft (rt_P sc fm) 70 28 = some (14, 2) := (by decide +kernel : rt_ft 70 28 = some (14, 2))
theorem i_70_4 {sc : Nat × (Nat → Int32)} {fm : Value} : ri (rt_P sc fm) 70 4 (.iload_n 1) (5) := ⟨(by decide +kernel : rt_xt 70 4 = none), (by decide +kernel : rt_cd 70 4 = some (.iload_n 1)), rfl⟩
theorem i_70_5 {sc : Nat × (Nat → Int32)} {fm : Value} : ri (rt_P sc fm) 70 5 (.invokevirtual 146) (8) := ⟨(by decide +kernel : rt_xt 70 5 = none), (by decide +kernel : rt_cd 70 5 = some (.invokevirtual 146)), rfl⟩
theorem c_70_146 {sc : Nat × (Nat → Int32)} {fm : Value} : rx_ct (rt_P sc fm) 70 146 = some (0, 21, 1) := (by decide +kernel : rt_ct 70 146 = some (0, 21, 1))
theorem i_70_8 {sc : Nat × (Nat → Int32)} {fm : Value} : ri (rt_P sc fm) 70 8 (.ifCond .lt 18) (11) := ⟨(by decide +kernel : rt_xt 70 8 = none), (by decide +kernel : rt_cd 70 8 = some (.ifCond .lt 18)), rfl⟩
theorem i_70_26 {sc : Nat × (Nat → Int32)} {fm : Value} : ri (rt_P sc fm) 70 26 (.iconst 0) (27) := ⟨(by decide +kernel : rt_xt 70 26 = none), (by decide +kernel : rt_cd 70 26 = some (.iconst 0)), rfl⟩
theorem i_70_27 {sc : Nat × (Nat → Int32)} {fm : Value} : ri (rt_P sc fm) 70 27 (.ireturn) (28) := ⟨(by decide +kernel : rt_xt 70 27 = none), (by decide +kernel : rt_cd 70 27 = some (.ireturn)), rfl⟩
theorem r_70 {sc : Nat × (Nat → Int32)} {fm : Value} : rx_rt (rt_P sc fm) 70 = (some FieldType.boolean) := (by decide +kernel : rt_rt 70 = (some FieldType.boolean))
theorem i_67_6 {sc : Nat × (Nat → Int32)} {fm : Value} : ri (rt_P sc fm) 67 6 (.ifCond .eq 15) (9) := ⟨(by decide +kernel : rt_xt 67 6 = none), (by decide +kernel : rt_cd 67 6 = some (.ifCond .eq 15)), rfl⟩
theorem i_67_21 {sc : Nat × (Nat → Int32)} {fm : Value} : ri (rt_P sc fm) 67 21 (.iconst (-1)) (22) := ⟨(by decide +kernel : rt_xt 67 21 = none), (by decide +kernel : rt_cd 67 21 = some (.iconst (-1))), rfl⟩
theorem i_67_22 {sc : Nat × (Nat → Int32)} {fm : Value} : ri (rt_P sc fm) 67 22 (.ireturn) (23) := ⟨(by decide +kernel : rt_xt 67 22 = none), (by decide +kernel : rt_cd 67 22 = some (.ireturn)), rfl⟩
theorem r_67 {sc : Nat × (Nat → Int32)} {fm : Value} : rx_rt (rt_P sc fm) 67 = (some FieldType.int) := (by decide +kernel : rt_rt 67 = (some FieldType.int))
theorem i_0_606 {sc : Nat × (Nat → Int32)} {fm : Value} : ri (rt_P sc fm) 0 606 (.aload_n 2) (607) := ⟨(by decide +kernel : rt_xt 0 606 = none), (by decide +kernel : rt_cd 0 606 = some (.aload_n 2)), rfl⟩
theorem i_0_607 {sc : Nat × (Nat → Int32)} {fm : Value} : ri (rt_P sc fm) 0 607 (.aload_n 0) (608) := ⟨(by decide +kernel : rt_xt 0 607 = none), (by decide +kernel : rt_cd 0 607 = some (.aload_n 0)), rfl⟩
theorem i_0_608 {sc : Nat × (Nat → Int32)} {fm : Value} : ri (rt_P sc fm) 0 608 (.iload 4) (610) := ⟨(by decide +kernel : rt_xt 0 608 = none), (by decide +kernel : rt_cd 0 608 = some (.iload 4)), rfl⟩
theorem i_0_610 {sc : Nat × (Nat → Int32)} {fm : Value} : ri (rt_P sc fm) 0 610 (.iconst 1) (611) := ⟨(by decide +kernel : rt_xt 0 610 = none), (by decide +kernel : rt_cd 0 610 = some (.iconst 1)), rfl⟩
theorem i_0_611 {sc : Nat × (Nat → Int32)} {fm : Value} : ri (rt_P sc fm) 0 611 (.iadd) (612) := ⟨(by decide +kernel : rt_xt 0 611 = none), (by decide +kernel : rt_cd 0 611 = some (.iadd)), rfl⟩
theorem i_0_612 {sc : Nat × (Nat → Int32)} {fm : Value} : ri (rt_P sc fm) 0 612 (.iaload) (613) := ⟨(by decide +kernel : rt_xt 0 612 = none), (by decide +kernel : rt_cd 0 612 = some (.iaload)), rfl⟩
theorem i_0_613 {sc : Nat × (Nat → Int32)} {fm : Value} : ri (rt_P sc fm) 0 613 (.aload_n 0) (614) := ⟨(by decide +kernel : rt_xt 0 613 = none), (by decide +kernel : rt_cd 0 613 = some (.aload_n 0)), rfl⟩
theorem i_0_614 {sc : Nat × (Nat → Int32)} {fm : Value} : ri (rt_P sc fm) 0 614 (.iload 4) (616) := ⟨(by decide +kernel : rt_xt 0 614 = none), (by decide +kernel : rt_cd 0 614 = some (.iload 4)), rfl⟩
theorem i_0_616 {sc : Nat × (Nat → Int32)} {fm : Value} : ri (rt_P sc fm) 0 616 (.iconst 2) (617) := ⟨(by decide +kernel : rt_xt 0 616 = none), (by decide +kernel : rt_cd 0 616 = some (.iconst 2)), rfl⟩
theorem i_0_617 {sc : Nat × (Nat → Int32)} {fm : Value} : ri (rt_P sc fm) 0 617 (.iadd) (618) := ⟨(by decide +kernel : rt_xt 0 617 = none), (by decide +kernel : rt_cd 0 617 = some (.iadd)), rfl⟩
theorem i_0_618 {sc : Nat × (Nat → Int32)} {fm : Value} : ri (rt_P sc fm) 0 618 (.iaload) (619) := ⟨(by decide +kernel : rt_xt 0 618 = none), (by decide +kernel : rt_cd 0 618 = some (.iaload)), rfl⟩
theorem i_0_619 {sc : Nat × (Nat → Int32)} {fm : Value} : ri (rt_P sc fm) 0 619 (.invokevirtual 87) (622) := ⟨(by decide +kernel : rt_xt 0 619 = none), (by decide +kernel : rt_cd 0 619 = some (.invokevirtual 87)), rfl⟩
theorem c_0_87 {sc : Nat × (Nat → Int32)} {fm : Value} : rx_ct (rt_P sc fm) 0 87 = some (0, 114, 2) := (by decide +kernel : rt_ct 0 87 = some (0, 114, 2))
theorem a_15_114 {sc : Nat × (Nat → Int32)} {fm : Value} : rz_cn 15 (rx_yn (rt_P sc fm) 114).cls = true := (by decide +kernel : rz_cn 15 (rt_yn 114).cls = true)
theorem i_114_0 {sc : Nat × (Nat → Int32)} {fm : Value} : ri (rt_P sc fm) 114 0 (.aload_n 0) (1) := ⟨(by decide +kernel : rt_xt 114 0 = none), (by decide +kernel : rt_cd 114 0 = some (.aload_n 0)), rfl⟩
theorem i_114_1 {sc : Nat × (Nat → Int32)} {fm : Value} : ri (rt_P sc fm) 114 1 (.iconst 0) (2) := ⟨(by decide +kernel : rt_xt 114 1 = none), (by decide +kernel : rt_cd 114 1 = some (.iconst 0)), rfl⟩
theorem i_114_2 {sc : Nat × (Nat → Int32)} {fm : Value} : ri (rt_P sc fm) 114 2 (.putfield 356) (5) := ⟨(by decide +kernel : rt_xt 114 2 = none), (by decide +kernel : rt_cd 114 2 = some (.putfield 356)), rfl⟩
theorem p_114_356 {sc : Nat × (Nat → Int32)} {fm : Value} : rx_pt (rt_P sc fm) 114 356 = some (15, 0, .int) := (by decide +kernel : rt_pt 114 356 = some (15, 0, .int))
theorem i_114_5 {sc : Nat × (Nat → Int32)} {fm : Value} : ri (rt_P sc fm) 114 5 (.aload_n 0) (6) := ⟨(by decide +kernel : rt_xt 114 5 = none), (by decide +kernel : rt_cd 114 5 = some (.aload_n 0)), rfl⟩
theorem i_114_6 {sc : Nat × (Nat → Int32)} {fm : Value} : ri (rt_P sc fm) 114 6 (.iload_n 1) (7) := ⟨(by decide +kernel : rt_xt 114 6 = none), (by decide +kernel : rt_cd 114 6 = some (.iload_n 1)), rfl⟩
theorem i_114_7 {sc : Nat × (Nat → Int32)} {fm : Value} : ri (rt_P sc fm) 114 7 (.invokevirtual 652) (10) := ⟨(by decide +kernel : rt_xt 114 7 = none), (by decide +kernel : rt_cd 114 7 = some (.invokevirtual 652)), rfl⟩
theorem c_114_652 {sc : Nat × (Nat → Int32)} {fm : Value} : rx_ct (rt_P sc fm) 114 652 = some (0, 109, 1) := (by decide +kernel : rt_ct 114 652 = some (0, 109, 1))
theorem i_114_10 {sc : Nat × (Nat → Int32)} {fm : Value} : ri (rt_P sc fm) 114 10 (.ifCond .eq 11) (13) := ⟨(by decide +kernel : rt_xt 114 10 = none), (by decide +kernel : rt_cd 114 10 = some (.ifCond .eq 11)), rfl⟩
theorem i_114_21 {sc : Nat × (Nat → Int32)} {fm : Value} : ri (rt_P sc fm) 114 21 (.iconst (-1)) (22) := ⟨(by decide +kernel : rt_xt 114 21 = none), (by decide +kernel : rt_cd 114 21 = some (.iconst (-1))), rfl⟩
theorem i_114_22 {sc : Nat × (Nat → Int32)} {fm : Value} : ri (rt_P sc fm) 114 22 (.ireturn) (23) := ⟨(by decide +kernel : rt_xt 114 22 = none), (by decide +kernel : rt_cd 114 22 = some (.ireturn)), rfl⟩
theorem r_114 {sc : Nat × (Nat → Int32)} {fm : Value} : rx_rt (rt_P sc fm) 114 = (some FieldType.int) := (by decide +kernel : rt_rt 114 = (some FieldType.int))
theorem i_0_622 {sc : Nat × (Nat → Int32)} {fm : Value} : ri (rt_P sc fm) 0 622 (.if_icmp .eq 712) (625) := ⟨(by decide +kernel : rt_xt 0 622 = none), (by decide +kernel : rt_cd 0 622 = some (.if_icmp .eq 712)), rfl⟩
theorem i_0_627 {sc : Nat × (Nat → Int32)} {fm : Value} : ri (rt_P sc fm) 0 627 (.aload_n 1) (628) := ⟨(by decide +kernel : rt_xt 0 627 = none), (by decide +kernel : rt_cd 0 627 = some (.aload_n 1)), rfl⟩
theorem i_0_628 {sc : Nat × (Nat → Int32)} {fm : Value} : ri (rt_P sc fm) 0 628 (.aload_n 0) (629) := ⟨(by decide +kernel : rt_xt 0 628 = none), (by decide +kernel : rt_cd 0 628 = some (.aload_n 0)), rfl⟩
theorem i_0_629 {sc : Nat × (Nat → Int32)} {fm : Value} : ri (rt_P sc fm) 0 629 (.iload 4) (631) := ⟨(by decide +kernel : rt_xt 0 629 = none), (by decide +kernel : rt_cd 0 629 = some (.iload 4)), rfl⟩
theorem i_0_631 {sc : Nat × (Nat → Int32)} {fm : Value} : ri (rt_P sc fm) 0 631 (.iconst 1) (632) := ⟨(by decide +kernel : rt_xt 0 631 = none), (by decide +kernel : rt_cd 0 631 = some (.iconst 1)), rfl⟩
theorem i_0_632 {sc : Nat × (Nat → Int32)} {fm : Value} : ri (rt_P sc fm) 0 632 (.iadd) (633) := ⟨(by decide +kernel : rt_xt 0 632 = none), (by decide +kernel : rt_cd 0 632 = some (.iadd)), rfl⟩
theorem i_0_633 {sc : Nat × (Nat → Int32)} {fm : Value} : ri (rt_P sc fm) 0 633 (.iaload) (634) := ⟨(by decide +kernel : rt_xt 0 633 = none), (by decide +kernel : rt_cd 0 633 = some (.iaload)), rfl⟩
theorem i_0_634 {sc : Nat × (Nat → Int32)} {fm : Value} : ri (rt_P sc fm) 0 634 (.aload_n 0) (635) := ⟨(by decide +kernel : rt_xt 0 634 = none), (by decide +kernel : rt_cd 0 634 = some (.aload_n 0)), rfl⟩
theorem i_0_635 {sc : Nat × (Nat → Int32)} {fm : Value} : ri (rt_P sc fm) 0 635 (.iload 4) (637) := ⟨(by decide +kernel : rt_xt 0 635 = none), (by decide +kernel : rt_cd 0 635 = some (.iload 4)), rfl⟩
theorem i_0_637 {sc : Nat × (Nat → Int32)} {fm : Value} : ri (rt_P sc fm) 0 637 (.iconst 2) (638) := ⟨(by decide +kernel : rt_xt 0 637 = none), (by decide +kernel : rt_cd 0 637 = some (.iconst 2)), rfl⟩
theorem i_0_638 {sc : Nat × (Nat → Int32)} {fm : Value} : ri (rt_P sc fm) 0 638 (.iadd) (639) := ⟨(by decide +kernel : rt_xt 0 638 = none), (by decide +kernel : rt_cd 0 638 = some (.iadd)), rfl⟩
theorem i_0_639 {sc : Nat × (Nat → Int32)} {fm : Value} : ri (rt_P sc fm) 0 639 (.iaload) (640) := ⟨(by decide +kernel : rt_xt 0 639 = none), (by decide +kernel : rt_cd 0 639 = some (.iaload)), rfl⟩
theorem i_0_640 {sc : Nat × (Nat → Int32)} {fm : Value} : ri (rt_P sc fm) 0 640 (.aload_n 0) (641) := ⟨(by decide +kernel : rt_xt 0 640 = none), (by decide +kernel : rt_cd 0 640 = some (.aload_n 0)), rfl⟩
theorem i_0_641 {sc : Nat × (Nat → Int32)} {fm : Value} : ri (rt_P sc fm) 0 641 (.iload 4) (643) := ⟨(by decide +kernel : rt_xt 0 641 = none), (by decide +kernel : rt_cd 0 641 = some (.iload 4)), rfl⟩
theorem i_0_643 {sc : Nat × (Nat → Int32)} {fm : Value} : ri (rt_P sc fm) 0 643 (.iconst 3) (644) := ⟨(by decide +kernel : rt_xt 0 643 = none), (by decide +kernel : rt_cd 0 643 = some (.iconst 3)), rfl⟩
theorem i_0_644 {sc : Nat × (Nat → Int32)} {fm : Value} : ri (rt_P sc fm) 0 644 (.iadd) (645) := ⟨(by decide +kernel : rt_xt 0 644 = none), (by decide +kernel : rt_cd 0 644 = some (.iadd)), rfl⟩
theorem i_0_645 {sc : Nat × (Nat → Int32)} {fm : Value} : ri (rt_P sc fm) 0 645 (.iaload) (646) := ⟨(by decide +kernel : rt_xt 0 645 = none), (by decide +kernel : rt_cd 0 645 = some (.iaload)), rfl⟩
theorem i_0_646 {sc : Nat × (Nat → Int32)} {fm : Value} : ri (rt_P sc fm) 0 646 (.invokevirtual 88) (649) := ⟨(by decide +kernel : rt_xt 0 646 = none), (by decide +kernel : rt_cd 0 646 = some (.invokevirtual 88)), rfl⟩
theorem c_0_88 {sc : Nat × (Nat → Int32)} {fm : Value} : rx_ct (rt_P sc fm) 0 88 = some (0, 68, 3) := (by decide +kernel : rt_ct 0 88 = some (0, 68, 3))
theorem a_14_68 {sc : Nat × (Nat → Int32)} {fm : Value} : rz_cn 14 (rx_yn (rt_P sc fm) 68).cls = true := (by decide +kernel : rz_cn 14 (rt_yn 68).cls = true)
theorem i_68_0 {sc : Nat × (Nat → Int32)} {fm : Value} : ri (rt_P sc fm) 68 0 (.aload_n 0) (1) := ⟨(by decide +kernel : rt_xt 68 0 = none), (by decide +kernel : rt_cd 68 0 = some (.aload_n 0)), rfl⟩
theorem i_68_1 {sc : Nat × (Nat → Int32)} {fm : Value} : ri (rt_P sc fm) 68 1 (.iload_n 1) (2) := ⟨(by decide +kernel : rt_xt 68 1 = none), (by decide +kernel : rt_cd 68 1 = some (.iload_n 1)), rfl⟩
theorem i_68_2 {sc : Nat × (Nat → Int32)} {fm : Value} : ri (rt_P sc fm) 68 2 (.iload_n 2) (3) := ⟨(by decide +kernel : rt_xt 68 2 = none), (by decide +kernel : rt_cd 68 2 = some (.iload_n 2)), rfl⟩
theorem i_68_3 {sc : Nat × (Nat → Int32)} {fm : Value} : ri (rt_P sc fm) 68 3 (.invokevirtual 230) (6) := ⟨(by decide +kernel : rt_xt 68 3 = none), (by decide +kernel : rt_cd 68 3 = some (.invokevirtual 230)), rfl⟩
theorem c_68_230 {sc : Nat × (Nat → Int32)} {fm : Value} : rx_ct (rt_P sc fm) 68 230 = some (0, 70, 2) := (by decide +kernel : rt_ct 68 230 = some (0, 70, 2))
theorem i_68_6 {sc : Nat × (Nat → Int32)} {fm : Value} : ri (rt_P sc fm) 68 6 (.ifCond .eq 15) (9) := ⟨(by decide +kernel : rt_xt 68 6 = none), (by decide +kernel : rt_cd 68 6 = some (.ifCond .eq 15)), rfl⟩
theorem i_68_21 {sc : Nat × (Nat → Int32)} {fm : Value} : ri (rt_P sc fm) 68 21 (.iconst (-1)) (22) := ⟨(by decide +kernel : rt_xt 68 21 = none), (by decide +kernel : rt_cd 68 21 = some (.iconst (-1))), rfl⟩
theorem i_68_22 {sc : Nat × (Nat → Int32)} {fm : Value} : ri (rt_P sc fm) 68 22 (.ireturn) (23) := ⟨(by decide +kernel : rt_xt 68 22 = none), (by decide +kernel : rt_cd 68 22 = some (.ireturn)), rfl⟩
theorem r_68 {sc : Nat × (Nat → Int32)} {fm : Value} : rx_rt (rt_P sc fm) 68 = (some FieldType.int) := (by decide +kernel : rt_rt 68 = (some FieldType.int))
theorem i_0_649 {sc : Nat × (Nat → Int32)} {fm : Value} : ri (rt_P sc fm) 0 649 (.aload_n 2) (650) := ⟨(by decide +kernel : rt_xt 0 649 = none), (by decide +kernel : rt_cd 0 649 = some (.aload_n 2)), rfl⟩
theorem i_0_650 {sc : Nat × (Nat → Int32)} {fm : Value} : ri (rt_P sc fm) 0 650 (.aload_n 0) (651) := ⟨(by decide +kernel : rt_xt 0 650 = none), (by decide +kernel : rt_cd 0 650 = some (.aload_n 0)), rfl⟩
theorem i_0_651 {sc : Nat × (Nat → Int32)} {fm : Value} : ri (rt_P sc fm) 0 651 (.iload 4) (653) := ⟨(by decide +kernel : rt_xt 0 651 = none), (by decide +kernel : rt_cd 0 651 = some (.iload 4)), rfl⟩
theorem i_0_653 {sc : Nat × (Nat → Int32)} {fm : Value} : ri (rt_P sc fm) 0 653 (.iconst 1) (654) := ⟨(by decide +kernel : rt_xt 0 653 = none), (by decide +kernel : rt_cd 0 653 = some (.iconst 1)), rfl⟩
theorem i_0_654 {sc : Nat × (Nat → Int32)} {fm : Value} : ri (rt_P sc fm) 0 654 (.iadd) (655) := ⟨(by decide +kernel : rt_xt 0 654 = none), (by decide +kernel : rt_cd 0 654 = some (.iadd)), rfl⟩
theorem i_0_655 {sc : Nat × (Nat → Int32)} {fm : Value} : ri (rt_P sc fm) 0 655 (.iaload) (656) := ⟨(by decide +kernel : rt_xt 0 655 = none), (by decide +kernel : rt_cd 0 655 = some (.iaload)), rfl⟩
theorem i_0_656 {sc : Nat × (Nat → Int32)} {fm : Value} : ri (rt_P sc fm) 0 656 (.aload_n 0) (657) := ⟨(by decide +kernel : rt_xt 0 656 = none), (by decide +kernel : rt_cd 0 656 = some (.aload_n 0)), rfl⟩
theorem i_0_657 {sc : Nat × (Nat → Int32)} {fm : Value} : ri (rt_P sc fm) 0 657 (.iload 4) (659) := ⟨(by decide +kernel : rt_xt 0 657 = none), (by decide +kernel : rt_cd 0 657 = some (.iload 4)), rfl⟩
theorem i_0_659 {sc : Nat × (Nat → Int32)} {fm : Value} : ri (rt_P sc fm) 0 659 (.iconst 2) (660) := ⟨(by decide +kernel : rt_xt 0 659 = none), (by decide +kernel : rt_cd 0 659 = some (.iconst 2)), rfl⟩
theorem i_0_660 {sc : Nat × (Nat → Int32)} {fm : Value} : ri (rt_P sc fm) 0 660 (.iadd) (661) := ⟨(by decide +kernel : rt_xt 0 660 = none), (by decide +kernel : rt_cd 0 660 = some (.iadd)), rfl⟩
theorem i_0_661 {sc : Nat × (Nat → Int32)} {fm : Value} : ri (rt_P sc fm) 0 661 (.iaload) (662) := ⟨(by decide +kernel : rt_xt 0 661 = none), (by decide +kernel : rt_cd 0 661 = some (.iaload)), rfl⟩
theorem i_0_662 {sc : Nat × (Nat → Int32)} {fm : Value} : ri (rt_P sc fm) 0 662 (.aload_n 0) (663) := ⟨(by decide +kernel : rt_xt 0 662 = none), (by decide +kernel : rt_cd 0 662 = some (.aload_n 0)), rfl⟩
theorem i_0_663 {sc : Nat × (Nat → Int32)} {fm : Value} : ri (rt_P sc fm) 0 663 (.iload 4) (665) := ⟨(by decide +kernel : rt_xt 0 663 = none), (by decide +kernel : rt_cd 0 663 = some (.iload 4)), rfl⟩
theorem i_0_665 {sc : Nat × (Nat → Int32)} {fm : Value} : ri (rt_P sc fm) 0 665 (.iconst 3) (666) := ⟨(by decide +kernel : rt_xt 0 665 = none), (by decide +kernel : rt_cd 0 665 = some (.iconst 3)), rfl⟩
theorem i_0_666 {sc : Nat × (Nat → Int32)} {fm : Value} : ri (rt_P sc fm) 0 666 (.iadd) (667) := ⟨(by decide +kernel : rt_xt 0 666 = none), (by decide +kernel : rt_cd 0 666 = some (.iadd)), rfl⟩
theorem i_0_667 {sc : Nat × (Nat → Int32)} {fm : Value} : ri (rt_P sc fm) 0 667 (.iaload) (668) := ⟨(by decide +kernel : rt_xt 0 667 = none), (by decide +kernel : rt_cd 0 667 = some (.iaload)), rfl⟩
theorem i_0_668 {sc : Nat × (Nat → Int32)} {fm : Value} : ri (rt_P sc fm) 0 668 (.invokevirtual 91) (671) := ⟨(by decide +kernel : rt_xt 0 668 = none), (by decide +kernel : rt_cd 0 668 = some (.invokevirtual 91)), rfl⟩
theorem c_0_91 {sc : Nat × (Nat → Int32)} {fm : Value} : rx_ct (rt_P sc fm) 0 91 = some (0, 115, 3) := (by decide +kernel : rt_ct 0 91 = some (0, 115, 3))
theorem a_15_115 {sc : Nat × (Nat → Int32)} {fm : Value} : rz_cn 15 (rx_yn (rt_P sc fm) 115).cls = true := (by decide +kernel : rz_cn 15 (rt_yn 115).cls = true)
theorem i_115_0 {sc : Nat × (Nat → Int32)} {fm : Value} : ri (rt_P sc fm) 115 0 (.aload_n 0) (1) := ⟨(by decide +kernel : rt_xt 115 0 = none), (by decide +kernel : rt_cd 115 0 = some (.aload_n 0)), rfl⟩
theorem i_115_1 {sc : Nat × (Nat → Int32)} {fm : Value} : ri (rt_P sc fm) 115 1 (.iconst 0) (2) := ⟨(by decide +kernel : rt_xt 115 1 = none), (by decide +kernel : rt_cd 115 1 = some (.iconst 0)), rfl⟩
theorem i_115_2 {sc : Nat × (Nat → Int32)} {fm : Value} : ri (rt_P sc fm) 115 2 (.putfield 356) (5) := ⟨(by decide +kernel : rt_xt 115 2 = none), (by decide +kernel : rt_cd 115 2 = some (.putfield 356)), rfl⟩
theorem p_115_356 {sc : Nat × (Nat → Int32)} {fm : Value} : rx_pt (rt_P sc fm) 115 356 = some (15, 0, .int) := (by decide +kernel : rt_pt 115 356 = some (15, 0, .int))
theorem i_115_5 {sc : Nat × (Nat → Int32)} {fm : Value} : ri (rt_P sc fm) 115 5 (.aload_n 0) (6) := ⟨(by decide +kernel : rt_xt 115 5 = none), (by decide +kernel : rt_cd 115 5 = some (.aload_n 0)), rfl⟩
theorem i_115_6 {sc : Nat × (Nat → Int32)} {fm : Value} : ri (rt_P sc fm) 115 6 (.iload_n 1) (7) := ⟨(by decide +kernel : rt_xt 115 6 = none), (by decide +kernel : rt_cd 115 6 = some (.iload_n 1)), rfl⟩
theorem i_115_7 {sc : Nat × (Nat → Int32)} {fm : Value} : ri (rt_P sc fm) 115 7 (.invokevirtual 652) (10) := ⟨(by decide +kernel : rt_xt 115 7 = none), (by decide +kernel : rt_cd 115 7 = some (.invokevirtual 652)), rfl⟩
theorem c_115_652 {sc : Nat × (Nat → Int32)} {fm : Value} : rx_ct (rt_P sc fm) 115 652 = some (0, 109, 1) := (by decide +kernel : rt_ct 115 652 = some (0, 109, 1))
theorem i_115_10 {sc : Nat × (Nat → Int32)} {fm : Value} : ri (rt_P sc fm) 115 10 (.ifCond .eq 11) (13) := ⟨(by decide +kernel : rt_xt 115 10 = none), (by decide +kernel : rt_cd 115 10 = some (.ifCond .eq 11)), rfl⟩
theorem i_115_21 {sc : Nat × (Nat → Int32)} {fm : Value} : ri (rt_P sc fm) 115 21 (.iconst (-1)) (22) := ⟨(by decide +kernel : rt_xt 115 21 = none), (by decide +kernel : rt_cd 115 21 = some (.iconst (-1))), rfl⟩
theorem i_115_22 {sc : Nat × (Nat → Int32)} {fm : Value} : ri (rt_P sc fm) 115 22 (.ireturn) (23) := ⟨(by decide +kernel : rt_xt 115 22 = none), (by decide +kernel : rt_cd 115 22 = some (.ireturn)), rfl⟩
theorem r_115 {sc : Nat × (Nat → Int32)} {fm : Value} : rx_rt (rt_P sc fm) 115 = (some FieldType.int) := (by decide +kernel : rt_rt 115 = (some FieldType.int))
theorem i_0_671 {sc : Nat × (Nat → Int32)} {fm : Value} : ri (rt_P sc fm) 0 671 (.if_icmp .eq 663) (674) := ⟨(by decide +kernel : rt_xt 0 671 = none), (by decide +kernel : rt_cd 0 671 = some (.if_icmp .eq 663)), rfl⟩
theorem i_0_676 {sc : Nat × (Nat → Int32)} {fm : Value} : ri (rt_P sc fm) 0 676 (.aload_n 1) (677) := ⟨(by decide +kernel : rt_xt 0 676 = none), (by decide +kernel : rt_cd 0 676 = some (.aload_n 1)), rfl⟩
theorem i_0_677 {sc : Nat × (Nat → Int32)} {fm : Value} : ri (rt_P sc fm) 0 677 (.aload_n 0) (678) := ⟨(by decide +kernel : rt_xt 0 677 = none), (by decide +kernel : rt_cd 0 677 = some (.aload_n 0)), rfl⟩
theorem i_0_678 {sc : Nat × (Nat → Int32)} {fm : Value} : ri (rt_P sc fm) 0 678 (.iload 4) (680) := ⟨(by decide +kernel : rt_xt 0 678 = none), (by decide +kernel : rt_cd 0 678 = some (.iload 4)), rfl⟩
theorem i_0_680 {sc : Nat × (Nat → Int32)} {fm : Value} : ri (rt_P sc fm) 0 680 (.iconst 1) (681) := ⟨(by decide +kernel : rt_xt 0 680 = none), (by decide +kernel : rt_cd 0 680 = some (.iconst 1)), rfl⟩
theorem i_0_681 {sc : Nat × (Nat → Int32)} {fm : Value} : ri (rt_P sc fm) 0 681 (.iadd) (682) := ⟨(by decide +kernel : rt_xt 0 681 = none), (by decide +kernel : rt_cd 0 681 = some (.iadd)), rfl⟩
theorem i_0_682 {sc : Nat × (Nat → Int32)} {fm : Value} : ri (rt_P sc fm) 0 682 (.iaload) (683) := ⟨(by decide +kernel : rt_xt 0 682 = none), (by decide +kernel : rt_cd 0 682 = some (.iaload)), rfl⟩
theorem i_0_683 {sc : Nat × (Nat → Int32)} {fm : Value} : ri (rt_P sc fm) 0 683 (.aload_n 0) (684) := ⟨(by decide +kernel : rt_xt 0 683 = none), (by decide +kernel : rt_cd 0 683 = some (.aload_n 0)), rfl⟩
theorem i_0_684 {sc : Nat × (Nat → Int32)} {fm : Value} : ri (rt_P sc fm) 0 684 (.iload 4) (686) := ⟨(by decide +kernel : rt_xt 0 684 = none), (by decide +kernel : rt_cd 0 684 = some (.iload 4)), rfl⟩
theorem i_0_686 {sc : Nat × (Nat → Int32)} {fm : Value} : ri (rt_P sc fm) 0 686 (.iconst 2) (687) := ⟨(by decide +kernel : rt_xt 0 686 = none), (by decide +kernel : rt_cd 0 686 = some (.iconst 2)), rfl⟩
theorem i_0_687 {sc : Nat × (Nat → Int32)} {fm : Value} : ri (rt_P sc fm) 0 687 (.iadd) (688) := ⟨(by decide +kernel : rt_xt 0 687 = none), (by decide +kernel : rt_cd 0 687 = some (.iadd)), rfl⟩
theorem i_0_688 {sc : Nat × (Nat → Int32)} {fm : Value} : ri (rt_P sc fm) 0 688 (.iaload) (689) := ⟨(by decide +kernel : rt_xt 0 688 = none), (by decide +kernel : rt_cd 0 688 = some (.iaload)), rfl⟩
theorem i_0_689 {sc : Nat × (Nat → Int32)} {fm : Value} : ri (rt_P sc fm) 0 689 (.aload_n 0) (690) := ⟨(by decide +kernel : rt_xt 0 689 = none), (by decide +kernel : rt_cd 0 689 = some (.aload_n 0)), rfl⟩
theorem i_0_690 {sc : Nat × (Nat → Int32)} {fm : Value} : ri (rt_P sc fm) 0 690 (.iload 4) (692) := ⟨(by decide +kernel : rt_xt 0 690 = none), (by decide +kernel : rt_cd 0 690 = some (.iload 4)), rfl⟩
theorem i_0_692 {sc : Nat × (Nat → Int32)} {fm : Value} : ri (rt_P sc fm) 0 692 (.iconst 3) (693) := ⟨(by decide +kernel : rt_xt 0 692 = none), (by decide +kernel : rt_cd 0 692 = some (.iconst 3)), rfl⟩
theorem i_0_693 {sc : Nat × (Nat → Int32)} {fm : Value} : ri (rt_P sc fm) 0 693 (.iadd) (694) := ⟨(by decide +kernel : rt_xt 0 693 = none), (by decide +kernel : rt_cd 0 693 = some (.iadd)), rfl⟩
theorem i_0_694 {sc : Nat × (Nat → Int32)} {fm : Value} : ri (rt_P sc fm) 0 694 (.iaload) (695) := ⟨(by decide +kernel : rt_xt 0 694 = none), (by decide +kernel : rt_cd 0 694 = some (.iaload)), rfl⟩
theorem i_0_695 {sc : Nat × (Nat → Int32)} {fm : Value} : ri (rt_P sc fm) 0 695 (.aload_n 0) (696) := ⟨(by decide +kernel : rt_xt 0 695 = none), (by decide +kernel : rt_cd 0 695 = some (.aload_n 0)), rfl⟩
theorem i_0_696 {sc : Nat × (Nat → Int32)} {fm : Value} : ri (rt_P sc fm) 0 696 (.iload 4) (698) := ⟨(by decide +kernel : rt_xt 0 696 = none), (by decide +kernel : rt_cd 0 696 = some (.iload 4)), rfl⟩
theorem i_0_698 {sc : Nat × (Nat → Int32)} {fm : Value} : ri (rt_P sc fm) 0 698 (.iconst 4) (699) := ⟨(by decide +kernel : rt_xt 0 698 = none), (by decide +kernel : rt_cd 0 698 = some (.iconst 4)), rfl⟩
theorem i_0_699 {sc : Nat × (Nat → Int32)} {fm : Value} : ri (rt_P sc fm) 0 699 (.iadd) (700) := ⟨(by decide +kernel : rt_xt 0 699 = none), (by decide +kernel : rt_cd 0 699 = some (.iadd)), rfl⟩
theorem i_0_700 {sc : Nat × (Nat → Int32)} {fm : Value} : ri (rt_P sc fm) 0 700 (.iaload) (701) := ⟨(by decide +kernel : rt_xt 0 700 = none), (by decide +kernel : rt_cd 0 700 = some (.iaload)), rfl⟩
theorem i_0_701 {sc : Nat × (Nat → Int32)} {fm : Value} : ri (rt_P sc fm) 0 701 (.invokevirtual 92) (704) := ⟨(by decide +kernel : rt_xt 0 701 = none), (by decide +kernel : rt_cd 0 701 = some (.invokevirtual 92)), rfl⟩
theorem c_0_92 {sc : Nat × (Nat → Int32)} {fm : Value} : rx_ct (rt_P sc fm) 0 92 = some (0, 69, 4) := (by decide +kernel : rt_ct 0 92 = some (0, 69, 4))
theorem a_14_69 {sc : Nat × (Nat → Int32)} {fm : Value} : rz_cn 14 (rx_yn (rt_P sc fm) 69).cls = true := (by decide +kernel : rz_cn 14 (rt_yn 69).cls = true)
theorem i_69_0 {sc : Nat × (Nat → Int32)} {fm : Value} : ri (rt_P sc fm) 69 0 (.aload_n 0) (1) := ⟨(by decide +kernel : rt_xt 69 0 = none), (by decide +kernel : rt_cd 69 0 = some (.aload_n 0)), rfl⟩
theorem i_69_1 {sc : Nat × (Nat → Int32)} {fm : Value} : ri (rt_P sc fm) 69 1 (.iload_n 1) (2) := ⟨(by decide +kernel : rt_xt 69 1 = none), (by decide +kernel : rt_cd 69 1 = some (.iload_n 1)), rfl⟩
theorem i_69_2 {sc : Nat × (Nat → Int32)} {fm : Value} : ri (rt_P sc fm) 69 2 (.iload_n 2) (3) := ⟨(by decide +kernel : rt_xt 69 2 = none), (by decide +kernel : rt_cd 69 2 = some (.iload_n 2)), rfl⟩
theorem i_69_3 {sc : Nat × (Nat → Int32)} {fm : Value} : ri (rt_P sc fm) 69 3 (.invokevirtual 230) (6) := ⟨(by decide +kernel : rt_xt 69 3 = none), (by decide +kernel : rt_cd 69 3 = some (.invokevirtual 230)), rfl⟩
theorem c_69_230 {sc : Nat × (Nat → Int32)} {fm : Value} : rx_ct (rt_P sc fm) 69 230 = some (0, 70, 2) := (by decide +kernel : rt_ct 69 230 = some (0, 70, 2))
theorem i_69_6 {sc : Nat × (Nat → Int32)} {fm : Value} : ri (rt_P sc fm) 69 6 (.ifCond .eq 20) (9) := ⟨(by decide +kernel : rt_xt 69 6 = none), (by decide +kernel : rt_cd 69 6 = some (.ifCond .eq 20)), rfl⟩
theorem i_69_26 {sc : Nat × (Nat → Int32)} {fm : Value} : ri (rt_P sc fm) 69 26 (.iconst (-1)) (27) := ⟨(by decide +kernel : rt_xt 69 26 = none), (by decide +kernel : rt_cd 69 26 = some (.iconst (-1))), rfl⟩
theorem i_69_27 {sc : Nat × (Nat → Int32)} {fm : Value} : ri (rt_P sc fm) 69 27 (.ireturn) (28) := ⟨(by decide +kernel : rt_xt 69 27 = none), (by decide +kernel : rt_cd 69 27 = some (.ireturn)), rfl⟩
theorem r_69 {sc : Nat × (Nat → Int32)} {fm : Value} : rx_rt (rt_P sc fm) 69 = (some FieldType.int) := (by decide +kernel : rt_rt 69 = (some FieldType.int))
theorem i_0_704 {sc : Nat × (Nat → Int32)} {fm : Value} : ri (rt_P sc fm) 0 704 (.aload_n 2) (705) := ⟨(by decide +kernel : rt_xt 0 704 = none), (by decide +kernel : rt_cd 0 704 = some (.aload_n 2)), rfl⟩
theorem i_0_705 {sc : Nat × (Nat → Int32)} {fm : Value} : ri (rt_P sc fm) 0 705 (.aload_n 0) (706) := ⟨(by decide +kernel : rt_xt 0 705 = none), (by decide +kernel : rt_cd 0 705 = some (.aload_n 0)), rfl⟩
theorem i_0_706 {sc : Nat × (Nat → Int32)} {fm : Value} : ri (rt_P sc fm) 0 706 (.iload 4) (708) := ⟨(by decide +kernel : rt_xt 0 706 = none), (by decide +kernel : rt_cd 0 706 = some (.iload 4)), rfl⟩
theorem i_0_708 {sc : Nat × (Nat → Int32)} {fm : Value} : ri (rt_P sc fm) 0 708 (.iconst 1) (709) := ⟨(by decide +kernel : rt_xt 0 708 = none), (by decide +kernel : rt_cd 0 708 = some (.iconst 1)), rfl⟩
theorem i_0_709 {sc : Nat × (Nat → Int32)} {fm : Value} : ri (rt_P sc fm) 0 709 (.iadd) (710) := ⟨(by decide +kernel : rt_xt 0 709 = none), (by decide +kernel : rt_cd 0 709 = some (.iadd)), rfl⟩
theorem i_0_710 {sc : Nat × (Nat → Int32)} {fm : Value} : ri (rt_P sc fm) 0 710 (.iaload) (711) := ⟨(by decide +kernel : rt_xt 0 710 = none), (by decide +kernel : rt_cd 0 710 = some (.iaload)), rfl⟩
theorem i_0_711 {sc : Nat × (Nat → Int32)} {fm : Value} : ri (rt_P sc fm) 0 711 (.aload_n 0) (712) := ⟨(by decide +kernel : rt_xt 0 711 = none), (by decide +kernel : rt_cd 0 711 = some (.aload_n 0)), rfl⟩
theorem i_0_712 {sc : Nat × (Nat → Int32)} {fm : Value} : ri (rt_P sc fm) 0 712 (.iload 4) (714) := ⟨(by decide +kernel : rt_xt 0 712 = none), (by decide +kernel : rt_cd 0 712 = some (.iload 4)), rfl⟩
theorem i_0_714 {sc : Nat × (Nat → Int32)} {fm : Value} : ri (rt_P sc fm) 0 714 (.iconst 2) (715) := ⟨(by decide +kernel : rt_xt 0 714 = none), (by decide +kernel : rt_cd 0 714 = some (.iconst 2)), rfl⟩
theorem i_0_715 {sc : Nat × (Nat → Int32)} {fm : Value} : ri (rt_P sc fm) 0 715 (.iadd) (716) := ⟨(by decide +kernel : rt_xt 0 715 = none), (by decide +kernel : rt_cd 0 715 = some (.iadd)), rfl⟩
theorem i_0_716 {sc : Nat × (Nat → Int32)} {fm : Value} : ri (rt_P sc fm) 0 716 (.iaload) (717) := ⟨(by decide +kernel : rt_xt 0 716 = none), (by decide +kernel : rt_cd 0 716 = some (.iaload)), rfl⟩
theorem i_0_717 {sc : Nat × (Nat → Int32)} {fm : Value} : ri (rt_P sc fm) 0 717 (.aload_n 0) (718) := ⟨(by decide +kernel : rt_xt 0 717 = none), (by decide +kernel : rt_cd 0 717 = some (.aload_n 0)), rfl⟩
theorem i_0_718 {sc : Nat × (Nat → Int32)} {fm : Value} : ri (rt_P sc fm) 0 718 (.iload 4) (720) := ⟨(by decide +kernel : rt_xt 0 718 = none), (by decide +kernel : rt_cd 0 718 = some (.iload 4)), rfl⟩
theorem i_0_720 {sc : Nat × (Nat → Int32)} {fm : Value} : ri (rt_P sc fm) 0 720 (.iconst 3) (721) := ⟨(by decide +kernel : rt_xt 0 720 = none), (by decide +kernel : rt_cd 0 720 = some (.iconst 3)), rfl⟩
theorem i_0_721 {sc : Nat × (Nat → Int32)} {fm : Value} : ri (rt_P sc fm) 0 721 (.iadd) (722) := ⟨(by decide +kernel : rt_xt 0 721 = none), (by decide +kernel : rt_cd 0 721 = some (.iadd)), rfl⟩
theorem i_0_722 {sc : Nat × (Nat → Int32)} {fm : Value} : ri (rt_P sc fm) 0 722 (.iaload) (723) := ⟨(by decide +kernel : rt_xt 0 722 = none), (by decide +kernel : rt_cd 0 722 = some (.iaload)), rfl⟩
theorem i_0_723 {sc : Nat × (Nat → Int32)} {fm : Value} : ri (rt_P sc fm) 0 723 (.aload_n 0) (724) := ⟨(by decide +kernel : rt_xt 0 723 = none), (by decide +kernel : rt_cd 0 723 = some (.aload_n 0)), rfl⟩
theorem i_0_724 {sc : Nat × (Nat → Int32)} {fm : Value} : ri (rt_P sc fm) 0 724 (.iload 4) (726) := ⟨(by decide +kernel : rt_xt 0 724 = none), (by decide +kernel : rt_cd 0 724 = some (.iload 4)), rfl⟩
theorem i_0_726 {sc : Nat × (Nat → Int32)} {fm : Value} : ri (rt_P sc fm) 0 726 (.iconst 4) (727) := ⟨(by decide +kernel : rt_xt 0 726 = none), (by decide +kernel : rt_cd 0 726 = some (.iconst 4)), rfl⟩
theorem i_0_727 {sc : Nat × (Nat → Int32)} {fm : Value} : ri (rt_P sc fm) 0 727 (.iadd) (728) := ⟨(by decide +kernel : rt_xt 0 727 = none), (by decide +kernel : rt_cd 0 727 = some (.iadd)), rfl⟩
theorem i_0_728 {sc : Nat × (Nat → Int32)} {fm : Value} : ri (rt_P sc fm) 0 728 (.iaload) (729) := ⟨(by decide +kernel : rt_xt 0 728 = none), (by decide +kernel : rt_cd 0 728 = some (.iaload)), rfl⟩
theorem i_0_729 {sc : Nat × (Nat → Int32)} {fm : Value} : ri (rt_P sc fm) 0 729 (.invokevirtual 95) (732) := ⟨(by decide +kernel : rt_xt 0 729 = none), (by decide +kernel : rt_cd 0 729 = some (.invokevirtual 95)), rfl⟩
theorem c_0_95 {sc : Nat × (Nat → Int32)} {fm : Value} : rx_ct (rt_P sc fm) 0 95 = some (0, 116, 4) := (by decide +kernel : rt_ct 0 95 = some (0, 116, 4))
theorem a_15_116 {sc : Nat × (Nat → Int32)} {fm : Value} : rz_cn 15 (rx_yn (rt_P sc fm) 116).cls = true := (by decide +kernel : rz_cn 15 (rt_yn 116).cls = true)
theorem i_116_0 {sc : Nat × (Nat → Int32)} {fm : Value} : ri (rt_P sc fm) 116 0 (.aload_n 0) (1) := ⟨(by decide +kernel : rt_xt 116 0 = none), (by decide +kernel : rt_cd 116 0 = some (.aload_n 0)), rfl⟩
theorem i_116_1 {sc : Nat × (Nat → Int32)} {fm : Value} : ri (rt_P sc fm) 116 1 (.iconst 0) (2) := ⟨(by decide +kernel : rt_xt 116 1 = none), (by decide +kernel : rt_cd 116 1 = some (.iconst 0)), rfl⟩
theorem i_116_2 {sc : Nat × (Nat → Int32)} {fm : Value} : ri (rt_P sc fm) 116 2 (.putfield 356) (5) := ⟨(by decide +kernel : rt_xt 116 2 = none), (by decide +kernel : rt_cd 116 2 = some (.putfield 356)), rfl⟩
theorem p_116_356 {sc : Nat × (Nat → Int32)} {fm : Value} : rx_pt (rt_P sc fm) 116 356 = some (15, 0, .int) := (by decide +kernel : rt_pt 116 356 = some (15, 0, .int))
theorem i_116_5 {sc : Nat × (Nat → Int32)} {fm : Value} : ri (rt_P sc fm) 116 5 (.aload_n 0) (6) := ⟨(by decide +kernel : rt_xt 116 5 = none), (by decide +kernel : rt_cd 116 5 = some (.aload_n 0)), rfl⟩
theorem i_116_6 {sc : Nat × (Nat → Int32)} {fm : Value} : ri (rt_P sc fm) 116 6 (.iload_n 1) (7) := ⟨(by decide +kernel : rt_xt 116 6 = none), (by decide +kernel : rt_cd 116 6 = some (.iload_n 1)), rfl⟩
theorem i_116_7 {sc : Nat × (Nat → Int32)} {fm : Value} : ri (rt_P sc fm) 116 7 (.invokevirtual 652) (10) := ⟨(by decide +kernel : rt_xt 116 7 = none), (by decide +kernel : rt_cd 116 7 = some (.invokevirtual 652)), rfl⟩
theorem c_116_652 {sc : Nat × (Nat → Int32)} {fm : Value} : rx_ct (rt_P sc fm) 116 652 = some (0, 109, 1) := (by decide +kernel : rt_ct 116 652 = some (0, 109, 1))
theorem i_116_10 {sc : Nat × (Nat → Int32)} {fm : Value} : ri (rt_P sc fm) 116 10 (.ifCond .eq 11) (13) := ⟨(by decide +kernel : rt_xt 116 10 = none), (by decide +kernel : rt_cd 116 10 = some (.ifCond .eq 11)), rfl⟩
theorem i_116_21 {sc : Nat × (Nat → Int32)} {fm : Value} : ri (rt_P sc fm) 116 21 (.iconst (-1)) (22) := ⟨(by decide +kernel : rt_xt 116 21 = none), (by decide +kernel : rt_cd 116 21 = some (.iconst (-1))), rfl⟩
theorem i_116_22 {sc : Nat × (Nat → Int32)} {fm : Value} : ri (rt_P sc fm) 116 22 (.ireturn) (23) := ⟨(by decide +kernel : rt_xt 116 22 = none), (by decide +kernel : rt_cd 116 22 = some (.ireturn)), rfl⟩
theorem r_116 {sc : Nat × (Nat → Int32)} {fm : Value} : rx_rt (rt_P sc fm) 116 = (some FieldType.int) := (by decide +kernel : rt_rt 116 = (some FieldType.int))
theorem i_0_732 {sc : Nat × (Nat → Int32)} {fm : Value} : ri (rt_P sc fm) 0 732 (.if_icmp .eq 602) (735) := ⟨(by decide +kernel : rt_xt 0 732 = none), (by decide +kernel : rt_cd 0 732 = some (.if_icmp .eq 602)), rfl⟩
theorem i_0_737 {sc : Nat × (Nat → Int32)} {fm : Value} : ri (rt_P sc fm) 0 737 (.aload_n 1) (738) := ⟨(by decide +kernel : rt_xt 0 737 = none), (by decide +kernel : rt_cd 0 737 = some (.aload_n 1)), rfl⟩
theorem i_0_738 {sc : Nat × (Nat → Int32)} {fm : Value} : ri (rt_P sc fm) 0 738 (.aload_n 0) (739) := ⟨(by decide +kernel : rt_xt 0 738 = none), (by decide +kernel : rt_cd 0 738 = some (.aload_n 0)), rfl⟩
theorem i_0_739 {sc : Nat × (Nat → Int32)} {fm : Value} : ri (rt_P sc fm) 0 739 (.iload 4) (741) := ⟨(by decide +kernel : rt_xt 0 739 = none), (by decide +kernel : rt_cd 0 739 = some (.iload 4)), rfl⟩
theorem i_0_741 {sc : Nat × (Nat → Int32)} {fm : Value} : ri (rt_P sc fm) 0 741 (.iconst 1) (742) := ⟨(by decide +kernel : rt_xt 0 741 = none), (by decide +kernel : rt_cd 0 741 = some (.iconst 1)), rfl⟩
theorem i_0_742 {sc : Nat × (Nat → Int32)} {fm : Value} : ri (rt_P sc fm) 0 742 (.iadd) (743) := ⟨(by decide +kernel : rt_xt 0 742 = none), (by decide +kernel : rt_cd 0 742 = some (.iadd)), rfl⟩
theorem i_0_743 {sc : Nat × (Nat → Int32)} {fm : Value} : ri (rt_P sc fm) 0 743 (.iaload) (744) := ⟨(by decide +kernel : rt_xt 0 743 = none), (by decide +kernel : rt_cd 0 743 = some (.iaload)), rfl⟩
theorem i_0_744 {sc : Nat × (Nat → Int32)} {fm : Value} : ri (rt_P sc fm) 0 744 (.aload_n 0) (745) := ⟨(by decide +kernel : rt_xt 0 744 = none), (by decide +kernel : rt_cd 0 744 = some (.aload_n 0)), rfl⟩
theorem i_0_745 {sc : Nat × (Nat → Int32)} {fm : Value} : ri (rt_P sc fm) 0 745 (.iload 4) (747) := ⟨(by decide +kernel : rt_xt 0 745 = none), (by decide +kernel : rt_cd 0 745 = some (.iload 4)), rfl⟩
theorem i_0_747 {sc : Nat × (Nat → Int32)} {fm : Value} : ri (rt_P sc fm) 0 747 (.iconst 2) (748) := ⟨(by decide +kernel : rt_xt 0 747 = none), (by decide +kernel : rt_cd 0 747 = some (.iconst 2)), rfl⟩
theorem i_0_748 {sc : Nat × (Nat → Int32)} {fm : Value} : ri (rt_P sc fm) 0 748 (.iadd) (749) := ⟨(by decide +kernel : rt_xt 0 748 = none), (by decide +kernel : rt_cd 0 748 = some (.iadd)), rfl⟩
theorem i_0_749 {sc : Nat × (Nat → Int32)} {fm : Value} : ri (rt_P sc fm) 0 749 (.iaload) (750) := ⟨(by decide +kernel : rt_xt 0 749 = none), (by decide +kernel : rt_cd 0 749 = some (.iaload)), rfl⟩
theorem i_0_750 {sc : Nat × (Nat → Int32)} {fm : Value} : ri (rt_P sc fm) 0 750 (.invokevirtual 96) (753) := ⟨(by decide +kernel : rt_xt 0 750 = none), (by decide +kernel : rt_cd 0 750 = some (.invokevirtual 96)), rfl⟩
theorem c_0_96 {sc : Nat × (Nat → Int32)} {fm : Value} : rx_ct (rt_P sc fm) 0 96 = some (0, 71, 2) := (by decide +kernel : rt_ct 0 96 = some (0, 71, 2))
theorem a_14_71 {sc : Nat × (Nat → Int32)} {fm : Value} : rz_cn 14 (rx_yn (rt_P sc fm) 71).cls = true := (by decide +kernel : rz_cn 14 (rt_yn 71).cls = true)
theorem i_71_0 {sc : Nat × (Nat → Int32)} {fm : Value} : ri (rt_P sc fm) 71 0 (.aload_n 0) (1) := ⟨(by decide +kernel : rt_xt 71 0 = none), (by decide +kernel : rt_cd 71 0 = some (.aload_n 0)), rfl⟩
theorem i_71_1 {sc : Nat × (Nat → Int32)} {fm : Value} : ri (rt_P sc fm) 71 1 (.getfield 28) (4) := ⟨(by decide +kernel : rt_xt 71 1 = none), (by decide +kernel : rt_cd 71 1 = some (.getfield 28)), rfl⟩
theorem f_71_28 {sc : Nat × (Nat → Int32)} {fm : Value} : rx_ft (rt_P sc fm) 71 28 = some (14, 2) := (by decide +kernel : rt_ft 71 28 = some (14, 2))
theorem i_71_4 {sc : Nat × (Nat → Int32)} {fm : Value} : ri (rt_P sc fm) 71 4 (.iload_n 1) (5) := ⟨(by decide +kernel : rt_xt 71 4 = none), (by decide +kernel : rt_cd 71 4 = some (.iload_n 1)), rfl⟩
theorem i_71_5 {sc : Nat × (Nat → Int32)} {fm : Value} : ri (rt_P sc fm) 71 5 (.invokevirtual 146) (8) := ⟨(by decide +kernel : rt_xt 71 5 = none), (by decide +kernel : rt_cd 71 5 = some (.invokevirtual 146)), rfl⟩
theorem c_71_146 {sc : Nat × (Nat → Int32)} {fm : Value} : rx_ct (rt_P sc fm) 71 146 = some (0, 21, 1) := (by decide +kernel : rt_ct 71 146 = some (0, 21, 1))
theorem i_71_8 {sc : Nat × (Nat → Int32)} {fm : Value} : ri (rt_P sc fm) 71 8 (.ifCond .le 14) (11) := ⟨(by decide +kernel : rt_xt 71 8 = none), (by decide +kernel : rt_cd 71 8 = some (.ifCond .le 14)), rfl⟩
theorem i_71_22 {sc : Nat × (Nat → Int32)} {fm : Value} : ri (rt_P sc fm) 71 22 (.iconst (-1)) (23) := ⟨(by decide +kernel : rt_xt 71 22 = none), (by decide +kernel : rt_cd 71 22 = some (.iconst (-1))), rfl⟩
theorem i_71_23 {sc : Nat × (Nat → Int32)} {fm : Value} : ri (rt_P sc fm) 71 23 (.ireturn) (24) := ⟨(by decide +kernel : rt_xt 71 23 = none), (by decide +kernel : rt_cd 71 23 = some (.ireturn)), rfl⟩
theorem r_71 {sc : Nat × (Nat → Int32)} {fm : Value} : rx_rt (rt_P sc fm) 71 = (some FieldType.int) := (by decide +kernel : rt_rt 71 = (some FieldType.int))
theorem i_0_753 {sc : Nat × (Nat → Int32)} {fm : Value} : ri (rt_P sc fm) 0 753 (.aload_n 2) (754) := ⟨(by decide +kernel : rt_xt 0 753 = none), (by decide +kernel : rt_cd 0 753 = some (.aload_n 2)), rfl⟩
theorem i_0_754 {sc : Nat × (Nat → Int32)} {fm : Value} : ri (rt_P sc fm) 0 754 (.aload_n 0) (755) := ⟨(by decide +kernel : rt_xt 0 754 = none), (by decide +kernel : rt_cd 0 754 = some (.aload_n 0)), rfl⟩
theorem i_0_755 {sc : Nat × (Nat → Int32)} {fm : Value} : ri (rt_P sc fm) 0 755 (.iload 4) (757) := ⟨(by decide +kernel : rt_xt 0 755 = none), (by decide +kernel : rt_cd 0 755 = some (.iload 4)), rfl⟩
theorem i_0_757 {sc : Nat × (Nat → Int32)} {fm : Value} : ri (rt_P sc fm) 0 757 (.iconst 1) (758) := ⟨(by decide +kernel : rt_xt 0 757 = none), (by decide +kernel : rt_cd 0 757 = some (.iconst 1)), rfl⟩
theorem i_0_758 {sc : Nat × (Nat → Int32)} {fm : Value} : ri (rt_P sc fm) 0 758 (.iadd) (759) := ⟨(by decide +kernel : rt_xt 0 758 = none), (by decide +kernel : rt_cd 0 758 = some (.iadd)), rfl⟩
theorem i_0_759 {sc : Nat × (Nat → Int32)} {fm : Value} : ri (rt_P sc fm) 0 759 (.iaload) (760) := ⟨(by decide +kernel : rt_xt 0 759 = none), (by decide +kernel : rt_cd 0 759 = some (.iaload)), rfl⟩
theorem i_0_760 {sc : Nat × (Nat → Int32)} {fm : Value} : ri (rt_P sc fm) 0 760 (.aload_n 0) (761) := ⟨(by decide +kernel : rt_xt 0 760 = none), (by decide +kernel : rt_cd 0 760 = some (.aload_n 0)), rfl⟩
theorem i_0_761 {sc : Nat × (Nat → Int32)} {fm : Value} : ri (rt_P sc fm) 0 761 (.iload 4) (763) := ⟨(by decide +kernel : rt_xt 0 761 = none), (by decide +kernel : rt_cd 0 761 = some (.iload 4)), rfl⟩
theorem i_0_763 {sc : Nat × (Nat → Int32)} {fm : Value} : ri (rt_P sc fm) 0 763 (.iconst 2) (764) := ⟨(by decide +kernel : rt_xt 0 763 = none), (by decide +kernel : rt_cd 0 763 = some (.iconst 2)), rfl⟩
theorem i_0_764 {sc : Nat × (Nat → Int32)} {fm : Value} : ri (rt_P sc fm) 0 764 (.iadd) (765) := ⟨(by decide +kernel : rt_xt 0 764 = none), (by decide +kernel : rt_cd 0 764 = some (.iadd)), rfl⟩
theorem i_0_765 {sc : Nat × (Nat → Int32)} {fm : Value} : ri (rt_P sc fm) 0 765 (.iaload) (766) := ⟨(by decide +kernel : rt_xt 0 765 = none), (by decide +kernel : rt_cd 0 765 = some (.iaload)), rfl⟩
theorem i_0_766 {sc : Nat × (Nat → Int32)} {fm : Value} : ri (rt_P sc fm) 0 766 (.invokevirtual 99) (769) := ⟨(by decide +kernel : rt_xt 0 766 = none), (by decide +kernel : rt_cd 0 766 = some (.invokevirtual 99)), rfl⟩
theorem c_0_99 {sc : Nat × (Nat → Int32)} {fm : Value} : rx_ct (rt_P sc fm) 0 99 = some (0, 125, 2) := (by decide +kernel : rt_ct 0 99 = some (0, 125, 2))
theorem a_15_125 {sc : Nat × (Nat → Int32)} {fm : Value} : rz_cn 15 (rx_yn (rt_P sc fm) 125).cls = true := (by decide +kernel : rz_cn 15 (rt_yn 125).cls = true)
theorem i_125_0 {sc : Nat × (Nat → Int32)} {fm : Value} : ri (rt_P sc fm) 125 0 (.aload_n 0) (1) := ⟨(by decide +kernel : rt_xt 125 0 = none), (by decide +kernel : rt_cd 125 0 = some (.aload_n 0)), rfl⟩
theorem i_125_1 {sc : Nat × (Nat → Int32)} {fm : Value} : ri (rt_P sc fm) 125 1 (.iconst 0) (2) := ⟨(by decide +kernel : rt_xt 125 1 = none), (by decide +kernel : rt_cd 125 1 = some (.iconst 0)), rfl⟩
theorem i_125_2 {sc : Nat × (Nat → Int32)} {fm : Value} : ri (rt_P sc fm) 125 2 (.putfield 356) (5) := ⟨(by decide +kernel : rt_xt 125 2 = none), (by decide +kernel : rt_cd 125 2 = some (.putfield 356)), rfl⟩
theorem p_125_356 {sc : Nat × (Nat → Int32)} {fm : Value} : rx_pt (rt_P sc fm) 125 356 = some (15, 0, .int) := (by decide +kernel : rt_pt 125 356 = some (15, 0, .int))
theorem i_125_5 {sc : Nat × (Nat → Int32)} {fm : Value} : ri (rt_P sc fm) 125 5 (.aload_n 0) (6) := ⟨(by decide +kernel : rt_xt 125 5 = none), (by decide +kernel : rt_cd 125 5 = some (.aload_n 0)), rfl⟩
theorem i_125_6 {sc : Nat × (Nat → Int32)} {fm : Value} : ri (rt_P sc fm) 125 6 (.iload_n 1) (7) := ⟨(by decide +kernel : rt_xt 125 6 = none), (by decide +kernel : rt_cd 125 6 = some (.iload_n 1)), rfl⟩
theorem i_125_7 {sc : Nat × (Nat → Int32)} {fm : Value} : ri (rt_P sc fm) 125 7 (.invokevirtual 829) (10) := ⟨(by decide +kernel : rt_xt 125 7 = none), (by decide +kernel : rt_cd 125 7 = some (.invokevirtual 829)), rfl⟩
theorem c_125_829 {sc : Nat × (Nat → Int32)} {fm : Value} : rx_ct (rt_P sc fm) 125 829 = some (0, 112, 1) := (by decide +kernel : rt_ct 125 829 = some (0, 112, 1))
theorem a_15_112 {sc : Nat × (Nat → Int32)} {fm : Value} : rz_cn 15 (rx_yn (rt_P sc fm) 112).cls = true := (by decide +kernel : rz_cn 15 (rt_yn 112).cls = true)
theorem i_112_0 {sc : Nat × (Nat → Int32)} {fm : Value} : ri (rt_P sc fm) 112 0 (.aload_n 0) (1) := ⟨(by decide +kernel : rt_xt 112 0 = none), (by decide +kernel : rt_cd 112 0 = some (.aload_n 0)), rfl⟩
theorem i_112_1 {sc : Nat × (Nat → Int32)} {fm : Value} : ri (rt_P sc fm) 112 1 (.iload_n 1) (2) := ⟨(by decide +kernel : rt_xt 112 1 = none), (by decide +kernel : rt_cd 112 1 = some (.iload_n 1)), rfl⟩
theorem i_112_2 {sc : Nat × (Nat → Int32)} {fm : Value} : ri (rt_P sc fm) 112 2 (.invokevirtual 652) (5) := ⟨(by decide +kernel : rt_xt 112 2 = none), (by decide +kernel : rt_cd 112 2 = some (.invokevirtual 652)), rfl⟩
theorem c_112_652 {sc : Nat × (Nat → Int32)} {fm : Value} : rx_ct (rt_P sc fm) 112 652 = some (0, 109, 1) := (by decide +kernel : rt_ct 112 652 = some (0, 109, 1))
theorem i_112_5 {sc : Nat × (Nat → Int32)} {fm : Value} : ri (rt_P sc fm) 112 5 (.ifCond .eq 15) (8) := ⟨(by decide +kernel : rt_xt 112 5 = none), (by decide +kernel : rt_cd 112 5 = some (.ifCond .eq 15)), rfl⟩
theorem i_112_20 {sc : Nat × (Nat → Int32)} {fm : Value} : ri (rt_P sc fm) 112 20 (.iconst 0) (21) := ⟨(by decide +kernel : rt_xt 112 20 = none), (by decide +kernel : rt_cd 112 20 = some (.iconst 0)), rfl⟩
theorem i_112_21 {sc : Nat × (Nat → Int32)} {fm : Value} : ri (rt_P sc fm) 112 21 (.ireturn) (22) := ⟨(by decide +kernel : rt_xt 112 21 = none), (by decide +kernel : rt_cd 112 21 = some (.ireturn)), rfl⟩
theorem r_112 {sc : Nat × (Nat → Int32)} {fm : Value} : rx_rt (rt_P sc fm) 112 = (some FieldType.boolean) := (by decide +kernel : rt_rt 112 = (some FieldType.boolean))
theorem i_125_10 {sc : Nat × (Nat → Int32)} {fm : Value} : ri (rt_P sc fm) 125 10 (.ifCond .eq 20) (13) := ⟨(by decide +kernel : rt_xt 125 10 = none), (by decide +kernel : rt_cd 125 10 = some (.ifCond .eq 20)), rfl⟩
theorem i_125_30 {sc : Nat × (Nat → Int32)} {fm : Value} : ri (rt_P sc fm) 125 30 (.iconst (-1)) (31) := ⟨(by decide +kernel : rt_xt 125 30 = none), (by decide +kernel : rt_cd 125 30 = some (.iconst (-1))), rfl⟩
theorem i_125_31 {sc : Nat × (Nat → Int32)} {fm : Value} : ri (rt_P sc fm) 125 31 (.ireturn) (32) := ⟨(by decide +kernel : rt_xt 125 31 = none), (by decide +kernel : rt_cd 125 31 = some (.ireturn)), rfl⟩
theorem r_125 {sc : Nat × (Nat → Int32)} {fm : Value} : rx_rt (rt_P sc fm) 125 = (some FieldType.int) := (by decide +kernel : rt_rt 125 = (some FieldType.int))
theorem i_0_769 {sc : Nat × (Nat → Int32)} {fm : Value} : ri (rt_P sc fm) 0 769 (.if_icmp .eq 565) (772) := ⟨(by decide +kernel : rt_xt 0 769 = none), (by decide +kernel : rt_cd 0 769 = some (.if_icmp .eq 565)), rfl⟩
theorem i_0_774 {sc : Nat × (Nat → Int32)} {fm : Value} : ri (rt_P sc fm) 0 774 (.aload_n 1) (775) := ⟨(by decide +kernel : rt_xt 0 774 = none), (by decide +kernel : rt_cd 0 774 = some (.aload_n 1)), rfl⟩
theorem i_0_775 {sc : Nat × (Nat → Int32)} {fm : Value} : ri (rt_P sc fm) 0 775 (.invokevirtual 100) (778) := ⟨(by decide +kernel : rt_xt 0 775 = none), (by decide +kernel : rt_cd 0 775 = some (.invokevirtual 100)), rfl⟩
theorem c_0_100 {sc : Nat × (Nat → Int32)} {fm : Value} : rx_ct (rt_P sc fm) 0 100 = some (0, 72, 0) := (by decide +kernel : rt_ct 0 100 = some (0, 72, 0))
theorem a_14_72 {sc : Nat × (Nat → Int32)} {fm : Value} : rz_cn 14 (rx_yn (rt_P sc fm) 72).cls = true := (by decide +kernel : rz_cn 14 (rt_yn 72).cls = true)
theorem i_72_0 {sc : Nat × (Nat → Int32)} {fm : Value} : ri (rt_P sc fm) 72 0 (.aload_n 0) (1) := ⟨(by decide +kernel : rt_xt 72 0 = none), (by decide +kernel : rt_cd 72 0 = some (.aload_n 0)), rfl⟩
theorem i_72_1 {sc : Nat × (Nat → Int32)} {fm : Value} : ri (rt_P sc fm) 72 1 (.getfield 19) (4) := ⟨(by decide +kernel : rt_xt 72 1 = none), (by decide +kernel : rt_cd 72 1 = some (.getfield 19)), rfl⟩
theorem f_72_19 {sc : Nat × (Nat → Int32)} {fm : Value} : rx_ft (rt_P sc fm) 72 19 = some (14, 1) := (by decide +kernel : rt_ft 72 19 = some (14, 1))
theorem i_72_4 {sc : Nat × (Nat → Int32)} {fm : Value} : ri (rt_P sc fm) 72 4 (.getfield 126) (7) := ⟨(by decide +kernel : rt_xt 72 4 = none), (by decide +kernel : rt_cd 72 4 = some (.getfield 126)), rfl⟩
theorem f_72_126 {sc : Nat × (Nat → Int32)} {fm : Value} : rx_ft (rt_P sc fm) 72 126 = some (9, 0) := (by decide +kernel : rt_ft 72 126 = some (9, 0))
theorem i_72_7 {sc : Nat × (Nat → Int32)} {fm : Value} : ri (rt_P sc fm) 72 7 (.ifCond .ne 5) (10) := ⟨(by decide +kernel : rt_xt 72 7 = none), (by decide +kernel : rt_cd 72 7 = some (.ifCond .ne 5)), rfl⟩
theorem i_72_10 {sc : Nat × (Nat → Int32)} {fm : Value} : ri (rt_P sc fm) 72 10 (.iconst (-1)) (11) := ⟨(by decide +kernel : rt_xt 72 10 = none), (by decide +kernel : rt_cd 72 10 = some (.iconst (-1))), rfl⟩
theorem i_72_11 {sc : Nat × (Nat → Int32)} {fm : Value} : ri (rt_P sc fm) 72 11 (.ireturn) (12) := ⟨(by decide +kernel : rt_xt 72 11 = none), (by decide +kernel : rt_cd 72 11 = some (.ireturn)), rfl⟩
theorem r_72 {sc : Nat × (Nat → Int32)} {fm : Value} : rx_rt (rt_P sc fm) 72 = (some FieldType.int) := (by decide +kernel : rt_rt 72 = (some FieldType.int))
theorem i_0_778 {sc : Nat × (Nat → Int32)} {fm : Value} : ri (rt_P sc fm) 0 778 (.aload_n 2) (779) := ⟨(by decide +kernel : rt_xt 0 778 = none), (by decide +kernel : rt_cd 0 778 = some (.aload_n 2)), rfl⟩
theorem i_0_779 {sc : Nat × (Nat → Int32)} {fm : Value} : ri (rt_P sc fm) 0 779 (.invokevirtual 103) (782) := ⟨(by decide +kernel : rt_xt 0 779 = none), (by decide +kernel : rt_cd 0 779 = some (.invokevirtual 103)), rfl⟩
theorem c_0_103 {sc : Nat × (Nat → Int32)} {fm : Value} : rx_ct (rt_P sc fm) 0 103 = some (0, 124, 0) := (by decide +kernel : rt_ct 0 103 = some (0, 124, 0))
theorem a_15_124 {sc : Nat × (Nat → Int32)} {fm : Value} : rz_cn 15 (rx_yn (rt_P sc fm) 124).cls = true := (by decide +kernel : rz_cn 15 (rt_yn 124).cls = true)
theorem i_124_0 {sc : Nat × (Nat → Int32)} {fm : Value} : ri (rt_P sc fm) 124 0 (.aload_n 0) (1) := ⟨(by decide +kernel : rt_xt 124 0 = none), (by decide +kernel : rt_cd 124 0 = some (.aload_n 0)), rfl⟩
theorem i_124_1 {sc : Nat × (Nat → Int32)} {fm : Value} : ri (rt_P sc fm) 124 1 (.iconst 0) (2) := ⟨(by decide +kernel : rt_xt 124 1 = none), (by decide +kernel : rt_cd 124 1 = some (.iconst 0)), rfl⟩
theorem i_124_2 {sc : Nat × (Nat → Int32)} {fm : Value} : ri (rt_P sc fm) 124 2 (.putfield 356) (5) := ⟨(by decide +kernel : rt_xt 124 2 = none), (by decide +kernel : rt_cd 124 2 = some (.putfield 356)), rfl⟩
theorem p_124_356 {sc : Nat × (Nat → Int32)} {fm : Value} : rx_pt (rt_P sc fm) 124 356 = some (15, 0, .int) := (by decide +kernel : rt_pt 124 356 = some (15, 0, .int))
theorem i_124_5 {sc : Nat × (Nat → Int32)} {fm : Value} : ri (rt_P sc fm) 124 5 (.aload_n 0) (6) := ⟨(by decide +kernel : rt_xt 124 5 = none), (by decide +kernel : rt_cd 124 5 = some (.aload_n 0)), rfl⟩
theorem i_124_6 {sc : Nat × (Nat → Int32)} {fm : Value} : ri (rt_P sc fm) 124 6 (.getfield 634) (9) := ⟨(by decide +kernel : rt_xt 124 6 = none), (by decide +kernel : rt_cd 124 6 = some (.getfield 634)), rfl⟩
theorem f_124_634 {sc : Nat × (Nat → Int32)} {fm : Value} : rx_ft (rt_P sc fm) 124 634 = some (15, 14) := (by decide +kernel : rt_ft 124 634 = some (15, 14))
theorem i_124_9 {sc : Nat × (Nat → Int32)} {fm : Value} : ri (rt_P sc fm) 124 9 (.ifCond .ne 5) (12) := ⟨(by decide +kernel : rt_xt 124 9 = none), (by decide +kernel : rt_cd 124 9 = some (.ifCond .ne 5)), rfl⟩
theorem i_124_12 {sc : Nat × (Nat → Int32)} {fm : Value} : ri (rt_P sc fm) 124 12 (.iconst (-1)) (13) := ⟨(by decide +kernel : rt_xt 124 12 = none), (by decide +kernel : rt_cd 124 12 = some (.iconst (-1))), rfl⟩
theorem i_124_13 {sc : Nat × (Nat → Int32)} {fm : Value} : ri (rt_P sc fm) 124 13 (.ireturn) (14) := ⟨(by decide +kernel : rt_xt 124 13 = none), (by decide +kernel : rt_cd 124 13 = some (.ireturn)), rfl⟩
theorem r_124 {sc : Nat × (Nat → Int32)} {fm : Value} : rx_rt (rt_P sc fm) 124 = (some FieldType.int) := (by decide +kernel : rt_rt 124 = (some FieldType.int))
theorem i_0_782 {sc : Nat × (Nat → Int32)} {fm : Value} : ri (rt_P sc fm) 0 782 (.if_icmp .eq 552) (785) := ⟨(by decide +kernel : rt_xt 0 782 = none), (by decide +kernel : rt_cd 0 782 = some (.if_icmp .eq 552)), rfl⟩
theorem i_0_787 {sc : Nat × (Nat → Int32)} {fm : Value} : ri (rt_P sc fm) 0 787 (.aload_n 1) (788) := ⟨(by decide +kernel : rt_xt 0 787 = none), (by decide +kernel : rt_cd 0 787 = some (.aload_n 1)), rfl⟩
theorem i_0_788 {sc : Nat × (Nat → Int32)} {fm : Value} : ri (rt_P sc fm) 0 788 (.aload_n 0) (789) := ⟨(by decide +kernel : rt_xt 0 788 = none), (by decide +kernel : rt_cd 0 788 = some (.aload_n 0)), rfl⟩
theorem i_0_789 {sc : Nat × (Nat → Int32)} {fm : Value} : ri (rt_P sc fm) 0 789 (.iload 4) (791) := ⟨(by decide +kernel : rt_xt 0 789 = none), (by decide +kernel : rt_cd 0 789 = some (.iload 4)), rfl⟩
theorem i_0_791 {sc : Nat × (Nat → Int32)} {fm : Value} : ri (rt_P sc fm) 0 791 (.iconst 1) (792) := ⟨(by decide +kernel : rt_xt 0 791 = none), (by decide +kernel : rt_cd 0 791 = some (.iconst 1)), rfl⟩
theorem i_0_792 {sc : Nat × (Nat → Int32)} {fm : Value} : ri (rt_P sc fm) 0 792 (.iadd) (793) := ⟨(by decide +kernel : rt_xt 0 792 = none), (by decide +kernel : rt_cd 0 792 = some (.iadd)), rfl⟩
theorem i_0_793 {sc : Nat × (Nat → Int32)} {fm : Value} : ri (rt_P sc fm) 0 793 (.iaload) (794) := ⟨(by decide +kernel : rt_xt 0 793 = none), (by decide +kernel : rt_cd 0 793 = some (.iaload)), rfl⟩
theorem i_0_794 {sc : Nat × (Nat → Int32)} {fm : Value} : ri (rt_P sc fm) 0 794 (.invokevirtual 104) (797) := ⟨(by decide +kernel : rt_xt 0 794 = none), (by decide +kernel : rt_cd 0 794 = some (.invokevirtual 104)), rfl⟩
theorem c_0_104 {sc : Nat × (Nat → Int32)} {fm : Value} : rx_ct (rt_P sc fm) 0 104 = some (0, 73, 1) := (by decide +kernel : rt_ct 0 104 = some (0, 73, 1))
theorem a_14_73 {sc : Nat × (Nat → Int32)} {fm : Value} : rz_cn 14 (rx_yn (rt_P sc fm) 73).cls = true := (by decide +kernel : rz_cn 14 (rt_yn 73).cls = true)
theorem i_73_0 {sc : Nat × (Nat → Int32)} {fm : Value} : ri (rt_P sc fm) 73 0 (.aload_n 0) (1) := ⟨(by decide +kernel : rt_xt 73 0 = none), (by decide +kernel : rt_cd 73 0 = some (.aload_n 0)), rfl⟩
theorem i_73_1 {sc : Nat × (Nat → Int32)} {fm : Value} : ri (rt_P sc fm) 73 1 (.getfield 19) (4) := ⟨(by decide +kernel : rt_xt 73 1 = none), (by decide +kernel : rt_cd 73 1 = some (.getfield 19)), rfl⟩
theorem f_73_19 {sc : Nat × (Nat → Int32)} {fm : Value} : rx_ft (rt_P sc fm) 73 19 = some (14, 1) := (by decide +kernel : rt_ft 73 19 = some (14, 1))
theorem i_73_4 {sc : Nat × (Nat → Int32)} {fm : Value} : ri (rt_P sc fm) 73 4 (.iload_n 1) (5) := ⟨(by decide +kernel : rt_xt 73 4 = none), (by decide +kernel : rt_cd 73 4 = some (.iload_n 1)), rfl⟩
theorem i_73_5 {sc : Nat × (Nat → Int32)} {fm : Value} : ri (rt_P sc fm) 73 5 (.invokevirtual 170) (8) := ⟨(by decide +kernel : rt_xt 73 5 = none), (by decide +kernel : rt_cd 73 5 = some (.invokevirtual 170)), rfl⟩
theorem c_73_170 {sc : Nat × (Nat → Int32)} {fm : Value} : rx_ct (rt_P sc fm) 73 170 = some (0, 37, 1) := (by decide +kernel : rt_ct 73 170 = some (0, 37, 1))
theorem i_73_8 {sc : Nat × (Nat → Int32)} {fm : Value} : ri (rt_P sc fm) 73 8 (.ifCond .ne 5) (11) := ⟨(by decide +kernel : rt_xt 73 8 = none), (by decide +kernel : rt_cd 73 8 = some (.ifCond .ne 5)), rfl⟩
theorem i_73_11 {sc : Nat × (Nat → Int32)} {fm : Value} : ri (rt_P sc fm) 73 11 (.iconst (-1)) (12) := ⟨(by decide +kernel : rt_xt 73 11 = none), (by decide +kernel : rt_cd 73 11 = some (.iconst (-1))), rfl⟩
theorem i_73_12 {sc : Nat × (Nat → Int32)} {fm : Value} : ri (rt_P sc fm) 73 12 (.ireturn) (13) := ⟨(by decide +kernel : rt_xt 73 12 = none), (by decide +kernel : rt_cd 73 12 = some (.ireturn)), rfl⟩
theorem r_73 {sc : Nat × (Nat → Int32)} {fm : Value} : rx_rt (rt_P sc fm) 73 = (some FieldType.int) := (by decide +kernel : rt_rt 73 = (some FieldType.int))
theorem i_0_797 {sc : Nat × (Nat → Int32)} {fm : Value} : ri (rt_P sc fm) 0 797 (.aload_n 2) (798) := ⟨(by decide +kernel : rt_xt 0 797 = none), (by decide +kernel : rt_cd 0 797 = some (.aload_n 2)), rfl⟩
theorem i_0_798 {sc : Nat × (Nat → Int32)} {fm : Value} : ri (rt_P sc fm) 0 798 (.aload_n 0) (799) := ⟨(by decide +kernel : rt_xt 0 798 = none), (by decide +kernel : rt_cd 0 798 = some (.aload_n 0)), rfl⟩
theorem i_0_799 {sc : Nat × (Nat → Int32)} {fm : Value} : ri (rt_P sc fm) 0 799 (.iload 4) (801) := ⟨(by decide +kernel : rt_xt 0 799 = none), (by decide +kernel : rt_cd 0 799 = some (.iload 4)), rfl⟩
theorem i_0_801 {sc : Nat × (Nat → Int32)} {fm : Value} : ri (rt_P sc fm) 0 801 (.iconst 1) (802) := ⟨(by decide +kernel : rt_xt 0 801 = none), (by decide +kernel : rt_cd 0 801 = some (.iconst 1)), rfl⟩
theorem i_0_802 {sc : Nat × (Nat → Int32)} {fm : Value} : ri (rt_P sc fm) 0 802 (.iadd) (803) := ⟨(by decide +kernel : rt_xt 0 802 = none), (by decide +kernel : rt_cd 0 802 = some (.iadd)), rfl⟩
theorem i_0_803 {sc : Nat × (Nat → Int32)} {fm : Value} : ri (rt_P sc fm) 0 803 (.iaload) (804) := ⟨(by decide +kernel : rt_xt 0 803 = none), (by decide +kernel : rt_cd 0 803 = some (.iaload)), rfl⟩
theorem i_0_804 {sc : Nat × (Nat → Int32)} {fm : Value} : ri (rt_P sc fm) 0 804 (.invokevirtual 107) (807) := ⟨(by decide +kernel : rt_xt 0 804 = none), (by decide +kernel : rt_cd 0 804 = some (.invokevirtual 107)), rfl⟩
theorem c_0_107 {sc : Nat × (Nat → Int32)} {fm : Value} : rx_ct (rt_P sc fm) 0 107 = some (0, 126, 1) := (by decide +kernel : rt_ct 0 107 = some (0, 126, 1))
theorem a_15_126 {sc : Nat × (Nat → Int32)} {fm : Value} : rz_cn 15 (rx_yn (rt_P sc fm) 126).cls = true := (by decide +kernel : rz_cn 15 (rt_yn 126).cls = true)
theorem i_126_0 {sc : Nat × (Nat → Int32)} {fm : Value} : ri (rt_P sc fm) 126 0 (.aload_n 0) (1) := ⟨(by decide +kernel : rt_xt 126 0 = none), (by decide +kernel : rt_cd 126 0 = some (.aload_n 0)), rfl⟩
theorem i_126_1 {sc : Nat × (Nat → Int32)} {fm : Value} : ri (rt_P sc fm) 126 1 (.iconst 0) (2) := ⟨(by decide +kernel : rt_xt 126 1 = none), (by decide +kernel : rt_cd 126 1 = some (.iconst 0)), rfl⟩
theorem i_126_2 {sc : Nat × (Nat → Int32)} {fm : Value} : ri (rt_P sc fm) 126 2 (.putfield 356) (5) := ⟨(by decide +kernel : rt_xt 126 2 = none), (by decide +kernel : rt_cd 126 2 = some (.putfield 356)), rfl⟩
theorem p_126_356 {sc : Nat × (Nat → Int32)} {fm : Value} : rx_pt (rt_P sc fm) 126 356 = some (15, 0, .int) := (by decide +kernel : rt_pt 126 356 = some (15, 0, .int))
theorem i_126_5 {sc : Nat × (Nat → Int32)} {fm : Value} : ri (rt_P sc fm) 126 5 (.aload_n 0) (6) := ⟨(by decide +kernel : rt_xt 126 5 = none), (by decide +kernel : rt_cd 126 5 = some (.aload_n 0)), rfl⟩
theorem i_126_6 {sc : Nat × (Nat → Int32)} {fm : Value} : ri (rt_P sc fm) 126 6 (.iload_n 1) (7) := ⟨(by decide +kernel : rt_xt 126 6 = none), (by decide +kernel : rt_cd 126 6 = some (.iload_n 1)), rfl⟩
theorem i_126_7 {sc : Nat × (Nat → Int32)} {fm : Value} : ri (rt_P sc fm) 126 7 (.invokevirtual 724) (10) := ⟨(by decide +kernel : rt_xt 126 7 = none), (by decide +kernel : rt_cd 126 7 = some (.invokevirtual 724)), rfl⟩
theorem c_126_724 {sc : Nat × (Nat → Int32)} {fm : Value} : rx_ct (rt_P sc fm) 126 724 = some (0, 119, 1) := (by decide +kernel : rt_ct 126 724 = some (0, 119, 1))
theorem i_126_10 {sc : Nat × (Nat → Int32)} {fm : Value} : ri (rt_P sc fm) 126 10 (.ifCond .ne 5) (13) := ⟨(by decide +kernel : rt_xt 126 10 = none), (by decide +kernel : rt_cd 126 10 = some (.ifCond .ne 5)), rfl⟩
theorem i_126_13 {sc : Nat × (Nat → Int32)} {fm : Value} : ri (rt_P sc fm) 126 13 (.iconst (-1)) (14) := ⟨(by decide +kernel : rt_xt 126 13 = none), (by decide +kernel : rt_cd 126 13 = some (.iconst (-1))), rfl⟩
theorem i_126_14 {sc : Nat × (Nat → Int32)} {fm : Value} : ri (rt_P sc fm) 126 14 (.ireturn) (15) := ⟨(by decide +kernel : rt_xt 126 14 = none), (by decide +kernel : rt_cd 126 14 = some (.ireturn)), rfl⟩
theorem r_126 {sc : Nat × (Nat → Int32)} {fm : Value} : rx_rt (rt_P sc fm) 126 = (some FieldType.int) := (by decide +kernel : rt_rt 126 = (some FieldType.int))
theorem i_0_807 {sc : Nat × (Nat → Int32)} {fm : Value} : ri (rt_P sc fm) 0 807 (.if_icmp .eq 527) (810) := ⟨(by decide +kernel : rt_xt 0 807 = none), (by decide +kernel : rt_cd 0 807 = some (.if_icmp .eq 527)), rfl⟩
theorem i_0_812 {sc : Nat × (Nat → Int32)} {fm : Value} : ri (rt_P sc fm) 0 812 (.aload_n 1) (813) := ⟨(by decide +kernel : rt_xt 0 812 = none), (by decide +kernel : rt_cd 0 812 = some (.aload_n 1)), rfl⟩
theorem i_0_813 {sc : Nat × (Nat → Int32)} {fm : Value} : ri (rt_P sc fm) 0 813 (.aload_n 0) (814) := ⟨(by decide +kernel : rt_xt 0 813 = none), (by decide +kernel : rt_cd 0 813 = some (.aload_n 0)), rfl⟩
theorem i_0_814 {sc : Nat × (Nat → Int32)} {fm : Value} : ri (rt_P sc fm) 0 814 (.iload 4) (816) := ⟨(by decide +kernel : rt_xt 0 814 = none), (by decide +kernel : rt_cd 0 814 = some (.iload 4)), rfl⟩
theorem i_0_816 {sc : Nat × (Nat → Int32)} {fm : Value} : ri (rt_P sc fm) 0 816 (.iconst 1) (817) := ⟨(by decide +kernel : rt_xt 0 816 = none), (by decide +kernel : rt_cd 0 816 = some (.iconst 1)), rfl⟩
theorem i_0_817 {sc : Nat × (Nat → Int32)} {fm : Value} : ri (rt_P sc fm) 0 817 (.iadd) (818) := ⟨(by decide +kernel : rt_xt 0 817 = none), (by decide +kernel : rt_cd 0 817 = some (.iadd)), rfl⟩
theorem i_0_818 {sc : Nat × (Nat → Int32)} {fm : Value} : ri (rt_P sc fm) 0 818 (.iaload) (819) := ⟨(by decide +kernel : rt_xt 0 818 = none), (by decide +kernel : rt_cd 0 818 = some (.iaload)), rfl⟩
theorem i_0_819 {sc : Nat × (Nat → Int32)} {fm : Value} : ri (rt_P sc fm) 0 819 (.aload_n 0) (820) := ⟨(by decide +kernel : rt_xt 0 819 = none), (by decide +kernel : rt_cd 0 819 = some (.aload_n 0)), rfl⟩
theorem i_0_820 {sc : Nat × (Nat → Int32)} {fm : Value} : ri (rt_P sc fm) 0 820 (.iload 4) (822) := ⟨(by decide +kernel : rt_xt 0 820 = none), (by decide +kernel : rt_cd 0 820 = some (.iload 4)), rfl⟩
theorem i_0_822 {sc : Nat × (Nat → Int32)} {fm : Value} : ri (rt_P sc fm) 0 822 (.iconst 2) (823) := ⟨(by decide +kernel : rt_xt 0 822 = none), (by decide +kernel : rt_cd 0 822 = some (.iconst 2)), rfl⟩
theorem i_0_823 {sc : Nat × (Nat → Int32)} {fm : Value} : ri (rt_P sc fm) 0 823 (.iadd) (824) := ⟨(by decide +kernel : rt_xt 0 823 = none), (by decide +kernel : rt_cd 0 823 = some (.iadd)), rfl⟩
theorem i_0_824 {sc : Nat × (Nat → Int32)} {fm : Value} : ri (rt_P sc fm) 0 824 (.iaload) (825) := ⟨(by decide +kernel : rt_xt 0 824 = none), (by decide +kernel : rt_cd 0 824 = some (.iaload)), rfl⟩
theorem i_0_825 {sc : Nat × (Nat → Int32)} {fm : Value} : ri (rt_P sc fm) 0 825 (.invokevirtual 108) (828) := ⟨(by decide +kernel : rt_xt 0 825 = none), (by decide +kernel : rt_cd 0 825 = some (.invokevirtual 108)), rfl⟩
theorem c_0_108 {sc : Nat × (Nat → Int32)} {fm : Value} : rx_ct (rt_P sc fm) 0 108 = some (0, 74, 2) := (by decide +kernel : rt_ct 0 108 = some (0, 74, 2))
theorem a_14_74 {sc : Nat × (Nat → Int32)} {fm : Value} : rz_cn 14 (rx_yn (rt_P sc fm) 74).cls = true := (by decide +kernel : rz_cn 14 (rt_yn 74).cls = true)
theorem i_74_0 {sc : Nat × (Nat → Int32)} {fm : Value} : ri (rt_P sc fm) 74 0 (.aload_n 0) (1) := ⟨(by decide +kernel : rt_xt 74 0 = none), (by decide +kernel : rt_cd 74 0 = some (.aload_n 0)), rfl⟩
theorem i_74_1 {sc : Nat × (Nat → Int32)} {fm : Value} : ri (rt_P sc fm) 74 1 (.getfield 62) (4) := ⟨(by decide +kernel : rt_xt 74 1 = none), (by decide +kernel : rt_cd 74 1 = some (.getfield 62)), rfl⟩
theorem f_74_62 {sc : Nat × (Nat → Int32)} {fm : Value} : rx_ft (rt_P sc fm) 74 62 = some (14, 6) := (by decide +kernel : rt_ft 74 62 = some (14, 6))
theorem i_74_4 {sc : Nat × (Nat → Int32)} {fm : Value} : ri (rt_P sc fm) 74 4 (.iload_n 1) (5) := ⟨(by decide +kernel : rt_xt 74 4 = none), (by decide +kernel : rt_cd 74 4 = some (.iload_n 1)), rfl⟩
theorem i_74_5 {sc : Nat × (Nat → Int32)} {fm : Value} : ri (rt_P sc fm) 74 5 (.invokevirtual 287) (8) := ⟨(by decide +kernel : rt_xt 74 5 = none), (by decide +kernel : rt_cd 74 5 = some (.invokevirtual 287)), rfl⟩
theorem c_74_287 {sc : Nat × (Nat → Int32)} {fm : Value} : rx_ct (rt_P sc fm) 74 287 = some (0, 30, 1) := (by decide +kernel : rt_ct 74 287 = some (0, 30, 1))
theorem a_5_30 {sc : Nat × (Nat → Int32)} {fm : Value} : rz_cn 5 (rx_yn (rt_P sc fm) 30).cls = true := (by decide +kernel : rz_cn 5 (rt_yn 30).cls = true)
theorem i_30_0 {sc : Nat × (Nat → Int32)} {fm : Value} : ri (rt_P sc fm) 30 0 (.aload_n 0) (1) := ⟨(by decide +kernel : rt_xt 30 0 = none), (by decide +kernel : rt_cd 30 0 = some (.aload_n 0)), rfl⟩
theorem i_30_1 {sc : Nat × (Nat → Int32)} {fm : Value} : ri (rt_P sc fm) 30 1 (.getfield 9) (4) := ⟨(by decide +kernel : rt_xt 30 1 = none), (by decide +kernel : rt_cd 30 1 = some (.getfield 9)), rfl⟩
theorem f_30_9 {sc : Nat × (Nat → Int32)} {fm : Value} : rx_ft (rt_P sc fm) 30 9 = some (5, 3) := (by decide +kernel : rt_ft 30 9 = some (5, 3))
theorem i_30_4 {sc : Nat × (Nat → Int32)} {fm : Value} : ri (rt_P sc fm) 30 4 (.ifCond .lt 19) (7) := ⟨(by decide +kernel : rt_xt 30 4 = none), (by decide +kernel : rt_cd 30 4 = some (.ifCond .lt 19)), rfl⟩
theorem i_30_23 {sc : Nat × (Nat → Int32)} {fm : Value} : ri (rt_P sc fm) 30 23 (.iconst 0) (24) := ⟨(by decide +kernel : rt_xt 30 23 = none), (by decide +kernel : rt_cd 30 23 = some (.iconst 0)), rfl⟩
theorem i_30_24 {sc : Nat × (Nat → Int32)} {fm : Value} : ri (rt_P sc fm) 30 24 (.ireturn) (25) := ⟨(by decide +kernel : rt_xt 30 24 = none), (by decide +kernel : rt_cd 30 24 = some (.ireturn)), rfl⟩
theorem r_30 {sc : Nat × (Nat → Int32)} {fm : Value} : rx_rt (rt_P sc fm) 30 = (some FieldType.boolean) := (by decide +kernel : rt_rt 30 = (some FieldType.boolean))
theorem i_74_8 {sc : Nat × (Nat → Int32)} {fm : Value} : ri (rt_P sc fm) 74 8 (.ifCond .eq 15) (11) := ⟨(by decide +kernel : rt_xt 74 8 = none), (by decide +kernel : rt_cd 74 8 = some (.ifCond .eq 15)), rfl⟩
theorem i_74_23 {sc : Nat × (Nat → Int32)} {fm : Value} : ri (rt_P sc fm) 74 23 (.iconst (-1)) (24) := ⟨(by decide +kernel : rt_xt 74 23 = none), (by decide +kernel : rt_cd 74 23 = some (.iconst (-1))), rfl⟩
theorem i_74_24 {sc : Nat × (Nat → Int32)} {fm : Value} : ri (rt_P sc fm) 74 24 (.ireturn) (25) := ⟨(by decide +kernel : rt_xt 74 24 = none), (by decide +kernel : rt_cd 74 24 = some (.ireturn)), rfl⟩
theorem r_74 {sc : Nat × (Nat → Int32)} {fm : Value} : rx_rt (rt_P sc fm) 74 = (some FieldType.int) := (by decide +kernel : rt_rt 74 = (some FieldType.int))
theorem i_0_828 {sc : Nat × (Nat → Int32)} {fm : Value} : ri (rt_P sc fm) 0 828 (.aload_n 2) (829) := ⟨(by decide +kernel : rt_xt 0 828 = none), (by decide +kernel : rt_cd 0 828 = some (.aload_n 2)), rfl⟩
theorem i_0_829 {sc : Nat × (Nat → Int32)} {fm : Value} : ri (rt_P sc fm) 0 829 (.aload_n 0) (830) := ⟨(by decide +kernel : rt_xt 0 829 = none), (by decide +kernel : rt_cd 0 829 = some (.aload_n 0)), rfl⟩
theorem i_0_830 {sc : Nat × (Nat → Int32)} {fm : Value} : ri (rt_P sc fm) 0 830 (.iload 4) (832) := ⟨(by decide +kernel : rt_xt 0 830 = none), (by decide +kernel : rt_cd 0 830 = some (.iload 4)), rfl⟩
theorem i_0_832 {sc : Nat × (Nat → Int32)} {fm : Value} : ri (rt_P sc fm) 0 832 (.iconst 1) (833) := ⟨(by decide +kernel : rt_xt 0 832 = none), (by decide +kernel : rt_cd 0 832 = some (.iconst 1)), rfl⟩
theorem i_0_833 {sc : Nat × (Nat → Int32)} {fm : Value} : ri (rt_P sc fm) 0 833 (.iadd) (834) := ⟨(by decide +kernel : rt_xt 0 833 = none), (by decide +kernel : rt_cd 0 833 = some (.iadd)), rfl⟩
theorem i_0_834 {sc : Nat × (Nat → Int32)} {fm : Value} : ri (rt_P sc fm) 0 834 (.iaload) (835) := ⟨(by decide +kernel : rt_xt 0 834 = none), (by decide +kernel : rt_cd 0 834 = some (.iaload)), rfl⟩
theorem i_0_835 {sc : Nat × (Nat → Int32)} {fm : Value} : ri (rt_P sc fm) 0 835 (.aload_n 0) (836) := ⟨(by decide +kernel : rt_xt 0 835 = none), (by decide +kernel : rt_cd 0 835 = some (.aload_n 0)), rfl⟩
theorem i_0_836 {sc : Nat × (Nat → Int32)} {fm : Value} : ri (rt_P sc fm) 0 836 (.iload 4) (838) := ⟨(by decide +kernel : rt_xt 0 836 = none), (by decide +kernel : rt_cd 0 836 = some (.iload 4)), rfl⟩
theorem i_0_838 {sc : Nat × (Nat → Int32)} {fm : Value} : ri (rt_P sc fm) 0 838 (.iconst 2) (839) := ⟨(by decide +kernel : rt_xt 0 838 = none), (by decide +kernel : rt_cd 0 838 = some (.iconst 2)), rfl⟩
theorem i_0_839 {sc : Nat × (Nat → Int32)} {fm : Value} : ri (rt_P sc fm) 0 839 (.iadd) (840) := ⟨(by decide +kernel : rt_xt 0 839 = none), (by decide +kernel : rt_cd 0 839 = some (.iadd)), rfl⟩
theorem i_0_840 {sc : Nat × (Nat → Int32)} {fm : Value} : ri (rt_P sc fm) 0 840 (.iaload) (841) := ⟨(by decide +kernel : rt_xt 0 840 = none), (by decide +kernel : rt_cd 0 840 = some (.iaload)), rfl⟩
theorem i_0_841 {sc : Nat × (Nat → Int32)} {fm : Value} : ri (rt_P sc fm) 0 841 (.invokevirtual 111) (844) := ⟨(by decide +kernel : rt_xt 0 841 = none), (by decide +kernel : rt_cd 0 841 = some (.invokevirtual 111)), rfl⟩
theorem c_0_111 {sc : Nat × (Nat → Int32)} {fm : Value} : rx_ct (rt_P sc fm) 0 111 = some (0, 127, 2) := (by decide +kernel : rt_ct 0 111 = some (0, 127, 2))
theorem a_15_127 {sc : Nat × (Nat → Int32)} {fm : Value} : rz_cn 15 (rx_yn (rt_P sc fm) 127).cls = true := (by decide +kernel : rz_cn 15 (rt_yn 127).cls = true)
theorem i_127_0 {sc : Nat × (Nat → Int32)} {fm : Value} : ri (rt_P sc fm) 127 0 (.aload_n 0) (1) := ⟨(by decide +kernel : rt_xt 127 0 = none), (by decide +kernel : rt_cd 127 0 = some (.aload_n 0)), rfl⟩
theorem i_127_1 {sc : Nat × (Nat → Int32)} {fm : Value} : ri (rt_P sc fm) 127 1 (.iconst 0) (2) := ⟨(by decide +kernel : rt_xt 127 1 = none), (by decide +kernel : rt_cd 127 1 = some (.iconst 0)), rfl⟩
theorem i_127_2 {sc : Nat × (Nat → Int32)} {fm : Value} : ri (rt_P sc fm) 127 2 (.putfield 356) (5) := ⟨(by decide +kernel : rt_xt 127 2 = none), (by decide +kernel : rt_cd 127 2 = some (.putfield 356)), rfl⟩
theorem p_127_356 {sc : Nat × (Nat → Int32)} {fm : Value} : rx_pt (rt_P sc fm) 127 356 = some (15, 0, .int) := (by decide +kernel : rt_pt 127 356 = some (15, 0, .int))
theorem i_127_5 {sc : Nat × (Nat → Int32)} {fm : Value} : ri (rt_P sc fm) 127 5 (.aload_n 0) (6) := ⟨(by decide +kernel : rt_xt 127 5 = none), (by decide +kernel : rt_cd 127 5 = some (.aload_n 0)), rfl⟩
theorem i_127_6 {sc : Nat × (Nat → Int32)} {fm : Value} : ri (rt_P sc fm) 127 6 (.getfield 292) (9) := ⟨(by decide +kernel : rt_xt 127 6 = none), (by decide +kernel : rt_cd 127 6 = some (.getfield 292)), rfl⟩
theorem f_127_292 {sc : Nat × (Nat → Int32)} {fm : Value} : rx_ft (rt_P sc fm) 127 292 = some (15, 97) := (by decide +kernel : rt_ft 127 292 = some (15, 97))
theorem i_127_9 {sc : Nat × (Nat → Int32)} {fm : Value} : ri (rt_P sc fm) 127 9 (.ifCond .lt 15) (12) := ⟨(by decide +kernel : rt_xt 127 9 = none), (by decide +kernel : rt_cd 127 9 = some (.ifCond .lt 15)), rfl⟩
theorem i_127_24 {sc : Nat × (Nat → Int32)} {fm : Value} : ri (rt_P sc fm) 127 24 (.iconst (-1)) (25) := ⟨(by decide +kernel : rt_xt 127 24 = none), (by decide +kernel : rt_cd 127 24 = some (.iconst (-1))), rfl⟩
theorem i_127_25 {sc : Nat × (Nat → Int32)} {fm : Value} : ri (rt_P sc fm) 127 25 (.ireturn) (26) := ⟨(by decide +kernel : rt_xt 127 25 = none), (by decide +kernel : rt_cd 127 25 = some (.ireturn)), rfl⟩
theorem r_127 {sc : Nat × (Nat → Int32)} {fm : Value} : rx_rt (rt_P sc fm) 127 = (some FieldType.int) := (by decide +kernel : rt_rt 127 = (some FieldType.int))
theorem i_0_844 {sc : Nat × (Nat → Int32)} {fm : Value} : ri (rt_P sc fm) 0 844 (.if_icmp .eq 490) (847) := ⟨(by decide +kernel : rt_xt 0 844 = none), (by decide +kernel : rt_cd 0 844 = some (.if_icmp .eq 490)), rfl⟩
theorem i_0_849 {sc : Nat × (Nat → Int32)} {fm : Value} : ri (rt_P sc fm) 0 849 (.aload_n 1) (850) := ⟨(by decide +kernel : rt_xt 0 849 = none), (by decide +kernel : rt_cd 0 849 = some (.aload_n 1)), rfl⟩
theorem i_0_850 {sc : Nat × (Nat → Int32)} {fm : Value} : ri (rt_P sc fm) 0 850 (.aload_n 0) (851) := ⟨(by decide +kernel : rt_xt 0 850 = none), (by decide +kernel : rt_cd 0 850 = some (.aload_n 0)), rfl⟩
theorem i_0_851 {sc : Nat × (Nat → Int32)} {fm : Value} : ri (rt_P sc fm) 0 851 (.iload 4) (853) := ⟨(by decide +kernel : rt_xt 0 851 = none), (by decide +kernel : rt_cd 0 851 = some (.iload 4)), rfl⟩
theorem i_0_853 {sc : Nat × (Nat → Int32)} {fm : Value} : ri (rt_P sc fm) 0 853 (.iconst 1) (854) := ⟨(by decide +kernel : rt_xt 0 853 = none), (by decide +kernel : rt_cd 0 853 = some (.iconst 1)), rfl⟩
theorem i_0_854 {sc : Nat × (Nat → Int32)} {fm : Value} : ri (rt_P sc fm) 0 854 (.iadd) (855) := ⟨(by decide +kernel : rt_xt 0 854 = none), (by decide +kernel : rt_cd 0 854 = some (.iadd)), rfl⟩
theorem i_0_855 {sc : Nat × (Nat → Int32)} {fm : Value} : ri (rt_P sc fm) 0 855 (.iaload) (856) := ⟨(by decide +kernel : rt_xt 0 855 = none), (by decide +kernel : rt_cd 0 855 = some (.iaload)), rfl⟩
theorem i_0_856 {sc : Nat × (Nat → Int32)} {fm : Value} : ri (rt_P sc fm) 0 856 (.invokevirtual 112) (859) := ⟨(by decide +kernel : rt_xt 0 856 = none), (by decide +kernel : rt_cd 0 856 = some (.invokevirtual 112)), rfl⟩
theorem c_0_112 {sc : Nat × (Nat → Int32)} {fm : Value} : rx_ct (rt_P sc fm) 0 112 = some (0, 75, 1) := (by decide +kernel : rt_ct 0 112 = some (0, 75, 1))
theorem a_14_75 {sc : Nat × (Nat → Int32)} {fm : Value} : rz_cn 14 (rx_yn (rt_P sc fm) 75).cls = true := (by decide +kernel : rz_cn 14 (rt_yn 75).cls = true)
theorem i_75_0 {sc : Nat × (Nat → Int32)} {fm : Value} : ri (rt_P sc fm) 75 0 (.aload_n 0) (1) := ⟨(by decide +kernel : rt_xt 75 0 = none), (by decide +kernel : rt_cd 75 0 = some (.aload_n 0)), rfl⟩
theorem i_75_1 {sc : Nat × (Nat → Int32)} {fm : Value} : ri (rt_P sc fm) 75 1 (.getfield 62) (4) := ⟨(by decide +kernel : rt_xt 75 1 = none), (by decide +kernel : rt_cd 75 1 = some (.getfield 62)), rfl⟩
theorem f_75_62 {sc : Nat × (Nat → Int32)} {fm : Value} : rx_ft (rt_P sc fm) 75 62 = some (14, 6) := (by decide +kernel : rt_ft 75 62 = some (14, 6))
theorem i_75_4 {sc : Nat × (Nat → Int32)} {fm : Value} : ri (rt_P sc fm) 75 4 (.iload_n 1) (5) := ⟨(by decide +kernel : rt_xt 75 4 = none), (by decide +kernel : rt_cd 75 4 = some (.iload_n 1)), rfl⟩
theorem i_75_5 {sc : Nat × (Nat → Int32)} {fm : Value} : ri (rt_P sc fm) 75 5 (.invokevirtual 287) (8) := ⟨(by decide +kernel : rt_xt 75 5 = none), (by decide +kernel : rt_cd 75 5 = some (.invokevirtual 287)), rfl⟩
theorem c_75_287 {sc : Nat × (Nat → Int32)} {fm : Value} : rx_ct (rt_P sc fm) 75 287 = some (0, 30, 1) := (by decide +kernel : rt_ct 75 287 = some (0, 30, 1))
theorem i_75_8 {sc : Nat × (Nat → Int32)} {fm : Value} : ri (rt_P sc fm) 75 8 (.ifCond .eq 14) (11) := ⟨(by decide +kernel : rt_xt 75 8 = none), (by decide +kernel : rt_cd 75 8 = some (.ifCond .eq 14)), rfl⟩
theorem i_75_22 {sc : Nat × (Nat → Int32)} {fm : Value} : ri (rt_P sc fm) 75 22 (.iconst (-1)) (23) := ⟨(by decide +kernel : rt_xt 75 22 = none), (by decide +kernel : rt_cd 75 22 = some (.iconst (-1))), rfl⟩
theorem i_75_23 {sc : Nat × (Nat → Int32)} {fm : Value} : ri (rt_P sc fm) 75 23 (.ireturn) (24) := ⟨(by decide +kernel : rt_xt 75 23 = none), (by decide +kernel : rt_cd 75 23 = some (.ireturn)), rfl⟩
theorem r_75 {sc : Nat × (Nat → Int32)} {fm : Value} : rx_rt (rt_P sc fm) 75 = (some FieldType.int) := (by decide +kernel : rt_rt 75 = (some FieldType.int))
theorem i_0_859 {sc : Nat × (Nat → Int32)} {fm : Value} : ri (rt_P sc fm) 0 859 (.aload_n 2) (860) := ⟨(by decide +kernel : rt_xt 0 859 = none), (by decide +kernel : rt_cd 0 859 = some (.aload_n 2)), rfl⟩
theorem i_0_860 {sc : Nat × (Nat → Int32)} {fm : Value} : ri (rt_P sc fm) 0 860 (.aload_n 0) (861) := ⟨(by decide +kernel : rt_xt 0 860 = none), (by decide +kernel : rt_cd 0 860 = some (.aload_n 0)), rfl⟩
theorem i_0_861 {sc : Nat × (Nat → Int32)} {fm : Value} : ri (rt_P sc fm) 0 861 (.iload 4) (863) := ⟨(by decide +kernel : rt_xt 0 861 = none), (by decide +kernel : rt_cd 0 861 = some (.iload 4)), rfl⟩
theorem i_0_863 {sc : Nat × (Nat → Int32)} {fm : Value} : ri (rt_P sc fm) 0 863 (.iconst 1) (864) := ⟨(by decide +kernel : rt_xt 0 863 = none), (by decide +kernel : rt_cd 0 863 = some (.iconst 1)), rfl⟩
theorem i_0_864 {sc : Nat × (Nat → Int32)} {fm : Value} : ri (rt_P sc fm) 0 864 (.iadd) (865) := ⟨(by decide +kernel : rt_xt 0 864 = none), (by decide +kernel : rt_cd 0 864 = some (.iadd)), rfl⟩
theorem i_0_865 {sc : Nat × (Nat → Int32)} {fm : Value} : ri (rt_P sc fm) 0 865 (.iaload) (866) := ⟨(by decide +kernel : rt_xt 0 865 = none), (by decide +kernel : rt_cd 0 865 = some (.iaload)), rfl⟩
theorem i_0_866 {sc : Nat × (Nat → Int32)} {fm : Value} : ri (rt_P sc fm) 0 866 (.invokevirtual 115) (869) := ⟨(by decide +kernel : rt_xt 0 866 = none), (by decide +kernel : rt_cd 0 866 = some (.invokevirtual 115)), rfl⟩
theorem c_0_115 {sc : Nat × (Nat → Int32)} {fm : Value} : rx_ct (rt_P sc fm) 0 115 = some (0, 129, 1) := (by decide +kernel : rt_ct 0 115 = some (0, 129, 1))
theorem a_15_129 {sc : Nat × (Nat → Int32)} {fm : Value} : rz_cn 15 (rx_yn (rt_P sc fm) 129).cls = true := (by decide +kernel : rz_cn 15 (rt_yn 129).cls = true)
theorem i_129_0 {sc : Nat × (Nat → Int32)} {fm : Value} : ri (rt_P sc fm) 129 0 (.aload_n 0) (1) := ⟨(by decide +kernel : rt_xt 129 0 = none), (by decide +kernel : rt_cd 129 0 = some (.aload_n 0)), rfl⟩
theorem i_129_1 {sc : Nat × (Nat → Int32)} {fm : Value} : ri (rt_P sc fm) 129 1 (.iconst 0) (2) := ⟨(by decide +kernel : rt_xt 129 1 = none), (by decide +kernel : rt_cd 129 1 = some (.iconst 0)), rfl⟩
theorem i_129_2 {sc : Nat × (Nat → Int32)} {fm : Value} : ri (rt_P sc fm) 129 2 (.putfield 356) (5) := ⟨(by decide +kernel : rt_xt 129 2 = none), (by decide +kernel : rt_cd 129 2 = some (.putfield 356)), rfl⟩
theorem p_129_356 {sc : Nat × (Nat → Int32)} {fm : Value} : rx_pt (rt_P sc fm) 129 356 = some (15, 0, .int) := (by decide +kernel : rt_pt 129 356 = some (15, 0, .int))
theorem i_129_5 {sc : Nat × (Nat → Int32)} {fm : Value} : ri (rt_P sc fm) 129 5 (.aload_n 0) (6) := ⟨(by decide +kernel : rt_xt 129 5 = none), (by decide +kernel : rt_cd 129 5 = some (.aload_n 0)), rfl⟩
theorem i_129_6 {sc : Nat × (Nat → Int32)} {fm : Value} : ri (rt_P sc fm) 129 6 (.getfield 292) (9) := ⟨(by decide +kernel : rt_xt 129 6 = none), (by decide +kernel : rt_cd 129 6 = some (.getfield 292)), rfl⟩
theorem f_129_292 {sc : Nat × (Nat → Int32)} {fm : Value} : rx_ft (rt_P sc fm) 129 292 = some (15, 97) := (by decide +kernel : rt_ft 129 292 = some (15, 97))
theorem i_129_9 {sc : Nat × (Nat → Int32)} {fm : Value} : ri (rt_P sc fm) 129 9 (.ifCond .lt 15) (12) := ⟨(by decide +kernel : rt_xt 129 9 = none), (by decide +kernel : rt_cd 129 9 = some (.ifCond .lt 15)), rfl⟩
theorem i_129_24 {sc : Nat × (Nat → Int32)} {fm : Value} : ri (rt_P sc fm) 129 24 (.iconst (-1)) (25) := ⟨(by decide +kernel : rt_xt 129 24 = none), (by decide +kernel : rt_cd 129 24 = some (.iconst (-1))), rfl⟩
theorem i_129_25 {sc : Nat × (Nat → Int32)} {fm : Value} : ri (rt_P sc fm) 129 25 (.ireturn) (26) := ⟨(by decide +kernel : rt_xt 129 25 = none), (by decide +kernel : rt_cd 129 25 = some (.ireturn)), rfl⟩
theorem r_129 {sc : Nat × (Nat → Int32)} {fm : Value} : rx_rt (rt_P sc fm) 129 = (some FieldType.int) := (by decide +kernel : rt_rt 129 = (some FieldType.int))
theorem i_0_869 {sc : Nat × (Nat → Int32)} {fm : Value} : ri (rt_P sc fm) 0 869 (.if_icmp .eq 465) (872) := ⟨(by decide +kernel : rt_xt 0 869 = none), (by decide +kernel : rt_cd 0 869 = some (.if_icmp .eq 465)), rfl⟩
theorem i_0_874 {sc : Nat × (Nat → Int32)} {fm : Value} : ri (rt_P sc fm) 0 874 (.aload_n 1) (875) := ⟨(by decide +kernel : rt_xt 0 874 = none), (by decide +kernel : rt_cd 0 874 = some (.aload_n 1)), rfl⟩
theorem i_0_875 {sc : Nat × (Nat → Int32)} {fm : Value} : ri (rt_P sc fm) 0 875 (.aload_n 0) (876) := ⟨(by decide +kernel : rt_xt 0 875 = none), (by decide +kernel : rt_cd 0 875 = some (.aload_n 0)), rfl⟩
theorem i_0_876 {sc : Nat × (Nat → Int32)} {fm : Value} : ri (rt_P sc fm) 0 876 (.iload 4) (878) := ⟨(by decide +kernel : rt_xt 0 876 = none), (by decide +kernel : rt_cd 0 876 = some (.iload 4)), rfl⟩
theorem i_0_878 {sc : Nat × (Nat → Int32)} {fm : Value} : ri (rt_P sc fm) 0 878 (.iconst 1) (879) := ⟨(by decide +kernel : rt_xt 0 878 = none), (by decide +kernel : rt_cd 0 878 = some (.iconst 1)), rfl⟩
theorem i_0_879 {sc : Nat × (Nat → Int32)} {fm : Value} : ri (rt_P sc fm) 0 879 (.iadd) (880) := ⟨(by decide +kernel : rt_xt 0 879 = none), (by decide +kernel : rt_cd 0 879 = some (.iadd)), rfl⟩
theorem i_0_880 {sc : Nat × (Nat → Int32)} {fm : Value} : ri (rt_P sc fm) 0 880 (.iaload) (881) := ⟨(by decide +kernel : rt_xt 0 880 = none), (by decide +kernel : rt_cd 0 880 = some (.iaload)), rfl⟩
theorem i_0_881 {sc : Nat × (Nat → Int32)} {fm : Value} : ri (rt_P sc fm) 0 881 (.invokevirtual 116) (884) := ⟨(by decide +kernel : rt_xt 0 881 = none), (by decide +kernel : rt_cd 0 881 = some (.invokevirtual 116)), rfl⟩
theorem c_0_116 {sc : Nat × (Nat → Int32)} {fm : Value} : rx_ct (rt_P sc fm) 0 116 = some (0, 76, 1) := (by decide +kernel : rt_ct 0 116 = some (0, 76, 1))
theorem a_14_76 {sc : Nat × (Nat → Int32)} {fm : Value} : rz_cn 14 (rx_yn (rt_P sc fm) 76).cls = true := (by decide +kernel : rz_cn 14 (rt_yn 76).cls = true)
theorem i_76_0 {sc : Nat × (Nat → Int32)} {fm : Value} : ri (rt_P sc fm) 76 0 (.iload_n 1) (1) := ⟨(by decide +kernel : rt_xt 76 0 = none), (by decide +kernel : rt_cd 76 0 = some (.iload_n 1)), rfl⟩
theorem i_76_1 {sc : Nat × (Nat → Int32)} {fm : Value} : ri (rt_P sc fm) 76 1 (.ifCond .lt 14) (4) := ⟨(by decide +kernel : rt_xt 76 1 = none), (by decide +kernel : rt_cd 76 1 = some (.ifCond .lt 14)), rfl⟩
theorem i_76_15 {sc : Nat × (Nat → Int32)} {fm : Value} : ri (rt_P sc fm) 76 15 (.iconst (-1)) (16) := ⟨(by decide +kernel : rt_xt 76 15 = none), (by decide +kernel : rt_cd 76 15 = some (.iconst (-1))), rfl⟩
theorem i_76_16 {sc : Nat × (Nat → Int32)} {fm : Value} : ri (rt_P sc fm) 76 16 (.goto 12) (19) := ⟨(by decide +kernel : rt_xt 76 16 = none), (by decide +kernel : rt_cd 76 16 = some (.goto 12)), rfl⟩
theorem i_76_28 {sc : Nat × (Nat → Int32)} {fm : Value} : ri (rt_P sc fm) 76 28 (.ireturn) (29) := ⟨(by decide +kernel : rt_xt 76 28 = none), (by decide +kernel : rt_cd 76 28 = some (.ireturn)), rfl⟩
theorem r_76 {sc : Nat × (Nat → Int32)} {fm : Value} : rx_rt (rt_P sc fm) 76 = (some FieldType.int) := (by decide +kernel : rt_rt 76 = (some FieldType.int))
theorem i_0_884 {sc : Nat × (Nat → Int32)} {fm : Value} : ri (rt_P sc fm) 0 884 (.aload_n 2) (885) := ⟨(by decide +kernel : rt_xt 0 884 = none), (by decide +kernel : rt_cd 0 884 = some (.aload_n 2)), rfl⟩
theorem i_0_885 {sc : Nat × (Nat → Int32)} {fm : Value} : ri (rt_P sc fm) 0 885 (.aload_n 0) (886) := ⟨(by decide +kernel : rt_xt 0 885 = none), (by decide +kernel : rt_cd 0 885 = some (.aload_n 0)), rfl⟩
theorem i_0_886 {sc : Nat × (Nat → Int32)} {fm : Value} : ri (rt_P sc fm) 0 886 (.iload 4) (888) := ⟨(by decide +kernel : rt_xt 0 886 = none), (by decide +kernel : rt_cd 0 886 = some (.iload 4)), rfl⟩
theorem i_0_888 {sc : Nat × (Nat → Int32)} {fm : Value} : ri (rt_P sc fm) 0 888 (.iconst 1) (889) := ⟨(by decide +kernel : rt_xt 0 888 = none), (by decide +kernel : rt_cd 0 888 = some (.iconst 1)), rfl⟩
theorem i_0_889 {sc : Nat × (Nat → Int32)} {fm : Value} : ri (rt_P sc fm) 0 889 (.iadd) (890) := ⟨(by decide +kernel : rt_xt 0 889 = none), (by decide +kernel : rt_cd 0 889 = some (.iadd)), rfl⟩
theorem i_0_890 {sc : Nat × (Nat → Int32)} {fm : Value} : ri (rt_P sc fm) 0 890 (.iaload) (891) := ⟨(by decide +kernel : rt_xt 0 890 = none), (by decide +kernel : rt_cd 0 890 = some (.iaload)), rfl⟩
theorem i_0_891 {sc : Nat × (Nat → Int32)} {fm : Value} : ri (rt_P sc fm) 0 891 (.invokevirtual 119) (894) := ⟨(by decide +kernel : rt_xt 0 891 = none), (by decide +kernel : rt_cd 0 891 = some (.invokevirtual 119)), rfl⟩
theorem c_0_119 {sc : Nat × (Nat → Int32)} {fm : Value} : rx_ct (rt_P sc fm) 0 119 = some (0, 130, 1) := (by decide +kernel : rt_ct 0 119 = some (0, 130, 1))
theorem a_15_130 {sc : Nat × (Nat → Int32)} {fm : Value} : rz_cn 15 (rx_yn (rt_P sc fm) 130).cls = true := (by decide +kernel : rz_cn 15 (rt_yn 130).cls = true)
theorem i_130_0 {sc : Nat × (Nat → Int32)} {fm : Value} : ri (rt_P sc fm) 130 0 (.aload_n 0) (1) := ⟨(by decide +kernel : rt_xt 130 0 = none), (by decide +kernel : rt_cd 130 0 = some (.aload_n 0)), rfl⟩
theorem i_130_1 {sc : Nat × (Nat → Int32)} {fm : Value} : ri (rt_P sc fm) 130 1 (.iconst 0) (2) := ⟨(by decide +kernel : rt_xt 130 1 = none), (by decide +kernel : rt_cd 130 1 = some (.iconst 0)), rfl⟩
theorem i_130_2 {sc : Nat × (Nat → Int32)} {fm : Value} : ri (rt_P sc fm) 130 2 (.putfield 356) (5) := ⟨(by decide +kernel : rt_xt 130 2 = none), (by decide +kernel : rt_cd 130 2 = some (.putfield 356)), rfl⟩
theorem p_130_356 {sc : Nat × (Nat → Int32)} {fm : Value} : rx_pt (rt_P sc fm) 130 356 = some (15, 0, .int) := (by decide +kernel : rt_pt 130 356 = some (15, 0, .int))
theorem i_130_5 {sc : Nat × (Nat → Int32)} {fm : Value} : ri (rt_P sc fm) 130 5 (.aload_n 0) (6) := ⟨(by decide +kernel : rt_xt 130 5 = none), (by decide +kernel : rt_cd 130 5 = some (.aload_n 0)), rfl⟩
theorem i_130_6 {sc : Nat × (Nat → Int32)} {fm : Value} : ri (rt_P sc fm) 130 6 (.getfield 292) (9) := ⟨(by decide +kernel : rt_xt 130 6 = none), (by decide +kernel : rt_cd 130 6 = some (.getfield 292)), rfl⟩
theorem f_130_292 {sc : Nat × (Nat → Int32)} {fm : Value} : rx_ft (rt_P sc fm) 130 292 = some (15, 97) := (by decide +kernel : rt_ft 130 292 = some (15, 97))
theorem i_130_9 {sc : Nat × (Nat → Int32)} {fm : Value} : ri (rt_P sc fm) 130 9 (.ifCond .lt 24) (12) := ⟨(by decide +kernel : rt_xt 130 9 = none), (by decide +kernel : rt_cd 130 9 = some (.ifCond .lt 24)), rfl⟩
theorem i_130_33 {sc : Nat × (Nat → Int32)} {fm : Value} : ri (rt_P sc fm) 130 33 (.iconst (-1)) (34) := ⟨(by decide +kernel : rt_xt 130 33 = none), (by decide +kernel : rt_cd 130 33 = some (.iconst (-1))), rfl⟩
theorem i_130_34 {sc : Nat × (Nat → Int32)} {fm : Value} : ri (rt_P sc fm) 130 34 (.ireturn) (35) := ⟨(by decide +kernel : rt_xt 130 34 = none), (by decide +kernel : rt_cd 130 34 = some (.ireturn)), rfl⟩
theorem r_130 {sc : Nat × (Nat → Int32)} {fm : Value} : rx_rt (rt_P sc fm) 130 = (some FieldType.int) := (by decide +kernel : rt_rt 130 = (some FieldType.int))
theorem i_0_894 {sc : Nat × (Nat → Int32)} {fm : Value} : ri (rt_P sc fm) 0 894 (.if_icmp .eq 440) (897) := ⟨(by decide +kernel : rt_xt 0 894 = none), (by decide +kernel : rt_cd 0 894 = some (.if_icmp .eq 440)), rfl⟩
theorem i_76_4 {sc : Nat × (Nat → Int32)} {fm : Value} : ri (rt_P sc fm) 76 4 (.iload_n 1) (5) := ⟨(by decide +kernel : rt_xt 76 4 = none), (by decide +kernel : rt_cd 76 4 = some (.iload_n 1)), rfl⟩
theorem i_76_5 {sc : Nat × (Nat → Int32)} {fm : Value} : ri (rt_P sc fm) 76 5 (.aload_n 0) (6) := ⟨(by decide +kernel : rt_xt 76 5 = none), (by decide +kernel : rt_cd 76 5 = some (.aload_n 0)), rfl⟩
theorem i_76_6 {sc : Nat × (Nat → Int32)} {fm : Value} : ri (rt_P sc fm) 76 6 (.getfield 62) (9) := ⟨(by decide +kernel : rt_xt 76 6 = none), (by decide +kernel : rt_cd 76 6 = some (.getfield 62)), rfl⟩
theorem f_76_62 {sc : Nat × (Nat → Int32)} {fm : Value} : rx_ft (rt_P sc fm) 76 62 = some (14, 6) := (by decide +kernel : rt_ft 76 62 = some (14, 6))
theorem i_76_9 {sc : Nat × (Nat → Int32)} {fm : Value} : ri (rt_P sc fm) 76 9 (.getfield 281) (12) := ⟨(by decide +kernel : rt_xt 76 9 = none), (by decide +kernel : rt_cd 76 9 = some (.getfield 281)), rfl⟩
theorem f_76_281 {sc : Nat × (Nat → Int32)} {fm : Value} : rx_ft (rt_P sc fm) 76 281 = some (5, 16) := (by decide +kernel : rt_ft 76 281 = some (5, 16))
theorem i_76_12 {sc : Nat × (Nat → Int32)} {fm : Value} : ri (rt_P sc fm) 76 12 (.if_icmp .lt 7) (15) := ⟨(by decide +kernel : rt_xt 76 12 = none), (by decide +kernel : rt_cd 76 12 = some (.if_icmp .lt 7)), rfl⟩
theorem i_0_899 {sc : Nat × (Nat → Int32)} {fm : Value} : ri (rt_P sc fm) 0 899 (.aload_n 1) (900) := ⟨(by decide +kernel : rt_xt 0 899 = none), (by decide +kernel : rt_cd 0 899 = some (.aload_n 1)), rfl⟩
theorem i_0_900 {sc : Nat × (Nat → Int32)} {fm : Value} : ri (rt_P sc fm) 0 900 (.aload_n 0) (901) := ⟨(by decide +kernel : rt_xt 0 900 = none), (by decide +kernel : rt_cd 0 900 = some (.aload_n 0)), rfl⟩
theorem i_0_901 {sc : Nat × (Nat → Int32)} {fm : Value} : ri (rt_P sc fm) 0 901 (.iload 4) (903) := ⟨(by decide +kernel : rt_xt 0 901 = none), (by decide +kernel : rt_cd 0 901 = some (.iload 4)), rfl⟩
theorem i_0_903 {sc : Nat × (Nat → Int32)} {fm : Value} : ri (rt_P sc fm) 0 903 (.iconst 1) (904) := ⟨(by decide +kernel : rt_xt 0 903 = none), (by decide +kernel : rt_cd 0 903 = some (.iconst 1)), rfl⟩
theorem i_0_904 {sc : Nat × (Nat → Int32)} {fm : Value} : ri (rt_P sc fm) 0 904 (.iadd) (905) := ⟨(by decide +kernel : rt_xt 0 904 = none), (by decide +kernel : rt_cd 0 904 = some (.iadd)), rfl⟩
theorem i_0_905 {sc : Nat × (Nat → Int32)} {fm : Value} : ri (rt_P sc fm) 0 905 (.iaload) (906) := ⟨(by decide +kernel : rt_xt 0 905 = none), (by decide +kernel : rt_cd 0 905 = some (.iaload)), rfl⟩
theorem i_0_906 {sc : Nat × (Nat → Int32)} {fm : Value} : ri (rt_P sc fm) 0 906 (.aload_n 0) (907) := ⟨(by decide +kernel : rt_xt 0 906 = none), (by decide +kernel : rt_cd 0 906 = some (.aload_n 0)), rfl⟩
theorem i_0_907 {sc : Nat × (Nat → Int32)} {fm : Value} : ri (rt_P sc fm) 0 907 (.iload 4) (909) := ⟨(by decide +kernel : rt_xt 0 907 = none), (by decide +kernel : rt_cd 0 907 = some (.iload 4)), rfl⟩
theorem i_0_909 {sc : Nat × (Nat → Int32)} {fm : Value} : ri (rt_P sc fm) 0 909 (.iconst 2) (910) := ⟨(by decide +kernel : rt_xt 0 909 = none), (by decide +kernel : rt_cd 0 909 = some (.iconst 2)), rfl⟩
theorem i_0_910 {sc : Nat × (Nat → Int32)} {fm : Value} : ri (rt_P sc fm) 0 910 (.iadd) (911) := ⟨(by decide +kernel : rt_xt 0 910 = none), (by decide +kernel : rt_cd 0 910 = some (.iadd)), rfl⟩
theorem i_0_911 {sc : Nat × (Nat → Int32)} {fm : Value} : ri (rt_P sc fm) 0 911 (.iaload) (912) := ⟨(by decide +kernel : rt_xt 0 911 = none), (by decide +kernel : rt_cd 0 911 = some (.iaload)), rfl⟩
theorem i_0_912 {sc : Nat × (Nat → Int32)} {fm : Value} : ri (rt_P sc fm) 0 912 (.aload_n 0) (913) := ⟨(by decide +kernel : rt_xt 0 912 = none), (by decide +kernel : rt_cd 0 912 = some (.aload_n 0)), rfl⟩
theorem i_0_913 {sc : Nat × (Nat → Int32)} {fm : Value} : ri (rt_P sc fm) 0 913 (.iload 4) (915) := ⟨(by decide +kernel : rt_xt 0 913 = none), (by decide +kernel : rt_cd 0 913 = some (.iload 4)), rfl⟩
theorem i_0_915 {sc : Nat × (Nat → Int32)} {fm : Value} : ri (rt_P sc fm) 0 915 (.iconst 3) (916) := ⟨(by decide +kernel : rt_xt 0 915 = none), (by decide +kernel : rt_cd 0 915 = some (.iconst 3)), rfl⟩
theorem i_0_916 {sc : Nat × (Nat → Int32)} {fm : Value} : ri (rt_P sc fm) 0 916 (.iadd) (917) := ⟨(by decide +kernel : rt_xt 0 916 = none), (by decide +kernel : rt_cd 0 916 = some (.iadd)), rfl⟩
theorem i_0_917 {sc : Nat × (Nat → Int32)} {fm : Value} : ri (rt_P sc fm) 0 917 (.iaload) (918) := ⟨(by decide +kernel : rt_xt 0 917 = none), (by decide +kernel : rt_cd 0 917 = some (.iaload)), rfl⟩
theorem i_0_918 {sc : Nat × (Nat → Int32)} {fm : Value} : ri (rt_P sc fm) 0 918 (.invokevirtual 120) (921) := ⟨(by decide +kernel : rt_xt 0 918 = none), (by decide +kernel : rt_cd 0 918 = some (.invokevirtual 120)), rfl⟩
theorem c_0_120 {sc : Nat × (Nat → Int32)} {fm : Value} : rx_ct (rt_P sc fm) 0 120 = some (0, 77, 3) := (by decide +kernel : rt_ct 0 120 = some (0, 77, 3))
theorem a_14_77 {sc : Nat × (Nat → Int32)} {fm : Value} : rz_cn 14 (rx_yn (rt_P sc fm) 77).cls = true := (by decide +kernel : rz_cn 14 (rt_yn 77).cls = true)
theorem i_77_0 {sc : Nat × (Nat → Int32)} {fm : Value} : ri (rt_P sc fm) 77 0 (.aload_n 0) (1) := ⟨(by decide +kernel : rt_xt 77 0 = none), (by decide +kernel : rt_cd 77 0 = some (.aload_n 0)), rfl⟩
theorem i_77_1 {sc : Nat × (Nat → Int32)} {fm : Value} : ri (rt_P sc fm) 77 1 (.getfield 62) (4) := ⟨(by decide +kernel : rt_xt 77 1 = none), (by decide +kernel : rt_cd 77 1 = some (.getfield 62)), rfl⟩
theorem f_77_62 {sc : Nat × (Nat → Int32)} {fm : Value} : rx_ft (rt_P sc fm) 77 62 = some (14, 6) := (by decide +kernel : rt_ft 77 62 = some (14, 6))
theorem i_77_4 {sc : Nat × (Nat → Int32)} {fm : Value} : ri (rt_P sc fm) 77 4 (.getfield 299) (7) := ⟨(by decide +kernel : rt_xt 77 4 = none), (by decide +kernel : rt_cd 77 4 = some (.getfield 299)), rfl⟩
theorem f_77_299 {sc : Nat × (Nat → Int32)} {fm : Value} : rx_ft (rt_P sc fm) 77 299 = some (5, 3) := (by decide +kernel : rt_ft 77 299 = some (5, 3))
theorem i_77_7 {sc : Nat × (Nat → Int32)} {fm : Value} : ri (rt_P sc fm) 77 7 (.ifCond .lt 15) (10) := ⟨(by decide +kernel : rt_xt 77 7 = none), (by decide +kernel : rt_cd 77 7 = some (.ifCond .lt 15)), rfl⟩
theorem i_77_22 {sc : Nat × (Nat → Int32)} {fm : Value} : ri (rt_P sc fm) 77 22 (.iconst (-1)) (23) := ⟨(by decide +kernel : rt_xt 77 22 = none), (by decide +kernel : rt_cd 77 22 = some (.iconst (-1))), rfl⟩
theorem i_77_23 {sc : Nat × (Nat → Int32)} {fm : Value} : ri (rt_P sc fm) 77 23 (.ireturn) (24) := ⟨(by decide +kernel : rt_xt 77 23 = none), (by decide +kernel : rt_cd 77 23 = some (.ireturn)), rfl⟩
theorem r_77 {sc : Nat × (Nat → Int32)} {fm : Value} : rx_rt (rt_P sc fm) 77 = (some FieldType.int) := (by decide +kernel : rt_rt 77 = (some FieldType.int))
theorem i_0_921 {sc : Nat × (Nat → Int32)} {fm : Value} : ri (rt_P sc fm) 0 921 (.aload_n 2) (922) := ⟨(by decide +kernel : rt_xt 0 921 = none), (by decide +kernel : rt_cd 0 921 = some (.aload_n 2)), rfl⟩
theorem i_0_922 {sc : Nat × (Nat → Int32)} {fm : Value} : ri (rt_P sc fm) 0 922 (.aload_n 0) (923) := ⟨(by decide +kernel : rt_xt 0 922 = none), (by decide +kernel : rt_cd 0 922 = some (.aload_n 0)), rfl⟩
theorem i_0_923 {sc : Nat × (Nat → Int32)} {fm : Value} : ri (rt_P sc fm) 0 923 (.iload 4) (925) := ⟨(by decide +kernel : rt_xt 0 923 = none), (by decide +kernel : rt_cd 0 923 = some (.iload 4)), rfl⟩
theorem i_0_925 {sc : Nat × (Nat → Int32)} {fm : Value} : ri (rt_P sc fm) 0 925 (.iconst 1) (926) := ⟨(by decide +kernel : rt_xt 0 925 = none), (by decide +kernel : rt_cd 0 925 = some (.iconst 1)), rfl⟩
theorem i_0_926 {sc : Nat × (Nat → Int32)} {fm : Value} : ri (rt_P sc fm) 0 926 (.iadd) (927) := ⟨(by decide +kernel : rt_xt 0 926 = none), (by decide +kernel : rt_cd 0 926 = some (.iadd)), rfl⟩
theorem i_0_927 {sc : Nat × (Nat → Int32)} {fm : Value} : ri (rt_P sc fm) 0 927 (.iaload) (928) := ⟨(by decide +kernel : rt_xt 0 927 = none), (by decide +kernel : rt_cd 0 927 = some (.iaload)), rfl⟩
theorem i_0_928 {sc : Nat × (Nat → Int32)} {fm : Value} : ri (rt_P sc fm) 0 928 (.aload_n 0) (929) := ⟨(by decide +kernel : rt_xt 0 928 = none), (by decide +kernel : rt_cd 0 928 = some (.aload_n 0)), rfl⟩
theorem i_0_929 {sc : Nat × (Nat → Int32)} {fm : Value} : ri (rt_P sc fm) 0 929 (.iload 4) (931) := ⟨(by decide +kernel : rt_xt 0 929 = none), (by decide +kernel : rt_cd 0 929 = some (.iload 4)), rfl⟩
theorem i_0_931 {sc : Nat × (Nat → Int32)} {fm : Value} : ri (rt_P sc fm) 0 931 (.iconst 2) (932) := ⟨(by decide +kernel : rt_xt 0 931 = none), (by decide +kernel : rt_cd 0 931 = some (.iconst 2)), rfl⟩
theorem i_0_932 {sc : Nat × (Nat → Int32)} {fm : Value} : ri (rt_P sc fm) 0 932 (.iadd) (933) := ⟨(by decide +kernel : rt_xt 0 932 = none), (by decide +kernel : rt_cd 0 932 = some (.iadd)), rfl⟩
theorem i_0_933 {sc : Nat × (Nat → Int32)} {fm : Value} : ri (rt_P sc fm) 0 933 (.iaload) (934) := ⟨(by decide +kernel : rt_xt 0 933 = none), (by decide +kernel : rt_cd 0 933 = some (.iaload)), rfl⟩
theorem i_0_934 {sc : Nat × (Nat → Int32)} {fm : Value} : ri (rt_P sc fm) 0 934 (.aload_n 0) (935) := ⟨(by decide +kernel : rt_xt 0 934 = none), (by decide +kernel : rt_cd 0 934 = some (.aload_n 0)), rfl⟩
theorem i_0_935 {sc : Nat × (Nat → Int32)} {fm : Value} : ri (rt_P sc fm) 0 935 (.iload 4) (937) := ⟨(by decide +kernel : rt_xt 0 935 = none), (by decide +kernel : rt_cd 0 935 = some (.iload 4)), rfl⟩
theorem i_0_937 {sc : Nat × (Nat → Int32)} {fm : Value} : ri (rt_P sc fm) 0 937 (.iconst 3) (938) := ⟨(by decide +kernel : rt_xt 0 937 = none), (by decide +kernel : rt_cd 0 937 = some (.iconst 3)), rfl⟩
theorem i_0_938 {sc : Nat × (Nat → Int32)} {fm : Value} : ri (rt_P sc fm) 0 938 (.iadd) (939) := ⟨(by decide +kernel : rt_xt 0 938 = none), (by decide +kernel : rt_cd 0 938 = some (.iadd)), rfl⟩
theorem i_0_939 {sc : Nat × (Nat → Int32)} {fm : Value} : ri (rt_P sc fm) 0 939 (.iaload) (940) := ⟨(by decide +kernel : rt_xt 0 939 = none), (by decide +kernel : rt_cd 0 939 = some (.iaload)), rfl⟩
theorem i_0_940 {sc : Nat × (Nat → Int32)} {fm : Value} : ri (rt_P sc fm) 0 940 (.invokevirtual 123) (943) := ⟨(by decide +kernel : rt_xt 0 940 = none), (by decide +kernel : rt_cd 0 940 = some (.invokevirtual 123)), rfl⟩
theorem c_0_123 {sc : Nat × (Nat → Int32)} {fm : Value} : rx_ct (rt_P sc fm) 0 123 = some (0, 128, 3) := (by decide +kernel : rt_ct 0 123 = some (0, 128, 3))
theorem a_15_128 {sc : Nat × (Nat → Int32)} {fm : Value} : rz_cn 15 (rx_yn (rt_P sc fm) 128).cls = true := (by decide +kernel : rz_cn 15 (rt_yn 128).cls = true)
theorem i_128_0 {sc : Nat × (Nat → Int32)} {fm : Value} : ri (rt_P sc fm) 128 0 (.aload_n 0) (1) := ⟨(by decide +kernel : rt_xt 128 0 = none), (by decide +kernel : rt_cd 128 0 = some (.aload_n 0)), rfl⟩
theorem i_128_1 {sc : Nat × (Nat → Int32)} {fm : Value} : ri (rt_P sc fm) 128 1 (.iconst 0) (2) := ⟨(by decide +kernel : rt_xt 128 1 = none), (by decide +kernel : rt_cd 128 1 = some (.iconst 0)), rfl⟩
theorem i_128_2 {sc : Nat × (Nat → Int32)} {fm : Value} : ri (rt_P sc fm) 128 2 (.putfield 356) (5) := ⟨(by decide +kernel : rt_xt 128 2 = none), (by decide +kernel : rt_cd 128 2 = some (.putfield 356)), rfl⟩
theorem p_128_356 {sc : Nat × (Nat → Int32)} {fm : Value} : rx_pt (rt_P sc fm) 128 356 = some (15, 0, .int) := (by decide +kernel : rt_pt 128 356 = some (15, 0, .int))
theorem i_128_5 {sc : Nat × (Nat → Int32)} {fm : Value} : ri (rt_P sc fm) 128 5 (.aload_n 0) (6) := ⟨(by decide +kernel : rt_xt 128 5 = none), (by decide +kernel : rt_cd 128 5 = some (.aload_n 0)), rfl⟩
theorem i_128_6 {sc : Nat × (Nat → Int32)} {fm : Value} : ri (rt_P sc fm) 128 6 (.getfield 292) (9) := ⟨(by decide +kernel : rt_xt 128 6 = none), (by decide +kernel : rt_cd 128 6 = some (.getfield 292)), rfl⟩
theorem f_128_292 {sc : Nat × (Nat → Int32)} {fm : Value} : rx_ft (rt_P sc fm) 128 292 = some (15, 97) := (by decide +kernel : rt_ft 128 292 = some (15, 97))
theorem i_128_9 {sc : Nat × (Nat → Int32)} {fm : Value} : ri (rt_P sc fm) 128 9 (.ifCond .lt 15) (12) := ⟨(by decide +kernel : rt_xt 128 9 = none), (by decide +kernel : rt_cd 128 9 = some (.ifCond .lt 15)), rfl⟩
theorem i_128_24 {sc : Nat × (Nat → Int32)} {fm : Value} : ri (rt_P sc fm) 128 24 (.iconst (-1)) (25) := ⟨(by decide +kernel : rt_xt 128 24 = none), (by decide +kernel : rt_cd 128 24 = some (.iconst (-1))), rfl⟩
theorem i_128_25 {sc : Nat × (Nat → Int32)} {fm : Value} : ri (rt_P sc fm) 128 25 (.ireturn) (26) := ⟨(by decide +kernel : rt_xt 128 25 = none), (by decide +kernel : rt_cd 128 25 = some (.ireturn)), rfl⟩
theorem r_128 {sc : Nat × (Nat → Int32)} {fm : Value} : rx_rt (rt_P sc fm) 128 = (some FieldType.int) := (by decide +kernel : rt_rt 128 = (some FieldType.int))
theorem i_0_943 {sc : Nat × (Nat → Int32)} {fm : Value} : ri (rt_P sc fm) 0 943 (.if_icmp .eq 391) (946) := ⟨(by decide +kernel : rt_xt 0 943 = none), (by decide +kernel : rt_cd 0 943 = some (.if_icmp .eq 391)), rfl⟩
theorem i_0_948 {sc : Nat × (Nat → Int32)} {fm : Value} : ri (rt_P sc fm) 0 948 (.aload_n 1) (949) := ⟨(by decide +kernel : rt_xt 0 948 = none), (by decide +kernel : rt_cd 0 948 = some (.aload_n 1)), rfl⟩
theorem i_0_949 {sc : Nat × (Nat → Int32)} {fm : Value} : ri (rt_P sc fm) 0 949 (.aload_n 0) (950) := ⟨(by decide +kernel : rt_xt 0 949 = none), (by decide +kernel : rt_cd 0 949 = some (.aload_n 0)), rfl⟩
theorem i_0_950 {sc : Nat × (Nat → Int32)} {fm : Value} : ri (rt_P sc fm) 0 950 (.iload 4) (952) := ⟨(by decide +kernel : rt_xt 0 950 = none), (by decide +kernel : rt_cd 0 950 = some (.iload 4)), rfl⟩
theorem i_0_952 {sc : Nat × (Nat → Int32)} {fm : Value} : ri (rt_P sc fm) 0 952 (.iconst 1) (953) := ⟨(by decide +kernel : rt_xt 0 952 = none), (by decide +kernel : rt_cd 0 952 = some (.iconst 1)), rfl⟩
theorem i_0_953 {sc : Nat × (Nat → Int32)} {fm : Value} : ri (rt_P sc fm) 0 953 (.iadd) (954) := ⟨(by decide +kernel : rt_xt 0 953 = none), (by decide +kernel : rt_cd 0 953 = some (.iadd)), rfl⟩
theorem i_0_954 {sc : Nat × (Nat → Int32)} {fm : Value} : ri (rt_P sc fm) 0 954 (.iaload) (955) := ⟨(by decide +kernel : rt_xt 0 954 = none), (by decide +kernel : rt_cd 0 954 = some (.iaload)), rfl⟩
theorem i_0_955 {sc : Nat × (Nat → Int32)} {fm : Value} : ri (rt_P sc fm) 0 955 (.invokevirtual 124) (958) := ⟨(by decide +kernel : rt_xt 0 955 = none), (by decide +kernel : rt_cd 0 955 = some (.invokevirtual 124)), rfl⟩
theorem c_0_124 {sc : Nat × (Nat → Int32)} {fm : Value} : rx_ct (rt_P sc fm) 0 124 = some (0, 78, 1) := (by decide +kernel : rt_ct 0 124 = some (0, 78, 1))
theorem a_14_78 {sc : Nat × (Nat → Int32)} {fm : Value} : rz_cn 14 (rx_yn (rt_P sc fm) 78).cls = true := (by decide +kernel : rz_cn 14 (rt_yn 78).cls = true)
theorem i_78_0 {sc : Nat × (Nat → Int32)} {fm : Value} : ri (rt_P sc fm) 78 0 (.aload_n 0) (1) := ⟨(by decide +kernel : rt_xt 78 0 = none), (by decide +kernel : rt_cd 78 0 = some (.aload_n 0)), rfl⟩
theorem i_78_1 {sc : Nat × (Nat → Int32)} {fm : Value} : ri (rt_P sc fm) 78 1 (.getfield 19) (4) := ⟨(by decide +kernel : rt_xt 78 1 = none), (by decide +kernel : rt_cd 78 1 = some (.getfield 19)), rfl⟩
theorem f_78_19 {sc : Nat × (Nat → Int32)} {fm : Value} : rx_ft (rt_P sc fm) 78 19 = some (14, 1) := (by decide +kernel : rt_ft 78 19 = some (14, 1))
theorem i_78_4 {sc : Nat × (Nat → Int32)} {fm : Value} : ri (rt_P sc fm) 78 4 (.iload_n 1) (5) := ⟨(by decide +kernel : rt_xt 78 4 = none), (by decide +kernel : rt_cd 78 4 = some (.iload_n 1)), rfl⟩
theorem i_78_5 {sc : Nat × (Nat → Int32)} {fm : Value} : ri (rt_P sc fm) 78 5 (.invokevirtual 170) (8) := ⟨(by decide +kernel : rt_xt 78 5 = none), (by decide +kernel : rt_cd 78 5 = some (.invokevirtual 170)), rfl⟩
theorem c_78_170 {sc : Nat × (Nat → Int32)} {fm : Value} : rx_ct (rt_P sc fm) 78 170 = some (0, 37, 1) := (by decide +kernel : rt_ct 78 170 = some (0, 37, 1))
theorem i_78_8 {sc : Nat × (Nat → Int32)} {fm : Value} : ri (rt_P sc fm) 78 8 (.ifCond .ne 5) (11) := ⟨(by decide +kernel : rt_xt 78 8 = none), (by decide +kernel : rt_cd 78 8 = some (.ifCond .ne 5)), rfl⟩
theorem i_78_11 {sc : Nat × (Nat → Int32)} {fm : Value} : ri (rt_P sc fm) 78 11 (.iconst (-1)) (12) := ⟨(by decide +kernel : rt_xt 78 11 = none), (by decide +kernel : rt_cd 78 11 = some (.iconst (-1))), rfl⟩
theorem i_78_12 {sc : Nat × (Nat → Int32)} {fm : Value} : ri (rt_P sc fm) 78 12 (.ireturn) (13) := ⟨(by decide +kernel : rt_xt 78 12 = none), (by decide +kernel : rt_cd 78 12 = some (.ireturn)), rfl⟩
theorem r_78 {sc : Nat × (Nat → Int32)} {fm : Value} : rx_rt (rt_P sc fm) 78 = (some FieldType.int) := (by decide +kernel : rt_rt 78 = (some FieldType.int))
theorem i_0_958 {sc : Nat × (Nat → Int32)} {fm : Value} : ri (rt_P sc fm) 0 958 (.aload_n 2) (959) := ⟨(by decide +kernel : rt_xt 0 958 = none), (by decide +kernel : rt_cd 0 958 = some (.aload_n 2)), rfl⟩
theorem i_0_959 {sc : Nat × (Nat → Int32)} {fm : Value} : ri (rt_P sc fm) 0 959 (.aload_n 0) (960) := ⟨(by decide +kernel : rt_xt 0 959 = none), (by decide +kernel : rt_cd 0 959 = some (.aload_n 0)), rfl⟩
theorem i_0_960 {sc : Nat × (Nat → Int32)} {fm : Value} : ri (rt_P sc fm) 0 960 (.iload 4) (962) := ⟨(by decide +kernel : rt_xt 0 960 = none), (by decide +kernel : rt_cd 0 960 = some (.iload 4)), rfl⟩
theorem i_0_962 {sc : Nat × (Nat → Int32)} {fm : Value} : ri (rt_P sc fm) 0 962 (.iconst 1) (963) := ⟨(by decide +kernel : rt_xt 0 962 = none), (by decide +kernel : rt_cd 0 962 = some (.iconst 1)), rfl⟩
theorem i_0_963 {sc : Nat × (Nat → Int32)} {fm : Value} : ri (rt_P sc fm) 0 963 (.iadd) (964) := ⟨(by decide +kernel : rt_xt 0 963 = none), (by decide +kernel : rt_cd 0 963 = some (.iadd)), rfl⟩
theorem i_0_964 {sc : Nat × (Nat → Int32)} {fm : Value} : ri (rt_P sc fm) 0 964 (.iaload) (965) := ⟨(by decide +kernel : rt_xt 0 964 = none), (by decide +kernel : rt_cd 0 964 = some (.iaload)), rfl⟩
theorem i_0_965 {sc : Nat × (Nat → Int32)} {fm : Value} : ri (rt_P sc fm) 0 965 (.invokevirtual 127) (968) := ⟨(by decide +kernel : rt_xt 0 965 = none), (by decide +kernel : rt_cd 0 965 = some (.invokevirtual 127)), rfl⟩
theorem c_0_127 {sc : Nat × (Nat → Int32)} {fm : Value} : rx_ct (rt_P sc fm) 0 127 = some (0, 131, 1) := (by decide +kernel : rt_ct 0 127 = some (0, 131, 1))
theorem a_15_131 {sc : Nat × (Nat → Int32)} {fm : Value} : rz_cn 15 (rx_yn (rt_P sc fm) 131).cls = true := (by decide +kernel : rz_cn 15 (rt_yn 131).cls = true)
theorem i_131_0 {sc : Nat × (Nat → Int32)} {fm : Value} : ri (rt_P sc fm) 131 0 (.aload_n 0) (1) := ⟨(by decide +kernel : rt_xt 131 0 = none), (by decide +kernel : rt_cd 131 0 = some (.aload_n 0)), rfl⟩
theorem i_131_1 {sc : Nat × (Nat → Int32)} {fm : Value} : ri (rt_P sc fm) 131 1 (.iconst 0) (2) := ⟨(by decide +kernel : rt_xt 131 1 = none), (by decide +kernel : rt_cd 131 1 = some (.iconst 0)), rfl⟩
theorem i_131_2 {sc : Nat × (Nat → Int32)} {fm : Value} : ri (rt_P sc fm) 131 2 (.putfield 356) (5) := ⟨(by decide +kernel : rt_xt 131 2 = none), (by decide +kernel : rt_cd 131 2 = some (.putfield 356)), rfl⟩
theorem p_131_356 {sc : Nat × (Nat → Int32)} {fm : Value} : rx_pt (rt_P sc fm) 131 356 = some (15, 0, .int) := (by decide +kernel : rt_pt 131 356 = some (15, 0, .int))
theorem i_131_5 {sc : Nat × (Nat → Int32)} {fm : Value} : ri (rt_P sc fm) 131 5 (.aload_n 0) (6) := ⟨(by decide +kernel : rt_xt 131 5 = none), (by decide +kernel : rt_cd 131 5 = some (.aload_n 0)), rfl⟩
theorem i_131_6 {sc : Nat × (Nat → Int32)} {fm : Value} : ri (rt_P sc fm) 131 6 (.iload_n 1) (7) := ⟨(by decide +kernel : rt_xt 131 6 = none), (by decide +kernel : rt_cd 131 6 = some (.iload_n 1)), rfl⟩
theorem i_131_7 {sc : Nat × (Nat → Int32)} {fm : Value} : ri (rt_P sc fm) 131 7 (.invokevirtual 724) (10) := ⟨(by decide +kernel : rt_xt 131 7 = none), (by decide +kernel : rt_cd 131 7 = some (.invokevirtual 724)), rfl⟩
theorem c_131_724 {sc : Nat × (Nat → Int32)} {fm : Value} : rx_ct (rt_P sc fm) 131 724 = some (0, 119, 1) := (by decide +kernel : rt_ct 131 724 = some (0, 119, 1))
theorem i_131_10 {sc : Nat × (Nat → Int32)} {fm : Value} : ri (rt_P sc fm) 131 10 (.ifCond .ne 5) (13) := ⟨(by decide +kernel : rt_xt 131 10 = none), (by decide +kernel : rt_cd 131 10 = some (.ifCond .ne 5)), rfl⟩
theorem i_131_13 {sc : Nat × (Nat → Int32)} {fm : Value} : ri (rt_P sc fm) 131 13 (.iconst (-1)) (14) := ⟨(by decide +kernel : rt_xt 131 13 = none), (by decide +kernel : rt_cd 131 13 = some (.iconst (-1))), rfl⟩
theorem i_131_14 {sc : Nat × (Nat → Int32)} {fm : Value} : ri (rt_P sc fm) 131 14 (.ireturn) (15) := ⟨(by decide +kernel : rt_xt 131 14 = none), (by decide +kernel : rt_cd 131 14 = some (.ireturn)), rfl⟩
theorem r_131 {sc : Nat × (Nat → Int32)} {fm : Value} : rx_rt (rt_P sc fm) 131 = (some FieldType.int) := (by decide +kernel : rt_rt 131 = (some FieldType.int))
theorem i_0_968 {sc : Nat × (Nat → Int32)} {fm : Value} : ri (rt_P sc fm) 0 968 (.if_icmp .eq 366) (971) := ⟨(by decide +kernel : rt_xt 0 968 = none), (by decide +kernel : rt_cd 0 968 = some (.if_icmp .eq 366)), rfl⟩
theorem i_0_973 {sc : Nat × (Nat → Int32)} {fm : Value} : ri (rt_P sc fm) 0 973 (.aload_n 1) (974) := ⟨(by decide +kernel : rt_xt 0 973 = none), (by decide +kernel : rt_cd 0 973 = some (.aload_n 1)), rfl⟩
theorem i_0_974 {sc : Nat × (Nat → Int32)} {fm : Value} : ri (rt_P sc fm) 0 974 (.aload_n 0) (975) := ⟨(by decide +kernel : rt_xt 0 974 = none), (by decide +kernel : rt_cd 0 974 = some (.aload_n 0)), rfl⟩
theorem i_0_975 {sc : Nat × (Nat → Int32)} {fm : Value} : ri (rt_P sc fm) 0 975 (.iload 4) (977) := ⟨(by decide +kernel : rt_xt 0 975 = none), (by decide +kernel : rt_cd 0 975 = some (.iload 4)), rfl⟩
theorem i_0_977 {sc : Nat × (Nat → Int32)} {fm : Value} : ri (rt_P sc fm) 0 977 (.iconst 1) (978) := ⟨(by decide +kernel : rt_xt 0 977 = none), (by decide +kernel : rt_cd 0 977 = some (.iconst 1)), rfl⟩
theorem i_0_978 {sc : Nat × (Nat → Int32)} {fm : Value} : ri (rt_P sc fm) 0 978 (.iadd) (979) := ⟨(by decide +kernel : rt_xt 0 978 = none), (by decide +kernel : rt_cd 0 978 = some (.iadd)), rfl⟩
theorem i_0_979 {sc : Nat × (Nat → Int32)} {fm : Value} : ri (rt_P sc fm) 0 979 (.iaload) (980) := ⟨(by decide +kernel : rt_xt 0 979 = none), (by decide +kernel : rt_cd 0 979 = some (.iaload)), rfl⟩
theorem i_0_980 {sc : Nat × (Nat → Int32)} {fm : Value} : ri (rt_P sc fm) 0 980 (.invokevirtual 128) (983) := ⟨(by decide +kernel : rt_xt 0 980 = none), (by decide +kernel : rt_cd 0 980 = some (.invokevirtual 128)), rfl⟩
theorem c_0_128 {sc : Nat × (Nat → Int32)} {fm : Value} : rx_ct (rt_P sc fm) 0 128 = some (0, 79, 1) := (by decide +kernel : rt_ct 0 128 = some (0, 79, 1))
theorem a_14_79 {sc : Nat × (Nat → Int32)} {fm : Value} : rz_cn 14 (rx_yn (rt_P sc fm) 79).cls = true := (by decide +kernel : rz_cn 14 (rt_yn 79).cls = true)
theorem i_79_0 {sc : Nat × (Nat → Int32)} {fm : Value} : ri (rt_P sc fm) 79 0 (.aload_n 0) (1) := ⟨(by decide +kernel : rt_xt 79 0 = none), (by decide +kernel : rt_cd 79 0 = some (.aload_n 0)), rfl⟩
theorem i_79_1 {sc : Nat × (Nat → Int32)} {fm : Value} : ri (rt_P sc fm) 79 1 (.getfield 19) (4) := ⟨(by decide +kernel : rt_xt 79 1 = none), (by decide +kernel : rt_cd 79 1 = some (.getfield 19)), rfl⟩
theorem f_79_19 {sc : Nat × (Nat → Int32)} {fm : Value} : rx_ft (rt_P sc fm) 79 19 = some (14, 1) := (by decide +kernel : rt_ft 79 19 = some (14, 1))
theorem i_79_4 {sc : Nat × (Nat → Int32)} {fm : Value} : ri (rt_P sc fm) 79 4 (.iload_n 1) (5) := ⟨(by decide +kernel : rt_xt 79 4 = none), (by decide +kernel : rt_cd 79 4 = some (.iload_n 1)), rfl⟩
theorem i_79_5 {sc : Nat × (Nat → Int32)} {fm : Value} : ri (rt_P sc fm) 79 5 (.invokevirtual 170) (8) := ⟨(by decide +kernel : rt_xt 79 5 = none), (by decide +kernel : rt_cd 79 5 = some (.invokevirtual 170)), rfl⟩
theorem c_79_170 {sc : Nat × (Nat → Int32)} {fm : Value} : rx_ct (rt_P sc fm) 79 170 = some (0, 37, 1) := (by decide +kernel : rt_ct 79 170 = some (0, 37, 1))
theorem i_79_8 {sc : Nat × (Nat → Int32)} {fm : Value} : ri (rt_P sc fm) 79 8 (.ifCond .ne 5) (11) := ⟨(by decide +kernel : rt_xt 79 8 = none), (by decide +kernel : rt_cd 79 8 = some (.ifCond .ne 5)), rfl⟩
theorem i_79_11 {sc : Nat × (Nat → Int32)} {fm : Value} : ri (rt_P sc fm) 79 11 (.iconst 0) (12) := ⟨(by decide +kernel : rt_xt 79 11 = none), (by decide +kernel : rt_cd 79 11 = some (.iconst 0)), rfl⟩
theorem i_79_12 {sc : Nat × (Nat → Int32)} {fm : Value} : ri (rt_P sc fm) 79 12 (.ireturn) (13) := ⟨(by decide +kernel : rt_xt 79 12 = none), (by decide +kernel : rt_cd 79 12 = some (.ireturn)), rfl⟩
theorem r_79 {sc : Nat × (Nat → Int32)} {fm : Value} : rx_rt (rt_P sc fm) 79 = (some FieldType.boolean) := (by decide +kernel : rt_rt 79 = (some FieldType.boolean))
theorem i_0_983 {sc : Nat × (Nat → Int32)} {fm : Value} : ri (rt_P sc fm) 0 983 (.aload_n 2) (984) := ⟨(by decide +kernel : rt_xt 0 983 = none), (by decide +kernel : rt_cd 0 983 = some (.aload_n 2)), rfl⟩
theorem i_0_984 {sc : Nat × (Nat → Int32)} {fm : Value} : ri (rt_P sc fm) 0 984 (.aload_n 0) (985) := ⟨(by decide +kernel : rt_xt 0 984 = none), (by decide +kernel : rt_cd 0 984 = some (.aload_n 0)), rfl⟩
theorem i_0_985 {sc : Nat × (Nat → Int32)} {fm : Value} : ri (rt_P sc fm) 0 985 (.iload 4) (987) := ⟨(by decide +kernel : rt_xt 0 985 = none), (by decide +kernel : rt_cd 0 985 = some (.iload 4)), rfl⟩
theorem i_0_987 {sc : Nat × (Nat → Int32)} {fm : Value} : ri (rt_P sc fm) 0 987 (.iconst 1) (988) := ⟨(by decide +kernel : rt_xt 0 987 = none), (by decide +kernel : rt_cd 0 987 = some (.iconst 1)), rfl⟩
theorem i_0_988 {sc : Nat × (Nat → Int32)} {fm : Value} : ri (rt_P sc fm) 0 988 (.iadd) (989) := ⟨(by decide +kernel : rt_xt 0 988 = none), (by decide +kernel : rt_cd 0 988 = some (.iadd)), rfl⟩
theorem i_0_989 {sc : Nat × (Nat → Int32)} {fm : Value} : ri (rt_P sc fm) 0 989 (.iaload) (990) := ⟨(by decide +kernel : rt_xt 0 989 = none), (by decide +kernel : rt_cd 0 989 = some (.iaload)), rfl⟩
theorem i_0_990 {sc : Nat × (Nat → Int32)} {fm : Value} : ri (rt_P sc fm) 0 990 (.invokevirtual 132) (993) := ⟨(by decide +kernel : rt_xt 0 990 = none), (by decide +kernel : rt_cd 0 990 = some (.invokevirtual 132)), rfl⟩
theorem c_0_132 {sc : Nat × (Nat → Int32)} {fm : Value} : rx_ct (rt_P sc fm) 0 132 = some (0, 132, 1) := (by decide +kernel : rt_ct 0 132 = some (0, 132, 1))
theorem a_15_132 {sc : Nat × (Nat → Int32)} {fm : Value} : rz_cn 15 (rx_yn (rt_P sc fm) 132).cls = true := (by decide +kernel : rz_cn 15 (rt_yn 132).cls = true)
theorem i_132_0 {sc : Nat × (Nat → Int32)} {fm : Value} : ri (rt_P sc fm) 132 0 (.aload_n 0) (1) := ⟨(by decide +kernel : rt_xt 132 0 = none), (by decide +kernel : rt_cd 132 0 = some (.aload_n 0)), rfl⟩
theorem i_132_1 {sc : Nat × (Nat → Int32)} {fm : Value} : ri (rt_P sc fm) 132 1 (.iconst 0) (2) := ⟨(by decide +kernel : rt_xt 132 1 = none), (by decide +kernel : rt_cd 132 1 = some (.iconst 0)), rfl⟩
theorem i_132_2 {sc : Nat × (Nat → Int32)} {fm : Value} : ri (rt_P sc fm) 132 2 (.putfield 356) (5) := ⟨(by decide +kernel : rt_xt 132 2 = none), (by decide +kernel : rt_cd 132 2 = some (.putfield 356)), rfl⟩
theorem p_132_356 {sc : Nat × (Nat → Int32)} {fm : Value} : rx_pt (rt_P sc fm) 132 356 = some (15, 0, .int) := (by decide +kernel : rt_pt 132 356 = some (15, 0, .int))
theorem i_132_5 {sc : Nat × (Nat → Int32)} {fm : Value} : ri (rt_P sc fm) 132 5 (.aload_n 0) (6) := ⟨(by decide +kernel : rt_xt 132 5 = none), (by decide +kernel : rt_cd 132 5 = some (.aload_n 0)), rfl⟩
theorem i_132_6 {sc : Nat × (Nat → Int32)} {fm : Value} : ri (rt_P sc fm) 132 6 (.iload_n 1) (7) := ⟨(by decide +kernel : rt_xt 132 6 = none), (by decide +kernel : rt_cd 132 6 = some (.iload_n 1)), rfl⟩
theorem i_132_7 {sc : Nat × (Nat → Int32)} {fm : Value} : ri (rt_P sc fm) 132 7 (.invokevirtual 724) (10) := ⟨(by decide +kernel : rt_xt 132 7 = none), (by decide +kernel : rt_cd 132 7 = some (.invokevirtual 724)), rfl⟩
theorem c_132_724 {sc : Nat × (Nat → Int32)} {fm : Value} : rx_ct (rt_P sc fm) 132 724 = some (0, 119, 1) := (by decide +kernel : rt_ct 132 724 = some (0, 119, 1))
theorem i_132_10 {sc : Nat × (Nat → Int32)} {fm : Value} : ri (rt_P sc fm) 132 10 (.ifCond .ne 5) (13) := ⟨(by decide +kernel : rt_xt 132 10 = none), (by decide +kernel : rt_cd 132 10 = some (.ifCond .ne 5)), rfl⟩
theorem i_132_13 {sc : Nat × (Nat → Int32)} {fm : Value} : ri (rt_P sc fm) 132 13 (.iconst 0) (14) := ⟨(by decide +kernel : rt_xt 132 13 = none), (by decide +kernel : rt_cd 132 13 = some (.iconst 0)), rfl⟩
theorem i_132_14 {sc : Nat × (Nat → Int32)} {fm : Value} : ri (rt_P sc fm) 132 14 (.ireturn) (15) := ⟨(by decide +kernel : rt_xt 132 14 = none), (by decide +kernel : rt_cd 132 14 = some (.ireturn)), rfl⟩
theorem r_132 {sc : Nat × (Nat → Int32)} {fm : Value} : rx_rt (rt_P sc fm) 132 = (some FieldType.boolean) := (by decide +kernel : rt_rt 132 = (some FieldType.boolean))
theorem i_0_993 {sc : Nat × (Nat → Int32)} {fm : Value} : ri (rt_P sc fm) 0 993 (.if_icmp .eq 341) (996) := ⟨(by decide +kernel : rt_xt 0 993 = none), (by decide +kernel : rt_cd 0 993 = some (.if_icmp .eq 341)), rfl⟩
theorem i_0_998 {sc : Nat × (Nat → Int32)} {fm : Value} : ri (rt_P sc fm) 0 998 (.aload_n 1) (999) := ⟨(by decide +kernel : rt_xt 0 998 = none), (by decide +kernel : rt_cd 0 998 = some (.aload_n 1)), rfl⟩
theorem i_0_999 {sc : Nat × (Nat → Int32)} {fm : Value} : ri (rt_P sc fm) 0 999 (.invokevirtual 133) (1002) := ⟨(by decide +kernel : rt_xt 0 999 = none), (by decide +kernel : rt_cd 0 999 = some (.invokevirtual 133)), rfl⟩
theorem c_0_133 {sc : Nat × (Nat → Int32)} {fm : Value} : rx_ct (rt_P sc fm) 0 133 = some (0, 80, 0) := (by decide +kernel : rt_ct 0 133 = some (0, 80, 0))
theorem a_14_80 {sc : Nat × (Nat → Int32)} {fm : Value} : rz_cn 14 (rx_yn (rt_P sc fm) 80).cls = true := (by decide +kernel : rz_cn 14 (rt_yn 80).cls = true)
theorem i_80_0 {sc : Nat × (Nat → Int32)} {fm : Value} : ri (rt_P sc fm) 80 0 (.aload_n 0) (1) := ⟨(by decide +kernel : rt_xt 80 0 = none), (by decide +kernel : rt_cd 80 0 = some (.aload_n 0)), rfl⟩
theorem i_80_1 {sc : Nat × (Nat → Int32)} {fm : Value} : ri (rt_P sc fm) 80 1 (.getfield 19) (4) := ⟨(by decide +kernel : rt_xt 80 1 = none), (by decide +kernel : rt_cd 80 1 = some (.getfield 19)), rfl⟩
theorem f_80_19 {sc : Nat × (Nat → Int32)} {fm : Value} : rx_ft (rt_P sc fm) 80 19 = some (14, 1) := (by decide +kernel : rt_ft 80 19 = some (14, 1))
theorem i_80_4 {sc : Nat × (Nat → Int32)} {fm : Value} : ri (rt_P sc fm) 80 4 (.getfield 126) (7) := ⟨(by decide +kernel : rt_xt 80 4 = none), (by decide +kernel : rt_cd 80 4 = some (.getfield 126)), rfl⟩
theorem f_80_126 {sc : Nat × (Nat → Int32)} {fm : Value} : rx_ft (rt_P sc fm) 80 126 = some (9, 0) := (by decide +kernel : rt_ft 80 126 = some (9, 0))
theorem i_80_7 {sc : Nat × (Nat → Int32)} {fm : Value} : ri (rt_P sc fm) 80 7 (.ifCond .ne 5) (10) := ⟨(by decide +kernel : rt_xt 80 7 = none), (by decide +kernel : rt_cd 80 7 = some (.ifCond .ne 5)), rfl⟩
theorem i_80_10 {sc : Nat × (Nat → Int32)} {fm : Value} : ri (rt_P sc fm) 80 10 (.iconst (-1)) (11) := ⟨(by decide +kernel : rt_xt 80 10 = none), (by decide +kernel : rt_cd 80 10 = some (.iconst (-1))), rfl⟩
theorem i_80_11 {sc : Nat × (Nat → Int32)} {fm : Value} : ri (rt_P sc fm) 80 11 (.ireturn) (12) := ⟨(by decide +kernel : rt_xt 80 11 = none), (by decide +kernel : rt_cd 80 11 = some (.ireturn)), rfl⟩
theorem r_80 {sc : Nat × (Nat → Int32)} {fm : Value} : rx_rt (rt_P sc fm) 80 = (some FieldType.int) := (by decide +kernel : rt_rt 80 = (some FieldType.int))
theorem i_0_1002 {sc : Nat × (Nat → Int32)} {fm : Value} : ri (rt_P sc fm) 0 1002 (.aload_n 2) (1003) := ⟨(by decide +kernel : rt_xt 0 1002 = none), (by decide +kernel : rt_cd 0 1002 = some (.aload_n 2)), rfl⟩
theorem i_0_1003 {sc : Nat × (Nat → Int32)} {fm : Value} : ri (rt_P sc fm) 0 1003 (.invokevirtual 136) (1006) := ⟨(by decide +kernel : rt_xt 0 1003 = none), (by decide +kernel : rt_cd 0 1003 = some (.invokevirtual 136)), rfl⟩
theorem c_0_136 {sc : Nat × (Nat → Int32)} {fm : Value} : rx_ct (rt_P sc fm) 0 136 = some (0, 134, 0) := (by decide +kernel : rt_ct 0 136 = some (0, 134, 0))
theorem a_15_134 {sc : Nat × (Nat → Int32)} {fm : Value} : rz_cn 15 (rx_yn (rt_P sc fm) 134).cls = true := (by decide +kernel : rz_cn 15 (rt_yn 134).cls = true)
theorem i_134_0 {sc : Nat × (Nat → Int32)} {fm : Value} : ri (rt_P sc fm) 134 0 (.aload_n 0) (1) := ⟨(by decide +kernel : rt_xt 134 0 = none), (by decide +kernel : rt_cd 134 0 = some (.aload_n 0)), rfl⟩
theorem i_134_1 {sc : Nat × (Nat → Int32)} {fm : Value} : ri (rt_P sc fm) 134 1 (.iconst 0) (2) := ⟨(by decide +kernel : rt_xt 134 1 = none), (by decide +kernel : rt_cd 134 1 = some (.iconst 0)), rfl⟩
theorem i_134_2 {sc : Nat × (Nat → Int32)} {fm : Value} : ri (rt_P sc fm) 134 2 (.putfield 356) (5) := ⟨(by decide +kernel : rt_xt 134 2 = none), (by decide +kernel : rt_cd 134 2 = some (.putfield 356)), rfl⟩
theorem p_134_356 {sc : Nat × (Nat → Int32)} {fm : Value} : rx_pt (rt_P sc fm) 134 356 = some (15, 0, .int) := (by decide +kernel : rt_pt 134 356 = some (15, 0, .int))
theorem i_134_5 {sc : Nat × (Nat → Int32)} {fm : Value} : ri (rt_P sc fm) 134 5 (.aload_n 0) (6) := ⟨(by decide +kernel : rt_xt 134 5 = none), (by decide +kernel : rt_cd 134 5 = some (.aload_n 0)), rfl⟩
theorem i_134_6 {sc : Nat × (Nat → Int32)} {fm : Value} : ri (rt_P sc fm) 134 6 (.getfield 634) (9) := ⟨(by decide +kernel : rt_xt 134 6 = none), (by decide +kernel : rt_cd 134 6 = some (.getfield 634)), rfl⟩
theorem f_134_634 {sc : Nat × (Nat → Int32)} {fm : Value} : rx_ft (rt_P sc fm) 134 634 = some (15, 14) := (by decide +kernel : rt_ft 134 634 = some (15, 14))
theorem i_134_9 {sc : Nat × (Nat → Int32)} {fm : Value} : ri (rt_P sc fm) 134 9 (.ifCond .ne 5) (12) := ⟨(by decide +kernel : rt_xt 134 9 = none), (by decide +kernel : rt_cd 134 9 = some (.ifCond .ne 5)), rfl⟩
theorem i_134_12 {sc : Nat × (Nat → Int32)} {fm : Value} : ri (rt_P sc fm) 134 12 (.iconst (-1)) (13) := ⟨(by decide +kernel : rt_xt 134 12 = none), (by decide +kernel : rt_cd 134 12 = some (.iconst (-1))), rfl⟩
theorem i_134_13 {sc : Nat × (Nat → Int32)} {fm : Value} : ri (rt_P sc fm) 134 13 (.ireturn) (14) := ⟨(by decide +kernel : rt_xt 134 13 = none), (by decide +kernel : rt_cd 134 13 = some (.ireturn)), rfl⟩
theorem r_134 {sc : Nat × (Nat → Int32)} {fm : Value} : rx_rt (rt_P sc fm) 134 = (some FieldType.int) := (by decide +kernel : rt_rt 134 = (some FieldType.int))
theorem i_0_1006 {sc : Nat × (Nat → Int32)} {fm : Value} : ri (rt_P sc fm) 0 1006 (.if_icmp .eq 328) (1009) := ⟨(by decide +kernel : rt_xt 0 1006 = none), (by decide +kernel : rt_cd 0 1006 = some (.if_icmp .eq 328)), rfl⟩
theorem i_0_1011 {sc : Nat × (Nat → Int32)} {fm : Value} : ri (rt_P sc fm) 0 1011 (.aload_n 1) (1012) := ⟨(by decide +kernel : rt_xt 0 1011 = none), (by decide +kernel : rt_cd 0 1011 = some (.aload_n 1)), rfl⟩
theorem i_0_1012 {sc : Nat × (Nat → Int32)} {fm : Value} : ri (rt_P sc fm) 0 1012 (.aload_n 0) (1013) := ⟨(by decide +kernel : rt_xt 0 1012 = none), (by decide +kernel : rt_cd 0 1012 = some (.aload_n 0)), rfl⟩
theorem i_0_1013 {sc : Nat × (Nat → Int32)} {fm : Value} : ri (rt_P sc fm) 0 1013 (.iload 4) (1015) := ⟨(by decide +kernel : rt_xt 0 1013 = none), (by decide +kernel : rt_cd 0 1013 = some (.iload 4)), rfl⟩
theorem i_0_1015 {sc : Nat × (Nat → Int32)} {fm : Value} : ri (rt_P sc fm) 0 1015 (.iconst 1) (1016) := ⟨(by decide +kernel : rt_xt 0 1015 = none), (by decide +kernel : rt_cd 0 1015 = some (.iconst 1)), rfl⟩
theorem i_0_1016 {sc : Nat × (Nat → Int32)} {fm : Value} : ri (rt_P sc fm) 0 1016 (.iadd) (1017) := ⟨(by decide +kernel : rt_xt 0 1016 = none), (by decide +kernel : rt_cd 0 1016 = some (.iadd)), rfl⟩
theorem i_0_1017 {sc : Nat × (Nat → Int32)} {fm : Value} : ri (rt_P sc fm) 0 1017 (.iaload) (1018) := ⟨(by decide +kernel : rt_xt 0 1017 = none), (by decide +kernel : rt_cd 0 1017 = some (.iaload)), rfl⟩
theorem i_0_1018 {sc : Nat × (Nat → Int32)} {fm : Value} : ri (rt_P sc fm) 0 1018 (.aload_n 0) (1019) := ⟨(by decide +kernel : rt_xt 0 1018 = none), (by decide +kernel : rt_cd 0 1018 = some (.aload_n 0)), rfl⟩
theorem i_0_1019 {sc : Nat × (Nat → Int32)} {fm : Value} : ri (rt_P sc fm) 0 1019 (.iload 4) (1021) := ⟨(by decide +kernel : rt_xt 0 1019 = none), (by decide +kernel : rt_cd 0 1019 = some (.iload 4)), rfl⟩
theorem i_0_1021 {sc : Nat × (Nat → Int32)} {fm : Value} : ri (rt_P sc fm) 0 1021 (.iconst 2) (1022) := ⟨(by decide +kernel : rt_xt 0 1021 = none), (by decide +kernel : rt_cd 0 1021 = some (.iconst 2)), rfl⟩
theorem i_0_1022 {sc : Nat × (Nat → Int32)} {fm : Value} : ri (rt_P sc fm) 0 1022 (.iadd) (1023) := ⟨(by decide +kernel : rt_xt 0 1022 = none), (by decide +kernel : rt_cd 0 1022 = some (.iadd)), rfl⟩
theorem i_0_1023 {sc : Nat × (Nat → Int32)} {fm : Value} : ri (rt_P sc fm) 0 1023 (.iaload) (1024) := ⟨(by decide +kernel : rt_xt 0 1023 = none), (by decide +kernel : rt_cd 0 1023 = some (.iaload)), rfl⟩
theorem i_0_1024 {sc : Nat × (Nat → Int32)} {fm : Value} : ri (rt_P sc fm) 0 1024 (.ifCond .eq 7) (1027) := ⟨(by decide +kernel : rt_xt 0 1024 = none), (by decide +kernel : rt_cd 0 1024 = some (.ifCond .eq 7)), rfl⟩
theorem i_0_1031 {sc : Nat × (Nat → Int32)} {fm : Value} : ri (rt_P sc fm) 0 1031 (.iconst 0) (1032) := ⟨(by decide +kernel : rt_xt 0 1031 = none), (by decide +kernel : rt_cd 0 1031 = some (.iconst 0)), rfl⟩
theorem i_0_1032 {sc : Nat × (Nat → Int32)} {fm : Value} : ri (rt_P sc fm) 0 1032 (.invokevirtual 137) (1035) := ⟨(by decide +kernel : rt_xt 0 1032 = none), (by decide +kernel : rt_cd 0 1032 = some (.invokevirtual 137)), rfl⟩
theorem c_0_137 {sc : Nat × (Nat → Int32)} {fm : Value} : rx_ct (rt_P sc fm) 0 137 = some (0, 81, 2) := (by decide +kernel : rt_ct 0 137 = some (0, 81, 2))
theorem a_14_81 {sc : Nat × (Nat → Int32)} {fm : Value} : rz_cn 14 (rx_yn (rt_P sc fm) 81).cls = true := (by decide +kernel : rz_cn 14 (rt_yn 81).cls = true)
theorem i_81_0 {sc : Nat × (Nat → Int32)} {fm : Value} : ri (rt_P sc fm) 81 0 (.aload_n 0) (1) := ⟨(by decide +kernel : rt_xt 81 0 = none), (by decide +kernel : rt_cd 81 0 = some (.aload_n 0)), rfl⟩
theorem i_81_1 {sc : Nat × (Nat → Int32)} {fm : Value} : ri (rt_P sc fm) 81 1 (.getfield 28) (4) := ⟨(by decide +kernel : rt_xt 81 1 = none), (by decide +kernel : rt_cd 81 1 = some (.getfield 28)), rfl⟩
theorem f_81_28 {sc : Nat × (Nat → Int32)} {fm : Value} : rx_ft (rt_P sc fm) 81 28 = some (14, 2) := (by decide +kernel : rt_ft 81 28 = some (14, 2))
theorem i_81_4 {sc : Nat × (Nat → Int32)} {fm : Value} : ri (rt_P sc fm) 81 4 (.iload_n 1) (5) := ⟨(by decide +kernel : rt_xt 81 4 = none), (by decide +kernel : rt_cd 81 4 = some (.iload_n 1)), rfl⟩
theorem i_81_5 {sc : Nat × (Nat → Int32)} {fm : Value} : ri (rt_P sc fm) 81 5 (.invokevirtual 146) (8) := ⟨(by decide +kernel : rt_xt 81 5 = none), (by decide +kernel : rt_cd 81 5 = some (.invokevirtual 146)), rfl⟩
theorem c_81_146 {sc : Nat × (Nat → Int32)} {fm : Value} : rx_ct (rt_P sc fm) 81 146 = some (0, 21, 1) := (by decide +kernel : rt_ct 81 146 = some (0, 21, 1))
theorem i_81_8 {sc : Nat × (Nat → Int32)} {fm : Value} : ri (rt_P sc fm) 81 8 (.iconst 2) (9) := ⟨(by decide +kernel : rt_xt 81 8 = none), (by decide +kernel : rt_cd 81 8 = some (.iconst 2)), rfl⟩
theorem i_81_9 {sc : Nat × (Nat → Int32)} {fm : Value} : ri (rt_P sc fm) 81 9 (.if_icmp .ne 22) (12) := ⟨(by decide +kernel : rt_xt 81 9 = none), (by decide +kernel : rt_cd 81 9 = some (.if_icmp .ne 22)), rfl⟩
theorem i_81_31 {sc : Nat × (Nat → Int32)} {fm : Value} : ri (rt_P sc fm) 81 31 (.iconst (-1)) (32) := ⟨(by decide +kernel : rt_xt 81 31 = none), (by decide +kernel : rt_cd 81 31 = some (.iconst (-1))), rfl⟩
theorem i_81_32 {sc : Nat × (Nat → Int32)} {fm : Value} : ri (rt_P sc fm) 81 32 (.ireturn) (33) := ⟨(by decide +kernel : rt_xt 81 32 = none), (by decide +kernel : rt_cd 81 32 = some (.ireturn)), rfl⟩
theorem r_81 {sc : Nat × (Nat → Int32)} {fm : Value} : rx_rt (rt_P sc fm) 81 = (some FieldType.int) := (by decide +kernel : rt_rt 81 = (some FieldType.int))
theorem i_0_1035 {sc : Nat × (Nat → Int32)} {fm : Value} : ri (rt_P sc fm) 0 1035 (.aload_n 2) (1036) := ⟨(by decide +kernel : rt_xt 0 1035 = none), (by decide +kernel : rt_cd 0 1035 = some (.aload_n 2)), rfl⟩
theorem i_0_1036 {sc : Nat × (Nat → Int32)} {fm : Value} : ri (rt_P sc fm) 0 1036 (.aload_n 0) (1037) := ⟨(by decide +kernel : rt_xt 0 1036 = none), (by decide +kernel : rt_cd 0 1036 = some (.aload_n 0)), rfl⟩
theorem i_0_1037 {sc : Nat × (Nat → Int32)} {fm : Value} : ri (rt_P sc fm) 0 1037 (.iload 4) (1039) := ⟨(by decide +kernel : rt_xt 0 1037 = none), (by decide +kernel : rt_cd 0 1037 = some (.iload 4)), rfl⟩
theorem i_0_1039 {sc : Nat × (Nat → Int32)} {fm : Value} : ri (rt_P sc fm) 0 1039 (.iconst 1) (1040) := ⟨(by decide +kernel : rt_xt 0 1039 = none), (by decide +kernel : rt_cd 0 1039 = some (.iconst 1)), rfl⟩
theorem i_0_1040 {sc : Nat × (Nat → Int32)} {fm : Value} : ri (rt_P sc fm) 0 1040 (.iadd) (1041) := ⟨(by decide +kernel : rt_xt 0 1040 = none), (by decide +kernel : rt_cd 0 1040 = some (.iadd)), rfl⟩
theorem i_0_1041 {sc : Nat × (Nat → Int32)} {fm : Value} : ri (rt_P sc fm) 0 1041 (.iaload) (1042) := ⟨(by decide +kernel : rt_xt 0 1041 = none), (by decide +kernel : rt_cd 0 1041 = some (.iaload)), rfl⟩
theorem i_0_1042 {sc : Nat × (Nat → Int32)} {fm : Value} : ri (rt_P sc fm) 0 1042 (.aload_n 0) (1043) := ⟨(by decide +kernel : rt_xt 0 1042 = none), (by decide +kernel : rt_cd 0 1042 = some (.aload_n 0)), rfl⟩
theorem i_0_1043 {sc : Nat × (Nat → Int32)} {fm : Value} : ri (rt_P sc fm) 0 1043 (.iload 4) (1045) := ⟨(by decide +kernel : rt_xt 0 1043 = none), (by decide +kernel : rt_cd 0 1043 = some (.iload 4)), rfl⟩
theorem i_0_1045 {sc : Nat × (Nat → Int32)} {fm : Value} : ri (rt_P sc fm) 0 1045 (.iconst 2) (1046) := ⟨(by decide +kernel : rt_xt 0 1045 = none), (by decide +kernel : rt_cd 0 1045 = some (.iconst 2)), rfl⟩
theorem i_0_1046 {sc : Nat × (Nat → Int32)} {fm : Value} : ri (rt_P sc fm) 0 1046 (.iadd) (1047) := ⟨(by decide +kernel : rt_xt 0 1046 = none), (by decide +kernel : rt_cd 0 1046 = some (.iadd)), rfl⟩
theorem i_0_1047 {sc : Nat × (Nat → Int32)} {fm : Value} : ri (rt_P sc fm) 0 1047 (.iaload) (1048) := ⟨(by decide +kernel : rt_xt 0 1047 = none), (by decide +kernel : rt_cd 0 1047 = some (.iaload)), rfl⟩
theorem i_0_1048 {sc : Nat × (Nat → Int32)} {fm : Value} : ri (rt_P sc fm) 0 1048 (.ifCond .eq 7) (1051) := ⟨(by decide +kernel : rt_xt 0 1048 = none), (by decide +kernel : rt_cd 0 1048 = some (.ifCond .eq 7)), rfl⟩
theorem i_0_1055 {sc : Nat × (Nat → Int32)} {fm : Value} : ri (rt_P sc fm) 0 1055 (.iconst 0) (1056) := ⟨(by decide +kernel : rt_xt 0 1055 = none), (by decide +kernel : rt_cd 0 1055 = some (.iconst 0)), rfl⟩
theorem i_0_1056 {sc : Nat × (Nat → Int32)} {fm : Value} : ri (rt_P sc fm) 0 1056 (.invokevirtual 141) (1059) := ⟨(by decide +kernel : rt_xt 0 1056 = none), (by decide +kernel : rt_cd 0 1056 = some (.invokevirtual 141)), rfl⟩
theorem c_0_141 {sc : Nat × (Nat → Int32)} {fm : Value} : rx_ct (rt_P sc fm) 0 141 = some (0, 135, 2) := (by decide +kernel : rt_ct 0 141 = some (0, 135, 2))
theorem a_15_135 {sc : Nat × (Nat → Int32)} {fm : Value} : rz_cn 15 (rx_yn (rt_P sc fm) 135).cls = true := (by decide +kernel : rz_cn 15 (rt_yn 135).cls = true)
theorem i_135_0 {sc : Nat × (Nat → Int32)} {fm : Value} : ri (rt_P sc fm) 135 0 (.aload_n 0) (1) := ⟨(by decide +kernel : rt_xt 135 0 = none), (by decide +kernel : rt_cd 135 0 = some (.aload_n 0)), rfl⟩
theorem i_135_1 {sc : Nat × (Nat → Int32)} {fm : Value} : ri (rt_P sc fm) 135 1 (.iconst 0) (2) := ⟨(by decide +kernel : rt_xt 135 1 = none), (by decide +kernel : rt_cd 135 1 = some (.iconst 0)), rfl⟩
theorem i_135_2 {sc : Nat × (Nat → Int32)} {fm : Value} : ri (rt_P sc fm) 135 2 (.putfield 356) (5) := ⟨(by decide +kernel : rt_xt 135 2 = none), (by decide +kernel : rt_cd 135 2 = some (.putfield 356)), rfl⟩
theorem p_135_356 {sc : Nat × (Nat → Int32)} {fm : Value} : rx_pt (rt_P sc fm) 135 356 = some (15, 0, .int) := (by decide +kernel : rt_pt 135 356 = some (15, 0, .int))
theorem i_135_5 {sc : Nat × (Nat → Int32)} {fm : Value} : ri (rt_P sc fm) 135 5 (.aload_n 0) (6) := ⟨(by decide +kernel : rt_xt 135 5 = none), (by decide +kernel : rt_cd 135 5 = some (.aload_n 0)), rfl⟩
theorem i_135_6 {sc : Nat × (Nat → Int32)} {fm : Value} : ri (rt_P sc fm) 135 6 (.iload_n 1) (7) := ⟨(by decide +kernel : rt_xt 135 6 = none), (by decide +kernel : rt_cd 135 6 = some (.iload_n 1)), rfl⟩
theorem i_135_7 {sc : Nat × (Nat → Int32)} {fm : Value} : ri (rt_P sc fm) 135 7 (.invokevirtual 721) (10) := ⟨(by decide +kernel : rt_xt 135 7 = none), (by decide +kernel : rt_cd 135 7 = some (.invokevirtual 721)), rfl⟩
theorem c_135_721 {sc : Nat × (Nat → Int32)} {fm : Value} : rx_ct (rt_P sc fm) 135 721 = some (0, 111, 1) := (by decide +kernel : rt_ct 135 721 = some (0, 111, 1))
theorem a_15_111 {sc : Nat × (Nat → Int32)} {fm : Value} : rz_cn 15 (rx_yn (rt_P sc fm) 111).cls = true := (by decide +kernel : rz_cn 15 (rt_yn 111).cls = true)
theorem i_111_0 {sc : Nat × (Nat → Int32)} {fm : Value} : ri (rt_P sc fm) 111 0 (.aload_n 0) (1) := ⟨(by decide +kernel : rt_xt 111 0 = none), (by decide +kernel : rt_cd 111 0 = some (.aload_n 0)), rfl⟩
theorem i_111_1 {sc : Nat × (Nat → Int32)} {fm : Value} : ri (rt_P sc fm) 111 1 (.iload_n 1) (2) := ⟨(by decide +kernel : rt_xt 111 1 = none), (by decide +kernel : rt_cd 111 1 = some (.iload_n 1)), rfl⟩
theorem i_111_2 {sc : Nat × (Nat → Int32)} {fm : Value} : ri (rt_P sc fm) 111 2 (.invokevirtual 652) (5) := ⟨(by decide +kernel : rt_xt 111 2 = none), (by decide +kernel : rt_cd 111 2 = some (.invokevirtual 652)), rfl⟩
theorem c_111_652 {sc : Nat × (Nat → Int32)} {fm : Value} : rx_ct (rt_P sc fm) 111 652 = some (0, 109, 1) := (by decide +kernel : rt_ct 111 652 = some (0, 109, 1))
theorem i_111_5 {sc : Nat × (Nat → Int32)} {fm : Value} : ri (rt_P sc fm) 111 5 (.ifCond .eq 15) (8) := ⟨(by decide +kernel : rt_xt 111 5 = none), (by decide +kernel : rt_cd 111 5 = some (.ifCond .eq 15)), rfl⟩
theorem i_111_20 {sc : Nat × (Nat → Int32)} {fm : Value} : ri (rt_P sc fm) 111 20 (.iconst 0) (21) := ⟨(by decide +kernel : rt_xt 111 20 = none), (by decide +kernel : rt_cd 111 20 = some (.iconst 0)), rfl⟩
theorem i_111_21 {sc : Nat × (Nat → Int32)} {fm : Value} : ri (rt_P sc fm) 111 21 (.ireturn) (22) := ⟨(by decide +kernel : rt_xt 111 21 = none), (by decide +kernel : rt_cd 111 21 = some (.ireturn)), rfl⟩
theorem r_111 {sc : Nat × (Nat → Int32)} {fm : Value} : rx_rt (rt_P sc fm) 111 = (some FieldType.boolean) := (by decide +kernel : rt_rt 111 = (some FieldType.boolean))
theorem i_135_10 {sc : Nat × (Nat → Int32)} {fm : Value} : ri (rt_P sc fm) 135 10 (.ifCond .ne 5) (13) := ⟨(by decide +kernel : rt_xt 135 10 = none), (by decide +kernel : rt_cd 135 10 = some (.ifCond .ne 5)), rfl⟩
theorem i_135_13 {sc : Nat × (Nat → Int32)} {fm : Value} : ri (rt_P sc fm) 135 13 (.iconst (-1)) (14) := ⟨(by decide +kernel : rt_xt 135 13 = none), (by decide +kernel : rt_cd 135 13 = some (.iconst (-1))), rfl⟩
theorem i_135_14 {sc : Nat × (Nat → Int32)} {fm : Value} : ri (rt_P sc fm) 135 14 (.ireturn) (15) := ⟨(by decide +kernel : rt_xt 135 14 = none), (by decide +kernel : rt_cd 135 14 = some (.ireturn)), rfl⟩
theorem r_135 {sc : Nat × (Nat → Int32)} {fm : Value} : rx_rt (rt_P sc fm) 135 = (some FieldType.int) := (by decide +kernel : rt_rt 135 = (some FieldType.int))
theorem i_0_1059 {sc : Nat × (Nat → Int32)} {fm : Value} : ri (rt_P sc fm) 0 1059 (.if_icmp .eq 275) (1062) := ⟨(by decide +kernel : rt_xt 0 1059 = none), (by decide +kernel : rt_cd 0 1059 = some (.if_icmp .eq 275)), rfl⟩
theorem i_0_1027 {sc : Nat × (Nat → Int32)} {fm : Value} : ri (rt_P sc fm) 0 1027 (.iconst 1) (1028) := ⟨(by decide +kernel : rt_xt 0 1027 = none), (by decide +kernel : rt_cd 0 1027 = some (.iconst 1)), rfl⟩
theorem i_0_1028 {sc : Nat × (Nat → Int32)} {fm : Value} : ri (rt_P sc fm) 0 1028 (.goto 4) (1031) := ⟨(by decide +kernel : rt_xt 0 1028 = none), (by decide +kernel : rt_cd 0 1028 = some (.goto 4)), rfl⟩
theorem i_0_1051 {sc : Nat × (Nat → Int32)} {fm : Value} : ri (rt_P sc fm) 0 1051 (.iconst 1) (1052) := ⟨(by decide +kernel : rt_xt 0 1051 = none), (by decide +kernel : rt_cd 0 1051 = some (.iconst 1)), rfl⟩
theorem i_0_1052 {sc : Nat × (Nat → Int32)} {fm : Value} : ri (rt_P sc fm) 0 1052 (.goto 4) (1055) := ⟨(by decide +kernel : rt_xt 0 1052 = none), (by decide +kernel : rt_cd 0 1052 = some (.goto 4)), rfl⟩
theorem i_0_1064 {sc : Nat × (Nat → Int32)} {fm : Value} : ri (rt_P sc fm) 0 1064 (.aload_n 1) (1065) := ⟨(by decide +kernel : rt_xt 0 1064 = none), (by decide +kernel : rt_cd 0 1064 = some (.aload_n 1)), rfl⟩
theorem i_0_1065 {sc : Nat × (Nat → Int32)} {fm : Value} : ri (rt_P sc fm) 0 1065 (.aload_n 0) (1066) := ⟨(by decide +kernel : rt_xt 0 1065 = none), (by decide +kernel : rt_cd 0 1065 = some (.aload_n 0)), rfl⟩
theorem i_0_1066 {sc : Nat × (Nat → Int32)} {fm : Value} : ri (rt_P sc fm) 0 1066 (.iload 4) (1068) := ⟨(by decide +kernel : rt_xt 0 1066 = none), (by decide +kernel : rt_cd 0 1066 = some (.iload 4)), rfl⟩
theorem i_0_1068 {sc : Nat × (Nat → Int32)} {fm : Value} : ri (rt_P sc fm) 0 1068 (.iconst 1) (1069) := ⟨(by decide +kernel : rt_xt 0 1068 = none), (by decide +kernel : rt_cd 0 1068 = some (.iconst 1)), rfl⟩
theorem i_0_1069 {sc : Nat × (Nat → Int32)} {fm : Value} : ri (rt_P sc fm) 0 1069 (.iadd) (1070) := ⟨(by decide +kernel : rt_xt 0 1069 = none), (by decide +kernel : rt_cd 0 1069 = some (.iadd)), rfl⟩
theorem i_0_1070 {sc : Nat × (Nat → Int32)} {fm : Value} : ri (rt_P sc fm) 0 1070 (.iaload) (1071) := ⟨(by decide +kernel : rt_xt 0 1070 = none), (by decide +kernel : rt_cd 0 1070 = some (.iaload)), rfl⟩
theorem i_0_1071 {sc : Nat × (Nat → Int32)} {fm : Value} : ri (rt_P sc fm) 0 1071 (.aload_n 0) (1072) := ⟨(by decide +kernel : rt_xt 0 1071 = none), (by decide +kernel : rt_cd 0 1071 = some (.aload_n 0)), rfl⟩
theorem i_0_1072 {sc : Nat × (Nat → Int32)} {fm : Value} : ri (rt_P sc fm) 0 1072 (.iload 4) (1074) := ⟨(by decide +kernel : rt_xt 0 1072 = none), (by decide +kernel : rt_cd 0 1072 = some (.iload 4)), rfl⟩
theorem i_0_1074 {sc : Nat × (Nat → Int32)} {fm : Value} : ri (rt_P sc fm) 0 1074 (.iconst 2) (1075) := ⟨(by decide +kernel : rt_xt 0 1074 = none), (by decide +kernel : rt_cd 0 1074 = some (.iconst 2)), rfl⟩
theorem i_0_1075 {sc : Nat × (Nat → Int32)} {fm : Value} : ri (rt_P sc fm) 0 1075 (.iadd) (1076) := ⟨(by decide +kernel : rt_xt 0 1075 = none), (by decide +kernel : rt_cd 0 1075 = some (.iadd)), rfl⟩
theorem i_0_1076 {sc : Nat × (Nat → Int32)} {fm : Value} : ri (rt_P sc fm) 0 1076 (.iaload) (1077) := ⟨(by decide +kernel : rt_xt 0 1076 = none), (by decide +kernel : rt_cd 0 1076 = some (.iaload)), rfl⟩
theorem i_0_1077 {sc : Nat × (Nat → Int32)} {fm : Value} : ri (rt_P sc fm) 0 1077 (.invokevirtual 142) (1080) := ⟨(by decide +kernel : rt_xt 0 1077 = none), (by decide +kernel : rt_cd 0 1077 = some (.invokevirtual 142)), rfl⟩
theorem c_0_142 {sc : Nat × (Nat → Int32)} {fm : Value} : rx_ct (rt_P sc fm) 0 142 = some (0, 82, 2) := (by decide +kernel : rt_ct 0 142 = some (0, 82, 2))
theorem a_14_82 {sc : Nat × (Nat → Int32)} {fm : Value} : rz_cn 14 (rx_yn (rt_P sc fm) 82).cls = true := (by decide +kernel : rz_cn 14 (rt_yn 82).cls = true)
theorem i_82_0 {sc : Nat × (Nat → Int32)} {fm : Value} : ri (rt_P sc fm) 82 0 (.iload_n 1) (1) := ⟨(by decide +kernel : rt_xt 82 0 = none), (by decide +kernel : rt_cd 82 0 = some (.iload_n 1)), rfl⟩
theorem i_82_1 {sc : Nat × (Nat → Int32)} {fm : Value} : ri (rt_P sc fm) 82 1 (.ifCond .lt 8) (4) := ⟨(by decide +kernel : rt_xt 82 1 = none), (by decide +kernel : rt_cd 82 1 = some (.ifCond .lt 8)), rfl⟩
theorem i_82_9 {sc : Nat × (Nat → Int32)} {fm : Value} : ri (rt_P sc fm) 82 9 (.iconst 0) (10) := ⟨(by decide +kernel : rt_xt 82 9 = none), (by decide +kernel : rt_cd 82 9 = some (.iconst 0)), rfl⟩
theorem i_82_10 {sc : Nat × (Nat → Int32)} {fm : Value} : ri (rt_P sc fm) 82 10 (.ireturn) (11) := ⟨(by decide +kernel : rt_xt 82 10 = none), (by decide +kernel : rt_cd 82 10 = some (.ireturn)), rfl⟩
theorem r_82 {sc : Nat × (Nat → Int32)} {fm : Value} : rx_rt (rt_P sc fm) 82 = (some FieldType.boolean) := (by decide +kernel : rt_rt 82 = (some FieldType.boolean))
theorem i_0_1080 {sc : Nat × (Nat → Int32)} {fm : Value} : ri (rt_P sc fm) 0 1080 (.aload_n 2) (1081) := ⟨(by decide +kernel : rt_xt 0 1080 = none), (by decide +kernel : rt_cd 0 1080 = some (.aload_n 2)), rfl⟩
theorem i_0_1081 {sc : Nat × (Nat → Int32)} {fm : Value} : ri (rt_P sc fm) 0 1081 (.aload_n 0) (1082) := ⟨(by decide +kernel : rt_xt 0 1081 = none), (by decide +kernel : rt_cd 0 1081 = some (.aload_n 0)), rfl⟩
theorem i_0_1082 {sc : Nat × (Nat → Int32)} {fm : Value} : ri (rt_P sc fm) 0 1082 (.iload 4) (1084) := ⟨(by decide +kernel : rt_xt 0 1082 = none), (by decide +kernel : rt_cd 0 1082 = some (.iload 4)), rfl⟩
theorem i_0_1084 {sc : Nat × (Nat → Int32)} {fm : Value} : ri (rt_P sc fm) 0 1084 (.iconst 1) (1085) := ⟨(by decide +kernel : rt_xt 0 1084 = none), (by decide +kernel : rt_cd 0 1084 = some (.iconst 1)), rfl⟩
theorem i_0_1085 {sc : Nat × (Nat → Int32)} {fm : Value} : ri (rt_P sc fm) 0 1085 (.iadd) (1086) := ⟨(by decide +kernel : rt_xt 0 1085 = none), (by decide +kernel : rt_cd 0 1085 = some (.iadd)), rfl⟩
theorem i_0_1086 {sc : Nat × (Nat → Int32)} {fm : Value} : ri (rt_P sc fm) 0 1086 (.iaload) (1087) := ⟨(by decide +kernel : rt_xt 0 1086 = none), (by decide +kernel : rt_cd 0 1086 = some (.iaload)), rfl⟩
theorem i_0_1087 {sc : Nat × (Nat → Int32)} {fm : Value} : ri (rt_P sc fm) 0 1087 (.aload_n 0) (1088) := ⟨(by decide +kernel : rt_xt 0 1087 = none), (by decide +kernel : rt_cd 0 1087 = some (.aload_n 0)), rfl⟩
theorem i_0_1088 {sc : Nat × (Nat → Int32)} {fm : Value} : ri (rt_P sc fm) 0 1088 (.iload 4) (1090) := ⟨(by decide +kernel : rt_xt 0 1088 = none), (by decide +kernel : rt_cd 0 1088 = some (.iload 4)), rfl⟩
theorem i_0_1090 {sc : Nat × (Nat → Int32)} {fm : Value} : ri (rt_P sc fm) 0 1090 (.iconst 2) (1091) := ⟨(by decide +kernel : rt_xt 0 1090 = none), (by decide +kernel : rt_cd 0 1090 = some (.iconst 2)), rfl⟩
theorem i_0_1091 {sc : Nat × (Nat → Int32)} {fm : Value} : ri (rt_P sc fm) 0 1091 (.iadd) (1092) := ⟨(by decide +kernel : rt_xt 0 1091 = none), (by decide +kernel : rt_cd 0 1091 = some (.iadd)), rfl⟩
theorem i_0_1092 {sc : Nat × (Nat → Int32)} {fm : Value} : ri (rt_P sc fm) 0 1092 (.iaload) (1093) := ⟨(by decide +kernel : rt_xt 0 1092 = none), (by decide +kernel : rt_cd 0 1092 = some (.iaload)), rfl⟩
theorem i_0_1093 {sc : Nat × (Nat → Int32)} {fm : Value} : ri (rt_P sc fm) 0 1093 (.invokevirtual 146) (1096) := ⟨(by decide +kernel : rt_xt 0 1093 = none), (by decide +kernel : rt_cd 0 1093 = some (.invokevirtual 146)), rfl⟩
theorem c_0_146 {sc : Nat × (Nat → Int32)} {fm : Value} : rx_ct (rt_P sc fm) 0 146 = some (0, 136, 2) := (by decide +kernel : rt_ct 0 146 = some (0, 136, 2))
theorem a_15_136 {sc : Nat × (Nat → Int32)} {fm : Value} : rz_cn 15 (rx_yn (rt_P sc fm) 136).cls = true := (by decide +kernel : rz_cn 15 (rt_yn 136).cls = true)
theorem i_136_0 {sc : Nat × (Nat → Int32)} {fm : Value} : ri (rt_P sc fm) 136 0 (.aload_n 0) (1) := ⟨(by decide +kernel : rt_xt 136 0 = none), (by decide +kernel : rt_cd 136 0 = some (.aload_n 0)), rfl⟩
theorem i_136_1 {sc : Nat × (Nat → Int32)} {fm : Value} : ri (rt_P sc fm) 136 1 (.iconst 0) (2) := ⟨(by decide +kernel : rt_xt 136 1 = none), (by decide +kernel : rt_cd 136 1 = some (.iconst 0)), rfl⟩
theorem i_136_2 {sc : Nat × (Nat → Int32)} {fm : Value} : ri (rt_P sc fm) 136 2 (.putfield 356) (5) := ⟨(by decide +kernel : rt_xt 136 2 = none), (by decide +kernel : rt_cd 136 2 = some (.putfield 356)), rfl⟩
theorem p_136_356 {sc : Nat × (Nat → Int32)} {fm : Value} : rx_pt (rt_P sc fm) 136 356 = some (15, 0, .int) := (by decide +kernel : rt_pt 136 356 = some (15, 0, .int))
theorem i_136_5 {sc : Nat × (Nat → Int32)} {fm : Value} : ri (rt_P sc fm) 136 5 (.iload_n 1) (6) := ⟨(by decide +kernel : rt_xt 136 5 = none), (by decide +kernel : rt_cd 136 5 = some (.iload_n 1)), rfl⟩
theorem i_136_6 {sc : Nat × (Nat → Int32)} {fm : Value} : ri (rt_P sc fm) 136 6 (.ifCond .lt 8) (9) := ⟨(by decide +kernel : rt_xt 136 6 = none), (by decide +kernel : rt_cd 136 6 = some (.ifCond .lt 8)), rfl⟩
theorem i_136_14 {sc : Nat × (Nat → Int32)} {fm : Value} : ri (rt_P sc fm) 136 14 (.iconst 0) (15) := ⟨(by decide +kernel : rt_xt 136 14 = none), (by decide +kernel : rt_cd 136 14 = some (.iconst 0)), rfl⟩
theorem i_136_15 {sc : Nat × (Nat → Int32)} {fm : Value} : ri (rt_P sc fm) 136 15 (.ireturn) (16) := ⟨(by decide +kernel : rt_xt 136 15 = none), (by decide +kernel : rt_cd 136 15 = some (.ireturn)), rfl⟩
theorem r_136 {sc : Nat × (Nat → Int32)} {fm : Value} : rx_rt (rt_P sc fm) 136 = (some FieldType.boolean) := (by decide +kernel : rt_rt 136 = (some FieldType.boolean))
theorem i_0_1096 {sc : Nat × (Nat → Int32)} {fm : Value} : ri (rt_P sc fm) 0 1096 (.if_icmp .eq 238) (1099) := ⟨(by decide +kernel : rt_xt 0 1096 = none), (by decide +kernel : rt_cd 0 1096 = some (.if_icmp .eq 238)), rfl⟩
theorem i_82_4 {sc : Nat × (Nat → Int32)} {fm : Value} : ri (rt_P sc fm) 82 4 (.iload_n 1) (5) := ⟨(by decide +kernel : rt_xt 82 4 = none), (by decide +kernel : rt_cd 82 4 = some (.iload_n 1)), rfl⟩
theorem i_82_5 {sc : Nat × (Nat → Int32)} {fm : Value} : ri (rt_P sc fm) 82 5 (.iconst 4) (6) := ⟨(by decide +kernel : rt_xt 82 5 = none), (by decide +kernel : rt_cd 82 5 = some (.iconst 4)), rfl⟩
theorem i_82_6 {sc : Nat × (Nat → Int32)} {fm : Value} : ri (rt_P sc fm) 82 6 (.if_icmp .lt 5) (9) := ⟨(by decide +kernel : rt_xt 82 6 = none), (by decide +kernel : rt_cd 82 6 = some (.if_icmp .lt 5)), rfl⟩
theorem i_82_11 {sc : Nat × (Nat → Int32)} {fm : Value} : ri (rt_P sc fm) 82 11 (.aload_n 0) (12) := ⟨(by decide +kernel : rt_xt 82 11 = none), (by decide +kernel : rt_cd 82 11 = some (.aload_n 0)), rfl⟩
theorem i_82_12 {sc : Nat × (Nat → Int32)} {fm : Value} : ri (rt_P sc fm) 82 12 (.getfield 69) (15) := ⟨(by decide +kernel : rt_xt 82 12 = none), (by decide +kernel : rt_cd 82 12 = some (.getfield 69)), rfl⟩
theorem f_82_69 {sc : Nat × (Nat → Int32)} {fm : Value} : rx_ft (rt_P sc fm) 82 69 = some (14, 7) := (by decide +kernel : rt_ft 82 69 = some (14, 7))
theorem i_82_15 {sc : Nat × (Nat → Int32)} {fm : Value} : ri (rt_P sc fm) 82 15 (.getfield 332) (18) := ⟨(by decide +kernel : rt_xt 82 15 = none), (by decide +kernel : rt_cd 82 15 = some (.getfield 332)), rfl⟩
theorem f_82_332 {sc : Nat × (Nat → Int32)} {fm : Value} : rx_ft (rt_P sc fm) 82 332 = some (11, 3) := (by decide +kernel : rt_ft 82 332 = some (11, 3))
theorem i_82_18 {sc : Nat × (Nat → Int32)} {fm : Value} : ri (rt_P sc fm) 82 18 (.iload_n 1) (19) := ⟨(by decide +kernel : rt_xt 82 18 = none), (by decide +kernel : rt_cd 82 18 = some (.iload_n 1)), rfl⟩
theorem i_82_19 {sc : Nat × (Nat → Int32)} {fm : Value} : ri (rt_P sc fm) 82 19 (.iload_n 2) (20) := ⟨(by decide +kernel : rt_xt 82 19 = none), (by decide +kernel : rt_cd 82 19 = some (.iload_n 2)), rfl⟩
theorem i_82_20 {sc : Nat × (Nat → Int32)} {fm : Value} : ri (rt_P sc fm) 82 20 (.iastore) (21) := ⟨(by decide +kernel : rt_xt 82 20 = none), (by decide +kernel : rt_cd 82 20 = some (.iastore)), rfl⟩
theorem i_82_21 {sc : Nat × (Nat → Int32)} {fm : Value} : ri (rt_P sc fm) 82 21 (.iconst 1) (22) := ⟨(by decide +kernel : rt_xt 82 21 = none), (by decide +kernel : rt_cd 82 21 = some (.iconst 1)), rfl⟩
theorem i_82_22 {sc : Nat × (Nat → Int32)} {fm : Value} : ri (rt_P sc fm) 82 22 (.ireturn) (23) := ⟨(by decide +kernel : rt_xt 82 22 = none), (by decide +kernel : rt_cd 82 22 = some (.ireturn)), rfl⟩
theorem i_136_9 {sc : Nat × (Nat → Int32)} {fm : Value} : ri (rt_P sc fm) 136 9 (.iload_n 1) (10) := ⟨(by decide +kernel : rt_xt 136 9 = none), (by decide +kernel : rt_cd 136 9 = some (.iload_n 1)), rfl⟩
theorem i_136_10 {sc : Nat × (Nat → Int32)} {fm : Value} : ri (rt_P sc fm) 136 10 (.iconst 3) (11) := ⟨(by decide +kernel : rt_xt 136 10 = none), (by decide +kernel : rt_cd 136 10 = some (.iconst 3)), rfl⟩
theorem i_136_11 {sc : Nat × (Nat → Int32)} {fm : Value} : ri (rt_P sc fm) 136 11 (.if_icmp .le 5) (14) := ⟨(by decide +kernel : rt_xt 136 11 = none), (by decide +kernel : rt_cd 136 11 = some (.if_icmp .le 5)), rfl⟩
theorem i_136_16 {sc : Nat × (Nat → Int32)} {fm : Value} : ri (rt_P sc fm) 136 16 (.aload_n 0) (17) := ⟨(by decide +kernel : rt_xt 136 16 = none), (by decide +kernel : rt_cd 136 16 = some (.aload_n 0)), rfl⟩
theorem i_136_17 {sc : Nat × (Nat → Int32)} {fm : Value} : ri (rt_P sc fm) 136 17 (.getfield 311) (20) := ⟨(by decide +kernel : rt_xt 136 17 = none), (by decide +kernel : rt_cd 136 17 = some (.getfield 311)), rfl⟩
theorem f_136_311 {sc : Nat × (Nat → Int32)} {fm : Value} : rx_ft (rt_P sc fm) 136 311 = some (15, 108) := (by decide +kernel : rt_ft 136 311 = some (15, 108))
theorem i_136_20 {sc : Nat × (Nat → Int32)} {fm : Value} : ri (rt_P sc fm) 136 20 (.iload_n 1) (21) := ⟨(by decide +kernel : rt_xt 136 20 = none), (by decide +kernel : rt_cd 136 20 = some (.iload_n 1)), rfl⟩
theorem i_136_21 {sc : Nat × (Nat → Int32)} {fm : Value} : ri (rt_P sc fm) 136 21 (.iload_n 2) (22) := ⟨(by decide +kernel : rt_xt 136 21 = none), (by decide +kernel : rt_cd 136 21 = some (.iload_n 2)), rfl⟩
theorem i_136_22 {sc : Nat × (Nat → Int32)} {fm : Value} : ri (rt_P sc fm) 136 22 (.iastore) (23) := ⟨(by decide +kernel : rt_xt 136 22 = none), (by decide +kernel : rt_cd 136 22 = some (.iastore)), rfl⟩
theorem i_136_23 {sc : Nat × (Nat → Int32)} {fm : Value} : ri (rt_P sc fm) 136 23 (.iconst 1) (24) := ⟨(by decide +kernel : rt_xt 136 23 = none), (by decide +kernel : rt_cd 136 23 = some (.iconst 1)), rfl⟩
theorem i_136_24 {sc : Nat × (Nat → Int32)} {fm : Value} : ri (rt_P sc fm) 136 24 (.ireturn) (25) := ⟨(by decide +kernel : rt_xt 136 24 = none), (by decide +kernel : rt_cd 136 24 = some (.ireturn)), rfl⟩
theorem i_0_1101 {sc : Nat × (Nat → Int32)} {fm : Value} : ri (rt_P sc fm) 0 1101 (.aload_n 1) (1102) := ⟨(by decide +kernel : rt_xt 0 1101 = none), (by decide +kernel : rt_cd 0 1101 = some (.aload_n 1)), rfl⟩
theorem i_0_1102 {sc : Nat × (Nat → Int32)} {fm : Value} : ri (rt_P sc fm) 0 1102 (.aload_n 0) (1103) := ⟨(by decide +kernel : rt_xt 0 1102 = none), (by decide +kernel : rt_cd 0 1102 = some (.aload_n 0)), rfl⟩
theorem i_0_1103 {sc : Nat × (Nat → Int32)} {fm : Value} : ri (rt_P sc fm) 0 1103 (.iload 4) (1105) := ⟨(by decide +kernel : rt_xt 0 1103 = none), (by decide +kernel : rt_cd 0 1103 = some (.iload 4)), rfl⟩
theorem i_0_1105 {sc : Nat × (Nat → Int32)} {fm : Value} : ri (rt_P sc fm) 0 1105 (.iconst 1) (1106) := ⟨(by decide +kernel : rt_xt 0 1105 = none), (by decide +kernel : rt_cd 0 1105 = some (.iconst 1)), rfl⟩
theorem i_0_1106 {sc : Nat × (Nat → Int32)} {fm : Value} : ri (rt_P sc fm) 0 1106 (.iadd) (1107) := ⟨(by decide +kernel : rt_xt 0 1106 = none), (by decide +kernel : rt_cd 0 1106 = some (.iadd)), rfl⟩
theorem i_0_1107 {sc : Nat × (Nat → Int32)} {fm : Value} : ri (rt_P sc fm) 0 1107 (.iaload) (1108) := ⟨(by decide +kernel : rt_xt 0 1107 = none), (by decide +kernel : rt_cd 0 1107 = some (.iaload)), rfl⟩
theorem i_0_1108 {sc : Nat × (Nat → Int32)} {fm : Value} : ri (rt_P sc fm) 0 1108 (.invokevirtual 147) (1111) := ⟨(by decide +kernel : rt_xt 0 1108 = none), (by decide +kernel : rt_cd 0 1108 = some (.invokevirtual 147)), rfl⟩
theorem c_0_147 {sc : Nat × (Nat → Int32)} {fm : Value} : rx_ct (rt_P sc fm) 0 147 = some (0, 83, 1) := (by decide +kernel : rt_ct 0 147 = some (0, 83, 1))
theorem a_14_83 {sc : Nat × (Nat → Int32)} {fm : Value} : rz_cn 14 (rx_yn (rt_P sc fm) 83).cls = true := (by decide +kernel : rz_cn 14 (rt_yn 83).cls = true)
theorem i_83_0 {sc : Nat × (Nat → Int32)} {fm : Value} : ri (rt_P sc fm) 83 0 (.aload_n 0) (1) := ⟨(by decide +kernel : rt_xt 83 0 = none), (by decide +kernel : rt_cd 83 0 = some (.aload_n 0)), rfl⟩
theorem i_83_1 {sc : Nat × (Nat → Int32)} {fm : Value} : ri (rt_P sc fm) 83 1 (.getfield 69) (4) := ⟨(by decide +kernel : rt_xt 83 1 = none), (by decide +kernel : rt_cd 83 1 = some (.getfield 69)), rfl⟩
theorem f_83_69 {sc : Nat × (Nat → Int32)} {fm : Value} : rx_ft (rt_P sc fm) 83 69 = some (14, 7) := (by decide +kernel : rt_ft 83 69 = some (14, 7))
theorem i_83_4 {sc : Nat × (Nat → Int32)} {fm : Value} : ri (rt_P sc fm) 83 4 (.iload_n 1) (5) := ⟨(by decide +kernel : rt_xt 83 4 = none), (by decide +kernel : rt_cd 83 4 = some (.iload_n 1)), rfl⟩
theorem i_83_5 {sc : Nat × (Nat → Int32)} {fm : Value} : ri (rt_P sc fm) 83 5 (.invokevirtual 335) (8) := ⟨(by decide +kernel : rt_xt 83 5 = none), (by decide +kernel : rt_cd 83 5 = some (.invokevirtual 335)), rfl⟩
theorem c_83_335 {sc : Nat × (Nat → Int32)} {fm : Value} : rx_ct (rt_P sc fm) 83 335 = some (0, 47, 1) := (by decide +kernel : rt_ct 83 335 = some (0, 47, 1))
theorem a_11_47 {sc : Nat × (Nat → Int32)} {fm : Value} : rz_cn 11 (rx_yn (rt_P sc fm) 47).cls = true := (by decide +kernel : rz_cn 11 (rt_yn 47).cls = true)
theorem i_47_0 {sc : Nat × (Nat → Int32)} {fm : Value} : ri (rt_P sc fm) 47 0 (.aload_n 0) (1) := ⟨(by decide +kernel : rt_xt 47 0 = none), (by decide +kernel : rt_cd 47 0 = some (.aload_n 0)), rfl⟩
theorem i_47_1 {sc : Nat × (Nat → Int32)} {fm : Value} : ri (rt_P sc fm) 47 1 (.getfield 46) (4) := ⟨(by decide +kernel : rt_xt 47 1 = none), (by decide +kernel : rt_cd 47 1 = some (.getfield 46)), rfl⟩
theorem f_47_46 {sc : Nat × (Nat → Int32)} {fm : Value} : rx_ft (rt_P sc fm) 47 46 = some (11, 5) := (by decide +kernel : rt_ft 47 46 = some (11, 5))
theorem i_47_4 {sc : Nat × (Nat → Int32)} {fm : Value} : ri (rt_P sc fm) 47 4 (.bipush 64) (6) := ⟨(by decide +kernel : rt_xt 47 4 = none), (by decide +kernel : rt_cd 47 4 = some (.bipush 64)), rfl⟩
theorem i_47_6 {sc : Nat × (Nat → Int32)} {fm : Value} : ri (rt_P sc fm) 47 6 (.if_icmp .lt 5) (9) := ⟨(by decide +kernel : rt_xt 47 6 = none), (by decide +kernel : rt_cd 47 6 = some (.if_icmp .lt 5)), rfl⟩
theorem i_47_11 {sc : Nat × (Nat → Int32)} {fm : Value} : ri (rt_P sc fm) 47 11 (.aload_n 0) (12) := ⟨(by decide +kernel : rt_xt 47 11 = none), (by decide +kernel : rt_cd 47 11 = some (.aload_n 0)), rfl⟩
theorem i_47_12 {sc : Nat × (Nat → Int32)} {fm : Value} : ri (rt_P sc fm) 47 12 (.getfield 15) (15) := ⟨(by decide +kernel : rt_xt 47 12 = none), (by decide +kernel : rt_cd 47 12 = some (.getfield 15)), rfl⟩
theorem f_47_15 {sc : Nat × (Nat → Int32)} {fm : Value} : rx_ft (rt_P sc fm) 47 15 = some (11, 4) := (by decide +kernel : rt_ft 47 15 = some (11, 4))
theorem i_47_15 {sc : Nat × (Nat → Int32)} {fm : Value} : ri (rt_P sc fm) 47 15 (.aload_n 0) (16) := ⟨(by decide +kernel : rt_xt 47 15 = none), (by decide +kernel : rt_cd 47 15 = some (.aload_n 0)), rfl⟩
theorem i_47_16 {sc : Nat × (Nat → Int32)} {fm : Value} : ri (rt_P sc fm) 47 16 (.dup) (17) := ⟨(by decide +kernel : rt_xt 47 16 = none), (by decide +kernel : rt_cd 47 16 = some (.dup)), rfl⟩
theorem i_47_17 {sc : Nat × (Nat → Int32)} {fm : Value} : ri (rt_P sc fm) 47 17 (.getfield 46) (20) := ⟨(by decide +kernel : rt_xt 47 17 = none), (by decide +kernel : rt_cd 47 17 = some (.getfield 46)), rfl⟩
theorem i_47_20 {sc : Nat × (Nat → Int32)} {fm : Value} : ri (rt_P sc fm) 47 20 (.dup_x1) (21) := ⟨(by decide +kernel : rt_xt 47 20 = none), (by decide +kernel : rt_cd 47 20 = some (.dup_x1)), rfl⟩
theorem i_47_21 {sc : Nat × (Nat → Int32)} {fm : Value} : ri (rt_P sc fm) 47 21 (.iconst 1) (22) := ⟨(by decide +kernel : rt_xt 47 21 = none), (by decide +kernel : rt_cd 47 21 = some (.iconst 1)), rfl⟩
theorem i_47_22 {sc : Nat × (Nat → Int32)} {fm : Value} : ri (rt_P sc fm) 47 22 (.iadd) (23) := ⟨(by decide +kernel : rt_xt 47 22 = none), (by decide +kernel : rt_cd 47 22 = some (.iadd)), rfl⟩
theorem i_47_23 {sc : Nat × (Nat → Int32)} {fm : Value} : ri (rt_P sc fm) 47 23 (.putfield 46) (26) := ⟨(by decide +kernel : rt_xt 47 23 = none), (by decide +kernel : rt_cd 47 23 = some (.putfield 46)), rfl⟩
theorem p_47_46 {sc : Nat × (Nat → Int32)} {fm : Value} : rx_pt (rt_P sc fm) 47 46 = some (11, 5, .int) := (by decide +kernel : rt_pt 47 46 = some (11, 5, .int))
theorem i_47_26 {sc : Nat × (Nat → Int32)} {fm : Value} : ri (rt_P sc fm) 47 26 (.iload_n 1) (27) := ⟨(by decide +kernel : rt_xt 47 26 = none), (by decide +kernel : rt_cd 47 26 = some (.iload_n 1)), rfl⟩
theorem i_47_27 {sc : Nat × (Nat → Int32)} {fm : Value} : ri (rt_P sc fm) 47 27 (.iastore) (28) := ⟨(by decide +kernel : rt_xt 47 27 = none), (by decide +kernel : rt_cd 47 27 = some (.iastore)), rfl⟩
theorem i_47_28 {sc : Nat × (Nat → Int32)} {fm : Value} : ri (rt_P sc fm) 47 28 (.aload_n 0) (29) := ⟨(by decide +kernel : rt_xt 47 28 = none), (by decide +kernel : rt_cd 47 28 = some (.aload_n 0)), rfl⟩
theorem i_47_29 {sc : Nat × (Nat → Int32)} {fm : Value} : ri (rt_P sc fm) 47 29 (.getfield 46) (32) := ⟨(by decide +kernel : rt_xt 47 29 = none), (by decide +kernel : rt_cd 47 29 = some (.getfield 46)), rfl⟩
theorem i_47_32 {sc : Nat × (Nat → Int32)} {fm : Value} : ri (rt_P sc fm) 47 32 (.ireturn) (33) := ⟨(by decide +kernel : rt_xt 47 32 = none), (by decide +kernel : rt_cd 47 32 = some (.ireturn)), rfl⟩
theorem r_47 {sc : Nat × (Nat → Int32)} {fm : Value} : rx_rt (rt_P sc fm) 47 = (some FieldType.int) := (by decide +kernel : rt_rt 47 = (some FieldType.int))
theorem i_83_8 {sc : Nat × (Nat → Int32)} {fm : Value} : ri (rt_P sc fm) 83 8 (.ireturn) (9) := ⟨(by decide +kernel : rt_xt 83 8 = none), (by decide +kernel : rt_cd 83 8 = some (.ireturn)), rfl⟩
theorem r_83 {sc : Nat × (Nat → Int32)} {fm : Value} : rx_rt (rt_P sc fm) 83 = (some FieldType.int) := (by decide +kernel : rt_rt 83 = (some FieldType.int))
theorem i_0_1111 {sc : Nat × (Nat → Int32)} {fm : Value} : ri (rt_P sc fm) 0 1111 (.aload_n 2) (1112) := ⟨(by decide +kernel : rt_xt 0 1111 = none), (by decide +kernel : rt_cd 0 1111 = some (.aload_n 2)), rfl⟩
theorem i_0_1112 {sc : Nat × (Nat → Int32)} {fm : Value} : ri (rt_P sc fm) 0 1112 (.aload_n 0) (1113) := ⟨(by decide +kernel : rt_xt 0 1112 = none), (by decide +kernel : rt_cd 0 1112 = some (.aload_n 0)), rfl⟩
theorem i_0_1113 {sc : Nat × (Nat → Int32)} {fm : Value} : ri (rt_P sc fm) 0 1113 (.iload 4) (1115) := ⟨(by decide +kernel : rt_xt 0 1113 = none), (by decide +kernel : rt_cd 0 1113 = some (.iload 4)), rfl⟩
theorem i_0_1115 {sc : Nat × (Nat → Int32)} {fm : Value} : ri (rt_P sc fm) 0 1115 (.iconst 1) (1116) := ⟨(by decide +kernel : rt_xt 0 1115 = none), (by decide +kernel : rt_cd 0 1115 = some (.iconst 1)), rfl⟩
theorem i_0_1116 {sc : Nat × (Nat → Int32)} {fm : Value} : ri (rt_P sc fm) 0 1116 (.iadd) (1117) := ⟨(by decide +kernel : rt_xt 0 1116 = none), (by decide +kernel : rt_cd 0 1116 = some (.iadd)), rfl⟩
theorem i_0_1117 {sc : Nat × (Nat → Int32)} {fm : Value} : ri (rt_P sc fm) 0 1117 (.iaload) (1118) := ⟨(by decide +kernel : rt_xt 0 1117 = none), (by decide +kernel : rt_cd 0 1117 = some (.iaload)), rfl⟩
theorem i_0_1118 {sc : Nat × (Nat → Int32)} {fm : Value} : ri (rt_P sc fm) 0 1118 (.invokevirtual 150) (1121) := ⟨(by decide +kernel : rt_xt 0 1118 = none), (by decide +kernel : rt_cd 0 1118 = some (.invokevirtual 150)), rfl⟩
theorem c_0_150 {sc : Nat × (Nat → Int32)} {fm : Value} : rx_ct (rt_P sc fm) 0 150 = some (0, 137, 1) := (by decide +kernel : rt_ct 0 150 = some (0, 137, 1))
theorem a_15_137 {sc : Nat × (Nat → Int32)} {fm : Value} : rz_cn 15 (rx_yn (rt_P sc fm) 137).cls = true := (by decide +kernel : rz_cn 15 (rt_yn 137).cls = true)
theorem i_137_0 {sc : Nat × (Nat → Int32)} {fm : Value} : ri (rt_P sc fm) 137 0 (.aload_n 0) (1) := ⟨(by decide +kernel : rt_xt 137 0 = none), (by decide +kernel : rt_cd 137 0 = some (.aload_n 0)), rfl⟩
theorem i_137_1 {sc : Nat × (Nat → Int32)} {fm : Value} : ri (rt_P sc fm) 137 1 (.iconst 0) (2) := ⟨(by decide +kernel : rt_xt 137 1 = none), (by decide +kernel : rt_cd 137 1 = some (.iconst 0)), rfl⟩
theorem i_137_2 {sc : Nat × (Nat → Int32)} {fm : Value} : ri (rt_P sc fm) 137 2 (.putfield 356) (5) := ⟨(by decide +kernel : rt_xt 137 2 = none), (by decide +kernel : rt_cd 137 2 = some (.putfield 356)), rfl⟩
theorem p_137_356 {sc : Nat × (Nat → Int32)} {fm : Value} : rx_pt (rt_P sc fm) 137 356 = some (15, 0, .int) := (by decide +kernel : rt_pt 137 356 = some (15, 0, .int))
theorem i_137_5 {sc : Nat × (Nat → Int32)} {fm : Value} : ri (rt_P sc fm) 137 5 (.aload_n 0) (6) := ⟨(by decide +kernel : rt_xt 137 5 = none), (by decide +kernel : rt_cd 137 5 = some (.aload_n 0)), rfl⟩
theorem i_137_6 {sc : Nat × (Nat → Int32)} {fm : Value} : ri (rt_P sc fm) 137 6 (.getfield 910) (9) := ⟨(by decide +kernel : rt_xt 137 6 = none), (by decide +kernel : rt_cd 137 6 = some (.getfield 910)), rfl⟩
theorem f_137_910 {sc : Nat × (Nat → Int32)} {fm : Value} : rx_ft (rt_P sc fm) 137 910 = some (15, 110) := (by decide +kernel : rt_ft 137 910 = some (15, 110))
theorem i_137_9 {sc : Nat × (Nat → Int32)} {fm : Value} : ri (rt_P sc fm) 137 9 (.bipush 64) (11) := ⟨(by decide +kernel : rt_xt 137 9 = none), (by decide +kernel : rt_cd 137 9 = some (.bipush 64)), rfl⟩
theorem i_137_11 {sc : Nat × (Nat → Int32)} {fm : Value} : ri (rt_P sc fm) 137 11 (.if_icmp .ne 5) (14) := ⟨(by decide +kernel : rt_xt 137 11 = none), (by decide +kernel : rt_cd 137 11 = some (.if_icmp .ne 5)), rfl⟩
theorem i_137_16 {sc : Nat × (Nat → Int32)} {fm : Value} : ri (rt_P sc fm) 137 16 (.aload_n 0) (17) := ⟨(by decide +kernel : rt_xt 137 16 = none), (by decide +kernel : rt_cd 137 16 = some (.aload_n 0)), rfl⟩
theorem i_137_17 {sc : Nat × (Nat → Int32)} {fm : Value} : ri (rt_P sc fm) 137 17 (.getfield 314) (20) := ⟨(by decide +kernel : rt_xt 137 17 = none), (by decide +kernel : rt_cd 137 17 = some (.getfield 314)), rfl⟩
theorem f_137_314 {sc : Nat × (Nat → Int32)} {fm : Value} : rx_ft (rt_P sc fm) 137 314 = some (15, 109) := (by decide +kernel : rt_ft 137 314 = some (15, 109))
theorem i_137_20 {sc : Nat × (Nat → Int32)} {fm : Value} : ri (rt_P sc fm) 137 20 (.aload_n 0) (21) := ⟨(by decide +kernel : rt_xt 137 20 = none), (by decide +kernel : rt_cd 137 20 = some (.aload_n 0)), rfl⟩
theorem i_137_21 {sc : Nat × (Nat → Int32)} {fm : Value} : ri (rt_P sc fm) 137 21 (.getfield 910) (24) := ⟨(by decide +kernel : rt_xt 137 21 = none), (by decide +kernel : rt_cd 137 21 = some (.getfield 910)), rfl⟩
theorem i_137_24 {sc : Nat × (Nat → Int32)} {fm : Value} : ri (rt_P sc fm) 137 24 (.iload_n 1) (25) := ⟨(by decide +kernel : rt_xt 137 24 = none), (by decide +kernel : rt_cd 137 24 = some (.iload_n 1)), rfl⟩
theorem i_137_25 {sc : Nat × (Nat → Int32)} {fm : Value} : ri (rt_P sc fm) 137 25 (.iastore) (26) := ⟨(by decide +kernel : rt_xt 137 25 = none), (by decide +kernel : rt_cd 137 25 = some (.iastore)), rfl⟩
theorem i_137_26 {sc : Nat × (Nat → Int32)} {fm : Value} : ri (rt_P sc fm) 137 26 (.aload_n 0) (27) := ⟨(by decide +kernel : rt_xt 137 26 = none), (by decide +kernel : rt_cd 137 26 = some (.aload_n 0)), rfl⟩
theorem i_137_27 {sc : Nat × (Nat → Int32)} {fm : Value} : ri (rt_P sc fm) 137 27 (.dup) (28) := ⟨(by decide +kernel : rt_xt 137 27 = none), (by decide +kernel : rt_cd 137 27 = some (.dup)), rfl⟩
theorem i_137_28 {sc : Nat × (Nat → Int32)} {fm : Value} : ri (rt_P sc fm) 137 28 (.getfield 910) (31) := ⟨(by decide +kernel : rt_xt 137 28 = none), (by decide +kernel : rt_cd 137 28 = some (.getfield 910)), rfl⟩
theorem i_137_31 {sc : Nat × (Nat → Int32)} {fm : Value} : ri (rt_P sc fm) 137 31 (.iconst 1) (32) := ⟨(by decide +kernel : rt_xt 137 31 = none), (by decide +kernel : rt_cd 137 31 = some (.iconst 1)), rfl⟩
theorem i_137_32 {sc : Nat × (Nat → Int32)} {fm : Value} : ri (rt_P sc fm) 137 32 (.iadd) (33) := ⟨(by decide +kernel : rt_xt 137 32 = none), (by decide +kernel : rt_cd 137 32 = some (.iadd)), rfl⟩
theorem i_137_33 {sc : Nat × (Nat → Int32)} {fm : Value} : ri (rt_P sc fm) 137 33 (.putfield 910) (36) := ⟨(by decide +kernel : rt_xt 137 33 = none), (by decide +kernel : rt_cd 137 33 = some (.putfield 910)), rfl⟩
theorem p_137_910 {sc : Nat × (Nat → Int32)} {fm : Value} : rx_pt (rt_P sc fm) 137 910 = some (15, 110, .int) := (by decide +kernel : rt_pt 137 910 = some (15, 110, .int))
theorem i_137_36 {sc : Nat × (Nat → Int32)} {fm : Value} : ri (rt_P sc fm) 137 36 (.aload_n 0) (37) := ⟨(by decide +kernel : rt_xt 137 36 = none), (by decide +kernel : rt_cd 137 36 = some (.aload_n 0)), rfl⟩
theorem i_137_37 {sc : Nat × (Nat → Int32)} {fm : Value} : ri (rt_P sc fm) 137 37 (.getfield 910) (40) := ⟨(by decide +kernel : rt_xt 137 37 = none), (by decide +kernel : rt_cd 137 37 = some (.getfield 910)), rfl⟩
theorem i_137_40 {sc : Nat × (Nat → Int32)} {fm : Value} : ri (rt_P sc fm) 137 40 (.ireturn) (41) := ⟨(by decide +kernel : rt_xt 137 40 = none), (by decide +kernel : rt_cd 137 40 = some (.ireturn)), rfl⟩
theorem r_137 {sc : Nat × (Nat → Int32)} {fm : Value} : rx_rt (rt_P sc fm) 137 = (some FieldType.int) := (by decide +kernel : rt_rt 137 = (some FieldType.int))
theorem i_0_1121 {sc : Nat × (Nat → Int32)} {fm : Value} : ri (rt_P sc fm) 0 1121 (.if_icmp .eq 213) (1124) := ⟨(by decide +kernel : rt_xt 0 1121 = none), (by decide +kernel : rt_cd 0 1121 = some (.if_icmp .eq 213)), rfl⟩
theorem i_0_1126 {sc : Nat × (Nat → Int32)} {fm : Value} : ri (rt_P sc fm) 0 1126 (.aload_n 1) (1127) := ⟨(by decide +kernel : rt_xt 0 1126 = none), (by decide +kernel : rt_cd 0 1126 = some (.aload_n 1)), rfl⟩
theorem i_0_1127 {sc : Nat × (Nat → Int32)} {fm : Value} : ri (rt_P sc fm) 0 1127 (.aload_n 0) (1128) := ⟨(by decide +kernel : rt_xt 0 1127 = none), (by decide +kernel : rt_cd 0 1127 = some (.aload_n 0)), rfl⟩
theorem i_0_1128 {sc : Nat × (Nat → Int32)} {fm : Value} : ri (rt_P sc fm) 0 1128 (.iload 4) (1130) := ⟨(by decide +kernel : rt_xt 0 1128 = none), (by decide +kernel : rt_cd 0 1128 = some (.iload 4)), rfl⟩
theorem i_0_1130 {sc : Nat × (Nat → Int32)} {fm : Value} : ri (rt_P sc fm) 0 1130 (.iconst 1) (1131) := ⟨(by decide +kernel : rt_xt 0 1130 = none), (by decide +kernel : rt_cd 0 1130 = some (.iconst 1)), rfl⟩
theorem i_0_1131 {sc : Nat × (Nat → Int32)} {fm : Value} : ri (rt_P sc fm) 0 1131 (.iadd) (1132) := ⟨(by decide +kernel : rt_xt 0 1131 = none), (by decide +kernel : rt_cd 0 1131 = some (.iadd)), rfl⟩
theorem i_0_1132 {sc : Nat × (Nat → Int32)} {fm : Value} : ri (rt_P sc fm) 0 1132 (.iaload) (1133) := ⟨(by decide +kernel : rt_xt 0 1132 = none), (by decide +kernel : rt_cd 0 1132 = some (.iaload)), rfl⟩
theorem i_0_1133 {sc : Nat × (Nat → Int32)} {fm : Value} : ri (rt_P sc fm) 0 1133 (.aload_n 0) (1134) := ⟨(by decide +kernel : rt_xt 0 1133 = none), (by decide +kernel : rt_cd 0 1133 = some (.aload_n 0)), rfl⟩
theorem i_0_1134 {sc : Nat × (Nat → Int32)} {fm : Value} : ri (rt_P sc fm) 0 1134 (.iload 4) (1136) := ⟨(by decide +kernel : rt_xt 0 1134 = none), (by decide +kernel : rt_cd 0 1134 = some (.iload 4)), rfl⟩
theorem i_0_1136 {sc : Nat × (Nat → Int32)} {fm : Value} : ri (rt_P sc fm) 0 1136 (.iconst 2) (1137) := ⟨(by decide +kernel : rt_xt 0 1136 = none), (by decide +kernel : rt_cd 0 1136 = some (.iconst 2)), rfl⟩
theorem i_0_1137 {sc : Nat × (Nat → Int32)} {fm : Value} : ri (rt_P sc fm) 0 1137 (.iadd) (1138) := ⟨(by decide +kernel : rt_xt 0 1137 = none), (by decide +kernel : rt_cd 0 1137 = some (.iadd)), rfl⟩
theorem i_0_1138 {sc : Nat × (Nat → Int32)} {fm : Value} : ri (rt_P sc fm) 0 1138 (.iaload) (1139) := ⟨(by decide +kernel : rt_xt 0 1138 = none), (by decide +kernel : rt_cd 0 1138 = some (.iaload)), rfl⟩
theorem i_0_1139 {sc : Nat × (Nat → Int32)} {fm : Value} : ri (rt_P sc fm) 0 1139 (.ifCond .eq 7) (1142) := ⟨(by decide +kernel : rt_xt 0 1139 = none), (by decide +kernel : rt_cd 0 1139 = some (.ifCond .eq 7)), rfl⟩
theorem i_0_1146 {sc : Nat × (Nat → Int32)} {fm : Value} : ri (rt_P sc fm) 0 1146 (.iconst 0) (1147) := ⟨(by decide +kernel : rt_xt 0 1146 = none), (by decide +kernel : rt_cd 0 1146 = some (.iconst 0)), rfl⟩
theorem i_0_1147 {sc : Nat × (Nat → Int32)} {fm : Value} : ri (rt_P sc fm) 0 1147 (.invokestatic 151) (1150) := ⟨(by decide +kernel : rt_xt 0 1147 = none), (by decide +kernel : rt_cd 0 1147 = some (.invokestatic 151)), rfl⟩
theorem c_0_151 {sc : Nat × (Nat → Int32)} {fm : Value} : rx_ct (rt_P sc fm) 0 151 = some (3, 17, 3) := (by decide +kernel : rt_ct 0 151 = some (3, 17, 3))
theorem i_17_0 {sc : Nat × (Nat → Int32)} {fm : Value} : ri (rt_P sc fm) 17 0 (.aload_n 0) (1) := ⟨(by decide +kernel : rt_xt 17 0 = none), (by decide +kernel : rt_cd 17 0 = some (.aload_n 0)), rfl⟩
theorem i_17_1 {sc : Nat × (Nat → Int32)} {fm : Value} : ri (rt_P sc fm) 17 1 (.iload_n 1) (2) := ⟨(by decide +kernel : rt_xt 17 1 = none), (by decide +kernel : rt_cd 17 1 = some (.iload_n 1)), rfl⟩
theorem i_17_2 {sc : Nat × (Nat → Int32)} {fm : Value} : ri (rt_P sc fm) 17 2 (.iload_n 2) (3) := ⟨(by decide +kernel : rt_xt 17 2 = none), (by decide +kernel : rt_cd 17 2 = some (.iload_n 2)), rfl⟩
theorem i_17_3 {sc : Nat × (Nat → Int32)} {fm : Value} : ri (rt_P sc fm) 17 3 (.invokevirtual 15) (6) := ⟨(by decide +kernel : rt_xt 17 3 = none), (by decide +kernel : rt_cd 17 3 = some (.invokevirtual 15)), rfl⟩
theorem c_17_15 {sc : Nat × (Nat → Int32)} {fm : Value} : rx_ct (rt_P sc fm) 17 15 = some (0, 84, 2) := (by decide +kernel : rt_ct 17 15 = some (0, 84, 2))
theorem a_14_84 {sc : Nat × (Nat → Int32)} {fm : Value} : rz_cn 14 (rx_yn (rt_P sc fm) 84).cls = true := (by decide +kernel : rz_cn 14 (rt_yn 84).cls = true)
theorem i_84_0 {sc : Nat × (Nat → Int32)} {fm : Value} : ri (rt_P sc fm) 84 0 (.aload_n 0) (1) := ⟨(by decide +kernel : rt_xt 84 0 = none), (by decide +kernel : rt_cd 84 0 = some (.aload_n 0)), rfl⟩
theorem i_84_1 {sc : Nat × (Nat → Int32)} {fm : Value} : ri (rt_P sc fm) 84 1 (.getfield 19) (4) := ⟨(by decide +kernel : rt_xt 84 1 = none), (by decide +kernel : rt_cd 84 1 = some (.getfield 19)), rfl⟩
theorem f_84_19 {sc : Nat × (Nat → Int32)} {fm : Value} : rx_ft (rt_P sc fm) 84 19 = some (14, 1) := (by decide +kernel : rt_ft 84 19 = some (14, 1))
theorem i_84_4 {sc : Nat × (Nat → Int32)} {fm : Value} : ri (rt_P sc fm) 84 4 (.getfield 126) (7) := ⟨(by decide +kernel : rt_xt 84 4 = none), (by decide +kernel : rt_cd 84 4 = some (.getfield 126)), rfl⟩
theorem f_84_126 {sc : Nat × (Nat → Int32)} {fm : Value} : rx_ft (rt_P sc fm) 84 126 = some (9, 0) := (by decide +kernel : rt_ft 84 126 = some (9, 0))
theorem i_84_7 {sc : Nat × (Nat → Int32)} {fm : Value} : ri (rt_P sc fm) 84 7 (.ifCond .ne 14) (10) := ⟨(by decide +kernel : rt_xt 84 7 = none), (by decide +kernel : rt_cd 84 7 = some (.ifCond .ne 14)), rfl⟩
theorem x_84_10 {sc : Nat × (Nat → Int32)} {fm : Value} : rx_xt (rt_P sc fm) 84 10 = some ("java/lang/IllegalStateException", 5, 82) := (by decide +kernel : rt_xt 84 10 = some ("java/lang/IllegalStateException", 5, 82))
theorem h_17_3_31 {sc : Nat × (Nat → Int32)} {fm : Value} : rx_ht (rt_P sc fm) 17 3 "java/lang/IllegalStateException" = some (9, 3) := (by decide +kernel : rt_ht 17 3 "java/lang/IllegalStateException" = some (9, 3))
theorem i_17_10 {sc : Nat × (Nat → Int32)} {fm : Value} : ri (rt_P sc fm) 17 10 (.iconst 1) (11) := ⟨(by decide +kernel : rt_xt 17 10 = none), (by decide +kernel : rt_cd 17 10 = some (.iconst 1)), rfl⟩
theorem i_17_11 {sc : Nat × (Nat → Int32)} {fm : Value} : ri (rt_P sc fm) 17 11 (.ireturn) (12) := ⟨(by decide +kernel : rt_xt 17 11 = none), (by decide +kernel : rt_cd 17 11 = some (.ireturn)), rfl⟩
theorem r_17 {sc : Nat × (Nat → Int32)} {fm : Value} : rx_rt (rt_P sc fm) 17 = (some FieldType.int) := (by decide +kernel : rt_rt 17 = (some FieldType.int))
theorem i_0_1150 {sc : Nat × (Nat → Int32)} {fm : Value} : ri (rt_P sc fm) 0 1150 (.istore 5) (1152) := ⟨(by decide +kernel : rt_xt 0 1150 = none), (by decide +kernel : rt_cd 0 1150 = some (.istore 5)), rfl⟩
theorem i_0_1152 {sc : Nat × (Nat → Int32)} {fm : Value} : ri (rt_P sc fm) 0 1152 (.aload_n 2) (1153) := ⟨(by decide +kernel : rt_xt 0 1152 = none), (by decide +kernel : rt_cd 0 1152 = some (.aload_n 2)), rfl⟩
theorem i_0_1153 {sc : Nat × (Nat → Int32)} {fm : Value} : ri (rt_P sc fm) 0 1153 (.aload_n 0) (1154) := ⟨(by decide +kernel : rt_xt 0 1153 = none), (by decide +kernel : rt_cd 0 1153 = some (.aload_n 0)), rfl⟩
theorem i_0_1154 {sc : Nat × (Nat → Int32)} {fm : Value} : ri (rt_P sc fm) 0 1154 (.iload 4) (1156) := ⟨(by decide +kernel : rt_xt 0 1154 = none), (by decide +kernel : rt_cd 0 1154 = some (.iload 4)), rfl⟩
theorem i_0_1156 {sc : Nat × (Nat → Int32)} {fm : Value} : ri (rt_P sc fm) 0 1156 (.iconst 1) (1157) := ⟨(by decide +kernel : rt_xt 0 1156 = none), (by decide +kernel : rt_cd 0 1156 = some (.iconst 1)), rfl⟩
theorem i_0_1157 {sc : Nat × (Nat → Int32)} {fm : Value} : ri (rt_P sc fm) 0 1157 (.iadd) (1158) := ⟨(by decide +kernel : rt_xt 0 1157 = none), (by decide +kernel : rt_cd 0 1157 = some (.iadd)), rfl⟩
theorem i_0_1158 {sc : Nat × (Nat → Int32)} {fm : Value} : ri (rt_P sc fm) 0 1158 (.iaload) (1159) := ⟨(by decide +kernel : rt_xt 0 1158 = none), (by decide +kernel : rt_cd 0 1158 = some (.iaload)), rfl⟩
theorem i_0_1159 {sc : Nat × (Nat → Int32)} {fm : Value} : ri (rt_P sc fm) 0 1159 (.aload_n 0) (1160) := ⟨(by decide +kernel : rt_xt 0 1159 = none), (by decide +kernel : rt_cd 0 1159 = some (.aload_n 0)), rfl⟩
theorem i_0_1160 {sc : Nat × (Nat → Int32)} {fm : Value} : ri (rt_P sc fm) 0 1160 (.iload 4) (1162) := ⟨(by decide +kernel : rt_xt 0 1160 = none), (by decide +kernel : rt_cd 0 1160 = some (.iload 4)), rfl⟩
theorem i_0_1162 {sc : Nat × (Nat → Int32)} {fm : Value} : ri (rt_P sc fm) 0 1162 (.iconst 2) (1163) := ⟨(by decide +kernel : rt_xt 0 1162 = none), (by decide +kernel : rt_cd 0 1162 = some (.iconst 2)), rfl⟩
theorem i_0_1163 {sc : Nat × (Nat → Int32)} {fm : Value} : ri (rt_P sc fm) 0 1163 (.iadd) (1164) := ⟨(by decide +kernel : rt_xt 0 1163 = none), (by decide +kernel : rt_cd 0 1163 = some (.iadd)), rfl⟩
theorem i_0_1164 {sc : Nat × (Nat → Int32)} {fm : Value} : ri (rt_P sc fm) 0 1164 (.iaload) (1165) := ⟨(by decide +kernel : rt_xt 0 1164 = none), (by decide +kernel : rt_cd 0 1164 = some (.iaload)), rfl⟩
theorem i_0_1165 {sc : Nat × (Nat → Int32)} {fm : Value} : ri (rt_P sc fm) 0 1165 (.ifCond .eq 7) (1168) := ⟨(by decide +kernel : rt_xt 0 1165 = none), (by decide +kernel : rt_cd 0 1165 = some (.ifCond .eq 7)), rfl⟩
theorem i_0_1172 {sc : Nat × (Nat → Int32)} {fm : Value} : ri (rt_P sc fm) 0 1172 (.iconst 0) (1173) := ⟨(by decide +kernel : rt_xt 0 1172 = none), (by decide +kernel : rt_cd 0 1172 = some (.iconst 0)), rfl⟩
theorem i_0_1173 {sc : Nat × (Nat → Int32)} {fm : Value} : ri (rt_P sc fm) 0 1173 (.invokevirtual 154) (1176) := ⟨(by decide +kernel : rt_xt 0 1173 = none), (by decide +kernel : rt_cd 0 1173 = some (.invokevirtual 154)), rfl⟩
theorem c_0_154 {sc : Nat × (Nat → Int32)} {fm : Value} : rx_ct (rt_P sc fm) 0 154 = some (0, 139, 2) := (by decide +kernel : rt_ct 0 154 = some (0, 139, 2))
theorem a_15_139 {sc : Nat × (Nat → Int32)} {fm : Value} : rz_cn 15 (rx_yn (rt_P sc fm) 139).cls = true := (by decide +kernel : rz_cn 15 (rt_yn 139).cls = true)
theorem i_139_0 {sc : Nat × (Nat → Int32)} {fm : Value} : ri (rt_P sc fm) 139 0 (.aload_n 0) (1) := ⟨(by decide +kernel : rt_xt 139 0 = none), (by decide +kernel : rt_cd 139 0 = some (.aload_n 0)), rfl⟩
theorem i_139_1 {sc : Nat × (Nat → Int32)} {fm : Value} : ri (rt_P sc fm) 139 1 (.aload_n 0) (2) := ⟨(by decide +kernel : rt_xt 139 1 = none), (by decide +kernel : rt_cd 139 1 = some (.aload_n 0)), rfl⟩
theorem i_139_2 {sc : Nat × (Nat → Int32)} {fm : Value} : ri (rt_P sc fm) 139 2 (.getfield 634) (5) := ⟨(by decide +kernel : rt_xt 139 2 = none), (by decide +kernel : rt_cd 139 2 = some (.getfield 634)), rfl⟩
theorem f_139_634 {sc : Nat × (Nat → Int32)} {fm : Value} : rx_ft (rt_P sc fm) 139 634 = some (15, 14) := (by decide +kernel : rt_ft 139 634 = some (15, 14))
theorem i_139_5 {sc : Nat × (Nat → Int32)} {fm : Value} : ri (rt_P sc fm) 139 5 (.ifCond .ne 7) (8) := ⟨(by decide +kernel : rt_xt 139 5 = none), (by decide +kernel : rt_cd 139 5 = some (.ifCond .ne 7)), rfl⟩
theorem i_139_8 {sc : Nat × (Nat → Int32)} {fm : Value} : ri (rt_P sc fm) 139 8 (.iconst 1) (9) := ⟨(by decide +kernel : rt_xt 139 8 = none), (by decide +kernel : rt_cd 139 8 = some (.iconst 1)), rfl⟩
theorem i_139_9 {sc : Nat × (Nat → Int32)} {fm : Value} : ri (rt_P sc fm) 139 9 (.goto 16) (12) := ⟨(by decide +kernel : rt_xt 139 9 = none), (by decide +kernel : rt_cd 139 9 = some (.goto 16)), rfl⟩
theorem i_139_25 {sc : Nat × (Nat → Int32)} {fm : Value} : ri (rt_P sc fm) 139 25 (.putfield 356) (28) := ⟨(by decide +kernel : rt_xt 139 25 = none), (by decide +kernel : rt_cd 139 25 = some (.putfield 356)), rfl⟩
theorem p_139_356 {sc : Nat × (Nat → Int32)} {fm : Value} : rx_pt (rt_P sc fm) 139 356 = some (15, 0, .int) := (by decide +kernel : rt_pt 139 356 = some (15, 0, .int))
theorem i_139_28 {sc : Nat × (Nat → Int32)} {fm : Value} : ri (rt_P sc fm) 139 28 (.aload_n 0) (29) := ⟨(by decide +kernel : rt_xt 139 28 = none), (by decide +kernel : rt_cd 139 28 = some (.aload_n 0)), rfl⟩
theorem i_139_29 {sc : Nat × (Nat → Int32)} {fm : Value} : ri (rt_P sc fm) 139 29 (.getfield 356) (32) := ⟨(by decide +kernel : rt_xt 139 29 = none), (by decide +kernel : rt_cd 139 29 = some (.getfield 356)), rfl⟩
theorem f_139_356 {sc : Nat × (Nat → Int32)} {fm : Value} : rx_ft (rt_P sc fm) 139 356 = some (15, 0) := (by decide +kernel : rt_ft 139 356 = some (15, 0))
theorem i_139_32 {sc : Nat × (Nat → Int32)} {fm : Value} : ri (rt_P sc fm) 139 32 (.ifCond .le 4) (35) := ⟨(by decide +kernel : rt_xt 139 32 = none), (by decide +kernel : rt_cd 139 32 = some (.ifCond .le 4)), rfl⟩
theorem i_139_35 {sc : Nat × (Nat → Int32)} {fm : Value} : ri (rt_P sc fm) 139 35 (.return_) (36) := ⟨(by decide +kernel : rt_xt 139 35 = none), (by decide +kernel : rt_cd 139 35 = some (.return_)), rfl⟩
theorem r_139 {sc : Nat × (Nat → Int32)} {fm : Value} : rx_rt (rt_P sc fm) 139 = none := (by decide +kernel : rt_rt 139 = none)
theorem i_0_1176 {sc : Nat × (Nat → Int32)} {fm : Value} : ri (rt_P sc fm) 0 1176 (.aload_n 2) (1177) := ⟨(by decide +kernel : rt_xt 0 1176 = none), (by decide +kernel : rt_cd 0 1176 = some (.aload_n 2)), rfl⟩
theorem i_0_1177 {sc : Nat × (Nat → Int32)} {fm : Value} : ri (rt_P sc fm) 0 1177 (.invokevirtual 50) (1180) := ⟨(by decide +kernel : rt_xt 0 1177 = none), (by decide +kernel : rt_cd 0 1177 = some (.invokevirtual 50)), rfl⟩
theorem i_0_1180 {sc : Nat × (Nat → Int32)} {fm : Value} : ri (rt_P sc fm) 0 1180 (.iload 5) (1182) := ⟨(by decide +kernel : rt_xt 0 1180 = none), (by decide +kernel : rt_cd 0 1180 = some (.iload 5)), rfl⟩
theorem i_0_1182 {sc : Nat × (Nat → Int32)} {fm : Value} : ri (rt_P sc fm) 0 1182 (.if_icmp .eq 5) (1185) := ⟨(by decide +kernel : rt_xt 0 1182 = none), (by decide +kernel : rt_cd 0 1182 = some (.if_icmp .eq 5)), rfl⟩
theorem i_0_1187 {sc : Nat × (Nat → Int32)} {fm : Value} : ri (rt_P sc fm) 0 1187 (.goto 147) (1190) := ⟨(by decide +kernel : rt_xt 0 1187 = none), (by decide +kernel : rt_cd 0 1187 = some (.goto 147)), rfl⟩
theorem i_0_1142 {sc : Nat × (Nat → Int32)} {fm : Value} : ri (rt_P sc fm) 0 1142 (.iconst 1) (1143) := ⟨(by decide +kernel : rt_xt 0 1142 = none), (by decide +kernel : rt_cd 0 1142 = some (.iconst 1)), rfl⟩
theorem i_0_1143 {sc : Nat × (Nat → Int32)} {fm : Value} : ri (rt_P sc fm) 0 1143 (.goto 4) (1146) := ⟨(by decide +kernel : rt_xt 0 1143 = none), (by decide +kernel : rt_cd 0 1143 = some (.goto 4)), rfl⟩
theorem i_0_1168 {sc : Nat × (Nat → Int32)} {fm : Value} : ri (rt_P sc fm) 0 1168 (.iconst 1) (1169) := ⟨(by decide +kernel : rt_xt 0 1168 = none), (by decide +kernel : rt_cd 0 1168 = some (.iconst 1)), rfl⟩
theorem i_0_1169 {sc : Nat × (Nat → Int32)} {fm : Value} : ri (rt_P sc fm) 0 1169 (.goto 4) (1172) := ⟨(by decide +kernel : rt_xt 0 1169 = none), (by decide +kernel : rt_cd 0 1169 = some (.goto 4)), rfl⟩
theorem i_0_1190 {sc : Nat × (Nat → Int32)} {fm : Value} : ri (rt_P sc fm) 0 1190 (.aload_n 1) (1191) := ⟨(by decide +kernel : rt_xt 0 1190 = none), (by decide +kernel : rt_cd 0 1190 = some (.aload_n 1)), rfl⟩
theorem i_0_1191 {sc : Nat × (Nat → Int32)} {fm : Value} : ri (rt_P sc fm) 0 1191 (.aload_n 0) (1192) := ⟨(by decide +kernel : rt_xt 0 1191 = none), (by decide +kernel : rt_cd 0 1191 = some (.aload_n 0)), rfl⟩
theorem i_0_1192 {sc : Nat × (Nat → Int32)} {fm : Value} : ri (rt_P sc fm) 0 1192 (.iload 4) (1194) := ⟨(by decide +kernel : rt_xt 0 1192 = none), (by decide +kernel : rt_cd 0 1192 = some (.iload 4)), rfl⟩
theorem i_0_1194 {sc : Nat × (Nat → Int32)} {fm : Value} : ri (rt_P sc fm) 0 1194 (.iconst 1) (1195) := ⟨(by decide +kernel : rt_xt 0 1194 = none), (by decide +kernel : rt_cd 0 1194 = some (.iconst 1)), rfl⟩
theorem i_0_1195 {sc : Nat × (Nat → Int32)} {fm : Value} : ri (rt_P sc fm) 0 1195 (.iadd) (1196) := ⟨(by decide +kernel : rt_xt 0 1195 = none), (by decide +kernel : rt_cd 0 1195 = some (.iadd)), rfl⟩
theorem i_0_1196 {sc : Nat × (Nat → Int32)} {fm : Value} : ri (rt_P sc fm) 0 1196 (.iaload) (1197) := ⟨(by decide +kernel : rt_xt 0 1196 = none), (by decide +kernel : rt_cd 0 1196 = some (.iaload)), rfl⟩
theorem i_0_1197 {sc : Nat × (Nat → Int32)} {fm : Value} : ri (rt_P sc fm) 0 1197 (.aload_n 3) (1198) := ⟨(by decide +kernel : rt_xt 0 1197 = none), (by decide +kernel : rt_cd 0 1197 = some (.aload_n 3)), rfl⟩
theorem i_0_1198 {sc : Nat × (Nat → Int32)} {fm : Value} : ri (rt_P sc fm) 0 1198 (.invokestatic 155) (1201) := ⟨(by decide +kernel : rt_xt 0 1198 = none), (by decide +kernel : rt_cd 0 1198 = some (.invokestatic 155)), rfl⟩
theorem c_0_155 {sc : Nat × (Nat → Int32)} {fm : Value} : rx_ct (rt_P sc fm) 0 155 = some (3, 18, 3) := (by decide +kernel : rt_ct 0 155 = some (3, 18, 3))
theorem i_18_0 {sc : Nat × (Nat → Int32)} {fm : Value} : ri (rt_P sc fm) 18 0 (.aload_n 2) (1) := ⟨(by decide +kernel : rt_xt 18 0 = none), (by decide +kernel : rt_cd 18 0 = some (.aload_n 2)), rfl⟩
theorem i_18_1 {sc : Nat × (Nat → Int32)} {fm : Value} : ri (rt_P sc fm) 18 1 (.iconst 0) (2) := ⟨(by decide +kernel : rt_xt 18 1 = none), (by decide +kernel : rt_cd 18 1 = some (.iconst 0)), rfl⟩
theorem i_18_2 {sc : Nat × (Nat → Int32)} {fm : Value} : ri (rt_P sc fm) 18 2 (.aload_n 0) (3) := ⟨(by decide +kernel : rt_xt 18 2 = none), (by decide +kernel : rt_cd 18 2 = some (.aload_n 0)), rfl⟩
theorem i_18_3 {sc : Nat × (Nat → Int32)} {fm : Value} : ri (rt_P sc fm) 18 3 (.iload_n 1) (4) := ⟨(by decide +kernel : rt_xt 18 3 = none), (by decide +kernel : rt_cd 18 3 = some (.iload_n 1)), rfl⟩
theorem i_18_4 {sc : Nat × (Nat → Int32)} {fm : Value} : ri (rt_P sc fm) 18 4 (.invokevirtual 23) (7) := ⟨(by decide +kernel : rt_xt 18 4 = none), (by decide +kernel : rt_cd 18 4 = some (.invokevirtual 23)), rfl⟩
theorem c_18_23 {sc : Nat × (Nat → Int32)} {fm : Value} : rx_ct (rt_P sc fm) 18 23 = some (0, 85, 1) := (by decide +kernel : rt_ct 18 23 = some (0, 85, 1))
theorem a_14_85 {sc : Nat × (Nat → Int32)} {fm : Value} : rz_cn 14 (rx_yn (rt_P sc fm) 85).cls = true := (by decide +kernel : rz_cn 14 (rt_yn 85).cls = true)
theorem i_85_0 {sc : Nat × (Nat → Int32)} {fm : Value} : ri (rt_P sc fm) 85 0 (.iload_n 1) (1) := ⟨(by decide +kernel : rt_xt 85 0 = none), (by decide +kernel : rt_cd 85 0 = some (.iload_n 1)), rfl⟩
theorem i_85_1 {sc : Nat × (Nat → Int32)} {fm : Value} : ri (rt_P sc fm) 85 1 (.iconst 1) (2) := ⟨(by decide +kernel : rt_xt 85 1 = none), (by decide +kernel : rt_cd 85 1 = some (.iconst 1)), rfl⟩
theorem i_85_2 {sc : Nat × (Nat → Int32)} {fm : Value} : ri (rt_P sc fm) 85 2 (.if_icmp .lt 10) (5) := ⟨(by decide +kernel : rt_xt 85 2 = none), (by decide +kernel : rt_cd 85 2 = some (.if_icmp .lt 10)), rfl⟩
theorem x_85_12 {sc : Nat × (Nat → Int32)} {fm : Value} : rx_xt (rt_P sc fm) 85 12 = some ("java/lang/IllegalArgumentException", 5, 82) := (by decide +kernel : rt_xt 85 12 = some ("java/lang/IllegalArgumentException", 5, 82))
theorem h_18_4_34 {sc : Nat × (Nat → Int32)} {fm : Value} : rx_ht (rt_P sc fm) 18 4 "java/lang/IllegalArgumentException" = some (12, 3) := (by decide +kernel : rt_ht 18 4 "java/lang/IllegalArgumentException" = some (12, 3))
theorem i_18_13 {sc : Nat × (Nat → Int32)} {fm : Value} : ri (rt_P sc fm) 18 13 (.iconst 1) (14) := ⟨(by decide +kernel : rt_xt 18 13 = none), (by decide +kernel : rt_cd 18 13 = some (.iconst 1)), rfl⟩
theorem i_18_14 {sc : Nat × (Nat → Int32)} {fm : Value} : ri (rt_P sc fm) 18 14 (.ireturn) (15) := ⟨(by decide +kernel : rt_xt 18 14 = none), (by decide +kernel : rt_cd 18 14 = some (.ireturn)), rfl⟩
theorem r_18 {sc : Nat × (Nat → Int32)} {fm : Value} : rx_rt (rt_P sc fm) 18 = (some FieldType.int) := (by decide +kernel : rt_rt 18 = (some FieldType.int))
theorem i_0_1201 {sc : Nat × (Nat → Int32)} {fm : Value} : ri (rt_P sc fm) 0 1201 (.istore 5) (1203) := ⟨(by decide +kernel : rt_xt 0 1201 = none), (by decide +kernel : rt_cd 0 1201 = some (.istore 5)), rfl⟩
theorem i_0_1203 {sc : Nat × (Nat → Int32)} {fm : Value} : ri (rt_P sc fm) 0 1203 (.aload_n 2) (1204) := ⟨(by decide +kernel : rt_xt 0 1203 = none), (by decide +kernel : rt_cd 0 1203 = some (.aload_n 2)), rfl⟩
theorem i_0_1204 {sc : Nat × (Nat → Int32)} {fm : Value} : ri (rt_P sc fm) 0 1204 (.aload_n 0) (1205) := ⟨(by decide +kernel : rt_xt 0 1204 = none), (by decide +kernel : rt_cd 0 1204 = some (.aload_n 0)), rfl⟩
theorem i_0_1205 {sc : Nat × (Nat → Int32)} {fm : Value} : ri (rt_P sc fm) 0 1205 (.iload 4) (1207) := ⟨(by decide +kernel : rt_xt 0 1205 = none), (by decide +kernel : rt_cd 0 1205 = some (.iload 4)), rfl⟩
theorem i_0_1207 {sc : Nat × (Nat → Int32)} {fm : Value} : ri (rt_P sc fm) 0 1207 (.iconst 1) (1208) := ⟨(by decide +kernel : rt_xt 0 1207 = none), (by decide +kernel : rt_cd 0 1207 = some (.iconst 1)), rfl⟩
theorem i_0_1208 {sc : Nat × (Nat → Int32)} {fm : Value} : ri (rt_P sc fm) 0 1208 (.iadd) (1209) := ⟨(by decide +kernel : rt_xt 0 1208 = none), (by decide +kernel : rt_cd 0 1208 = some (.iadd)), rfl⟩
theorem i_0_1209 {sc : Nat × (Nat → Int32)} {fm : Value} : ri (rt_P sc fm) 0 1209 (.iaload) (1210) := ⟨(by decide +kernel : rt_xt 0 1209 = none), (by decide +kernel : rt_cd 0 1209 = some (.iaload)), rfl⟩
theorem i_0_1210 {sc : Nat × (Nat → Int32)} {fm : Value} : ri (rt_P sc fm) 0 1210 (.invokevirtual 158) (1213) := ⟨(by decide +kernel : rt_xt 0 1210 = none), (by decide +kernel : rt_cd 0 1210 = some (.invokevirtual 158)), rfl⟩
theorem c_0_158 {sc : Nat × (Nat → Int32)} {fm : Value} : rx_ct (rt_P sc fm) 0 158 = some (0, 140, 1) := (by decide +kernel : rt_ct 0 158 = some (0, 140, 1))
theorem a_15_140 {sc : Nat × (Nat → Int32)} {fm : Value} : rz_cn 15 (rx_yn (rt_P sc fm) 140).cls = true := (by decide +kernel : rz_cn 15 (rt_yn 140).cls = true)
theorem i_140_0 {sc : Nat × (Nat → Int32)} {fm : Value} : ri (rt_P sc fm) 140 0 (.aload_n 0) (1) := ⟨(by decide +kernel : rt_xt 140 0 = none), (by decide +kernel : rt_cd 140 0 = some (.aload_n 0)), rfl⟩
theorem i_140_1 {sc : Nat × (Nat → Int32)} {fm : Value} : ri (rt_P sc fm) 140 1 (.iload_n 1) (2) := ⟨(by decide +kernel : rt_xt 140 1 = none), (by decide +kernel : rt_cd 140 1 = some (.iload_n 1)), rfl⟩
theorem i_140_2 {sc : Nat × (Nat → Int32)} {fm : Value} : ri (rt_P sc fm) 140 2 (.iconst 1) (3) := ⟨(by decide +kernel : rt_xt 140 2 = none), (by decide +kernel : rt_cd 140 2 = some (.iconst 1)), rfl⟩
theorem i_140_3 {sc : Nat × (Nat → Int32)} {fm : Value} : ri (rt_P sc fm) 140 3 (.if_icmp .lt 10) (6) := ⟨(by decide +kernel : rt_xt 140 3 = none), (by decide +kernel : rt_cd 140 3 = some (.if_icmp .lt 10)), rfl⟩
theorem i_140_13 {sc : Nat × (Nat → Int32)} {fm : Value} : ri (rt_P sc fm) 140 13 (.iconst 1) (14) := ⟨(by decide +kernel : rt_xt 140 13 = none), (by decide +kernel : rt_cd 140 13 = some (.iconst 1)), rfl⟩
theorem i_140_14 {sc : Nat × (Nat → Int32)} {fm : Value} : ri (rt_P sc fm) 140 14 (.goto 16) (17) := ⟨(by decide +kernel : rt_xt 140 14 = none), (by decide +kernel : rt_cd 140 14 = some (.goto 16)), rfl⟩
theorem i_140_30 {sc : Nat × (Nat → Int32)} {fm : Value} : ri (rt_P sc fm) 140 30 (.putfield 356) (33) := ⟨(by decide +kernel : rt_xt 140 30 = none), (by decide +kernel : rt_cd 140 30 = some (.putfield 356)), rfl⟩
theorem p_140_356 {sc : Nat × (Nat → Int32)} {fm : Value} : rx_pt (rt_P sc fm) 140 356 = some (15, 0, .int) := (by decide +kernel : rt_pt 140 356 = some (15, 0, .int))
theorem i_140_33 {sc : Nat × (Nat → Int32)} {fm : Value} : ri (rt_P sc fm) 140 33 (.aload_n 0) (34) := ⟨(by decide +kernel : rt_xt 140 33 = none), (by decide +kernel : rt_cd 140 33 = some (.aload_n 0)), rfl⟩
theorem i_140_34 {sc : Nat × (Nat → Int32)} {fm : Value} : ri (rt_P sc fm) 140 34 (.getfield 356) (37) := ⟨(by decide +kernel : rt_xt 140 34 = none), (by decide +kernel : rt_cd 140 34 = some (.getfield 356)), rfl⟩
theorem f_140_356 {sc : Nat × (Nat → Int32)} {fm : Value} : rx_ft (rt_P sc fm) 140 356 = some (15, 0) := (by decide +kernel : rt_ft 140 356 = some (15, 0))
theorem i_140_37 {sc : Nat × (Nat → Int32)} {fm : Value} : ri (rt_P sc fm) 140 37 (.ifCond .le 5) (40) := ⟨(by decide +kernel : rt_xt 140 37 = none), (by decide +kernel : rt_cd 140 37 = some (.ifCond .le 5)), rfl⟩
theorem i_140_40 {sc : Nat × (Nat → Int32)} {fm : Value} : ri (rt_P sc fm) 140 40 (.iconst 0) (41) := ⟨(by decide +kernel : rt_xt 140 40 = none), (by decide +kernel : rt_cd 140 40 = some (.iconst 0)), rfl⟩
theorem i_140_41 {sc : Nat × (Nat → Int32)} {fm : Value} : ri (rt_P sc fm) 140 41 (.ireturn) (42) := ⟨(by decide +kernel : rt_xt 140 41 = none), (by decide +kernel : rt_cd 140 41 = some (.ireturn)), rfl⟩
theorem r_140 {sc : Nat × (Nat → Int32)} {fm : Value} : rx_rt (rt_P sc fm) 140 = (some FieldType.int) := (by decide +kernel : rt_rt 140 = (some FieldType.int))
theorem i_0_1213 {sc : Nat × (Nat → Int32)} {fm : Value} : ri (rt_P sc fm) 0 1213 (.istore 6) (1215) := ⟨(by decide +kernel : rt_xt 0 1213 = none), (by decide +kernel : rt_cd 0 1213 = some (.istore 6)), rfl⟩
theorem i_0_1215 {sc : Nat × (Nat → Int32)} {fm : Value} : ri (rt_P sc fm) 0 1215 (.aload_n 2) (1216) := ⟨(by decide +kernel : rt_xt 0 1215 = none), (by decide +kernel : rt_cd 0 1215 = some (.aload_n 2)), rfl⟩
theorem i_0_1216 {sc : Nat × (Nat → Int32)} {fm : Value} : ri (rt_P sc fm) 0 1216 (.invokevirtual 50) (1219) := ⟨(by decide +kernel : rt_xt 0 1216 = none), (by decide +kernel : rt_cd 0 1216 = some (.invokevirtual 50)), rfl⟩
theorem i_0_1219 {sc : Nat × (Nat → Int32)} {fm : Value} : ri (rt_P sc fm) 0 1219 (.iload 5) (1221) := ⟨(by decide +kernel : rt_xt 0 1219 = none), (by decide +kernel : rt_cd 0 1219 = some (.iload 5)), rfl⟩
theorem i_0_1221 {sc : Nat × (Nat → Int32)} {fm : Value} : ri (rt_P sc fm) 0 1221 (.if_icmp .eq 5) (1224) := ⟨(by decide +kernel : rt_xt 0 1221 = none), (by decide +kernel : rt_cd 0 1221 = some (.if_icmp .eq 5)), rfl⟩
theorem i_0_1226 {sc : Nat × (Nat → Int32)} {fm : Value} : ri (rt_P sc fm) 0 1226 (.iload 5) (1228) := ⟨(by decide +kernel : rt_xt 0 1226 = none), (by decide +kernel : rt_cd 0 1226 = some (.iload 5)), rfl⟩
theorem i_0_1228 {sc : Nat × (Nat → Int32)} {fm : Value} : ri (rt_P sc fm) 0 1228 (.ifCond .ne 15) (1231) := ⟨(by decide +kernel : rt_xt 0 1228 = none), (by decide +kernel : rt_cd 0 1228 = some (.ifCond .ne 15)), rfl⟩
theorem i_0_1243 {sc : Nat × (Nat → Int32)} {fm : Value} : ri (rt_P sc fm) 0 1243 (.goto 91) (1246) := ⟨(by decide +kernel : rt_xt 0 1243 = none), (by decide +kernel : rt_cd 0 1243 = some (.goto 91)), rfl⟩
theorem i_85_5 {sc : Nat × (Nat → Int32)} {fm : Value} : ri (rt_P sc fm) 85 5 (.iload_n 1) (6) := ⟨(by decide +kernel : rt_xt 85 5 = none), (by decide +kernel : rt_cd 85 5 = some (.iload_n 1)), rfl⟩
theorem i_85_6 {sc : Nat × (Nat → Int32)} {fm : Value} : ri (rt_P sc fm) 85 6 (.sipush 10000) (9) := ⟨(by decide +kernel : rt_xt 85 6 = none), (by decide +kernel : rt_cd 85 6 = some (.sipush 10000)), rfl⟩
theorem i_85_9 {sc : Nat × (Nat → Int32)} {fm : Value} : ri (rt_P sc fm) 85 9 (.if_icmp .le 14) (12) := ⟨(by decide +kernel : rt_xt 85 9 = none), (by decide +kernel : rt_cd 85 9 = some (.if_icmp .le 14)), rfl⟩
theorem i_85_23 {sc : Nat × (Nat → Int32)} {fm : Value} : ri (rt_P sc fm) 85 23 (.aload_n 0) (24) := ⟨(by decide +kernel : rt_xt 85 23 = none), (by decide +kernel : rt_cd 85 23 = some (.aload_n 0)), rfl⟩
theorem i_85_24 {sc : Nat × (Nat → Int32)} {fm : Value} : ri (rt_P sc fm) 85 24 (.getfield 69) (27) := ⟨(by decide +kernel : rt_xt 85 24 = none), (by decide +kernel : rt_cd 85 24 = some (.getfield 69)), rfl⟩
theorem f_85_69 {sc : Nat × (Nat → Int32)} {fm : Value} : rx_ft (rt_P sc fm) 85 69 = some (14, 7) := (by decide +kernel : rt_ft 85 69 = some (14, 7))
theorem i_85_27 {sc : Nat × (Nat → Int32)} {fm : Value} : ri (rt_P sc fm) 85 27 (.invokevirtual 359) (30) := ⟨(by decide +kernel : rt_xt 85 27 = none), (by decide +kernel : rt_cd 85 27 = some (.invokevirtual 359)), rfl⟩
theorem c_85_359 {sc : Nat × (Nat → Int32)} {fm : Value} : rx_ct (rt_P sc fm) 85 359 = some (0, 49, 0) := (by decide +kernel : rt_ct 85 359 = some (0, 49, 0))
theorem a_11_49 {sc : Nat × (Nat → Int32)} {fm : Value} : rz_cn 11 (rx_yn (rt_P sc fm) 49).cls = true := (by decide +kernel : rz_cn 11 (rt_yn 49).cls = true)
theorem i_49_0 {sc : Nat × (Nat → Int32)} {fm : Value} : ri (rt_P sc fm) 49 0 (.aload_n 0) (1) := ⟨(by decide +kernel : rt_xt 49 0 = none), (by decide +kernel : rt_cd 49 0 = some (.aload_n 0)), rfl⟩
theorem i_49_1 {sc : Nat × (Nat → Int32)} {fm : Value} : ri (rt_P sc fm) 49 1 (.getfield 18) (4) := ⟨(by decide +kernel : rt_xt 49 1 = none), (by decide +kernel : rt_cd 49 1 = some (.getfield 18)), rfl⟩
theorem f_49_18 {sc : Nat × (Nat → Int32)} {fm : Value} : rx_ft (rt_P sc fm) 49 18 = some (11, 6) := (by decide +kernel : rt_ft 49 18 = some (11, 6))
theorem i_49_4 {sc : Nat × (Nat → Int32)} {fm : Value} : ri (rt_P sc fm) 49 4 (.iconst 0) (5) := ⟨(by decide +kernel : rt_xt 49 4 = none), (by decide +kernel : rt_cd 49 4 = some (.iconst 0)), rfl⟩
theorem i_49_5 {sc : Nat × (Nat → Int32)} {fm : Value} : ri (rt_P sc fm) 49 5 (.iaload) (6) := ⟨(by decide +kernel : rt_xt 49 5 = none), (by decide +kernel : rt_cd 49 5 = some (.iaload)), rfl⟩
theorem i_49_6 {sc : Nat × (Nat → Int32)} {fm : Value} : ri (rt_P sc fm) 49 6 (.iconst 1) (7) := ⟨(by decide +kernel : rt_xt 49 6 = none), (by decide +kernel : rt_cd 49 6 = some (.iconst 1)), rfl⟩
theorem i_49_7 {sc : Nat × (Nat → Int32)} {fm : Value} : ri (rt_P sc fm) 49 7 (.if_icmp .ne 7) (10) := ⟨(by decide +kernel : rt_xt 49 7 = none), (by decide +kernel : rt_cd 49 7 = some (.if_icmp .ne 7)), rfl⟩
theorem i_49_14 {sc : Nat × (Nat → Int32)} {fm : Value} : ri (rt_P sc fm) 49 14 (.iconst 0) (15) := ⟨(by decide +kernel : rt_xt 49 14 = none), (by decide +kernel : rt_cd 49 14 = some (.iconst 0)), rfl⟩
theorem i_49_15 {sc : Nat × (Nat → Int32)} {fm : Value} : ri (rt_P sc fm) 49 15 (.ireturn) (16) := ⟨(by decide +kernel : rt_xt 49 15 = none), (by decide +kernel : rt_cd 49 15 = some (.ireturn)), rfl⟩
theorem r_49 {sc : Nat × (Nat → Int32)} {fm : Value} : rx_rt (rt_P sc fm) 49 = (some FieldType.boolean) := (by decide +kernel : rt_rt 49 = (some FieldType.boolean))
theorem i_85_30 {sc : Nat × (Nat → Int32)} {fm : Value} : ri (rt_P sc fm) 85 30 (.ifCond .ne 14) (33) := ⟨(by decide +kernel : rt_xt 85 30 = none), (by decide +kernel : rt_cd 85 30 = some (.ifCond .ne 14)), rfl⟩
theorem x_85_33 {sc : Nat × (Nat → Int32)} {fm : Value} : rx_xt (rt_P sc fm) 85 33 = some ("java/lang/IllegalStateException", 5, 82) := (by decide +kernel : rt_xt 85 33 = some ("java/lang/IllegalStateException", 5, 82))
theorem h_18_4_31 {sc : Nat × (Nat → Int32)} {fm : Value} : rx_ht (rt_P sc fm) 18 4 "java/lang/IllegalStateException" = some (15, 3) := (by decide +kernel : rt_ht 18 4 "java/lang/IllegalStateException" = some (15, 3))
theorem i_18_16 {sc : Nat × (Nat → Int32)} {fm : Value} : ri (rt_P sc fm) 18 16 (.iconst 2) (17) := ⟨(by decide +kernel : rt_xt 18 16 = none), (by decide +kernel : rt_cd 18 16 = some (.iconst 2)), rfl⟩
theorem i_18_17 {sc : Nat × (Nat → Int32)} {fm : Value} : ri (rt_P sc fm) 18 17 (.ireturn) (18) := ⟨(by decide +kernel : rt_xt 18 17 = none), (by decide +kernel : rt_cd 18 17 = some (.ireturn)), rfl⟩
theorem i_140_6 {sc : Nat × (Nat → Int32)} {fm : Value} : ri (rt_P sc fm) 140 6 (.iload_n 1) (7) := ⟨(by decide +kernel : rt_xt 140 6 = none), (by decide +kernel : rt_cd 140 6 = some (.iload_n 1)), rfl⟩
theorem i_140_7 {sc : Nat × (Nat → Int32)} {fm : Value} : ri (rt_P sc fm) 140 7 (.sipush 10000) (10) := ⟨(by decide +kernel : rt_xt 140 7 = none), (by decide +kernel : rt_cd 140 7 = some (.sipush 10000)), rfl⟩
theorem i_140_10 {sc : Nat × (Nat → Int32)} {fm : Value} : ri (rt_P sc fm) 140 10 (.if_icmp .le 7) (13) := ⟨(by decide +kernel : rt_xt 140 10 = none), (by decide +kernel : rt_cd 140 10 = some (.if_icmp .le 7)), rfl⟩
theorem i_140_17 {sc : Nat × (Nat → Int32)} {fm : Value} : ri (rt_P sc fm) 140 17 (.aload_n 0) (18) := ⟨(by decide +kernel : rt_xt 140 17 = none), (by decide +kernel : rt_cd 140 17 = some (.aload_n 0)), rfl⟩
theorem i_140_18 {sc : Nat × (Nat → Int32)} {fm : Value} : ri (rt_P sc fm) 140 18 (.getfield 897) (21) := ⟨(by decide +kernel : rt_xt 140 18 = none), (by decide +kernel : rt_cd 140 18 = some (.getfield 897)), rfl⟩
theorem f_140_897 {sc : Nat × (Nat → Int32)} {fm : Value} : rx_ft (rt_P sc fm) 140 897 = some (15, 111) := (by decide +kernel : rt_ft 140 897 = some (15, 111))
theorem i_140_21 {sc : Nat × (Nat → Int32)} {fm : Value} : ri (rt_P sc fm) 140 21 (.iconst 1) (22) := ⟨(by decide +kernel : rt_xt 140 21 = none), (by decide +kernel : rt_cd 140 21 = some (.iconst 1)), rfl⟩
theorem i_140_22 {sc : Nat × (Nat → Int32)} {fm : Value} : ri (rt_P sc fm) 140 22 (.if_icmp .eq 7) (25) := ⟨(by decide +kernel : rt_xt 140 22 = none), (by decide +kernel : rt_cd 140 22 = some (.if_icmp .eq 7)), rfl⟩
theorem i_140_25 {sc : Nat × (Nat → Int32)} {fm : Value} : ri (rt_P sc fm) 140 25 (.iconst 2) (26) := ⟨(by decide +kernel : rt_xt 140 25 = none), (by decide +kernel : rt_cd 140 25 = some (.iconst 2)), rfl⟩
theorem i_140_26 {sc : Nat × (Nat → Int32)} {fm : Value} : ri (rt_P sc fm) 140 26 (.goto 4) (29) := ⟨(by decide +kernel : rt_xt 140 26 = none), (by decide +kernel : rt_cd 140 26 = some (.goto 4)), rfl⟩
theorem i_0_1246 {sc : Nat × (Nat → Int32)} {fm : Value} : ri (rt_P sc fm) 0 1246 (.aload_n 1) (1247) := ⟨(by decide +kernel : rt_xt 0 1246 = none), (by decide +kernel : rt_cd 0 1246 = some (.aload_n 1)), rfl⟩
theorem i_0_1247 {sc : Nat × (Nat → Int32)} {fm : Value} : ri (rt_P sc fm) 0 1247 (.aload_n 0) (1248) := ⟨(by decide +kernel : rt_xt 0 1247 = none), (by decide +kernel : rt_cd 0 1247 = some (.aload_n 0)), rfl⟩
theorem i_0_1248 {sc : Nat × (Nat → Int32)} {fm : Value} : ri (rt_P sc fm) 0 1248 (.iload 4) (1250) := ⟨(by decide +kernel : rt_xt 0 1248 = none), (by decide +kernel : rt_cd 0 1248 = some (.iload 4)), rfl⟩
theorem i_0_1250 {sc : Nat × (Nat → Int32)} {fm : Value} : ri (rt_P sc fm) 0 1250 (.iconst 1) (1251) := ⟨(by decide +kernel : rt_xt 0 1250 = none), (by decide +kernel : rt_cd 0 1250 = some (.iconst 1)), rfl⟩
theorem i_0_1251 {sc : Nat × (Nat → Int32)} {fm : Value} : ri (rt_P sc fm) 0 1251 (.iadd) (1252) := ⟨(by decide +kernel : rt_xt 0 1251 = none), (by decide +kernel : rt_cd 0 1251 = some (.iadd)), rfl⟩
theorem i_0_1252 {sc : Nat × (Nat → Int32)} {fm : Value} : ri (rt_P sc fm) 0 1252 (.iaload) (1253) := ⟨(by decide +kernel : rt_xt 0 1252 = none), (by decide +kernel : rt_cd 0 1252 = some (.iaload)), rfl⟩
theorem i_0_1253 {sc : Nat × (Nat → Int32)} {fm : Value} : ri (rt_P sc fm) 0 1253 (.invokevirtual 159) (1256) := ⟨(by decide +kernel : rt_xt 0 1253 = none), (by decide +kernel : rt_cd 0 1253 = some (.invokevirtual 159)), rfl⟩
theorem c_0_159 {sc : Nat × (Nat → Int32)} {fm : Value} : rx_ct (rt_P sc fm) 0 159 = some (0, 86, 1) := (by decide +kernel : rt_ct 0 159 = some (0, 86, 1))
theorem a_14_86 {sc : Nat × (Nat → Int32)} {fm : Value} : rz_cn 14 (rx_yn (rt_P sc fm) 86).cls = true := (by decide +kernel : rz_cn 14 (rt_yn 86).cls = true)
theorem i_86_0 {sc : Nat × (Nat → Int32)} {fm : Value} : ri (rt_P sc fm) 86 0 (.aload_n 0) (1) := ⟨(by decide +kernel : rt_xt 86 0 = none), (by decide +kernel : rt_cd 86 0 = some (.aload_n 0)), rfl⟩
theorem i_86_1 {sc : Nat × (Nat → Int32)} {fm : Value} : ri (rt_P sc fm) 86 1 (.getfield 69) (4) := ⟨(by decide +kernel : rt_xt 86 1 = none), (by decide +kernel : rt_cd 86 1 = some (.getfield 69)), rfl⟩
theorem f_86_69 {sc : Nat × (Nat → Int32)} {fm : Value} : rx_ft (rt_P sc fm) 86 69 = some (14, 7) := (by decide +kernel : rt_ft 86 69 = some (14, 7))
theorem i_86_4 {sc : Nat × (Nat → Int32)} {fm : Value} : ri (rt_P sc fm) 86 4 (.iload_n 1) (5) := ⟨(by decide +kernel : rt_xt 86 4 = none), (by decide +kernel : rt_cd 86 4 = some (.iload_n 1)), rfl⟩
theorem i_86_5 {sc : Nat × (Nat → Int32)} {fm : Value} : ri (rt_P sc fm) 86 5 (.invokevirtual 368) (8) := ⟨(by decide +kernel : rt_xt 86 5 = none), (by decide +kernel : rt_cd 86 5 = some (.invokevirtual 368)), rfl⟩
theorem c_86_368 {sc : Nat × (Nat → Int32)} {fm : Value} : rx_ct (rt_P sc fm) 86 368 = some (0, 50, 1) := (by decide +kernel : rt_ct 86 368 = some (0, 50, 1))
theorem a_11_50 {sc : Nat × (Nat → Int32)} {fm : Value} : rz_cn 11 (rx_yn (rt_P sc fm) 50).cls = true := (by decide +kernel : rz_cn 11 (rt_yn 50).cls = true)
theorem i_50_0 {sc : Nat × (Nat → Int32)} {fm : Value} : ri (rt_P sc fm) 50 0 (.iload_n 1) (1) := ⟨(by decide +kernel : rt_xt 50 0 = none), (by decide +kernel : rt_cd 50 0 = some (.iload_n 1)), rfl⟩
theorem i_50_1 {sc : Nat × (Nat → Int32)} {fm : Value} : ri (rt_P sc fm) 50 1 (.ifCond .lt 9) (4) := ⟨(by decide +kernel : rt_xt 50 1 = none), (by decide +kernel : rt_cd 50 1 = some (.ifCond .lt 9)), rfl⟩
theorem i_50_10 {sc : Nat × (Nat → Int32)} {fm : Value} : ri (rt_P sc fm) 50 10 (.iconst (-1)) (11) := ⟨(by decide +kernel : rt_xt 50 10 = none), (by decide +kernel : rt_cd 50 10 = some (.iconst (-1))), rfl⟩
theorem i_50_11 {sc : Nat × (Nat → Int32)} {fm : Value} : ri (rt_P sc fm) 50 11 (.ireturn) (12) := ⟨(by decide +kernel : rt_xt 50 11 = none), (by decide +kernel : rt_cd 50 11 = some (.ireturn)), rfl⟩
theorem r_50 {sc : Nat × (Nat → Int32)} {fm : Value} : rx_rt (rt_P sc fm) 50 = (some FieldType.int) := (by decide +kernel : rt_rt 50 = (some FieldType.int))
theorem i_86_8 {sc : Nat × (Nat → Int32)} {fm : Value} : ri (rt_P sc fm) 86 8 (.ireturn) (9) := ⟨(by decide +kernel : rt_xt 86 8 = none), (by decide +kernel : rt_cd 86 8 = some (.ireturn)), rfl⟩
theorem r_86 {sc : Nat × (Nat → Int32)} {fm : Value} : rx_rt (rt_P sc fm) 86 = (some FieldType.int) := (by decide +kernel : rt_rt 86 = (some FieldType.int))
theorem i_0_1256 {sc : Nat × (Nat → Int32)} {fm : Value} : ri (rt_P sc fm) 0 1256 (.aload_n 2) (1257) := ⟨(by decide +kernel : rt_xt 0 1256 = none), (by decide +kernel : rt_cd 0 1256 = some (.aload_n 2)), rfl⟩
theorem i_0_1257 {sc : Nat × (Nat → Int32)} {fm : Value} : ri (rt_P sc fm) 0 1257 (.aload_n 0) (1258) := ⟨(by decide +kernel : rt_xt 0 1257 = none), (by decide +kernel : rt_cd 0 1257 = some (.aload_n 0)), rfl⟩
theorem i_0_1258 {sc : Nat × (Nat → Int32)} {fm : Value} : ri (rt_P sc fm) 0 1258 (.iload 4) (1260) := ⟨(by decide +kernel : rt_xt 0 1258 = none), (by decide +kernel : rt_cd 0 1258 = some (.iload 4)), rfl⟩
theorem i_0_1260 {sc : Nat × (Nat → Int32)} {fm : Value} : ri (rt_P sc fm) 0 1260 (.iconst 1) (1261) := ⟨(by decide +kernel : rt_xt 0 1260 = none), (by decide +kernel : rt_cd 0 1260 = some (.iconst 1)), rfl⟩
theorem i_0_1261 {sc : Nat × (Nat → Int32)} {fm : Value} : ri (rt_P sc fm) 0 1261 (.iadd) (1262) := ⟨(by decide +kernel : rt_xt 0 1261 = none), (by decide +kernel : rt_cd 0 1261 = some (.iadd)), rfl⟩
theorem i_0_1262 {sc : Nat × (Nat → Int32)} {fm : Value} : ri (rt_P sc fm) 0 1262 (.iaload) (1263) := ⟨(by decide +kernel : rt_xt 0 1262 = none), (by decide +kernel : rt_cd 0 1262 = some (.iaload)), rfl⟩
theorem i_0_1263 {sc : Nat × (Nat → Int32)} {fm : Value} : ri (rt_P sc fm) 0 1263 (.invokevirtual 162) (1266) := ⟨(by decide +kernel : rt_xt 0 1263 = none), (by decide +kernel : rt_cd 0 1263 = some (.invokevirtual 162)), rfl⟩
theorem c_0_162 {sc : Nat × (Nat → Int32)} {fm : Value} : rx_ct (rt_P sc fm) 0 162 = some (0, 141, 1) := (by decide +kernel : rt_ct 0 162 = some (0, 141, 1))
theorem a_15_141 {sc : Nat × (Nat → Int32)} {fm : Value} : rz_cn 15 (rx_yn (rt_P sc fm) 141).cls = true := (by decide +kernel : rz_cn 15 (rt_yn 141).cls = true)
theorem i_141_0 {sc : Nat × (Nat → Int32)} {fm : Value} : ri (rt_P sc fm) 141 0 (.aload_n 0) (1) := ⟨(by decide +kernel : rt_xt 141 0 = none), (by decide +kernel : rt_cd 141 0 = some (.aload_n 0)), rfl⟩
theorem i_141_1 {sc : Nat × (Nat → Int32)} {fm : Value} : ri (rt_P sc fm) 141 1 (.iconst 0) (2) := ⟨(by decide +kernel : rt_xt 141 1 = none), (by decide +kernel : rt_cd 141 1 = some (.iconst 0)), rfl⟩
theorem i_141_2 {sc : Nat × (Nat → Int32)} {fm : Value} : ri (rt_P sc fm) 141 2 (.putfield 356) (5) := ⟨(by decide +kernel : rt_xt 141 2 = none), (by decide +kernel : rt_cd 141 2 = some (.putfield 356)), rfl⟩
theorem p_141_356 {sc : Nat × (Nat → Int32)} {fm : Value} : rx_pt (rt_P sc fm) 141 356 = some (15, 0, .int) := (by decide +kernel : rt_pt 141 356 = some (15, 0, .int))
theorem i_141_5 {sc : Nat × (Nat → Int32)} {fm : Value} : ri (rt_P sc fm) 141 5 (.iload_n 1) (6) := ⟨(by decide +kernel : rt_xt 141 5 = none), (by decide +kernel : rt_cd 141 5 = some (.iload_n 1)), rfl⟩
theorem i_141_6 {sc : Nat × (Nat → Int32)} {fm : Value} : ri (rt_P sc fm) 141 6 (.ifCond .lt 9) (9) := ⟨(by decide +kernel : rt_xt 141 6 = none), (by decide +kernel : rt_cd 141 6 = some (.ifCond .lt 9)), rfl⟩
theorem i_141_15 {sc : Nat × (Nat → Int32)} {fm : Value} : ri (rt_P sc fm) 141 15 (.iconst (-1)) (16) := ⟨(by decide +kernel : rt_xt 141 15 = none), (by decide +kernel : rt_cd 141 15 = some (.iconst (-1))), rfl⟩
theorem i_141_16 {sc : Nat × (Nat → Int32)} {fm : Value} : ri (rt_P sc fm) 141 16 (.ireturn) (17) := ⟨(by decide +kernel : rt_xt 141 16 = none), (by decide +kernel : rt_cd 141 16 = some (.ireturn)), rfl⟩
theorem r_141 {sc : Nat × (Nat → Int32)} {fm : Value} : rx_rt (rt_P sc fm) 141 = (some FieldType.int) := (by decide +kernel : rt_rt 141 = (some FieldType.int))
theorem i_0_1266 {sc : Nat × (Nat → Int32)} {fm : Value} : ri (rt_P sc fm) 0 1266 (.if_icmp .eq 68) (1269) := ⟨(by decide +kernel : rt_xt 0 1266 = none), (by decide +kernel : rt_cd 0 1266 = some (.if_icmp .eq 68)), rfl⟩
theorem i_50_4 {sc : Nat × (Nat → Int32)} {fm : Value} : ri (rt_P sc fm) 50 4 (.iload_n 1) (5) := ⟨(by decide +kernel : rt_xt 50 4 = none), (by decide +kernel : rt_cd 50 4 = some (.iload_n 1)), rfl⟩
theorem i_50_5 {sc : Nat × (Nat → Int32)} {fm : Value} : ri (rt_P sc fm) 50 5 (.bipush 12) (7) := ⟨(by decide +kernel : rt_xt 50 5 = none), (by decide +kernel : rt_cd 50 5 = some (.bipush 12)), rfl⟩
theorem i_50_7 {sc : Nat × (Nat → Int32)} {fm : Value} : ri (rt_P sc fm) 50 7 (.if_icmp .lt 5) (10) := ⟨(by decide +kernel : rt_xt 50 7 = none), (by decide +kernel : rt_cd 50 7 = some (.if_icmp .lt 5)), rfl⟩
theorem i_50_12 {sc : Nat × (Nat → Int32)} {fm : Value} : ri (rt_P sc fm) 50 12 (.aload_n 0) (13) := ⟨(by decide +kernel : rt_xt 50 12 = none), (by decide +kernel : rt_cd 50 12 = some (.aload_n 0)), rfl⟩
theorem i_50_13 {sc : Nat × (Nat → Int32)} {fm : Value} : ri (rt_P sc fm) 50 13 (.getfield 18) (16) := ⟨(by decide +kernel : rt_xt 50 13 = none), (by decide +kernel : rt_cd 50 13 = some (.getfield 18)), rfl⟩
theorem f_50_18 {sc : Nat × (Nat → Int32)} {fm : Value} : rx_ft (rt_P sc fm) 50 18 = some (11, 6) := (by decide +kernel : rt_ft 50 18 = some (11, 6))
theorem i_50_16 {sc : Nat × (Nat → Int32)} {fm : Value} : ri (rt_P sc fm) 50 16 (.iconst 0) (17) := ⟨(by decide +kernel : rt_xt 50 16 = none), (by decide +kernel : rt_cd 50 16 = some (.iconst 0)), rfl⟩
theorem i_50_17 {sc : Nat × (Nat → Int32)} {fm : Value} : ri (rt_P sc fm) 50 17 (.iaload) (18) := ⟨(by decide +kernel : rt_xt 50 17 = none), (by decide +kernel : rt_cd 50 17 = some (.iaload)), rfl⟩
theorem i_50_18 {sc : Nat × (Nat → Int32)} {fm : Value} : ri (rt_P sc fm) 50 18 (.ifCond .ne 7) (21) := ⟨(by decide +kernel : rt_xt 50 18 = none), (by decide +kernel : rt_cd 50 18 = some (.ifCond .ne 7)), rfl⟩
theorem i_50_21 {sc : Nat × (Nat → Int32)} {fm : Value} : ri (rt_P sc fm) 50 21 (.iconst 1) (22) := ⟨(by decide +kernel : rt_xt 50 21 = none), (by decide +kernel : rt_cd 50 21 = some (.iconst 1)), rfl⟩
theorem i_50_22 {sc : Nat × (Nat → Int32)} {fm : Value} : ri (rt_P sc fm) 50 22 (.goto 4) (25) := ⟨(by decide +kernel : rt_xt 50 22 = none), (by decide +kernel : rt_cd 50 22 = some (.goto 4)), rfl⟩
theorem i_50_26 {sc : Nat × (Nat → Int32)} {fm : Value} : ri (rt_P sc fm) 50 26 (.istore_n 2) (27) := ⟨(by decide +kernel : rt_xt 50 26 = none), (by decide +kernel : rt_cd 50 26 = some (.istore_n 2)), rfl⟩
theorem i_50_27 {sc : Nat × (Nat → Int32)} {fm : Value} : ri (rt_P sc fm) 50 27 (.iload_n 1) (28) := ⟨(by decide +kernel : rt_xt 50 27 = none), (by decide +kernel : rt_cd 50 27 = some (.iload_n 1)), rfl⟩
theorem i_50_28 {sc : Nat × (Nat → Int32)} {fm : Value} : ri (rt_P sc fm) 50 28 (.tableswitch 91 3 5 #[28, 55, 75]) (28 + rx_len (.tableswitch 91 3 5 #[28, 55, 75])) := ⟨(by decide +kernel : rt_xt 50 28 = none), (by decide +kernel : rt_cd 50 28 = some (.tableswitch 91 3 5 #[28, 55, 75])), rfl⟩
theorem i_50_56 {sc : Nat × (Nat → Int32)} {fm : Value} : ri (rt_P sc fm) 50 56 (.iload_n 2) (57) := ⟨(by decide +kernel : rt_xt 50 56 = none), (by decide +kernel : rt_cd 50 56 = some (.iload_n 2)), rfl⟩
theorem i_50_57 {sc : Nat × (Nat → Int32)} {fm : Value} : ri (rt_P sc fm) 50 57 (.ifCond .eq 7) (60) := ⟨(by decide +kernel : rt_xt 50 57 = none), (by decide +kernel : rt_cd 50 57 = some (.ifCond .eq 7)), rfl⟩
theorem i_50_60 {sc : Nat × (Nat → Int32)} {fm : Value} : ri (rt_P sc fm) 50 60 (.iconst 0) (61) := ⟨(by decide +kernel : rt_xt 50 60 = none), (by decide +kernel : rt_cd 50 60 = some (.iconst 0)), rfl⟩
theorem i_50_61 {sc : Nat × (Nat → Int32)} {fm : Value} : ri (rt_P sc fm) 50 61 (.goto 21) (64) := ⟨(by decide +kernel : rt_xt 50 61 = none), (by decide +kernel : rt_cd 50 61 = some (.goto 21)), rfl⟩
theorem i_50_82 {sc : Nat × (Nat → Int32)} {fm : Value} : ri (rt_P sc fm) 50 82 (.ireturn) (83) := ⟨(by decide +kernel : rt_xt 50 82 = none), (by decide +kernel : rt_cd 50 82 = some (.ireturn)), rfl⟩
theorem i_141_9 {sc : Nat × (Nat → Int32)} {fm : Value} : ri (rt_P sc fm) 141 9 (.iload_n 1) (10) := ⟨(by decide +kernel : rt_xt 141 9 = none), (by decide +kernel : rt_cd 141 9 = some (.iload_n 1)), rfl⟩
theorem i_141_10 {sc : Nat × (Nat → Int32)} {fm : Value} : ri (rt_P sc fm) 141 10 (.bipush 11) (12) := ⟨(by decide +kernel : rt_xt 141 10 = none), (by decide +kernel : rt_cd 141 10 = some (.bipush 11)), rfl⟩
theorem i_141_12 {sc : Nat × (Nat → Int32)} {fm : Value} : ri (rt_P sc fm) 141 12 (.if_icmp .le 5) (15) := ⟨(by decide +kernel : rt_xt 141 12 = none), (by decide +kernel : rt_cd 141 12 = some (.if_icmp .le 5)), rfl⟩
theorem i_141_17 {sc : Nat × (Nat → Int32)} {fm : Value} : ri (rt_P sc fm) 141 17 (.aload_n 0) (18) := ⟨(by decide +kernel : rt_xt 141 17 = none), (by decide +kernel : rt_cd 141 17 = some (.aload_n 0)), rfl⟩
theorem i_141_18 {sc : Nat × (Nat → Int32)} {fm : Value} : ri (rt_P sc fm) 141 18 (.getfield 897) (21) := ⟨(by decide +kernel : rt_xt 141 18 = none), (by decide +kernel : rt_cd 141 18 = some (.getfield 897)), rfl⟩
theorem f_141_897 {sc : Nat × (Nat → Int32)} {fm : Value} : rx_ft (rt_P sc fm) 141 897 = some (15, 111) := (by decide +kernel : rt_ft 141 897 = some (15, 111))
theorem i_141_21 {sc : Nat × (Nat → Int32)} {fm : Value} : ri (rt_P sc fm) 141 21 (.ifCond .ne 7) (24) := ⟨(by decide +kernel : rt_xt 141 21 = none), (by decide +kernel : rt_cd 141 21 = some (.ifCond .ne 7)), rfl⟩
theorem i_141_24 {sc : Nat × (Nat → Int32)} {fm : Value} : ri (rt_P sc fm) 141 24 (.iconst 1) (25) := ⟨(by decide +kernel : rt_xt 141 24 = none), (by decide +kernel : rt_cd 141 24 = some (.iconst 1)), rfl⟩
theorem i_141_25 {sc : Nat × (Nat → Int32)} {fm : Value} : ri (rt_P sc fm) 141 25 (.goto 4) (28) := ⟨(by decide +kernel : rt_xt 141 25 = none), (by decide +kernel : rt_cd 141 25 = some (.goto 4)), rfl⟩
theorem i_141_29 {sc : Nat × (Nat → Int32)} {fm : Value} : ri (rt_P sc fm) 141 29 (.istore_n 2) (30) := ⟨(by decide +kernel : rt_xt 141 29 = none), (by decide +kernel : rt_cd 141 29 = some (.istore_n 2)), rfl⟩
theorem i_141_30 {sc : Nat × (Nat → Int32)} {fm : Value} : ri (rt_P sc fm) 141 30 (.iload_n 1) (31) := ⟨(by decide +kernel : rt_xt 141 30 = none), (by decide +kernel : rt_cd 141 30 = some (.iload_n 1)), rfl⟩
theorem i_141_31 {sc : Nat × (Nat → Int32)} {fm : Value} : ri (rt_P sc fm) 141 31 (.bipush 7) (33) := ⟨(by decide +kernel : rt_xt 141 31 = none), (by decide +kernel : rt_cd 141 31 = some (.bipush 7)), rfl⟩
theorem i_141_33 {sc : Nat × (Nat → Int32)} {fm : Value} : ri (rt_P sc fm) 141 33 (.if_icmp .lt 48) (36) := ⟨(by decide +kernel : rt_xt 141 33 = none), (by decide +kernel : rt_cd 141 33 = some (.if_icmp .lt 48)), rfl⟩
theorem i_141_81 {sc : Nat × (Nat → Int32)} {fm : Value} : ri (rt_P sc fm) 141 81 (.iload_n 2) (82) := ⟨(by decide +kernel : rt_xt 141 81 = none), (by decide +kernel : rt_cd 141 81 = some (.iload_n 2)), rfl⟩
theorem i_141_82 {sc : Nat × (Nat → Int32)} {fm : Value} : ri (rt_P sc fm) 141 82 (.ifCond .eq 5) (85) := ⟨(by decide +kernel : rt_xt 141 82 = none), (by decide +kernel : rt_cd 141 82 = some (.ifCond .eq 5)), rfl⟩
theorem i_141_85 {sc : Nat × (Nat → Int32)} {fm : Value} : ri (rt_P sc fm) 141 85 (.iconst 0) (86) := ⟨(by decide +kernel : rt_xt 141 85 = none), (by decide +kernel : rt_cd 141 85 = some (.iconst 0)), rfl⟩
theorem i_141_86 {sc : Nat × (Nat → Int32)} {fm : Value} : ri (rt_P sc fm) 141 86 (.ireturn) (87) := ⟨(by decide +kernel : rt_xt 141 86 = none), (by decide +kernel : rt_cd 141 86 = some (.ireturn)), rfl⟩
theorem i_50_83 {sc : Nat × (Nat → Int32)} {fm : Value} : ri (rt_P sc fm) 50 83 (.iload_n 2) (84) := ⟨(by decide +kernel : rt_xt 50 83 = none), (by decide +kernel : rt_cd 50 83 = some (.iload_n 2)), rfl⟩
theorem i_50_84 {sc : Nat × (Nat → Int32)} {fm : Value} : ri (rt_P sc fm) 50 84 (.ifCond .eq 7) (87) := ⟨(by decide +kernel : rt_xt 50 84 = none), (by decide +kernel : rt_cd 50 84 = some (.ifCond .eq 7)), rfl⟩
theorem i_50_87 {sc : Nat × (Nat → Int32)} {fm : Value} : ri (rt_P sc fm) 50 87 (.iconst 0) (88) := ⟨(by decide +kernel : rt_xt 50 87 = none), (by decide +kernel : rt_cd 50 87 = some (.iconst 0)), rfl⟩
theorem i_50_88 {sc : Nat × (Nat → Int32)} {fm : Value} : ri (rt_P sc fm) 50 88 (.goto 14) (91) := ⟨(by decide +kernel : rt_xt 50 88 = none), (by decide +kernel : rt_cd 50 88 = some (.goto 14)), rfl⟩
theorem i_50_102 {sc : Nat × (Nat → Int32)} {fm : Value} : ri (rt_P sc fm) 50 102 (.ireturn) (103) := ⟨(by decide +kernel : rt_xt 50 102 = none), (by decide +kernel : rt_cd 50 102 = some (.ireturn)), rfl⟩
theorem i_50_103 {sc : Nat × (Nat → Int32)} {fm : Value} : ri (rt_P sc fm) 50 103 (.aload_n 0) (104) := ⟨(by decide +kernel : rt_xt 50 103 = none), (by decide +kernel : rt_cd 50 103 = some (.aload_n 0)), rfl⟩
theorem i_50_104 {sc : Nat × (Nat → Int32)} {fm : Value} : ri (rt_P sc fm) 50 104 (.invokevirtual 114) (107) := ⟨(by decide +kernel : rt_xt 50 104 = none), (by decide +kernel : rt_cd 50 104 = some (.invokevirtual 114)), rfl⟩
theorem c_50_114 {sc : Nat × (Nat → Int32)} {fm : Value} : rx_ct (rt_P sc fm) 50 114 = some (0, 49, 0) := (by decide +kernel : rt_ct 50 114 = some (0, 49, 0))
theorem i_50_107 {sc : Nat × (Nat → Int32)} {fm : Value} : ri (rt_P sc fm) 50 107 (.ifCond .eq 10) (110) := ⟨(by decide +kernel : rt_xt 50 107 = none), (by decide +kernel : rt_cd 50 107 = some (.ifCond .eq 10)), rfl⟩
theorem i_50_117 {sc : Nat × (Nat → Int32)} {fm : Value} : ri (rt_P sc fm) 50 117 (.iconst 0) (118) := ⟨(by decide +kernel : rt_xt 50 117 = none), (by decide +kernel : rt_cd 50 117 = some (.iconst 0)), rfl⟩
theorem i_50_118 {sc : Nat × (Nat → Int32)} {fm : Value} : ri (rt_P sc fm) 50 118 (.ireturn) (119) := ⟨(by decide +kernel : rt_xt 50 118 = none), (by decide +kernel : rt_cd 50 118 = some (.ireturn)), rfl⟩
theorem i_50_119 {sc : Nat × (Nat → Int32)} {fm : Value} : ri (rt_P sc fm) 50 119 (.aload_n 0) (120) := ⟨(by decide +kernel : rt_xt 50 119 = none), (by decide +kernel : rt_cd 50 119 = some (.aload_n 0)), rfl⟩
theorem i_50_120 {sc : Nat × (Nat → Int32)} {fm : Value} : ri (rt_P sc fm) 50 120 (.getfield 18) (123) := ⟨(by decide +kernel : rt_xt 50 120 = none), (by decide +kernel : rt_cd 50 120 = some (.getfield 18)), rfl⟩
theorem i_50_123 {sc : Nat × (Nat → Int32)} {fm : Value} : ri (rt_P sc fm) 50 123 (.iload_n 1) (124) := ⟨(by decide +kernel : rt_xt 50 123 = none), (by decide +kernel : rt_cd 50 123 = some (.iload_n 1)), rfl⟩
theorem i_50_124 {sc : Nat × (Nat → Int32)} {fm : Value} : ri (rt_P sc fm) 50 124 (.iaload) (125) := ⟨(by decide +kernel : rt_xt 50 124 = none), (by decide +kernel : rt_cd 50 124 = some (.iaload)), rfl⟩
theorem i_50_125 {sc : Nat × (Nat → Int32)} {fm : Value} : ri (rt_P sc fm) 50 125 (.ireturn) (126) := ⟨(by decide +kernel : rt_xt 50 125 = none), (by decide +kernel : rt_cd 50 125 = some (.ireturn)), rfl⟩
theorem i_141_36 {sc : Nat × (Nat → Int32)} {fm : Value} : ri (rt_P sc fm) 141 36 (.iload_n 1) (37) := ⟨(by decide +kernel : rt_xt 141 36 = none), (by decide +kernel : rt_cd 141 36 = some (.iload_n 1)), rfl⟩
theorem i_141_37 {sc : Nat × (Nat → Int32)} {fm : Value} : ri (rt_P sc fm) 141 37 (.bipush 9) (39) := ⟨(by decide +kernel : rt_xt 141 37 = none), (by decide +kernel : rt_cd 141 37 = some (.bipush 9)), rfl⟩
theorem i_141_39 {sc : Nat × (Nat → Int32)} {fm : Value} : ri (rt_P sc fm) 141 39 (.if_icmp .gt 42) (42) := ⟨(by decide +kernel : rt_xt 141 39 = none), (by decide +kernel : rt_cd 141 39 = some (.if_icmp .gt 42)), rfl⟩
theorem i_141_42 {sc : Nat × (Nat → Int32)} {fm : Value} : ri (rt_P sc fm) 141 42 (.iload_n 2) (43) := ⟨(by decide +kernel : rt_xt 141 42 = none), (by decide +kernel : rt_cd 141 42 = some (.iload_n 2)), rfl⟩
theorem i_141_43 {sc : Nat × (Nat → Int32)} {fm : Value} : ri (rt_P sc fm) 141 43 (.ifCond .eq 7) (46) := ⟨(by decide +kernel : rt_xt 141 43 = none), (by decide +kernel : rt_cd 141 43 = some (.ifCond .eq 7)), rfl⟩
theorem i_141_46 {sc : Nat × (Nat → Int32)} {fm : Value} : ri (rt_P sc fm) 141 46 (.iconst (-1)) (47) := ⟨(by decide +kernel : rt_xt 141 46 = none), (by decide +kernel : rt_cd 141 46 = some (.iconst (-1))), rfl⟩
theorem i_141_47 {sc : Nat × (Nat → Int32)} {fm : Value} : ri (rt_P sc fm) 141 47 (.goto 33) (50) := ⟨(by decide +kernel : rt_xt 141 47 = none), (by decide +kernel : rt_cd 141 47 = some (.goto 33)), rfl⟩
theorem i_141_80 {sc : Nat × (Nat → Int32)} {fm : Value} : ri (rt_P sc fm) 141 80 (.ireturn) (81) := ⟨(by decide +kernel : rt_xt 141 80 = none), (by decide +kernel : rt_cd 141 80 = some (.ireturn)), rfl⟩
theorem i_0_1271 {sc : Nat × (Nat → Int32)} {fm : Value} : ri (rt_P sc fm) 0 1271 (.aload_n 1) (1272) := ⟨(by decide +kernel : rt_xt 0 1271 = none), (by decide +kernel : rt_cd 0 1271 = some (.aload_n 1)), rfl⟩
theorem i_0_1272 {sc : Nat × (Nat → Int32)} {fm : Value} : ri (rt_P sc fm) 0 1272 (.aload_n 0) (1273) := ⟨(by decide +kernel : rt_xt 0 1272 = none), (by decide +kernel : rt_cd 0 1272 = some (.aload_n 0)), rfl⟩
theorem i_0_1273 {sc : Nat × (Nat → Int32)} {fm : Value} : ri (rt_P sc fm) 0 1273 (.iload 4) (1275) := ⟨(by decide +kernel : rt_xt 0 1273 = none), (by decide +kernel : rt_cd 0 1273 = some (.iload 4)), rfl⟩
theorem i_0_1275 {sc : Nat × (Nat → Int32)} {fm : Value} : ri (rt_P sc fm) 0 1275 (.iconst 1) (1276) := ⟨(by decide +kernel : rt_xt 0 1275 = none), (by decide +kernel : rt_cd 0 1275 = some (.iconst 1)), rfl⟩
theorem i_0_1276 {sc : Nat × (Nat → Int32)} {fm : Value} : ri (rt_P sc fm) 0 1276 (.iadd) (1277) := ⟨(by decide +kernel : rt_xt 0 1276 = none), (by decide +kernel : rt_cd 0 1276 = some (.iadd)), rfl⟩
theorem i_0_1277 {sc : Nat × (Nat → Int32)} {fm : Value} : ri (rt_P sc fm) 0 1277 (.iaload) (1278) := ⟨(by decide +kernel : rt_xt 0 1277 = none), (by decide +kernel : rt_cd 0 1277 = some (.iaload)), rfl⟩
theorem i_0_1278 {sc : Nat × (Nat → Int32)} {fm : Value} : ri (rt_P sc fm) 0 1278 (.invokevirtual 163) (1281) := ⟨(by decide +kernel : rt_xt 0 1278 = none), (by decide +kernel : rt_cd 0 1278 = some (.invokevirtual 163)), rfl⟩
theorem c_0_163 {sc : Nat × (Nat → Int32)} {fm : Value} : rx_ct (rt_P sc fm) 0 163 = some (0, 87, 1) := (by decide +kernel : rt_ct 0 163 = some (0, 87, 1))
theorem a_14_87 {sc : Nat × (Nat → Int32)} {fm : Value} : rz_cn 14 (rx_yn (rt_P sc fm) 87).cls = true := (by decide +kernel : rz_cn 14 (rt_yn 87).cls = true)
theorem i_87_0 {sc : Nat × (Nat → Int32)} {fm : Value} : ri (rt_P sc fm) 87 0 (.aload_n 0) (1) := ⟨(by decide +kernel : rt_xt 87 0 = none), (by decide +kernel : rt_cd 87 0 = some (.aload_n 0)), rfl⟩
theorem i_87_1 {sc : Nat × (Nat → Int32)} {fm : Value} : ri (rt_P sc fm) 87 1 (.getfield 19) (4) := ⟨(by decide +kernel : rt_xt 87 1 = none), (by decide +kernel : rt_cd 87 1 = some (.getfield 19)), rfl⟩
theorem f_87_19 {sc : Nat × (Nat → Int32)} {fm : Value} : rx_ft (rt_P sc fm) 87 19 = some (14, 1) := (by decide +kernel : rt_ft 87 19 = some (14, 1))
theorem i_87_4 {sc : Nat × (Nat → Int32)} {fm : Value} : ri (rt_P sc fm) 87 4 (.iload_n 1) (5) := ⟨(by decide +kernel : rt_xt 87 4 = none), (by decide +kernel : rt_cd 87 4 = some (.iload_n 1)), rfl⟩
theorem i_87_5 {sc : Nat × (Nat → Int32)} {fm : Value} : ri (rt_P sc fm) 87 5 (.invokevirtual 170) (8) := ⟨(by decide +kernel : rt_xt 87 5 = none), (by decide +kernel : rt_cd 87 5 = some (.invokevirtual 170)), rfl⟩
theorem c_87_170 {sc : Nat × (Nat → Int32)} {fm : Value} : rx_ct (rt_P sc fm) 87 170 = some (0, 37, 1) := (by decide +kernel : rt_ct 87 170 = some (0, 37, 1))
theorem i_87_8 {sc : Nat × (Nat → Int32)} {fm : Value} : ri (rt_P sc fm) 87 8 (.ifCond .eq 14) (11) := ⟨(by decide +kernel : rt_xt 87 8 = none), (by decide +kernel : rt_cd 87 8 = some (.ifCond .eq 14)), rfl⟩
theorem i_87_22 {sc : Nat × (Nat → Int32)} {fm : Value} : ri (rt_P sc fm) 87 22 (.iconst (-1)) (23) := ⟨(by decide +kernel : rt_xt 87 22 = none), (by decide +kernel : rt_cd 87 22 = some (.iconst (-1))), rfl⟩
theorem i_87_23 {sc : Nat × (Nat → Int32)} {fm : Value} : ri (rt_P sc fm) 87 23 (.ireturn) (24) := ⟨(by decide +kernel : rt_xt 87 23 = none), (by decide +kernel : rt_cd 87 23 = some (.ireturn)), rfl⟩
theorem r_87 {sc : Nat × (Nat → Int32)} {fm : Value} : rx_rt (rt_P sc fm) 87 = (some FieldType.int) := (by decide +kernel : rt_rt 87 = (some FieldType.int))
theorem i_0_1281 {sc : Nat × (Nat → Int32)} {fm : Value} : ri (rt_P sc fm) 0 1281 (.aload_n 2) (1282) := ⟨(by decide +kernel : rt_xt 0 1281 = none), (by decide +kernel : rt_cd 0 1281 = some (.aload_n 2)), rfl⟩
theorem i_0_1282 {sc : Nat × (Nat → Int32)} {fm : Value} : ri (rt_P sc fm) 0 1282 (.aload_n 0) (1283) := ⟨(by decide +kernel : rt_xt 0 1282 = none), (by decide +kernel : rt_cd 0 1282 = some (.aload_n 0)), rfl⟩
theorem i_0_1283 {sc : Nat × (Nat → Int32)} {fm : Value} : ri (rt_P sc fm) 0 1283 (.iload 4) (1285) := ⟨(by decide +kernel : rt_xt 0 1283 = none), (by decide +kernel : rt_cd 0 1283 = some (.iload 4)), rfl⟩
theorem i_0_1285 {sc : Nat × (Nat → Int32)} {fm : Value} : ri (rt_P sc fm) 0 1285 (.iconst 1) (1286) := ⟨(by decide +kernel : rt_xt 0 1285 = none), (by decide +kernel : rt_cd 0 1285 = some (.iconst 1)), rfl⟩
theorem i_0_1286 {sc : Nat × (Nat → Int32)} {fm : Value} : ri (rt_P sc fm) 0 1286 (.iadd) (1287) := ⟨(by decide +kernel : rt_xt 0 1286 = none), (by decide +kernel : rt_cd 0 1286 = some (.iadd)), rfl⟩
theorem i_0_1287 {sc : Nat × (Nat → Int32)} {fm : Value} : ri (rt_P sc fm) 0 1287 (.iaload) (1288) := ⟨(by decide +kernel : rt_xt 0 1287 = none), (by decide +kernel : rt_cd 0 1287 = some (.iaload)), rfl⟩
theorem i_0_1288 {sc : Nat × (Nat → Int32)} {fm : Value} : ri (rt_P sc fm) 0 1288 (.invokevirtual 166) (1291) := ⟨(by decide +kernel : rt_xt 0 1288 = none), (by decide +kernel : rt_cd 0 1288 = some (.invokevirtual 166)), rfl⟩
theorem c_0_166 {sc : Nat × (Nat → Int32)} {fm : Value} : rx_ct (rt_P sc fm) 0 166 = some (0, 142, 1) := (by decide +kernel : rt_ct 0 166 = some (0, 142, 1))
theorem a_15_142 {sc : Nat × (Nat → Int32)} {fm : Value} : rz_cn 15 (rx_yn (rt_P sc fm) 142).cls = true := (by decide +kernel : rz_cn 15 (rt_yn 142).cls = true)
theorem i_142_0 {sc : Nat × (Nat → Int32)} {fm : Value} : ri (rt_P sc fm) 142 0 (.aload_n 0) (1) := ⟨(by decide +kernel : rt_xt 142 0 = none), (by decide +kernel : rt_cd 142 0 = some (.aload_n 0)), rfl⟩
theorem i_142_1 {sc : Nat × (Nat → Int32)} {fm : Value} : ri (rt_P sc fm) 142 1 (.iconst 0) (2) := ⟨(by decide +kernel : rt_xt 142 1 = none), (by decide +kernel : rt_cd 142 1 = some (.iconst 0)), rfl⟩
theorem i_142_2 {sc : Nat × (Nat → Int32)} {fm : Value} : ri (rt_P sc fm) 142 2 (.putfield 356) (5) := ⟨(by decide +kernel : rt_xt 142 2 = none), (by decide +kernel : rt_cd 142 2 = some (.putfield 356)), rfl⟩
theorem p_142_356 {sc : Nat × (Nat → Int32)} {fm : Value} : rx_pt (rt_P sc fm) 142 356 = some (15, 0, .int) := (by decide +kernel : rt_pt 142 356 = some (15, 0, .int))
theorem i_142_5 {sc : Nat × (Nat → Int32)} {fm : Value} : ri (rt_P sc fm) 142 5 (.aload_n 0) (6) := ⟨(by decide +kernel : rt_xt 142 5 = none), (by decide +kernel : rt_cd 142 5 = some (.aload_n 0)), rfl⟩
theorem i_142_6 {sc : Nat × (Nat → Int32)} {fm : Value} : ri (rt_P sc fm) 142 6 (.iload_n 1) (7) := ⟨(by decide +kernel : rt_xt 142 6 = none), (by decide +kernel : rt_cd 142 6 = some (.iload_n 1)), rfl⟩
theorem i_142_7 {sc : Nat × (Nat → Int32)} {fm : Value} : ri (rt_P sc fm) 142 7 (.invokevirtual 724) (10) := ⟨(by decide +kernel : rt_xt 142 7 = none), (by decide +kernel : rt_cd 142 7 = some (.invokevirtual 724)), rfl⟩
theorem c_142_724 {sc : Nat × (Nat → Int32)} {fm : Value} : rx_ct (rt_P sc fm) 142 724 = some (0, 119, 1) := (by decide +kernel : rt_ct 142 724 = some (0, 119, 1))
theorem i_142_10 {sc : Nat × (Nat → Int32)} {fm : Value} : ri (rt_P sc fm) 142 10 (.ifCond .eq 20) (13) := ⟨(by decide +kernel : rt_xt 142 10 = none), (by decide +kernel : rt_cd 142 10 = some (.ifCond .eq 20)), rfl⟩
theorem i_142_30 {sc : Nat × (Nat → Int32)} {fm : Value} : ri (rt_P sc fm) 142 30 (.iconst (-1)) (31) := ⟨(by decide +kernel : rt_xt 142 30 = none), (by decide +kernel : rt_cd 142 30 = some (.iconst (-1))), rfl⟩
theorem i_142_31 {sc : Nat × (Nat → Int32)} {fm : Value} : ri (rt_P sc fm) 142 31 (.ireturn) (32) := ⟨(by decide +kernel : rt_xt 142 31 = none), (by decide +kernel : rt_cd 142 31 = some (.ireturn)), rfl⟩
theorem r_142 {sc : Nat × (Nat → Int32)} {fm : Value} : rx_rt (rt_P sc fm) 142 = (some FieldType.int) := (by decide +kernel : rt_rt 142 = (some FieldType.int))
theorem i_0_1291 {sc : Nat × (Nat → Int32)} {fm : Value} : ri (rt_P sc fm) 0 1291 (.if_icmp .eq 43) (1294) := ⟨(by decide +kernel : rt_xt 0 1291 = none), (by decide +kernel : rt_cd 0 1291 = some (.if_icmp .eq 43)), rfl⟩
theorem i_0_1296 {sc : Nat × (Nat → Int32)} {fm : Value} : ri (rt_P sc fm) 0 1296 (.aload_n 1) (1297) := ⟨(by decide +kernel : rt_xt 0 1296 = none), (by decide +kernel : rt_cd 0 1296 = some (.aload_n 1)), rfl⟩
theorem i_0_1297 {sc : Nat × (Nat → Int32)} {fm : Value} : ri (rt_P sc fm) 0 1297 (.invokevirtual 167) (1300) := ⟨(by decide +kernel : rt_xt 0 1297 = none), (by decide +kernel : rt_cd 0 1297 = some (.invokevirtual 167)), rfl⟩
theorem c_0_167 {sc : Nat × (Nat → Int32)} {fm : Value} : rx_ct (rt_P sc fm) 0 167 = some (0, 88, 0) := (by decide +kernel : rt_ct 0 167 = some (0, 88, 0))
theorem a_14_88 {sc : Nat × (Nat → Int32)} {fm : Value} : rz_cn 14 (rx_yn (rt_P sc fm) 88).cls = true := (by decide +kernel : rz_cn 14 (rt_yn 88).cls = true)
theorem i_88_0 {sc : Nat × (Nat → Int32)} {fm : Value} : ri (rt_P sc fm) 88 0 (.aload_n 0) (1) := ⟨(by decide +kernel : rt_xt 88 0 = none), (by decide +kernel : rt_cd 88 0 = some (.aload_n 0)), rfl⟩
theorem i_88_1 {sc : Nat × (Nat → Int32)} {fm : Value} : ri (rt_P sc fm) 88 1 (.getfield 19) (4) := ⟨(by decide +kernel : rt_xt 88 1 = none), (by decide +kernel : rt_cd 88 1 = some (.getfield 19)), rfl⟩
theorem f_88_19 {sc : Nat × (Nat → Int32)} {fm : Value} : rx_ft (rt_P sc fm) 88 19 = some (14, 1) := (by decide +kernel : rt_ft 88 19 = some (14, 1))
theorem i_88_4 {sc : Nat × (Nat → Int32)} {fm : Value} : ri (rt_P sc fm) 88 4 (.getfield 126) (7) := ⟨(by decide +kernel : rt_xt 88 4 = none), (by decide +kernel : rt_cd 88 4 = some (.getfield 126)), rfl⟩
theorem f_88_126 {sc : Nat × (Nat → Int32)} {fm : Value} : rx_ft (rt_P sc fm) 88 126 = some (9, 0) := (by decide +kernel : rt_ft 88 126 = some (9, 0))
theorem i_88_7 {sc : Nat × (Nat → Int32)} {fm : Value} : ri (rt_P sc fm) 88 7 (.ifCond .eq 13) (10) := ⟨(by decide +kernel : rt_xt 88 7 = none), (by decide +kernel : rt_cd 88 7 = some (.ifCond .eq 13)), rfl⟩
theorem i_88_20 {sc : Nat × (Nat → Int32)} {fm : Value} : ri (rt_P sc fm) 88 20 (.iconst (-1)) (21) := ⟨(by decide +kernel : rt_xt 88 20 = none), (by decide +kernel : rt_cd 88 20 = some (.iconst (-1))), rfl⟩
theorem i_88_21 {sc : Nat × (Nat → Int32)} {fm : Value} : ri (rt_P sc fm) 88 21 (.ireturn) (22) := ⟨(by decide +kernel : rt_xt 88 21 = none), (by decide +kernel : rt_cd 88 21 = some (.ireturn)), rfl⟩
theorem r_88 {sc : Nat × (Nat → Int32)} {fm : Value} : rx_rt (rt_P sc fm) 88 = (some FieldType.int) := (by decide +kernel : rt_rt 88 = (some FieldType.int))
theorem i_0_1300 {sc : Nat × (Nat → Int32)} {fm : Value} : ri (rt_P sc fm) 0 1300 (.aload_n 2) (1301) := ⟨(by decide +kernel : rt_xt 0 1300 = none), (by decide +kernel : rt_cd 0 1300 = some (.aload_n 2)), rfl⟩
theorem i_0_1301 {sc : Nat × (Nat → Int32)} {fm : Value} : ri (rt_P sc fm) 0 1301 (.invokevirtual 170) (1304) := ⟨(by decide +kernel : rt_xt 0 1301 = none), (by decide +kernel : rt_cd 0 1301 = some (.invokevirtual 170)), rfl⟩
theorem c_0_170 {sc : Nat × (Nat → Int32)} {fm : Value} : rx_ct (rt_P sc fm) 0 170 = some (0, 143, 0) := (by decide +kernel : rt_ct 0 170 = some (0, 143, 0))
theorem a_15_143 {sc : Nat × (Nat → Int32)} {fm : Value} : rz_cn 15 (rx_yn (rt_P sc fm) 143).cls = true := (by decide +kernel : rz_cn 15 (rt_yn 143).cls = true)
theorem i_143_0 {sc : Nat × (Nat → Int32)} {fm : Value} : ri (rt_P sc fm) 143 0 (.aload_n 0) (1) := ⟨(by decide +kernel : rt_xt 143 0 = none), (by decide +kernel : rt_cd 143 0 = some (.aload_n 0)), rfl⟩
theorem i_143_1 {sc : Nat × (Nat → Int32)} {fm : Value} : ri (rt_P sc fm) 143 1 (.iconst 0) (2) := ⟨(by decide +kernel : rt_xt 143 1 = none), (by decide +kernel : rt_cd 143 1 = some (.iconst 0)), rfl⟩
theorem i_143_2 {sc : Nat × (Nat → Int32)} {fm : Value} : ri (rt_P sc fm) 143 2 (.putfield 356) (5) := ⟨(by decide +kernel : rt_xt 143 2 = none), (by decide +kernel : rt_cd 143 2 = some (.putfield 356)), rfl⟩
theorem p_143_356 {sc : Nat × (Nat → Int32)} {fm : Value} : rx_pt (rt_P sc fm) 143 356 = some (15, 0, .int) := (by decide +kernel : rt_pt 143 356 = some (15, 0, .int))
theorem i_143_5 {sc : Nat × (Nat → Int32)} {fm : Value} : ri (rt_P sc fm) 143 5 (.aload_n 0) (6) := ⟨(by decide +kernel : rt_xt 143 5 = none), (by decide +kernel : rt_cd 143 5 = some (.aload_n 0)), rfl⟩
theorem i_143_6 {sc : Nat × (Nat → Int32)} {fm : Value} : ri (rt_P sc fm) 143 6 (.getfield 634) (9) := ⟨(by decide +kernel : rt_xt 143 6 = none), (by decide +kernel : rt_cd 143 6 = some (.getfield 634)), rfl⟩
theorem f_143_634 {sc : Nat × (Nat → Int32)} {fm : Value} : rx_ft (rt_P sc fm) 143 634 = some (15, 14) := (by decide +kernel : rt_ft 143 634 = some (15, 14))
theorem i_143_9 {sc : Nat × (Nat → Int32)} {fm : Value} : ri (rt_P sc fm) 143 9 (.ifCond .ne 5) (12) := ⟨(by decide +kernel : rt_xt 143 9 = none), (by decide +kernel : rt_cd 143 9 = some (.ifCond .ne 5)), rfl⟩
theorem i_143_12 {sc : Nat × (Nat → Int32)} {fm : Value} : ri (rt_P sc fm) 143 12 (.iconst (-1)) (13) := ⟨(by decide +kernel : rt_xt 143 12 = none), (by decide +kernel : rt_cd 143 12 = some (.iconst (-1))), rfl⟩
theorem i_143_13 {sc : Nat × (Nat → Int32)} {fm : Value} : ri (rt_P sc fm) 143 13 (.ireturn) (14) := ⟨(by decide +kernel : rt_xt 143 13 = none), (by decide +kernel : rt_cd 143 13 = some (.ireturn)), rfl⟩
theorem r_143 {sc : Nat × (Nat → Int32)} {fm : Value} : rx_rt (rt_P sc fm) 143 = (some FieldType.int) := (by decide +kernel : rt_rt 143 = (some FieldType.int))
theorem i_0_1304 {sc : Nat × (Nat → Int32)} {fm : Value} : ri (rt_P sc fm) 0 1304 (.if_icmp .eq 30) (1307) := ⟨(by decide +kernel : rt_xt 0 1304 = none), (by decide +kernel : rt_cd 0 1304 = some (.if_icmp .eq 30)), rfl⟩
theorem i_0_1309 {sc : Nat × (Nat → Int32)} {fm : Value} : ri (rt_P sc fm) 0 1309 (.aload_n 1) (1310) := ⟨(by decide +kernel : rt_xt 0 1309 = none), (by decide +kernel : rt_cd 0 1309 = some (.aload_n 1)), rfl⟩
theorem i_0_1310 {sc : Nat × (Nat → Int32)} {fm : Value} : ri (rt_P sc fm) 0 1310 (.aload_n 0) (1311) := ⟨(by decide +kernel : rt_xt 0 1310 = none), (by decide +kernel : rt_cd 0 1310 = some (.aload_n 0)), rfl⟩
theorem i_0_1311 {sc : Nat × (Nat → Int32)} {fm : Value} : ri (rt_P sc fm) 0 1311 (.iload 4) (1313) := ⟨(by decide +kernel : rt_xt 0 1311 = none), (by decide +kernel : rt_cd 0 1311 = some (.iload 4)), rfl⟩
theorem i_0_1313 {sc : Nat × (Nat → Int32)} {fm : Value} : ri (rt_P sc fm) 0 1313 (.iconst 1) (1314) := ⟨(by decide +kernel : rt_xt 0 1313 = none), (by decide +kernel : rt_cd 0 1313 = some (.iconst 1)), rfl⟩
theorem i_0_1314 {sc : Nat × (Nat → Int32)} {fm : Value} : ri (rt_P sc fm) 0 1314 (.iadd) (1315) := ⟨(by decide +kernel : rt_xt 0 1314 = none), (by decide +kernel : rt_cd 0 1314 = some (.iadd)), rfl⟩
theorem i_0_1315 {sc : Nat × (Nat → Int32)} {fm : Value} : ri (rt_P sc fm) 0 1315 (.iaload) (1316) := ⟨(by decide +kernel : rt_xt 0 1315 = none), (by decide +kernel : rt_cd 0 1315 = some (.iaload)), rfl⟩
theorem i_0_1316 {sc : Nat × (Nat → Int32)} {fm : Value} : ri (rt_P sc fm) 0 1316 (.invokevirtual 171) (1319) := ⟨(by decide +kernel : rt_xt 0 1316 = none), (by decide +kernel : rt_cd 0 1316 = some (.invokevirtual 171)), rfl⟩
theorem c_0_171 {sc : Nat × (Nat → Int32)} {fm : Value} : rx_ct (rt_P sc fm) 0 171 = some (0, 89, 1) := (by decide +kernel : rt_ct 0 171 = some (0, 89, 1))
theorem a_14_89 {sc : Nat × (Nat → Int32)} {fm : Value} : rz_cn 14 (rx_yn (rt_P sc fm) 89).cls = true := (by decide +kernel : rz_cn 14 (rt_yn 89).cls = true)
theorem i_89_0 {sc : Nat × (Nat → Int32)} {fm : Value} : ri (rt_P sc fm) 89 0 (.aload_n 0) (1) := ⟨(by decide +kernel : rt_xt 89 0 = none), (by decide +kernel : rt_cd 89 0 = some (.aload_n 0)), rfl⟩
theorem i_89_1 {sc : Nat × (Nat → Int32)} {fm : Value} : ri (rt_P sc fm) 89 1 (.getfield 78) (4) := ⟨(by decide +kernel : rt_xt 89 1 = none), (by decide +kernel : rt_cd 89 1 = some (.getfield 78)), rfl⟩
theorem f_89_78 {sc : Nat × (Nat → Int32)} {fm : Value} : rx_ft (rt_P sc fm) 89 78 = some (14, 8) := (by decide +kernel : rt_ft 89 78 = some (14, 8))
theorem i_89_4 {sc : Nat × (Nat → Int32)} {fm : Value} : ri (rt_P sc fm) 89 4 (.iload_n 1) (5) := ⟨(by decide +kernel : rt_xt 89 4 = none), (by decide +kernel : rt_cd 89 4 = some (.iload_n 1)), rfl⟩
theorem i_89_5 {sc : Nat × (Nat → Int32)} {fm : Value} : ri (rt_P sc fm) 89 5 (.invokevirtual 377) (8) := ⟨(by decide +kernel : rt_xt 89 5 = none), (by decide +kernel : rt_cd 89 5 = some (.invokevirtual 377)), rfl⟩
theorem c_89_377 {sc : Nat × (Nat → Int32)} {fm : Value} : rx_ct (rt_P sc fm) 89 377 = some (0, 54, 1) := (by decide +kernel : rt_ct 89 377 = some (0, 54, 1))
theorem a_13_54 {sc : Nat × (Nat → Int32)} {fm : Value} : rz_cn 13 (rx_yn (rt_P sc fm) 54).cls = true := (by decide +kernel : rz_cn 13 (rt_yn 54).cls = true)
theorem i_54_0 {sc : Nat × (Nat → Int32)} {fm : Value} : ri (rt_P sc fm) 54 0 (.iload_n 1) (1) := ⟨(by decide +kernel : rt_xt 54 0 = none), (by decide +kernel : rt_cd 54 0 = some (.iload_n 1)), rfl⟩
theorem i_54_1 {sc : Nat × (Nat → Int32)} {fm : Value} : ri (rt_P sc fm) 54 1 (.ifCond .ne 8) (4) := ⟨(by decide +kernel : rt_xt 54 1 = none), (by decide +kernel : rt_cd 54 1 = some (.ifCond .ne 8)), rfl⟩
theorem i_54_9 {sc : Nat × (Nat → Int32)} {fm : Value} : ri (rt_P sc fm) 54 9 (.iload_n 1) (10) := ⟨(by decide +kernel : rt_xt 54 9 = none), (by decide +kernel : rt_cd 54 9 = some (.iload_n 1)), rfl⟩
theorem i_54_10 {sc : Nat × (Nat → Int32)} {fm : Value} : ri (rt_P sc fm) 54 10 (.iconst 1) (11) := ⟨(by decide +kernel : rt_xt 54 10 = none), (by decide +kernel : rt_cd 54 10 = some (.iconst 1)), rfl⟩
theorem i_54_11 {sc : Nat × (Nat → Int32)} {fm : Value} : ri (rt_P sc fm) 54 11 (.if_icmp .ne 8) (14) := ⟨(by decide +kernel : rt_xt 54 11 = none), (by decide +kernel : rt_cd 54 11 = some (.if_icmp .ne 8)), rfl⟩
theorem i_54_19 {sc : Nat × (Nat → Int32)} {fm : Value} : ri (rt_P sc fm) 54 19 (.iload_n 1) (20) := ⟨(by decide +kernel : rt_xt 54 19 = none), (by decide +kernel : rt_cd 54 19 = some (.iload_n 1)), rfl⟩
theorem i_54_20 {sc : Nat × (Nat → Int32)} {fm : Value} : ri (rt_P sc fm) 54 20 (.iconst 2) (21) := ⟨(by decide +kernel : rt_xt 54 20 = none), (by decide +kernel : rt_cd 54 20 = some (.iconst 2)), rfl⟩
theorem i_54_21 {sc : Nat × (Nat → Int32)} {fm : Value} : ri (rt_P sc fm) 54 21 (.if_icmp .lt 24) (24) := ⟨(by decide +kernel : rt_xt 54 21 = none), (by decide +kernel : rt_cd 54 21 = some (.if_icmp .lt 24)), rfl⟩
theorem i_54_45 {sc : Nat × (Nat → Int32)} {fm : Value} : ri (rt_P sc fm) 54 45 (.iconst (-1)) (46) := ⟨(by decide +kernel : rt_xt 54 45 = none), (by decide +kernel : rt_cd 54 45 = some (.iconst (-1))), rfl⟩
theorem i_54_46 {sc : Nat × (Nat → Int32)} {fm : Value} : ri (rt_P sc fm) 54 46 (.ireturn) (47) := ⟨(by decide +kernel : rt_xt 54 46 = none), (by decide +kernel : rt_cd 54 46 = some (.ireturn)), rfl⟩
theorem r_54 {sc : Nat × (Nat → Int32)} {fm : Value} : rx_rt (rt_P sc fm) 54 = (some FieldType.int) := (by decide +kernel : rt_rt 54 = (some FieldType.int))
theorem i_89_8 {sc : Nat × (Nat → Int32)} {fm : Value} : ri (rt_P sc fm) 89 8 (.ireturn) (9) := ⟨(by decide +kernel : rt_xt 89 8 = none), (by decide +kernel : rt_cd 89 8 = some (.ireturn)), rfl⟩
theorem r_89 {sc : Nat × (Nat → Int32)} {fm : Value} : rx_rt (rt_P sc fm) 89 = (some FieldType.int) := (by decide +kernel : rt_rt 89 = (some FieldType.int))
theorem i_0_1319 {sc : Nat × (Nat → Int32)} {fm : Value} : ri (rt_P sc fm) 0 1319 (.aload_n 2) (1320) := ⟨(by decide +kernel : rt_xt 0 1319 = none), (by decide +kernel : rt_cd 0 1319 = some (.aload_n 2)), rfl⟩
theorem i_0_1320 {sc : Nat × (Nat → Int32)} {fm : Value} : ri (rt_P sc fm) 0 1320 (.aload_n 0) (1321) := ⟨(by decide +kernel : rt_xt 0 1320 = none), (by decide +kernel : rt_cd 0 1320 = some (.aload_n 0)), rfl⟩
theorem i_0_1321 {sc : Nat × (Nat → Int32)} {fm : Value} : ri (rt_P sc fm) 0 1321 (.iload 4) (1323) := ⟨(by decide +kernel : rt_xt 0 1321 = none), (by decide +kernel : rt_cd 0 1321 = some (.iload 4)), rfl⟩
theorem i_0_1323 {sc : Nat × (Nat → Int32)} {fm : Value} : ri (rt_P sc fm) 0 1323 (.iconst 1) (1324) := ⟨(by decide +kernel : rt_xt 0 1323 = none), (by decide +kernel : rt_cd 0 1323 = some (.iconst 1)), rfl⟩
theorem i_0_1324 {sc : Nat × (Nat → Int32)} {fm : Value} : ri (rt_P sc fm) 0 1324 (.iadd) (1325) := ⟨(by decide +kernel : rt_xt 0 1324 = none), (by decide +kernel : rt_cd 0 1324 = some (.iadd)), rfl⟩
theorem i_0_1325 {sc : Nat × (Nat → Int32)} {fm : Value} : ri (rt_P sc fm) 0 1325 (.iaload) (1326) := ⟨(by decide +kernel : rt_xt 0 1325 = none), (by decide +kernel : rt_cd 0 1325 = some (.iaload)), rfl⟩
theorem i_0_1326 {sc : Nat × (Nat → Int32)} {fm : Value} : ri (rt_P sc fm) 0 1326 (.invokevirtual 174) (1329) := ⟨(by decide +kernel : rt_xt 0 1326 = none), (by decide +kernel : rt_cd 0 1326 = some (.invokevirtual 174)), rfl⟩
theorem c_0_174 {sc : Nat × (Nat → Int32)} {fm : Value} : rx_ct (rt_P sc fm) 0 174 = some (0, 144, 1) := (by decide +kernel : rt_ct 0 174 = some (0, 144, 1))
theorem a_15_144 {sc : Nat × (Nat → Int32)} {fm : Value} : rz_cn 15 (rx_yn (rt_P sc fm) 144).cls = true := (by decide +kernel : rz_cn 15 (rt_yn 144).cls = true)
theorem i_144_0 {sc : Nat × (Nat → Int32)} {fm : Value} : ri (rt_P sc fm) 144 0 (.aload_n 0) (1) := ⟨(by decide +kernel : rt_xt 144 0 = none), (by decide +kernel : rt_cd 144 0 = some (.aload_n 0)), rfl⟩
theorem i_144_1 {sc : Nat × (Nat → Int32)} {fm : Value} : ri (rt_P sc fm) 144 1 (.iconst 0) (2) := ⟨(by decide +kernel : rt_xt 144 1 = none), (by decide +kernel : rt_cd 144 1 = some (.iconst 0)), rfl⟩
theorem i_144_2 {sc : Nat × (Nat → Int32)} {fm : Value} : ri (rt_P sc fm) 144 2 (.putfield 356) (5) := ⟨(by decide +kernel : rt_xt 144 2 = none), (by decide +kernel : rt_cd 144 2 = some (.putfield 356)), rfl⟩
theorem p_144_356 {sc : Nat × (Nat → Int32)} {fm : Value} : rx_pt (rt_P sc fm) 144 356 = some (15, 0, .int) := (by decide +kernel : rt_pt 144 356 = some (15, 0, .int))
theorem i_144_5 {sc : Nat × (Nat → Int32)} {fm : Value} : ri (rt_P sc fm) 144 5 (.aload_n 0) (6) := ⟨(by decide +kernel : rt_xt 144 5 = none), (by decide +kernel : rt_cd 144 5 = some (.aload_n 0)), rfl⟩
theorem i_144_6 {sc : Nat × (Nat → Int32)} {fm : Value} : ri (rt_P sc fm) 144 6 (.getfield 634) (9) := ⟨(by decide +kernel : rt_xt 144 6 = none), (by decide +kernel : rt_cd 144 6 = some (.getfield 634)), rfl⟩
theorem f_144_634 {sc : Nat × (Nat → Int32)} {fm : Value} : rx_ft (rt_P sc fm) 144 634 = some (15, 14) := (by decide +kernel : rt_ft 144 634 = some (15, 14))
theorem i_144_9 {sc : Nat × (Nat → Int32)} {fm : Value} : ri (rt_P sc fm) 144 9 (.ifCond .eq 10) (12) := ⟨(by decide +kernel : rt_xt 144 9 = none), (by decide +kernel : rt_cd 144 9 = some (.ifCond .eq 10)), rfl⟩
theorem i_144_19 {sc : Nat × (Nat → Int32)} {fm : Value} : ri (rt_P sc fm) 144 19 (.iconst (-1)) (20) := ⟨(by decide +kernel : rt_xt 144 19 = none), (by decide +kernel : rt_cd 144 19 = some (.iconst (-1))), rfl⟩
theorem i_144_20 {sc : Nat × (Nat → Int32)} {fm : Value} : ri (rt_P sc fm) 144 20 (.ireturn) (21) := ⟨(by decide +kernel : rt_xt 144 20 = none), (by decide +kernel : rt_cd 144 20 = some (.ireturn)), rfl⟩
theorem r_144 {sc : Nat × (Nat → Int32)} {fm : Value} : rx_rt (rt_P sc fm) 144 = (some FieldType.int) := (by decide +kernel : rt_rt 144 = (some FieldType.int))
theorem i_0_1329 {sc : Nat × (Nat → Int32)} {fm : Value} : ri (rt_P sc fm) 0 1329 (.if_icmp .eq 5) (1332) := ⟨(by decide +kernel : rt_xt 0 1329 = none), (by decide +kernel : rt_cd 0 1329 = some (.if_icmp .eq 5)), rfl⟩
theorem i_54_24 {sc : Nat × (Nat → Int32)} {fm : Value} : ri (rt_P sc fm) 54 24 (.iload_n 1) (25) := ⟨(by decide +kernel : rt_xt 54 24 = none), (by decide +kernel : rt_cd 54 24 = some (.iload_n 1)), rfl⟩
theorem i_54_25 {sc : Nat × (Nat → Int32)} {fm : Value} : ri (rt_P sc fm) 54 25 (.iconst 2) (26) := ⟨(by decide +kernel : rt_xt 54 25 = none), (by decide +kernel : rt_cd 54 25 = some (.iconst 2)), rfl⟩
theorem i_54_26 {sc : Nat × (Nat → Int32)} {fm : Value} : ri (rt_P sc fm) 54 26 (.isub) (27) := ⟨(by decide +kernel : rt_xt 54 26 = none), (by decide +kernel : rt_cd 54 26 = some (.isub)), rfl⟩
theorem i_54_27 {sc : Nat × (Nat → Int32)} {fm : Value} : ri (rt_P sc fm) 54 27 (.aload_n 0) (28) := ⟨(by decide +kernel : rt_xt 54 27 = none), (by decide +kernel : rt_cd 54 27 = some (.aload_n 0)), rfl⟩
theorem i_54_28 {sc : Nat × (Nat → Int32)} {fm : Value} : ri (rt_P sc fm) 54 28 (.getfield 45) (31) := ⟨(by decide +kernel : rt_xt 54 28 = none), (by decide +kernel : rt_cd 54 28 = some (.getfield 45)), rfl⟩
theorem f_54_45 {sc : Nat × (Nat → Int32)} {fm : Value} : rx_ft (rt_P sc fm) 54 45 = some (13, 7) := (by decide +kernel : rt_ft 54 45 = some (13, 7))
theorem i_54_31 {sc : Nat × (Nat → Int32)} {fm : Value} : ri (rt_P sc fm) 54 31 (.if_icmp .ge 14) (34) := ⟨(by decide +kernel : rt_xt 54 31 = none), (by decide +kernel : rt_cd 54 31 = some (.if_icmp .ge 14)), rfl⟩
theorem i_54_14 {sc : Nat × (Nat → Int32)} {fm : Value} : ri (rt_P sc fm) 54 14 (.aload_n 0) (15) := ⟨(by decide +kernel : rt_xt 54 14 = none), (by decide +kernel : rt_cd 54 14 = some (.aload_n 0)), rfl⟩
theorem i_54_15 {sc : Nat × (Nat → Int32)} {fm : Value} : ri (rt_P sc fm) 54 15 (.getfield 30) (18) := ⟨(by decide +kernel : rt_xt 54 15 = none), (by decide +kernel : rt_cd 54 15 = some (.getfield 30)), rfl⟩
theorem f_54_30 {sc : Nat × (Nat → Int32)} {fm : Value} : rx_ft (rt_P sc fm) 54 30 = some (13, 9) := (by decide +kernel : rt_ft 54 30 = some (13, 9))
theorem i_54_18 {sc : Nat × (Nat → Int32)} {fm : Value} : ri (rt_P sc fm) 54 18 (.ireturn) (19) := ⟨(by decide +kernel : rt_xt 54 18 = none), (by decide +kernel : rt_cd 54 18 = some (.ireturn)), rfl⟩
theorem i_54_4 {sc : Nat × (Nat → Int32)} {fm : Value} : ri (rt_P sc fm) 54 4 (.aload_n 0) (5) := ⟨(by decide +kernel : rt_xt 54 4 = none), (by decide +kernel : rt_cd 54 4 = some (.aload_n 0)), rfl⟩
theorem i_54_5 {sc : Nat × (Nat → Int32)} {fm : Value} : ri (rt_P sc fm) 54 5 (.getfield 26) (8) := ⟨(by decide +kernel : rt_xt 54 5 = none), (by decide +kernel : rt_cd 54 5 = some (.getfield 26)), rfl⟩
theorem f_54_26 {sc : Nat × (Nat → Int32)} {fm : Value} : rx_ft (rt_P sc fm) 54 26 = some (13, 8) := (by decide +kernel : rt_ft 54 26 = some (13, 8))
theorem i_54_8 {sc : Nat × (Nat → Int32)} {fm : Value} : ri (rt_P sc fm) 54 8 (.ireturn) (9) := ⟨(by decide +kernel : rt_xt 54 8 = none), (by decide +kernel : rt_cd 54 8 = some (.ireturn)), rfl⟩
theorem i_0_23 {sc : Nat × (Nat → Int32)} {fm : Value} : ri (rt_P sc fm) 0 23 (.iload 4) (25) := ⟨(by decide +kernel : rt_xt 0 23 = none), (by decide +kernel : rt_cd 0 23 = some (.iload 4)), rfl⟩
theorem i_0_25 {sc : Nat × (Nat → Int32)} {fm : Value} : ri (rt_P sc fm) 0 25 (.aload_n 0) (26) := ⟨(by decide +kernel : rt_xt 0 25 = none), (by decide +kernel : rt_cd 0 25 = some (.aload_n 0)), rfl⟩
theorem i_0_26 {sc : Nat × (Nat → Int32)} {fm : Value} : ri (rt_P sc fm) 0 26 (.arraylength) (27) := ⟨(by decide +kernel : rt_xt 0 26 = none), (by decide +kernel : rt_cd 0 26 = some (.arraylength)), rfl⟩
theorem i_0_27 {sc : Nat × (Nat → Int32)} {fm : Value} : ri (rt_P sc fm) 0 27 (.bipush 6) (29) := ⟨(by decide +kernel : rt_xt 0 27 = none), (by decide +kernel : rt_cd 0 27 = some (.bipush 6)), rfl⟩
theorem i_0_29 {sc : Nat × (Nat → Int32)} {fm : Value} : ri (rt_P sc fm) 0 29 (.isub) (30) := ⟨(by decide +kernel : rt_xt 0 29 = none), (by decide +kernel : rt_cd 0 29 = some (.isub)), rfl⟩
theorem i_0_30 {sc : Nat × (Nat → Int32)} {fm : Value} : ri (rt_P sc fm) 0 30 (.if_icmp .gt 1310) (33) := ⟨(by decide +kernel : rt_xt 0 30 = none), (by decide +kernel : rt_cd 0 30 = some (.if_icmp .gt 1310)), rfl⟩
theorem i_0_1334 {sc : Nat × (Nat → Int32)} {fm : Value} : ri (rt_P sc fm) 0 1334 (.iinc 4 6) (1337) := ⟨(by decide +kernel : rt_xt 0 1334 = none), (by decide +kernel : rt_cd 0 1334 = some (.iinc 4 6)), rfl⟩
theorem i_0_1337 {sc : Nat × (Nat → Int32)} {fm : Value} : ri (rt_P sc fm) 0 1337 (.goto (-1314)) (1340) := ⟨(by decide +kernel : rt_xt 0 1337 = none), (by decide +kernel : rt_cd 0 1337 = some (.goto (-1314))), rfl⟩
theorem i_0_1340 {sc : Nat × (Nat → Int32)} {fm : Value} : ri (rt_P sc fm) 0 1340 (.iconst 1) (1341) := ⟨(by decide +kernel : rt_xt 0 1340 = none), (by decide +kernel : rt_cd 0 1340 = some (.iconst 1)), rfl⟩
theorem i_0_1341 {sc : Nat × (Nat → Int32)} {fm : Value} : ri (rt_P sc fm) 0 1341 (.ireturn) (1342) := ⟨(by decide +kernel : rt_xt 0 1341 = none), (by decide +kernel : rt_cd 0 1341 = some (.ireturn)), rfl⟩
theorem r_0 {sc : Nat × (Nat → Int32)} {fm : Value} : rx_rt (rt_P sc fm) 0 = ret := (by decide +kernel : rt_rt 0 = ret)
theorem i_104_27 {sc : Nat × (Nat → Int32)} {fm : Value} : ri (rt_P sc fm) 104 27 (.iload_n 1) (28) := ⟨(by decide +kernel : rt_xt 104 27 = none), (by decide +kernel : rt_cd 104 27 = some (.iload_n 1)), rfl⟩
theorem i_104_28 {sc : Nat × (Nat → Int32)} {fm : Value} : ri (rt_P sc fm) 104 28 (.sipush 1218) (31) := ⟨(by decide +kernel : rt_xt 104 28 = none), (by decide +kernel : rt_cd 104 28 = some (.sipush 1218)), rfl⟩
theorem i_104_31 {sc : Nat × (Nat → Int32)} {fm : Value} : ri (rt_P sc fm) 104 31 (.if_icmp .ge 16) (34) := ⟨(by decide +kernel : rt_xt 104 31 = none), (by decide +kernel : rt_cd 104 31 = some (.if_icmp .ge 16)), rfl⟩
theorem i_104_34 {sc : Nat × (Nat → Int32)} {fm : Value} : ri (rt_P sc fm) 104 34 (.aload_n 0) (35) := ⟨(by decide +kernel : rt_xt 104 34 = none), (by decide +kernel : rt_cd 104 34 = some (.aload_n 0)), rfl⟩
theorem i_104_35 {sc : Nat × (Nat → Int32)} {fm : Value} : ri (rt_P sc fm) 104 35 (.getfield 218) (38) := ⟨(by decide +kernel : rt_xt 104 35 = none), (by decide +kernel : rt_cd 104 35 = some (.getfield 218)), rfl⟩
theorem i_104_38 {sc : Nat × (Nat → Int32)} {fm : Value} : ri (rt_P sc fm) 104 38 (.iload_n 1) (39) := ⟨(by decide +kernel : rt_xt 104 38 = none), (by decide +kernel : rt_cd 104 38 = some (.iload_n 1)), rfl⟩
theorem i_104_39 {sc : Nat × (Nat → Int32)} {fm : Value} : ri (rt_P sc fm) 104 39 (.iconst 0) (40) := ⟨(by decide +kernel : rt_xt 104 39 = none), (by decide +kernel : rt_cd 104 39 = some (.iconst 0)), rfl⟩
theorem i_104_40 {sc : Nat × (Nat → Int32)} {fm : Value} : ri (rt_P sc fm) 104 40 (.iastore) (41) := ⟨(by decide +kernel : rt_xt 104 40 = none), (by decide +kernel : rt_cd 104 40 = some (.iastore)), rfl⟩
theorem i_104_41 {sc : Nat × (Nat → Int32)} {fm : Value} : ri (rt_P sc fm) 104 41 (.iinc 1 1) (44) := ⟨(by decide +kernel : rt_xt 104 41 = none), (by decide +kernel : rt_cd 104 41 = some (.iinc 1 1)), rfl⟩
theorem i_104_44 {sc : Nat × (Nat → Int32)} {fm : Value} : ri (rt_P sc fm) 104 44 (.goto (-17)) (47) := ⟨(by decide +kernel : rt_xt 104 44 = none), (by decide +kernel : rt_cd 104 44 = some (.goto (-17))), rfl⟩
theorem f_104_218 {sc : Nat × (Nat → Int32)} {fm : Value} : rx_ft (rt_P sc fm) 104 218 = some (15, 60) := (by decide +kernel : rt_ft 104 218 = some (15, 60))
theorem i_0_0 {sc : Nat × (Nat → Int32)} {fm : Value} : ri (rt_P sc fm) 0 0 (.new 8) (3) := ⟨(by decide +kernel : rt_xt 0 0 = none), (by decide +kernel : rt_cd 0 0 = some (.new 8)), rfl⟩
theorem i_0_3 {sc : Nat × (Nat → Int32)} {fm : Value} : ri (rt_P sc fm) 0 3 (.dup) (4) := ⟨(by decide +kernel : rt_xt 0 3 = none), (by decide +kernel : rt_cd 0 3 = some (.dup)), rfl⟩
theorem i_0_4 {sc : Nat × (Nat → Int32)} {fm : Value} : ri (rt_P sc fm) 0 4 (.invokespecial 27) (7) := ⟨(by decide +kernel : rt_xt 0 4 = none), (by decide +kernel : rt_cd 0 4 = some (.invokespecial 27)), rfl⟩
theorem i_0_7 {sc : Nat × (Nat → Int32)} {fm : Value} : ri (rt_P sc fm) 0 7 (.astore_n 1) (8) := ⟨(by decide +kernel : rt_xt 0 7 = none), (by decide +kernel : rt_cd 0 7 = some (.astore_n 1)), rfl⟩
theorem i_0_8 {sc : Nat × (Nat → Int32)} {fm : Value} : ri (rt_P sc fm) 0 8 (.new 28) (11) := ⟨(by decide +kernel : rt_xt 0 8 = none), (by decide +kernel : rt_cd 0 8 = some (.new 28)), rfl⟩
theorem i_0_11 {sc : Nat × (Nat → Int32)} {fm : Value} : ri (rt_P sc fm) 0 11 (.dup) (12) := ⟨(by decide +kernel : rt_xt 0 11 = none), (by decide +kernel : rt_cd 0 11 = some (.dup)), rfl⟩
theorem i_0_12 {sc : Nat × (Nat → Int32)} {fm : Value} : ri (rt_P sc fm) 0 12 (.invokespecial 30) (15) := ⟨(by decide +kernel : rt_xt 0 12 = none), (by decide +kernel : rt_cd 0 12 = some (.invokespecial 30)), rfl⟩
theorem i_0_15 {sc : Nat × (Nat → Int32)} {fm : Value} : ri (rt_P sc fm) 0 15 (.astore_n 2) (16) := ⟨(by decide +kernel : rt_xt 0 15 = none), (by decide +kernel : rt_cd 0 15 = some (.astore_n 2)), rfl⟩
theorem i_0_16 {sc : Nat × (Nat → Int32)} {fm : Value} : ri (rt_P sc fm) 0 16 (.iconst 1) (17) := ⟨(by decide +kernel : rt_xt 0 16 = none), (by decide +kernel : rt_cd 0 16 = some (.iconst 1)), rfl⟩
theorem i_0_17 {sc : Nat × (Nat → Int32)} {fm : Value} : ri (rt_P sc fm) 0 17 (.newarray .long) (19) := ⟨(by decide +kernel : rt_xt 0 17 = none), (by decide +kernel : rt_cd 0 17 = some (.newarray .long)), rfl⟩
theorem i_0_19 {sc : Nat × (Nat → Int32)} {fm : Value} : ri (rt_P sc fm) 0 19 (.astore_n 3) (20) := ⟨(by decide +kernel : rt_xt 0 19 = none), (by decide +kernel : rt_cd 0 19 = some (.astore_n 3)), rfl⟩
theorem i_0_20 {sc : Nat × (Nat → Int32)} {fm : Value} : ri (rt_P sc fm) 0 20 (.iconst 0) (21) := ⟨(by decide +kernel : rt_xt 0 20 = none), (by decide +kernel : rt_cd 0 20 = some (.iconst 0)), rfl⟩
theorem i_0_21 {sc : Nat × (Nat → Int32)} {fm : Value} : ri (rt_P sc fm) 0 21 (.istore 4) (23) := ⟨(by decide +kernel : rt_xt 0 21 = none), (by decide +kernel : rt_cd 0 21 = some (.istore 4)), rfl⟩
theorem i_0_33 {sc : Nat × (Nat → Int32)} {fm : Value} : ri (rt_P sc fm) 0 33 (.aload_n 0) (34) := ⟨(by decide +kernel : rt_xt 0 33 = none), (by decide +kernel : rt_cd 0 33 = some (.aload_n 0)), rfl⟩
theorem i_0_34 {sc : Nat × (Nat → Int32)} {fm : Value} : ri (rt_P sc fm) 0 34 (.iload 4) (36) := ⟨(by decide +kernel : rt_xt 0 34 = none), (by decide +kernel : rt_cd 0 34 = some (.iload 4)), rfl⟩
theorem i_0_36 {sc : Nat × (Nat → Int32)} {fm : Value} : ri (rt_P sc fm) 0 36 (.iaload) (37) := ⟨(by decide +kernel : rt_xt 0 36 = none), (by decide +kernel : rt_cd 0 36 = some (.iaload)), rfl⟩
theorem i_0_37 {sc : Nat × (Nat → Int32)} {fm : Value} : ri (rt_P sc fm) 0 37 (.bipush 63) (39) := ⟨(by decide +kernel : rt_xt 0 37 = none), (by decide +kernel : rt_cd 0 37 = some (.bipush 63)), rfl⟩
theorem i_0_39 {sc : Nat × (Nat → Int32)} {fm : Value} : ri (rt_P sc fm) 0 39 (.iand) (40) := ⟨(by decide +kernel : rt_xt 0 39 = none), (by decide +kernel : rt_cd 0 39 = some (.iand)), rfl⟩
theorem i_0_40 {sc : Nat × (Nat → Int32)} {fm : Value} : ri (rt_P sc fm) 0 40 (.tableswitch 1294 0 32 #[148, 221, 246, 271, 315, 340, 353, 390, 451, 500, 525, 550, 587, 636, 697, 734, 747, 772, 809, 834, 859, 908, 933, 958, 971, 1024, 1061, 1086, 1150, 1206, 1231, 1256, 1269]) (40 + rx_len (.tableswitch 1294 0 32 #[148, 221, 246, 271, 315, 340, 353, 390, 451, 500, 525, 550, 587, 636, 697, 734, 747, 772, 809, 834, 859, 908, 933, 958, 971, 1024, 1061, 1086, 1150, 1206, 1231, 1256, 1269])) := ⟨(by decide +kernel : rt_xt 0 40 = none), (by decide +kernel : rt_cd 0 40 = some (.tableswitch 1294 0 32 #[148, 221, 246, 271, 315, 340, 353, 390, 451, 500, 525, 550, 587, 636, 697, 734, 747, 772, 809, 834, 859, 908, 933, 958, 971, 1024, 1061, 1086, 1150, 1206, 1231, 1256, 1269])), rfl⟩
theorem c_0_27 {sc : Nat × (Nat → Int32)} {fm : Value} : rx_ct (rt_P sc fm) 0 27 = some (2, 55, 0) := (by decide +kernel : rt_ct 0 27 = some (2, 55, 0))
theorem c_0_30 {sc : Nat × (Nat → Int32)} {fm : Value} : rx_ct (rt_P sc fm) 0 30 = some (2, 91, 0) := (by decide +kernel : rt_ct 0 30 = some (2, 91, 0))
theorem n_0_8 {sc : Nat × (Nat → Int32)} {fm : Value} : rx_nt (rt_P sc fm) 0 8 = some (14, 10, [.null, .null, .null, .null, .null, .null, .null, .null, .null, .null]) := (by decide +kernel : rt_nt 0 8 = some (14, 10, [.null, .null, .null, .null, .null, .null, .null, .null, .null, .null]))
theorem n_0_28 {sc : Nat × (Nat → Int32)} {fm : Value} : rx_nt (rt_P sc fm) 0 28 = some (15, 140, [.int 0, .null, .int 0, .null, .int 0, .int 0, .null, .int 0, .null, .null, .null, .int 0, .int 0, .int 0, .int 0, .int 0, .null, .null, .null, .null, .null, .null, .null, .null, .int 0, .null, .null, .null, .null, .null, .null, .null, .null, .null, .int 0, .null, .null, .int 0, .null, .null, .null, .null, .null, .null, .null, .null, .null, .null, .null, .null, .null, .null, .null, .null, .null, .null, .null, .null, .null, .null, .null, .null, .null, .null, .null, .null, .null, .int 0, .long 0, .null, .null, .null, .null, .long 0, .int 0, .null, .int 0, .int 0, .int 0, .long 0, .int 0, .int 0, .int 0, .null, .null, .null, .null, .null, .null, .null, .int 0, .int 0, .null, .null, .null, .null, .null, .int 0, .null, .null, .null, .int 0, .int 0, .null, .int 0, .int 0, .int 0, .null, .null, .null, .int 0, .int 0, .int 0, .int 0, .null, .null, .null, .null, .null, .null, .null, .int 0, .null, .int 0, .int 0, .int 0, .int 0, .int 0, .int 0, .int 0, .int 0, .int 0, .int 0, .int 0, .int 0, .null, .null, .null, .null, .null]) := (by decide +kernel : rt_nt 0 28 = some (15, 140, [.int 0, .null, .int 0, .null, .int 0, .int 0, .null, .int 0, .null, .null, .null, .int 0, .int 0, .int 0, .int 0, .int 0, .null, .null, .null, .null, .null, .null, .null, .null, .int 0, .null, .null, .null, .null, .null, .null, .null, .null, .null, .int 0, .null, .null, .int 0, .null, .null, .null, .null, .null, .null, .null, .null, .null, .null, .null, .null, .null, .null, .null, .null, .null, .null, .null, .null, .null, .null, .null, .null, .null, .null, .null, .null, .null, .int 0, .long 0, .null, .null, .null, .null, .long 0, .int 0, .null, .int 0, .int 0, .int 0, .long 0, .int 0, .int 0, .int 0, .null, .null, .null, .null, .null, .null, .null, .int 0, .int 0, .null, .null, .null, .null, .null, .int 0, .null, .null, .null, .int 0, .int 0, .null, .int 0, .int 0, .int 0, .null, .null, .null, .int 0, .int 0, .int 0, .int 0, .null, .null, .null, .null, .null, .null, .null, .int 0, .null, .int 0, .int 0, .int 0, .int 0, .int 0, .int 0, .int 0, .int 0, .int 0, .int 0, .int 0, .int 0, .null, .null, .null, .null, .null]))
