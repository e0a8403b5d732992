/-! THE TABLES: texts, layouts, the code as the machine decodes it: by wip/whole/gentab.py -/
def rt_ST : List (List Int32) := [[111, 114, 100, 101, 114, 32, 107, 105, 110, 100, 32, 99, 108, 97, 115, 115, 32, 102, 105, 101, 108, 100, 32, 109, 101, 116, 104, 111, 100, 32, 112, 97, 114, 97, 109, 32, 109, 97, 107, 101, 114, 32, 97, 100, 100, 115, 32, 111, 110, 32, 104, 101, 105, 114, 115, 32, 109, 97, 110, 121, 32, 110, 111, 32, 105, 110, 116, 32, 116, 101, 120, 116, 32, 112, 117, 115, 104, 32, 114, 101, 97, 100, 32, 108, 111, 97, 100, 32, 115, 116, 111, 114, 101, 32, 103, 101, 116, 32, 115, 101, 116, 32, 99, 97, 108, 108, 32, 114, 101, 116, 32, 97, 100, 100, 32, 115, 117, 98, 32, 109, 117, 108, 32, 100, 117, 112, 32, 112, 111, 112, 32, 106, 117, 109, 112, 32, 122, 101, 114, 111, 32, 105, 115, 32, 97, 115], [97, 32, 70, 65, 85, 76, 84], [111, 114, 100, 101, 114], [107, 105, 110, 100], [99, 108, 97, 115, 115], [102, 105, 101, 108, 100], [109, 101, 116, 104, 111, 100], [112, 97, 114, 97, 109], [109, 97, 107, 101, 114], [97, 100, 100, 115], [111, 110], [104, 101, 105, 114, 115], [109, 97, 110, 121], [110, 111], [105, 110, 116], [116, 101, 120, 116], [112, 117, 115, 104], [114, 101, 97, 100], [108, 111, 97, 100], [115, 116, 111, 114, 101], [103, 101, 116], [115, 101, 116], [99, 97, 108, 108], [114, 101, 116], [97, 100, 100], [115, 117, 98], [109, 117, 108], [100, 117, 112], [112, 111, 112], [106, 117, 109, 112], [122, 101, 114, 111], [105, 115], [97, 115], [58], [59], [99, 104, 101, 99, 107], [102, 114, 111, 109, 73, 110, 100, 101, 120, 40], [41, 32, 62, 32, 116, 111, 73, 110, 100, 101, 120, 40], [41], [58, 59, 44, 46, 61, 60, 40, 41, 123, 125, 64, 45], [97, 116], [97, 116], [99, 104, 101, 99, 107], [119, 97, 110, 116], [112, 97, 114, 116], [108, 97, 98, 101, 108], [111, 102], [108, 97, 116, 101], [45], [64], [46], [44], [40], [61], [41], [60], [123], [125]]
def rt_sw : Instr → Bool
  | .tableswitch _ _ _ _ => true
  | _ => false
def rt_dk (cc : ByteArray) (l : List (Nat × Instr)) : Bool := l.all (fun q => match decode cc q.1 with
  | .ok (i, n) => decide (i = q.2) && (Nat.beq n (rx_len i) || rt_sw i)
  | .error _ => false)
set_option maxRecDepth 100000 in
theorem rt_d0_0 : rt_dk code rt_i0_0 = true := by decide +kernel
set_option maxRecDepth 100000 in
theorem rt_d0_1 : rt_dk code rt_i0_1 = true := by decide +kernel
set_option maxRecDepth 100000 in
theorem rt_d0_5 : rt_dk code rt_i0_5 = true := by decide +kernel
set_option maxRecDepth 100000 in
theorem rt_d0_6 : rt_dk code rt_i0_6 = true := by decide +kernel
set_option maxRecDepth 100000 in
theorem rt_d0_7 : rt_dk code rt_i0_7 = true := by decide +kernel
set_option maxRecDepth 100000 in
theorem rt_d0_8 : rt_dk code rt_i0_8 = true := by decide +kernel
set_option maxRecDepth 100000 in
theorem rt_d0_9 : rt_dk code rt_i0_9 = true := by decide +kernel
set_option maxRecDepth 100000 in
theorem rt_d0_10 : rt_dk code rt_i0_10 = true := by decide +kernel
set_option maxRecDepth 100000 in
theorem rt_d0_11 : rt_dk code rt_i0_11 = true := by decide +kernel
set_option maxRecDepth 100000 in
theorem rt_d0_12 : rt_dk code rt_i0_12 = true := by decide +kernel
set_option maxRecDepth 100000 in
theorem rt_d0_13 : rt_dk code rt_i0_13 = true := by decide +kernel
set_option maxRecDepth 100000 in
theorem rt_d0_14 : rt_dk code rt_i0_14 = true := by decide +kernel
set_option maxRecDepth 100000 in
theorem rt_d0_15 : rt_dk code rt_i0_15 = true := by decide +kernel
set_option maxRecDepth 100000 in
theorem rt_d0_16 : rt_dk code rt_i0_16 = true := by decide +kernel
set_option maxRecDepth 100000 in
theorem rt_d0_17 : rt_dk code rt_i0_17 = true := by decide +kernel
set_option maxRecDepth 100000 in
theorem rt_d0_18 : rt_dk code rt_i0_18 = true := by decide +kernel
set_option maxRecDepth 100000 in
theorem rt_d0_19 : rt_dk code rt_i0_19 = true := by decide +kernel
set_option maxRecDepth 100000 in
theorem rt_d0_20 : rt_dk code rt_i0_20 = true := by decide +kernel
set_option maxRecDepth 100000 in
theorem rt_d0_21 : rt_dk code rt_i0_21 = true := by decide +kernel
set_option maxRecDepth 100000 in
theorem rt_d0_22 : rt_dk code rt_i0_22 = true := by decide +kernel
set_option maxRecDepth 100000 in
theorem rt_d0_23 : rt_dk code rt_i0_23 = true := by decide +kernel
set_option maxRecDepth 100000 in
theorem rt_d0_24 : rt_dk code rt_i0_24 = true := by decide +kernel
set_option maxRecDepth 100000 in
theorem rt_d0_25 : rt_dk code rt_i0_25 = true := by decide +kernel
set_option maxRecDepth 100000 in
theorem rt_d0_26 : rt_dk code rt_i0_26 = true := by decide +kernel
set_option maxRecDepth 100000 in
theorem rt_d0_27 : rt_dk code rt_i0_27 = true := by decide +kernel
set_option maxRecDepth 100000 in
theorem rt_d0_28 : rt_dk code rt_i0_28 = true := by decide +kernel
set_option maxRecDepth 100000 in
theorem rt_d0_29 : rt_dk code rt_i0_29 = true := by decide +kernel
set_option maxRecDepth 100000 in
theorem rt_d0_30 : rt_dk code rt_i0_30 = true := by decide +kernel
set_option maxRecDepth 100000 in
theorem rt_d0_31 : rt_dk code rt_i0_31 = true := by decide +kernel
set_option maxRecDepth 100000 in
theorem rt_d0_32 : rt_dk code rt_i0_32 = true := by decide +kernel
set_option maxRecDepth 100000 in
theorem rt_d0_33 : rt_dk code rt_i0_33 = true := by decide +kernel
set_option maxRecDepth 100000 in
theorem rt_d0_34 : rt_dk code rt_i0_34 = true := by decide +kernel
set_option maxRecDepth 100000 in
theorem rt_d0_35 : rt_dk code rt_i0_35 = true := by decide +kernel
set_option maxRecDepth 100000 in
theorem rt_d0_36 : rt_dk code rt_i0_36 = true := by decide +kernel
set_option maxRecDepth 100000 in
theorem rt_d0_37 : rt_dk code rt_i0_37 = true := by decide +kernel
set_option maxRecDepth 100000 in
theorem rt_d0_38 : rt_dk code rt_i0_38 = true := by decide +kernel
set_option maxRecDepth 100000 in
theorem rt_d0_39 : rt_dk code rt_i0_39 = true := by decide +kernel
set_option maxRecDepth 100000 in
theorem rt_d0_40 : rt_dk code rt_i0_40 = true := by decide +kernel
set_option maxRecDepth 100000 in
theorem rt_d0_41 : rt_dk code rt_i0_41 = true := by decide +kernel
theorem rt_D0 : ∀ c ∈ rt_m0.2.2.2.2.2.2.1, rt_dk rt_m0.2.2.2.1 c.2 = true := by
  intro c hc
  have hc : c ∈ [(0, rt_i0_0), (1, rt_i0_1), (5, rt_i0_5), (6, rt_i0_6), (7, rt_i0_7), (8, rt_i0_8), (9, rt_i0_9), (10, rt_i0_10), (11, rt_i0_11), (12, rt_i0_12), (13, rt_i0_13), (14, rt_i0_14), (15, rt_i0_15), (16, rt_i0_16), (17, rt_i0_17), (18, rt_i0_18), (19, rt_i0_19), (20, rt_i0_20), (21, rt_i0_21), (22, rt_i0_22), (23, rt_i0_23), (24, rt_i0_24), (25, rt_i0_25), (26, rt_i0_26), (27, rt_i0_27), (28, rt_i0_28), (29, rt_i0_29), (30, rt_i0_30), (31, rt_i0_31), (32, rt_i0_32), (33, rt_i0_33), (34, rt_i0_34), (35, rt_i0_35), (36, rt_i0_36), (37, rt_i0_37), (38, rt_i0_38), (39, rt_i0_39), (40, rt_i0_40), (41, rt_i0_41)] := hc
  simp only [List.mem_cons, List.not_mem_nil, or_false] at hc
  rcases hc with rfl | rfl | rfl | rfl | rfl | rfl | rfl | rfl | rfl | rfl | rfl | rfl | rfl | rfl | rfl | rfl | rfl | rfl | rfl | rfl | rfl | rfl | rfl | rfl | rfl | rfl | rfl | rfl | rfl | rfl | rfl | rfl | rfl | rfl | rfl | rfl | rfl | rfl | rfl
  · exact rt_d0_0
  · exact rt_d0_1
  · exact rt_d0_5
  · exact rt_d0_6
  · exact rt_d0_7
  · exact rt_d0_8
  · exact rt_d0_9
  · exact rt_d0_10
  · exact rt_d0_11
  · exact rt_d0_12
  · exact rt_d0_13
  · exact rt_d0_14
  · exact rt_d0_15
  · exact rt_d0_16
  · exact rt_d0_17
  · exact rt_d0_18
  · exact rt_d0_19
  · exact rt_d0_20
  · exact rt_d0_21
  · exact rt_d0_22
  · exact rt_d0_23
  · exact rt_d0_24
  · exact rt_d0_25
  · exact rt_d0_26
  · exact rt_d0_27
  · exact rt_d0_28
  · exact rt_d0_29
  · exact rt_d0_30
  · exact rt_d0_31
  · exact rt_d0_32
  · exact rt_d0_33
  · exact rt_d0_34
  · exact rt_d0_35
  · exact rt_d0_36
  · exact rt_d0_37
  · exact rt_d0_38
  · exact rt_d0_39
  · exact rt_d0_40
  · exact rt_d0_41
set_option maxRecDepth 100000 in
theorem rt_d16_0 : rt_dk method_3_code rt_i16_0 = true := by decide +kernel
theorem rt_D16 : ∀ c ∈ rt_m16.2.2.2.2.2.2.1, rt_dk rt_m16.2.2.2.1 c.2 = true := by
  intro c hc
  have hc : c ∈ [(0, rt_i16_0)] := hc
  simp only [List.mem_cons, List.not_mem_nil, or_false] at hc
  rcases hc with rfl
  · exact rt_d16_0
set_option maxRecDepth 100000 in
theorem rt_d17_0 : rt_dk method_4_code rt_i17_0 = true := by decide +kernel
theorem rt_D17 : ∀ c ∈ rt_m17.2.2.2.2.2.2.1, rt_dk rt_m17.2.2.2.1 c.2 = true := by
  intro c hc
  have hc : c ∈ [(0, rt_i17_0)] := hc
  simp only [List.mem_cons, List.not_mem_nil, or_false] at hc
  rcases hc with rfl
  · exact rt_d17_0
set_option maxRecDepth 100000 in
theorem rt_d18_0 : rt_dk method_5_code rt_i18_0 = true := by decide +kernel
theorem rt_D18 : ∀ c ∈ rt_m18.2.2.2.2.2.2.1, rt_dk rt_m18.2.2.2.1 c.2 = true := by
  intro c hc
  have hc : c ∈ [(0, rt_i18_0)] := hc
  simp only [List.mem_cons, List.not_mem_nil, or_false] at hc
  rcases hc with rfl
  · exact rt_d18_0
set_option maxRecDepth 100000 in
theorem rt_d19_0 : rt_dk prog_2_method_1_code rt_i19_0 = true := by decide +kernel
set_option maxRecDepth 100000 in
theorem rt_d19_1 : rt_dk prog_2_method_1_code rt_i19_1 = true := by decide +kernel
set_option maxRecDepth 100000 in
theorem rt_d19_2 : rt_dk prog_2_method_1_code rt_i19_2 = true := by decide +kernel
set_option maxRecDepth 100000 in
theorem rt_d19_3 : rt_dk prog_2_method_1_code rt_i19_3 = true := by decide +kernel
set_option maxRecDepth 100000 in
theorem rt_d19_4 : rt_dk prog_2_method_1_code rt_i19_4 = true := by decide +kernel
set_option maxRecDepth 100000 in
theorem rt_d19_5 : rt_dk prog_2_method_1_code rt_i19_5 = true := by decide +kernel
theorem rt_D19 : ∀ c ∈ rt_m19.2.2.2.2.2.2.1, rt_dk rt_m19.2.2.2.1 c.2 = true := by
  intro c hc
  have hc : c ∈ [(0, rt_i19_0), (1, rt_i19_1), (2, rt_i19_2), (3, rt_i19_3), (4, rt_i19_4), (5, rt_i19_5)] := hc
  simp only [List.mem_cons, List.not_mem_nil, or_false] at hc
  rcases hc with rfl | rfl | rfl | rfl | rfl | rfl
  · exact rt_d19_0
  · exact rt_d19_1
  · exact rt_d19_2
  · exact rt_d19_3
  · exact rt_d19_4
  · exact rt_d19_5
set_option maxRecDepth 100000 in
theorem rt_d20_0 : rt_dk prog_2_method_2_code rt_i20_0 = true := by decide +kernel
theorem rt_D20 : ∀ c ∈ rt_m20.2.2.2.2.2.2.1, rt_dk rt_m20.2.2.2.1 c.2 = true := by
  intro c hc
  have hc : c ∈ [(0, rt_i20_0)] := hc
  simp only [List.mem_cons, List.not_mem_nil, or_false] at hc
  rcases hc with rfl
  · exact rt_d20_0
set_option maxRecDepth 100000 in
theorem rt_d21_0 : rt_dk prog_2_method_3_code rt_i21_0 = true := by decide +kernel
set_option maxRecDepth 100000 in
theorem rt_d21_1 : rt_dk prog_2_method_3_code rt_i21_1 = true := by decide +kernel
set_option maxRecDepth 100000 in
theorem rt_d21_2 : rt_dk prog_2_method_3_code rt_i21_2 = true := by decide +kernel
set_option maxRecDepth 100000 in
theorem rt_d21_3 : rt_dk prog_2_method_3_code rt_i21_3 = true := by decide +kernel
theorem rt_D21 : ∀ c ∈ rt_m21.2.2.2.2.2.2.1, rt_dk rt_m21.2.2.2.1 c.2 = true := by
  intro c hc
  have hc : c ∈ [(0, rt_i21_0), (1, rt_i21_1), (2, rt_i21_2), (3, rt_i21_3)] := hc
  simp only [List.mem_cons, List.not_mem_nil, or_false] at hc
  rcases hc with rfl | rfl | rfl | rfl
  · exact rt_d21_0
  · exact rt_d21_1
  · exact rt_d21_2
  · exact rt_d21_3
set_option maxRecDepth 100000 in
theorem rt_d22_0 : rt_dk prog_2_method_4_code rt_i22_0 = true := by decide +kernel
theorem rt_D22 : ∀ c ∈ rt_m22.2.2.2.2.2.2.1, rt_dk rt_m22.2.2.2.1 c.2 = true := by
  intro c hc
  have hc : c ∈ [(0, rt_i22_0)] := hc
  simp only [List.mem_cons, List.not_mem_nil, or_false] at hc
  rcases hc with rfl
  · exact rt_d22_0
set_option maxRecDepth 100000 in
theorem rt_d23_0 : rt_dk prog_3_method_1_code rt_i23_0 = true := by decide +kernel
set_option maxRecDepth 100000 in
theorem rt_d23_1 : rt_dk prog_3_method_1_code rt_i23_1 = true := by decide +kernel
set_option maxRecDepth 100000 in
theorem rt_d23_2 : rt_dk prog_3_method_1_code rt_i23_2 = true := by decide +kernel
set_option maxRecDepth 100000 in
theorem rt_d23_3 : rt_dk prog_3_method_1_code rt_i23_3 = true := by decide +kernel
theorem rt_D23 : ∀ c ∈ rt_m23.2.2.2.2.2.2.1, rt_dk rt_m23.2.2.2.1 c.2 = true := by
  intro c hc
  have hc : c ∈ [(0, rt_i23_0), (1, rt_i23_1), (2, rt_i23_2), (3, rt_i23_3)] := hc
  simp only [List.mem_cons, List.not_mem_nil, or_false] at hc
  rcases hc with rfl | rfl | rfl | rfl
  · exact rt_d23_0
  · exact rt_d23_1
  · exact rt_d23_2
  · exact rt_d23_3
set_option maxRecDepth 100000 in
theorem rt_d24_0 : rt_dk prog_3_method_2_code rt_i24_0 = true := by decide +kernel
set_option maxRecDepth 100000 in
theorem rt_d24_1 : rt_dk prog_3_method_2_code rt_i24_1 = true := by decide +kernel
theorem rt_D24 : ∀ c ∈ rt_m24.2.2.2.2.2.2.1, rt_dk rt_m24.2.2.2.1 c.2 = true := by
  intro c hc
  have hc : c ∈ [(0, rt_i24_0), (1, rt_i24_1)] := hc
  simp only [List.mem_cons, List.not_mem_nil, or_false] at hc
  rcases hc with rfl | rfl
  · exact rt_d24_0
  · exact rt_d24_1
set_option maxRecDepth 100000 in
theorem rt_d25_0 : rt_dk prog_3_method_3_code rt_i25_0 = true := by decide +kernel
set_option maxRecDepth 100000 in
theorem rt_d25_1 : rt_dk prog_3_method_3_code rt_i25_1 = true := by decide +kernel
set_option maxRecDepth 100000 in
theorem rt_d25_2 : rt_dk prog_3_method_3_code rt_i25_2 = true := by decide +kernel
theorem rt_D25 : ∀ c ∈ rt_m25.2.2.2.2.2.2.1, rt_dk rt_m25.2.2.2.1 c.2 = true := by
  intro c hc
  have hc : c ∈ [(0, rt_i25_0), (1, rt_i25_1), (2, rt_i25_2)] := hc
  simp only [List.mem_cons, List.not_mem_nil, or_false] at hc
  rcases hc with rfl | rfl | rfl
  · exact rt_d25_0
  · exact rt_d25_1
  · exact rt_d25_2
set_option maxRecDepth 100000 in
theorem rt_d26_0 : rt_dk prog_3_method_4_code rt_i26_0 = true := by decide +kernel
set_option maxRecDepth 100000 in
theorem rt_d26_1 : rt_dk prog_3_method_4_code rt_i26_1 = true := by decide +kernel
theorem rt_D26 : ∀ c ∈ rt_m26.2.2.2.2.2.2.1, rt_dk rt_m26.2.2.2.1 c.2 = true := by
  intro c hc
  have hc : c ∈ [(0, rt_i26_0), (1, rt_i26_1)] := hc
  simp only [List.mem_cons, List.not_mem_nil, or_false] at hc
  rcases hc with rfl | rfl
  · exact rt_d26_0
  · exact rt_d26_1
set_option maxRecDepth 100000 in
theorem rt_d27_0 : rt_dk prog_4_method_1_code rt_i27_0 = true := by decide +kernel
set_option maxRecDepth 100000 in
theorem rt_d27_1 : rt_dk prog_4_method_1_code rt_i27_1 = true := by decide +kernel
theorem rt_D27 : ∀ c ∈ rt_m27.2.2.2.2.2.2.1, rt_dk rt_m27.2.2.2.1 c.2 = true := by
  intro c hc
  have hc : c ∈ [(0, rt_i27_0), (1, rt_i27_1)] := hc
  simp only [List.mem_cons, List.not_mem_nil, or_false] at hc
  rcases hc with rfl | rfl
  · exact rt_d27_0
  · exact rt_d27_1
set_option maxRecDepth 100000 in
theorem rt_d28_0 : rt_dk prog_5_method_1_code rt_i28_0 = true := by decide +kernel
set_option maxRecDepth 100000 in
theorem rt_d28_1 : rt_dk prog_5_method_1_code rt_i28_1 = true := by decide +kernel
set_option maxRecDepth 100000 in
theorem rt_d28_2 : rt_dk prog_5_method_1_code rt_i28_2 = true := by decide +kernel
theorem rt_D28 : ∀ c ∈ rt_m28.2.2.2.2.2.2.1, rt_dk rt_m28.2.2.2.1 c.2 = true := by
  intro c hc
  have hc : c ∈ [(0, rt_i28_0), (1, rt_i28_1), (2, rt_i28_2)] := hc
  simp only [List.mem_cons, List.not_mem_nil, or_false] at hc
  rcases hc with rfl | rfl | rfl
  · exact rt_d28_0
  · exact rt_d28_1
  · exact rt_d28_2
set_option maxRecDepth 100000 in
theorem rt_d29_0 : rt_dk prog_5_method_2_code rt_i29_0 = true := by decide +kernel
theorem rt_D29 : ∀ c ∈ rt_m29.2.2.2.2.2.2.1, rt_dk rt_m29.2.2.2.1 c.2 = true := by
  intro c hc
  have hc : c ∈ [(0, rt_i29_0)] := hc
  simp only [List.mem_cons, List.not_mem_nil, or_false] at hc
  rcases hc with rfl
  · exact rt_d29_0
set_option maxRecDepth 100000 in
theorem rt_d30_0 : rt_dk prog_5_method_14_code rt_i30_0 = true := by decide +kernel
theorem rt_D30 : ∀ c ∈ rt_m30.2.2.2.2.2.2.1, rt_dk rt_m30.2.2.2.1 c.2 = true := by
  intro c hc
  have hc : c ∈ [(0, rt_i30_0)] := hc
  simp only [List.mem_cons, List.not_mem_nil, or_false] at hc
  rcases hc with rfl
  · exact rt_d30_0
set_option maxRecDepth 100000 in
theorem rt_d31_0 : rt_dk prog_6_method_1_code rt_i31_0 = true := by decide +kernel
set_option maxRecDepth 100000 in
theorem rt_d31_1 : rt_dk prog_6_method_1_code rt_i31_1 = true := by decide +kernel
theorem rt_D31 : ∀ c ∈ rt_m31.2.2.2.2.2.2.1, rt_dk rt_m31.2.2.2.1 c.2 = true := by
  intro c hc
  have hc : c ∈ [(0, rt_i31_0), (1, rt_i31_1)] := hc
  simp only [List.mem_cons, List.not_mem_nil, or_false] at hc
  rcases hc with rfl | rfl
  · exact rt_d31_0
  · exact rt_d31_1
set_option maxRecDepth 100000 in
theorem rt_d32_0 : rt_dk prog_7_method_1_code rt_i32_0 = true := by decide +kernel
set_option maxRecDepth 100000 in
theorem rt_d32_1 : rt_dk prog_7_method_1_code rt_i32_1 = true := by decide +kernel
set_option maxRecDepth 100000 in
theorem rt_d32_2 : rt_dk prog_7_method_1_code rt_i32_2 = true := by decide +kernel
set_option maxRecDepth 100000 in
theorem rt_d32_3 : rt_dk prog_7_method_1_code rt_i32_3 = true := by decide +kernel
theorem rt_D32 : ∀ c ∈ rt_m32.2.2.2.2.2.2.1, rt_dk rt_m32.2.2.2.1 c.2 = true := by
  intro c hc
  have hc : c ∈ [(0, rt_i32_0), (1, rt_i32_1), (2, rt_i32_2), (3, rt_i32_3)] := hc
  simp only [List.mem_cons, List.not_mem_nil, or_false] at hc
  rcases hc with rfl | rfl | rfl | rfl
  · exact rt_d32_0
  · exact rt_d32_1
  · exact rt_d32_2
  · exact rt_d32_3
set_option maxRecDepth 100000 in
theorem rt_d33_0 : rt_dk prog_7_method_2_code rt_i33_0 = true := by decide +kernel
theorem rt_D33 : ∀ c ∈ rt_m33.2.2.2.2.2.2.1, rt_dk rt_m33.2.2.2.1 c.2 = true := by
  intro c hc
  have hc : c ∈ [(0, rt_i33_0)] := hc
  simp only [List.mem_cons, List.not_mem_nil, or_false] at hc
  rcases hc with rfl
  · exact rt_d33_0
set_option maxRecDepth 100000 in
theorem rt_d34_0 : rt_dk prog_8_method_1_code rt_i34_0 = true := by decide +kernel
set_option maxRecDepth 100000 in
theorem rt_d34_1 : rt_dk prog_8_method_1_code rt_i34_1 = true := by decide +kernel
theorem rt_D34 : ∀ c ∈ rt_m34.2.2.2.2.2.2.1, rt_dk rt_m34.2.2.2.1 c.2 = true := by
  intro c hc
  have hc : c ∈ [(0, rt_i34_0), (1, rt_i34_1)] := hc
  simp only [List.mem_cons, List.not_mem_nil, or_false] at hc
  rcases hc with rfl | rfl
  · exact rt_d34_0
  · exact rt_d34_1
set_option maxRecDepth 100000 in
theorem rt_d35_0 : rt_dk prog_9_method_1_code rt_i35_0 = true := by decide +kernel
set_option maxRecDepth 100000 in
theorem rt_d35_1 : rt_dk prog_9_method_1_code rt_i35_1 = true := by decide +kernel
set_option maxRecDepth 100000 in
theorem rt_d35_2 : rt_dk prog_9_method_1_code rt_i35_2 = true := by decide +kernel
set_option maxRecDepth 100000 in
theorem rt_d35_3 : rt_dk prog_9_method_1_code rt_i35_3 = true := by decide +kernel
set_option maxRecDepth 100000 in
theorem rt_d35_4 : rt_dk prog_9_method_1_code rt_i35_4 = true := by decide +kernel
theorem rt_D35 : ∀ c ∈ rt_m35.2.2.2.2.2.2.1, rt_dk rt_m35.2.2.2.1 c.2 = true := by
  intro c hc
  have hc : c ∈ [(0, rt_i35_0), (1, rt_i35_1), (2, rt_i35_2), (3, rt_i35_3), (4, rt_i35_4)] := hc
  simp only [List.mem_cons, List.not_mem_nil, or_false] at hc
  rcases hc with rfl | rfl | rfl | rfl | rfl
  · exact rt_d35_0
  · exact rt_d35_1
  · exact rt_d35_2
  · exact rt_d35_3
  · exact rt_d35_4
set_option maxRecDepth 100000 in
theorem rt_d36_0 : rt_dk prog_9_method_2_code rt_i36_0 = true := by decide +kernel
theorem rt_D36 : ∀ c ∈ rt_m36.2.2.2.2.2.2.1, rt_dk rt_m36.2.2.2.1 c.2 = true := by
  intro c hc
  have hc : c ∈ [(0, rt_i36_0)] := hc
  simp only [List.mem_cons, List.not_mem_nil, or_false] at hc
  rcases hc with rfl
  · exact rt_d36_0
set_option maxRecDepth 100000 in
theorem rt_d37_0 : rt_dk prog_9_method_3_code rt_i37_0 = true := by decide +kernel
theorem rt_D37 : ∀ c ∈ rt_m37.2.2.2.2.2.2.1, rt_dk rt_m37.2.2.2.1 c.2 = true := by
  intro c hc
  have hc : c ∈ [(0, rt_i37_0)] := hc
  simp only [List.mem_cons, List.not_mem_nil, or_false] at hc
  rcases hc with rfl
  · exact rt_d37_0
set_option maxRecDepth 100000 in
theorem rt_d38_0 : rt_dk prog_9_method_4_code rt_i38_0 = true := by decide +kernel
set_option maxRecDepth 100000 in
theorem rt_d38_1 : rt_dk prog_9_method_4_code rt_i38_1 = true := by decide +kernel
theorem rt_D38 : ∀ c ∈ rt_m38.2.2.2.2.2.2.1, rt_dk rt_m38.2.2.2.1 c.2 = true := by
  intro c hc
  have hc : c ∈ [(0, rt_i38_0), (1, rt_i38_1)] := hc
  simp only [List.mem_cons, List.not_mem_nil, or_false] at hc
  rcases hc with rfl | rfl
  · exact rt_d38_0
  · exact rt_d38_1
set_option maxRecDepth 100000 in
theorem rt_d39_0 : rt_dk prog_10_method_1_code rt_i39_0 = true := by decide +kernel
theorem rt_D39 : ∀ c ∈ rt_m39.2.2.2.2.2.2.1, rt_dk rt_m39.2.2.2.1 c.2 = true := by
  intro c hc
  have hc : c ∈ [(0, rt_i39_0)] := hc
  simp only [List.mem_cons, List.not_mem_nil, or_false] at hc
  rcases hc with rfl
  · exact rt_d39_0
set_option maxRecDepth 100000 in
theorem rt_d40_0 : rt_dk prog_10_method_2_code rt_i40_0 = true := by decide +kernel
set_option maxRecDepth 100000 in
theorem rt_d40_1 : rt_dk prog_10_method_2_code rt_i40_1 = true := by decide +kernel
theorem rt_D40 : ∀ c ∈ rt_m40.2.2.2.2.2.2.1, rt_dk rt_m40.2.2.2.1 c.2 = true := by
  intro c hc
  have hc : c ∈ [(0, rt_i40_0), (1, rt_i40_1)] := hc
  simp only [List.mem_cons, List.not_mem_nil, or_false] at hc
  rcases hc with rfl | rfl
  · exact rt_d40_0
  · exact rt_d40_1
set_option maxRecDepth 100000 in
theorem rt_d41_0 : rt_dk prog_10_method_3_code rt_i41_0 = true := by decide +kernel
theorem rt_D41 : ∀ c ∈ rt_m41.2.2.2.2.2.2.1, rt_dk rt_m41.2.2.2.1 c.2 = true := by
  intro c hc
  have hc : c ∈ [(0, rt_i41_0)] := hc
  simp only [List.mem_cons, List.not_mem_nil, or_false] at hc
  rcases hc with rfl
  · exact rt_d41_0
set_option maxRecDepth 100000 in
theorem rt_d42_0 : rt_dk prog_10_method_4_code rt_i42_0 = true := by decide +kernel
theorem rt_D42 : ∀ c ∈ rt_m42.2.2.2.2.2.2.1, rt_dk rt_m42.2.2.2.1 c.2 = true := by
  intro c hc
  have hc : c ∈ [(0, rt_i42_0)] := hc
  simp only [List.mem_cons, List.not_mem_nil, or_false] at hc
  rcases hc with rfl
  · exact rt_d42_0
set_option maxRecDepth 100000 in
theorem rt_d43_0 : rt_dk prog_10_method_5_code rt_i43_0 = true := by decide +kernel
theorem rt_D43 : ∀ c ∈ rt_m43.2.2.2.2.2.2.1, rt_dk rt_m43.2.2.2.1 c.2 = true := by
  intro c hc
  have hc : c ∈ [(0, rt_i43_0)] := hc
  simp only [List.mem_cons, List.not_mem_nil, or_false] at hc
  rcases hc with rfl
  · exact rt_d43_0
set_option maxRecDepth 100000 in
theorem rt_d44_0 : rt_dk prog_10_method_10_code rt_i44_0 = true := by decide +kernel
set_option maxRecDepth 100000 in
theorem rt_d44_1 : rt_dk prog_10_method_10_code rt_i44_1 = true := by decide +kernel
set_option maxRecDepth 100000 in
theorem rt_d44_2 : rt_dk prog_10_method_10_code rt_i44_2 = true := by decide +kernel
theorem rt_D44 : ∀ c ∈ rt_m44.2.2.2.2.2.2.1, rt_dk rt_m44.2.2.2.1 c.2 = true := by
  intro c hc
  have hc : c ∈ [(0, rt_i44_0), (1, rt_i44_1), (2, rt_i44_2)] := hc
  simp only [List.mem_cons, List.not_mem_nil, or_false] at hc
  rcases hc with rfl | rfl | rfl
  · exact rt_d44_0
  · exact rt_d44_1
  · exact rt_d44_2
set_option maxRecDepth 100000 in
theorem rt_d45_0 : rt_dk prog_10_method_11_code rt_i45_0 = true := by decide +kernel
set_option maxRecDepth 100000 in
theorem rt_d45_1 : rt_dk prog_10_method_11_code rt_i45_1 = true := by decide +kernel
set_option maxRecDepth 100000 in
theorem rt_d45_2 : rt_dk prog_10_method_11_code rt_i45_2 = true := by decide +kernel
set_option maxRecDepth 100000 in
theorem rt_d45_3 : rt_dk prog_10_method_11_code rt_i45_3 = true := by decide +kernel
set_option maxRecDepth 100000 in
theorem rt_d45_4 : rt_dk prog_10_method_11_code rt_i45_4 = true := by decide +kernel
theorem rt_D45 : ∀ c ∈ rt_m45.2.2.2.2.2.2.1, rt_dk rt_m45.2.2.2.1 c.2 = true := by
  intro c hc
  have hc : c ∈ [(0, rt_i45_0), (1, rt_i45_1), (2, rt_i45_2), (3, rt_i45_3), (4, rt_i45_4)] := hc
  simp only [List.mem_cons, List.not_mem_nil, or_false] at hc
  rcases hc with rfl | rfl | rfl | rfl | rfl
  · exact rt_d45_0
  · exact rt_d45_1
  · exact rt_d45_2
  · exact rt_d45_3
  · exact rt_d45_4
set_option maxRecDepth 100000 in
theorem rt_d46_0 : rt_dk prog_11_method_1_code rt_i46_0 = true := by decide +kernel
set_option maxRecDepth 100000 in
theorem rt_d46_1 : rt_dk prog_11_method_1_code rt_i46_1 = true := by decide +kernel
set_option maxRecDepth 100000 in
theorem rt_d46_2 : rt_dk prog_11_method_1_code rt_i46_2 = true := by decide +kernel
set_option maxRecDepth 100000 in
theorem rt_d46_3 : rt_dk prog_11_method_1_code rt_i46_3 = true := by decide +kernel
theorem rt_D46 : ∀ c ∈ rt_m46.2.2.2.2.2.2.1, rt_dk rt_m46.2.2.2.1 c.2 = true := by
  intro c hc
  have hc : c ∈ [(0, rt_i46_0), (1, rt_i46_1), (2, rt_i46_2), (3, rt_i46_3)] := hc
  simp only [List.mem_cons, List.not_mem_nil, or_false] at hc
  rcases hc with rfl | rfl | rfl | rfl
  · exact rt_d46_0
  · exact rt_d46_1
  · exact rt_d46_2
  · exact rt_d46_3
set_option maxRecDepth 100000 in
theorem rt_d47_0 : rt_dk prog_11_method_2_code rt_i47_0 = true := by decide +kernel
set_option maxRecDepth 100000 in
theorem rt_d47_1 : rt_dk prog_11_method_2_code rt_i47_1 = true := by decide +kernel
theorem rt_D47 : ∀ c ∈ rt_m47.2.2.2.2.2.2.1, rt_dk rt_m47.2.2.2.1 c.2 = true := by
  intro c hc
  have hc : c ∈ [(0, rt_i47_0), (1, rt_i47_1)] := hc
  simp only [List.mem_cons, List.not_mem_nil, or_false] at hc
  rcases hc with rfl | rfl
  · exact rt_d47_0
  · exact rt_d47_1
set_option maxRecDepth 100000 in
theorem rt_d48_0 : rt_dk prog_11_method_4_code rt_i48_0 = true := by decide +kernel
theorem rt_D48 : ∀ c ∈ rt_m48.2.2.2.2.2.2.1, rt_dk rt_m48.2.2.2.1 c.2 = true := by
  intro c hc
  have hc : c ∈ [(0, rt_i48_0)] := hc
  simp only [List.mem_cons, List.not_mem_nil, or_false] at hc
  rcases hc with rfl
  · exact rt_d48_0
set_option maxRecDepth 100000 in
theorem rt_d49_0 : rt_dk prog_11_method_5_code rt_i49_0 = true := by decide +kernel
theorem rt_D49 : ∀ c ∈ rt_m49.2.2.2.2.2.2.1, rt_dk rt_m49.2.2.2.1 c.2 = true := by
  intro c hc
  have hc : c ∈ [(0, rt_i49_0)] := hc
  simp only [List.mem_cons, List.not_mem_nil, or_false] at hc
  rcases hc with rfl
  · exact rt_d49_0
set_option maxRecDepth 100000 in
theorem rt_d50_0 : rt_dk prog_11_method_23_code rt_i50_0 = true := by decide +kernel
set_option maxRecDepth 100000 in
theorem rt_d50_1 : rt_dk prog_11_method_23_code rt_i50_1 = true := by decide +kernel
set_option maxRecDepth 100000 in
theorem rt_d50_2 : rt_dk prog_11_method_23_code rt_i50_2 = true := by decide +kernel
set_option maxRecDepth 100000 in
theorem rt_d50_3 : rt_dk prog_11_method_23_code rt_i50_3 = true := by decide +kernel
theorem rt_D50 : ∀ c ∈ rt_m50.2.2.2.2.2.2.1, rt_dk rt_m50.2.2.2.1 c.2 = true := by
  intro c hc
  have hc : c ∈ [(0, rt_i50_0), (1, rt_i50_1), (2, rt_i50_2), (3, rt_i50_3)] := hc
  simp only [List.mem_cons, List.not_mem_nil, or_false] at hc
  rcases hc with rfl | rfl | rfl | rfl
  · exact rt_d50_0
  · exact rt_d50_1
  · exact rt_d50_2
  · exact rt_d50_3
set_option maxRecDepth 100000 in
theorem rt_d51_0 : rt_dk prog_12_method_1_code rt_i51_0 = true := by decide +kernel
set_option maxRecDepth 100000 in
theorem rt_d51_1 : rt_dk prog_12_method_1_code rt_i51_1 = true := by decide +kernel
theorem rt_D51 : ∀ c ∈ rt_m51.2.2.2.2.2.2.1, rt_dk rt_m51.2.2.2.1 c.2 = true := by
  intro c hc
  have hc : c ∈ [(0, rt_i51_0), (1, rt_i51_1)] := hc
  simp only [List.mem_cons, List.not_mem_nil, or_false] at hc
  rcases hc with rfl | rfl
  · exact rt_d51_0
  · exact rt_d51_1
set_option maxRecDepth 100000 in
theorem rt_d52_0 : rt_dk prog_13_method_1_code rt_i52_0 = true := by decide +kernel
set_option maxRecDepth 100000 in
theorem rt_d52_1 : rt_dk prog_13_method_1_code rt_i52_1 = true := by decide +kernel
theorem rt_D52 : ∀ c ∈ rt_m52.2.2.2.2.2.2.1, rt_dk rt_m52.2.2.2.1 c.2 = true := by
  intro c hc
  have hc : c ∈ [(0, rt_i52_0), (1, rt_i52_1)] := hc
  simp only [List.mem_cons, List.not_mem_nil, or_false] at hc
  rcases hc with rfl | rfl
  · exact rt_d52_0
  · exact rt_d52_1
set_option maxRecDepth 100000 in
theorem rt_d53_0 : rt_dk prog_13_method_2_code rt_i53_0 = true := by decide +kernel
theorem rt_D53 : ∀ c ∈ rt_m53.2.2.2.2.2.2.1, rt_dk rt_m53.2.2.2.1 c.2 = true := by
  intro c hc
  have hc : c ∈ [(0, rt_i53_0)] := hc
  simp only [List.mem_cons, List.not_mem_nil, or_false] at hc
  rcases hc with rfl
  · exact rt_d53_0
set_option maxRecDepth 100000 in
theorem rt_d54_0 : rt_dk prog_13_method_3_code rt_i54_0 = true := by decide +kernel
set_option maxRecDepth 100000 in
theorem rt_d54_1 : rt_dk prog_13_method_3_code rt_i54_1 = true := by decide +kernel
theorem rt_D54 : ∀ c ∈ rt_m54.2.2.2.2.2.2.1, rt_dk rt_m54.2.2.2.1 c.2 = true := by
  intro c hc
  have hc : c ∈ [(0, rt_i54_0), (1, rt_i54_1)] := hc
  simp only [List.mem_cons, List.not_mem_nil, or_false] at hc
  rcases hc with rfl | rfl
  · exact rt_d54_0
  · exact rt_d54_1
set_option maxRecDepth 100000 in
theorem rt_d55_0 : rt_dk prog_1_method_1_code rt_i55_0 = true := by decide +kernel
set_option maxRecDepth 100000 in
theorem rt_d55_1 : rt_dk prog_1_method_1_code rt_i55_1 = true := by decide +kernel
set_option maxRecDepth 100000 in
theorem rt_d55_2 : rt_dk prog_1_method_1_code rt_i55_2 = true := by decide +kernel
set_option maxRecDepth 100000 in
theorem rt_d55_3 : rt_dk prog_1_method_1_code rt_i55_3 = true := by decide +kernel
set_option maxRecDepth 100000 in
theorem rt_d55_4 : rt_dk prog_1_method_1_code rt_i55_4 = true := by decide +kernel
set_option maxRecDepth 100000 in
theorem rt_d55_5 : rt_dk prog_1_method_1_code rt_i55_5 = true := by decide +kernel
set_option maxRecDepth 100000 in
theorem rt_d55_6 : rt_dk prog_1_method_1_code rt_i55_6 = true := by decide +kernel
theorem rt_D55 : ∀ c ∈ rt_m55.2.2.2.2.2.2.1, rt_dk rt_m55.2.2.2.1 c.2 = true := by
  intro c hc
  have hc : c ∈ [(0, rt_i55_0), (1, rt_i55_1), (2, rt_i55_2), (3, rt_i55_3), (4, rt_i55_4), (5, rt_i55_5), (6, rt_i55_6)] := hc
  simp only [List.mem_cons, List.not_mem_nil, or_false] at hc
  rcases hc with rfl | rfl | rfl | rfl | rfl | rfl | rfl
  · exact rt_d55_0
  · exact rt_d55_1
  · exact rt_d55_2
  · exact rt_d55_3
  · exact rt_d55_4
  · exact rt_d55_5
  · exact rt_d55_6
set_option maxRecDepth 100000 in
theorem rt_d56_0 : rt_dk prog_1_method_2_code rt_i56_0 = true := by decide +kernel
set_option maxRecDepth 100000 in
theorem rt_d56_1 : rt_dk prog_1_method_2_code rt_i56_1 = true := by decide +kernel
set_option maxRecDepth 100000 in
theorem rt_d56_2 : rt_dk prog_1_method_2_code rt_i56_2 = true := by decide +kernel
theorem rt_D56 : ∀ c ∈ rt_m56.2.2.2.2.2.2.1, rt_dk rt_m56.2.2.2.1 c.2 = true := by
  intro c hc
  have hc : c ∈ [(0, rt_i56_0), (1, rt_i56_1), (2, rt_i56_2)] := hc
  simp only [List.mem_cons, List.not_mem_nil, or_false] at hc
  rcases hc with rfl | rfl | rfl
  · exact rt_d56_0
  · exact rt_d56_1
  · exact rt_d56_2
set_option maxRecDepth 100000 in
theorem rt_d57_0 : rt_dk prog_1_method_3_code rt_i57_0 = true := by decide +kernel
theorem rt_D57 : ∀ c ∈ rt_m57.2.2.2.2.2.2.1, rt_dk rt_m57.2.2.2.1 c.2 = true := by
  intro c hc
  have hc : c ∈ [(0, rt_i57_0)] := hc
  simp only [List.mem_cons, List.not_mem_nil, or_false] at hc
  rcases hc with rfl
  · exact rt_d57_0
set_option maxRecDepth 100000 in
theorem rt_d58_0 : rt_dk prog_1_method_4_code rt_i58_0 = true := by decide +kernel
theorem rt_D58 : ∀ c ∈ rt_m58.2.2.2.2.2.2.1, rt_dk rt_m58.2.2.2.1 c.2 = true := by
  intro c hc
  have hc : c ∈ [(0, rt_i58_0)] := hc
  simp only [List.mem_cons, List.not_mem_nil, or_false] at hc
  rcases hc with rfl
  · exact rt_d58_0
set_option maxRecDepth 100000 in
theorem rt_d59_0 : rt_dk prog_1_method_5_code rt_i59_0 = true := by decide +kernel
set_option maxRecDepth 100000 in
theorem rt_d59_1 : rt_dk prog_1_method_5_code rt_i59_1 = true := by decide +kernel
theorem rt_D59 : ∀ c ∈ rt_m59.2.2.2.2.2.2.1, rt_dk rt_m59.2.2.2.1 c.2 = true := by
  intro c hc
  have hc : c ∈ [(0, rt_i59_0), (1, rt_i59_1)] := hc
  simp only [List.mem_cons, List.not_mem_nil, or_false] at hc
  rcases hc with rfl | rfl
  · exact rt_d59_0
  · exact rt_d59_1
set_option maxRecDepth 100000 in
theorem rt_d60_0 : rt_dk prog_1_method_6_code rt_i60_0 = true := by decide +kernel
theorem rt_D60 : ∀ c ∈ rt_m60.2.2.2.2.2.2.1, rt_dk rt_m60.2.2.2.1 c.2 = true := by
  intro c hc
  have hc : c ∈ [(0, rt_i60_0)] := hc
  simp only [List.mem_cons, List.not_mem_nil, or_false] at hc
  rcases hc with rfl
  · exact rt_d60_0
set_option maxRecDepth 100000 in
theorem rt_d61_0 : rt_dk prog_1_method_7_code rt_i61_0 = true := by decide +kernel
theorem rt_D61 : ∀ c ∈ rt_m61.2.2.2.2.2.2.1, rt_dk rt_m61.2.2.2.1 c.2 = true := by
  intro c hc
  have hc : c ∈ [(0, rt_i61_0)] := hc
  simp only [List.mem_cons, List.not_mem_nil, or_false] at hc
  rcases hc with rfl
  · exact rt_d61_0
set_option maxRecDepth 100000 in
theorem rt_d62_0 : rt_dk prog_1_method_8_code rt_i62_0 = true := by decide +kernel
set_option maxRecDepth 100000 in
theorem rt_d62_1 : rt_dk prog_1_method_8_code rt_i62_1 = true := by decide +kernel
set_option maxRecDepth 100000 in
theorem rt_d62_2 : rt_dk prog_1_method_8_code rt_i62_2 = true := by decide +kernel
theorem rt_D62 : ∀ c ∈ rt_m62.2.2.2.2.2.2.1, rt_dk rt_m62.2.2.2.1 c.2 = true := by
  intro c hc
  have hc : c ∈ [(0, rt_i62_0), (1, rt_i62_1), (2, rt_i62_2)] := hc
  simp only [List.mem_cons, List.not_mem_nil, or_false] at hc
  rcases hc with rfl | rfl | rfl
  · exact rt_d62_0
  · exact rt_d62_1
  · exact rt_d62_2
set_option maxRecDepth 100000 in
theorem rt_d63_0 : rt_dk prog_1_method_10_code rt_i63_0 = true := by decide +kernel
set_option maxRecDepth 100000 in
theorem rt_d63_1 : rt_dk prog_1_method_10_code rt_i63_1 = true := by decide +kernel
set_option maxRecDepth 100000 in
theorem rt_d63_2 : rt_dk prog_1_method_10_code rt_i63_2 = true := by decide +kernel
set_option maxRecDepth 100000 in
theorem rt_d63_3 : rt_dk prog_1_method_10_code rt_i63_3 = true := by decide +kernel
theorem rt_D63 : ∀ c ∈ rt_m63.2.2.2.2.2.2.1, rt_dk rt_m63.2.2.2.1 c.2 = true := by
  intro c hc
  have hc : c ∈ [(0, rt_i63_0), (1, rt_i63_1), (2, rt_i63_2), (3, rt_i63_3)] := hc
  simp only [List.mem_cons, List.not_mem_nil, or_false] at hc
  rcases hc with rfl | rfl | rfl | rfl
  · exact rt_d63_0
  · exact rt_d63_1
  · exact rt_d63_2
  · exact rt_d63_3
set_option maxRecDepth 100000 in
theorem rt_d64_0 : rt_dk prog_1_method_11_code rt_i64_0 = true := by decide +kernel
set_option maxRecDepth 100000 in
theorem rt_d64_1 : rt_dk prog_1_method_11_code rt_i64_1 = true := by decide +kernel
set_option maxRecDepth 100000 in
theorem rt_d64_2 : rt_dk prog_1_method_11_code rt_i64_2 = true := by decide +kernel
set_option maxRecDepth 100000 in
theorem rt_d64_3 : rt_dk prog_1_method_11_code rt_i64_3 = true := by decide +kernel
set_option maxRecDepth 100000 in
theorem rt_d64_4 : rt_dk prog_1_method_11_code rt_i64_4 = true := by decide +kernel
theorem rt_D64 : ∀ c ∈ rt_m64.2.2.2.2.2.2.1, rt_dk rt_m64.2.2.2.1 c.2 = true := by
  intro c hc
  have hc : c ∈ [(0, rt_i64_0), (1, rt_i64_1), (2, rt_i64_2), (3, rt_i64_3), (4, rt_i64_4)] := hc
  simp only [List.mem_cons, List.not_mem_nil, or_false] at hc
  rcases hc with rfl | rfl | rfl | rfl | rfl
  · exact rt_d64_0
  · exact rt_d64_1
  · exact rt_d64_2
  · exact rt_d64_3
  · exact rt_d64_4
set_option maxRecDepth 100000 in
theorem rt_d65_0 : rt_dk prog_1_method_12_code rt_i65_0 = true := by decide +kernel
set_option maxRecDepth 100000 in
theorem rt_d65_1 : rt_dk prog_1_method_12_code rt_i65_1 = true := by decide +kernel
set_option maxRecDepth 100000 in
theorem rt_d65_2 : rt_dk prog_1_method_12_code rt_i65_2 = true := by decide +kernel
set_option maxRecDepth 100000 in
theorem rt_d65_3 : rt_dk prog_1_method_12_code rt_i65_3 = true := by decide +kernel
theorem rt_D65 : ∀ c ∈ rt_m65.2.2.2.2.2.2.1, rt_dk rt_m65.2.2.2.1 c.2 = true := by
  intro c hc
  have hc : c ∈ [(0, rt_i65_0), (1, rt_i65_1), (2, rt_i65_2), (3, rt_i65_3)] := hc
  simp only [List.mem_cons, List.not_mem_nil, or_false] at hc
  rcases hc with rfl | rfl | rfl | rfl
  · exact rt_d65_0
  · exact rt_d65_1
  · exact rt_d65_2
  · exact rt_d65_3
set_option maxRecDepth 100000 in
theorem rt_d66_0 : rt_dk prog_1_method_13_code rt_i66_0 = true := by decide +kernel
theorem rt_D66 : ∀ c ∈ rt_m66.2.2.2.2.2.2.1, rt_dk rt_m66.2.2.2.1 c.2 = true := by
  intro c hc
  have hc : c ∈ [(0, rt_i66_0)] := hc
  simp only [List.mem_cons, List.not_mem_nil, or_false] at hc
  rcases hc with rfl
  · exact rt_d66_0
set_option maxRecDepth 100000 in
theorem rt_d67_0 : rt_dk prog_1_method_14_code rt_i67_0 = true := by decide +kernel
theorem rt_D67 : ∀ c ∈ rt_m67.2.2.2.2.2.2.1, rt_dk rt_m67.2.2.2.1 c.2 = true := by
  intro c hc
  have hc : c ∈ [(0, rt_i67_0)] := hc
  simp only [List.mem_cons, List.not_mem_nil, or_false] at hc
  rcases hc with rfl
  · exact rt_d67_0
set_option maxRecDepth 100000 in
theorem rt_d68_0 : rt_dk prog_1_method_15_code rt_i68_0 = true := by decide +kernel
set_option maxRecDepth 100000 in
theorem rt_d68_1 : rt_dk prog_1_method_15_code rt_i68_1 = true := by decide +kernel
set_option maxRecDepth 100000 in
theorem rt_d68_2 : rt_dk prog_1_method_15_code rt_i68_2 = true := by decide +kernel
set_option maxRecDepth 100000 in
theorem rt_d68_3 : rt_dk prog_1_method_15_code rt_i68_3 = true := by decide +kernel
theorem rt_D68 : ∀ c ∈ rt_m68.2.2.2.2.2.2.1, rt_dk rt_m68.2.2.2.1 c.2 = true := by
  intro c hc
  have hc : c ∈ [(0, rt_i68_0), (1, rt_i68_1), (2, rt_i68_2), (3, rt_i68_3)] := hc
  simp only [List.mem_cons, List.not_mem_nil, or_false] at hc
  rcases hc with rfl | rfl | rfl | rfl
  · exact rt_d68_0
  · exact rt_d68_1
  · exact rt_d68_2
  · exact rt_d68_3
set_option maxRecDepth 100000 in
theorem rt_d69_0 : rt_dk prog_1_method_16_code rt_i69_0 = true := by decide +kernel
set_option maxRecDepth 100000 in
theorem rt_d69_1 : rt_dk prog_1_method_16_code rt_i69_1 = true := by decide +kernel
set_option maxRecDepth 100000 in
theorem rt_d69_2 : rt_dk prog_1_method_16_code rt_i69_2 = true := by decide +kernel
set_option maxRecDepth 100000 in
theorem rt_d69_3 : rt_dk prog_1_method_16_code rt_i69_3 = true := by decide +kernel
theorem rt_D69 : ∀ c ∈ rt_m69.2.2.2.2.2.2.1, rt_dk rt_m69.2.2.2.1 c.2 = true := by
  intro c hc
  have hc : c ∈ [(0, rt_i69_0), (1, rt_i69_1), (2, rt_i69_2), (3, rt_i69_3)] := hc
  simp only [List.mem_cons, List.not_mem_nil, or_false] at hc
  rcases hc with rfl | rfl | rfl | rfl
  · exact rt_d69_0
  · exact rt_d69_1
  · exact rt_d69_2
  · exact rt_d69_3
set_option maxRecDepth 100000 in
theorem rt_d70_0 : rt_dk prog_1_method_17_code rt_i70_0 = true := by decide +kernel
theorem rt_D70 : ∀ c ∈ rt_m70.2.2.2.2.2.2.1, rt_dk rt_m70.2.2.2.1 c.2 = true := by
  intro c hc
  have hc : c ∈ [(0, rt_i70_0)] := hc
  simp only [List.mem_cons, List.not_mem_nil, or_false] at hc
  rcases hc with rfl
  · exact rt_d70_0
set_option maxRecDepth 100000 in
theorem rt_d71_0 : rt_dk prog_1_method_18_code rt_i71_0 = true := by decide +kernel
set_option maxRecDepth 100000 in
theorem rt_d71_1 : rt_dk prog_1_method_18_code rt_i71_1 = true := by decide +kernel
theorem rt_D71 : ∀ c ∈ rt_m71.2.2.2.2.2.2.1, rt_dk rt_m71.2.2.2.1 c.2 = true := by
  intro c hc
  have hc : c ∈ [(0, rt_i71_0), (1, rt_i71_1)] := hc
  simp only [List.mem_cons, List.not_mem_nil, or_false] at hc
  rcases hc with rfl | rfl
  · exact rt_d71_0
  · exact rt_d71_1
set_option maxRecDepth 100000 in
theorem rt_d72_0 : rt_dk prog_1_method_19_code rt_i72_0 = true := by decide +kernel
theorem rt_D72 : ∀ c ∈ rt_m72.2.2.2.2.2.2.1, rt_dk rt_m72.2.2.2.1 c.2 = true := by
  intro c hc
  have hc : c ∈ [(0, rt_i72_0)] := hc
  simp only [List.mem_cons, List.not_mem_nil, or_false] at hc
  rcases hc with rfl
  · exact rt_d72_0
set_option maxRecDepth 100000 in
theorem rt_d73_0 : rt_dk prog_1_method_20_code rt_i73_0 = true := by decide +kernel
set_option maxRecDepth 100000 in
theorem rt_d73_1 : rt_dk prog_1_method_20_code rt_i73_1 = true := by decide +kernel
theorem rt_D73 : ∀ c ∈ rt_m73.2.2.2.2.2.2.1, rt_dk rt_m73.2.2.2.1 c.2 = true := by
  intro c hc
  have hc : c ∈ [(0, rt_i73_0), (1, rt_i73_1)] := hc
  simp only [List.mem_cons, List.not_mem_nil, or_false] at hc
  rcases hc with rfl | rfl
  · exact rt_d73_0
  · exact rt_d73_1
set_option maxRecDepth 100000 in
theorem rt_d74_0 : rt_dk prog_1_method_21_code rt_i74_0 = true := by decide +kernel
theorem rt_D74 : ∀ c ∈ rt_m74.2.2.2.2.2.2.1, rt_dk rt_m74.2.2.2.1 c.2 = true := by
  intro c hc
  have hc : c ∈ [(0, rt_i74_0)] := hc
  simp only [List.mem_cons, List.not_mem_nil, or_false] at hc
  rcases hc with rfl
  · exact rt_d74_0
set_option maxRecDepth 100000 in
theorem rt_d75_0 : rt_dk prog_1_method_22_code rt_i75_0 = true := by decide +kernel
theorem rt_D75 : ∀ c ∈ rt_m75.2.2.2.2.2.2.1, rt_dk rt_m75.2.2.2.1 c.2 = true := by
  intro c hc
  have hc : c ∈ [(0, rt_i75_0)] := hc
  simp only [List.mem_cons, List.not_mem_nil, or_false] at hc
  rcases hc with rfl
  · exact rt_d75_0
set_option maxRecDepth 100000 in
theorem rt_d76_0 : rt_dk prog_1_method_23_code rt_i76_0 = true := by decide +kernel
theorem rt_D76 : ∀ c ∈ rt_m76.2.2.2.2.2.2.1, rt_dk rt_m76.2.2.2.1 c.2 = true := by
  intro c hc
  have hc : c ∈ [(0, rt_i76_0)] := hc
  simp only [List.mem_cons, List.not_mem_nil, or_false] at hc
  rcases hc with rfl
  · exact rt_d76_0
set_option maxRecDepth 100000 in
theorem rt_d77_0 : rt_dk prog_1_method_24_code rt_i77_0 = true := by decide +kernel
set_option maxRecDepth 100000 in
theorem rt_d77_1 : rt_dk prog_1_method_24_code rt_i77_1 = true := by decide +kernel
theorem rt_D77 : ∀ c ∈ rt_m77.2.2.2.2.2.2.1, rt_dk rt_m77.2.2.2.1 c.2 = true := by
  intro c hc
  have hc : c ∈ [(0, rt_i77_0), (1, rt_i77_1)] := hc
  simp only [List.mem_cons, List.not_mem_nil, or_false] at hc
  rcases hc with rfl | rfl
  · exact rt_d77_0
  · exact rt_d77_1
set_option maxRecDepth 100000 in
theorem rt_d78_0 : rt_dk prog_1_method_25_code rt_i78_0 = true := by decide +kernel
set_option maxRecDepth 100000 in
theorem rt_d78_1 : rt_dk prog_1_method_25_code rt_i78_1 = true := by decide +kernel
theorem rt_D78 : ∀ c ∈ rt_m78.2.2.2.2.2.2.1, rt_dk rt_m78.2.2.2.1 c.2 = true := by
  intro c hc
  have hc : c ∈ [(0, rt_i78_0), (1, rt_i78_1)] := hc
  simp only [List.mem_cons, List.not_mem_nil, or_false] at hc
  rcases hc with rfl | rfl
  · exact rt_d78_0
  · exact rt_d78_1
set_option maxRecDepth 100000 in
theorem rt_d79_0 : rt_dk prog_1_method_26_code rt_i79_0 = true := by decide +kernel
set_option maxRecDepth 100000 in
theorem rt_d79_1 : rt_dk prog_1_method_26_code rt_i79_1 = true := by decide +kernel
theorem rt_D79 : ∀ c ∈ rt_m79.2.2.2.2.2.2.1, rt_dk rt_m79.2.2.2.1 c.2 = true := by
  intro c hc
  have hc : c ∈ [(0, rt_i79_0), (1, rt_i79_1)] := hc
  simp only [List.mem_cons, List.not_mem_nil, or_false] at hc
  rcases hc with rfl | rfl
  · exact rt_d79_0
  · exact rt_d79_1
set_option maxRecDepth 100000 in
theorem rt_d80_0 : rt_dk prog_1_method_27_code rt_i80_0 = true := by decide +kernel
set_option maxRecDepth 100000 in
theorem rt_d80_1 : rt_dk prog_1_method_27_code rt_i80_1 = true := by decide +kernel
set_option maxRecDepth 100000 in
theorem rt_d80_2 : rt_dk prog_1_method_27_code rt_i80_2 = true := by decide +kernel
set_option maxRecDepth 100000 in
theorem rt_d80_3 : rt_dk prog_1_method_27_code rt_i80_3 = true := by decide +kernel
theorem rt_D80 : ∀ c ∈ rt_m80.2.2.2.2.2.2.1, rt_dk rt_m80.2.2.2.1 c.2 = true := by
  intro c hc
  have hc : c ∈ [(0, rt_i80_0), (1, rt_i80_1), (2, rt_i80_2), (3, rt_i80_3)] := hc
  simp only [List.mem_cons, List.not_mem_nil, or_false] at hc
  rcases hc with rfl | rfl | rfl | rfl
  · exact rt_d80_0
  · exact rt_d80_1
  · exact rt_d80_2
  · exact rt_d80_3
set_option maxRecDepth 100000 in
theorem rt_d81_0 : rt_dk prog_1_method_28_code rt_i81_0 = true := by decide +kernel
set_option maxRecDepth 100000 in
theorem rt_d81_1 : rt_dk prog_1_method_28_code rt_i81_1 = true := by decide +kernel
theorem rt_D81 : ∀ c ∈ rt_m81.2.2.2.2.2.2.1, rt_dk rt_m81.2.2.2.1 c.2 = true := by
  intro c hc
  have hc : c ∈ [(0, rt_i81_0), (1, rt_i81_1)] := hc
  simp only [List.mem_cons, List.not_mem_nil, or_false] at hc
  rcases hc with rfl | rfl
  · exact rt_d81_0
  · exact rt_d81_1
set_option maxRecDepth 100000 in
theorem rt_d82_0 : rt_dk prog_1_method_29_code rt_i82_0 = true := by decide +kernel
theorem rt_D82 : ∀ c ∈ rt_m82.2.2.2.2.2.2.1, rt_dk rt_m82.2.2.2.1 c.2 = true := by
  intro c hc
  have hc : c ∈ [(0, rt_i82_0)] := hc
  simp only [List.mem_cons, List.not_mem_nil, or_false] at hc
  rcases hc with rfl
  · exact rt_d82_0
set_option maxRecDepth 100000 in
theorem rt_d83_0 : rt_dk prog_1_method_30_code rt_i83_0 = true := by decide +kernel
theorem rt_D83 : ∀ c ∈ rt_m83.2.2.2.2.2.2.1, rt_dk rt_m83.2.2.2.1 c.2 = true := by
  intro c hc
  have hc : c ∈ [(0, rt_i83_0)] := hc
  simp only [List.mem_cons, List.not_mem_nil, or_false] at hc
  rcases hc with rfl
  · exact rt_d83_0
set_option maxRecDepth 100000 in
theorem rt_d84_0 : rt_dk prog_1_method_31_code rt_i84_0 = true := by decide +kernel
set_option maxRecDepth 100000 in
theorem rt_d84_1 : rt_dk prog_1_method_31_code rt_i84_1 = true := by decide +kernel
set_option maxRecDepth 100000 in
theorem rt_d84_2 : rt_dk prog_1_method_31_code rt_i84_2 = true := by decide +kernel
theorem rt_D84 : ∀ c ∈ rt_m84.2.2.2.2.2.2.1, rt_dk rt_m84.2.2.2.1 c.2 = true := by
  intro c hc
  have hc : c ∈ [(0, rt_i84_0), (1, rt_i84_1), (2, rt_i84_2)] := hc
  simp only [List.mem_cons, List.not_mem_nil, or_false] at hc
  rcases hc with rfl | rfl | rfl
  · exact rt_d84_0
  · exact rt_d84_1
  · exact rt_d84_2
set_option maxRecDepth 100000 in
theorem rt_d85_0 : rt_dk prog_1_method_32_code rt_i85_0 = true := by decide +kernel
set_option maxRecDepth 100000 in
theorem rt_d85_1 : rt_dk prog_1_method_32_code rt_i85_1 = true := by decide +kernel
theorem rt_D85 : ∀ c ∈ rt_m85.2.2.2.2.2.2.1, rt_dk rt_m85.2.2.2.1 c.2 = true := by
  intro c hc
  have hc : c ∈ [(0, rt_i85_0), (1, rt_i85_1)] := hc
  simp only [List.mem_cons, List.not_mem_nil, or_false] at hc
  rcases hc with rfl | rfl
  · exact rt_d85_0
  · exact rt_d85_1
set_option maxRecDepth 100000 in
theorem rt_d86_0 : rt_dk prog_1_method_33_code rt_i86_0 = true := by decide +kernel
theorem rt_D86 : ∀ c ∈ rt_m86.2.2.2.2.2.2.1, rt_dk rt_m86.2.2.2.1 c.2 = true := by
  intro c hc
  have hc : c ∈ [(0, rt_i86_0)] := hc
  simp only [List.mem_cons, List.not_mem_nil, or_false] at hc
  rcases hc with rfl
  · exact rt_d86_0
set_option maxRecDepth 100000 in
theorem rt_d87_0 : rt_dk prog_1_method_34_code rt_i87_0 = true := by decide +kernel
theorem rt_D87 : ∀ c ∈ rt_m87.2.2.2.2.2.2.1, rt_dk rt_m87.2.2.2.1 c.2 = true := by
  intro c hc
  have hc : c ∈ [(0, rt_i87_0)] := hc
  simp only [List.mem_cons, List.not_mem_nil, or_false] at hc
  rcases hc with rfl
  · exact rt_d87_0
set_option maxRecDepth 100000 in
theorem rt_d88_0 : rt_dk prog_1_method_35_code rt_i88_0 = true := by decide +kernel
theorem rt_D88 : ∀ c ∈ rt_m88.2.2.2.2.2.2.1, rt_dk rt_m88.2.2.2.1 c.2 = true := by
  intro c hc
  have hc : c ∈ [(0, rt_i88_0)] := hc
  simp only [List.mem_cons, List.not_mem_nil, or_false] at hc
  rcases hc with rfl
  · exact rt_d88_0
set_option maxRecDepth 100000 in
theorem rt_d89_0 : rt_dk prog_1_method_36_code rt_i89_0 = true := by decide +kernel
theorem rt_D89 : ∀ c ∈ rt_m89.2.2.2.2.2.2.1, rt_dk rt_m89.2.2.2.1 c.2 = true := by
  intro c hc
  have hc : c ∈ [(0, rt_i89_0)] := hc
  simp only [List.mem_cons, List.not_mem_nil, or_false] at hc
  rcases hc with rfl
  · exact rt_d89_0
set_option maxRecDepth 100000 in
theorem rt_d90_0 : rt_dk prog_1_method_37_code rt_i90_0 = true := by decide +kernel
theorem rt_D90 : ∀ c ∈ rt_m90.2.2.2.2.2.2.1, rt_dk rt_m90.2.2.2.1 c.2 = true := by
  intro c hc
  have hc : c ∈ [(0, rt_i90_0)] := hc
  simp only [List.mem_cons, List.not_mem_nil, or_false] at hc
  rcases hc with rfl
  · exact rt_d90_0
set_option maxRecDepth 100000 in
theorem rt_d91_0 : rt_dk prog_15_method_1_code rt_i91_0 = true := by decide +kernel
set_option maxRecDepth 100000 in
theorem rt_d91_1 : rt_dk prog_15_method_1_code rt_i91_1 = true := by decide +kernel
set_option maxRecDepth 100000 in
theorem rt_d91_2 : rt_dk prog_15_method_1_code rt_i91_2 = true := by decide +kernel
set_option maxRecDepth 100000 in
theorem rt_d91_3 : rt_dk prog_15_method_1_code rt_i91_3 = true := by decide +kernel
set_option maxRecDepth 100000 in
theorem rt_d91_4 : rt_dk prog_15_method_1_code rt_i91_4 = true := by decide +kernel
set_option maxRecDepth 100000 in
theorem rt_d91_5 : rt_dk prog_15_method_1_code rt_i91_5 = true := by decide +kernel
set_option maxRecDepth 100000 in
theorem rt_d91_6 : rt_dk prog_15_method_1_code rt_i91_6 = true := by decide +kernel
set_option maxRecDepth 100000 in
theorem rt_d91_7 : rt_dk prog_15_method_1_code rt_i91_7 = true := by decide +kernel
set_option maxRecDepth 100000 in
theorem rt_d91_8 : rt_dk prog_15_method_1_code rt_i91_8 = true := by decide +kernel
set_option maxRecDepth 100000 in
theorem rt_d91_9 : rt_dk prog_15_method_1_code rt_i91_9 = true := by decide +kernel
set_option maxRecDepth 100000 in
theorem rt_d91_10 : rt_dk prog_15_method_1_code rt_i91_10 = true := by decide +kernel
set_option maxRecDepth 100000 in
theorem rt_d91_11 : rt_dk prog_15_method_1_code rt_i91_11 = true := by decide +kernel
set_option maxRecDepth 100000 in
theorem rt_d91_12 : rt_dk prog_15_method_1_code rt_i91_12 = true := by decide +kernel
set_option maxRecDepth 100000 in
theorem rt_d91_13 : rt_dk prog_15_method_1_code rt_i91_13 = true := by decide +kernel
set_option maxRecDepth 100000 in
theorem rt_d91_14 : rt_dk prog_15_method_1_code rt_i91_14 = true := by decide +kernel
set_option maxRecDepth 100000 in
theorem rt_d91_15 : rt_dk prog_15_method_1_code rt_i91_15 = true := by decide +kernel
set_option maxRecDepth 100000 in
theorem rt_d91_16 : rt_dk prog_15_method_1_code rt_i91_16 = true := by decide +kernel
set_option maxRecDepth 100000 in
theorem rt_d91_17 : rt_dk prog_15_method_1_code rt_i91_17 = true := by decide +kernel
set_option maxRecDepth 100000 in
theorem rt_d91_18 : rt_dk prog_15_method_1_code rt_i91_18 = true := by decide +kernel
set_option maxRecDepth 100000 in
theorem rt_d91_19 : rt_dk prog_15_method_1_code rt_i91_19 = true := by decide +kernel
set_option maxRecDepth 100000 in
theorem rt_d91_20 : rt_dk prog_15_method_1_code rt_i91_20 = true := by decide +kernel
set_option maxRecDepth 100000 in
theorem rt_d91_21 : rt_dk prog_15_method_1_code rt_i91_21 = true := by decide +kernel
set_option maxRecDepth 100000 in
theorem rt_d91_22 : rt_dk prog_15_method_1_code rt_i91_22 = true := by decide +kernel
set_option maxRecDepth 100000 in
theorem rt_d91_23 : rt_dk prog_15_method_1_code rt_i91_23 = true := by decide +kernel
set_option maxRecDepth 100000 in
theorem rt_d91_24 : rt_dk prog_15_method_1_code rt_i91_24 = true := by decide +kernel
set_option maxRecDepth 100000 in
theorem rt_d91_25 : rt_dk prog_15_method_1_code rt_i91_25 = true := by decide +kernel
set_option maxRecDepth 100000 in
theorem rt_d91_26 : rt_dk prog_15_method_1_code rt_i91_26 = true := by decide +kernel
set_option maxRecDepth 100000 in
theorem rt_d91_27 : rt_dk prog_15_method_1_code rt_i91_27 = true := by decide +kernel
set_option maxRecDepth 100000 in
theorem rt_d91_28 : rt_dk prog_15_method_1_code rt_i91_28 = true := by decide +kernel
set_option maxRecDepth 100000 in
theorem rt_d91_29 : rt_dk prog_15_method_1_code rt_i91_29 = true := by decide +kernel
theorem rt_D91 : ∀ c ∈ rt_m91.2.2.2.2.2.2.1, rt_dk rt_m91.2.2.2.1 c.2 = true := by
  intro c hc
  have hc : c ∈ [(0, rt_i91_0), (1, rt_i91_1), (2, rt_i91_2), (3, rt_i91_3), (4, rt_i91_4), (5, rt_i91_5), (6, rt_i91_6), (7, rt_i91_7), (8, rt_i91_8), (9, rt_i91_9), (10, rt_i91_10), (11, rt_i91_11), (12, rt_i91_12), (13, rt_i91_13), (14, rt_i91_14), (15, rt_i91_15), (16, rt_i91_16), (17, rt_i91_17), (18, rt_i91_18), (19, rt_i91_19), (20, rt_i91_20), (21, rt_i91_21), (22, rt_i91_22), (23, rt_i91_23), (24, rt_i91_24), (25, rt_i91_25), (26, rt_i91_26), (27, rt_i91_27), (28, rt_i91_28), (29, rt_i91_29)] := hc
  simp only [List.mem_cons, List.not_mem_nil, or_false] at hc
  rcases hc with rfl | rfl | rfl | rfl | rfl | rfl | rfl | rfl | rfl | rfl | rfl | rfl | rfl | rfl | rfl | rfl | rfl | rfl | rfl | rfl | rfl | rfl | rfl | rfl | rfl | rfl | rfl | rfl | rfl | rfl
  · exact rt_d91_0
  · exact rt_d91_1
  · exact rt_d91_2
  · exact rt_d91_3
  · exact rt_d91_4
  · exact rt_d91_5
  · exact rt_d91_6
  · exact rt_d91_7
  · exact rt_d91_8
  · exact rt_d91_9
  · exact rt_d91_10
  · exact rt_d91_11
  · exact rt_d91_12
  · exact rt_d91_13
  · exact rt_d91_14
  · exact rt_d91_15
  · exact rt_d91_16
  · exact rt_d91_17
  · exact rt_d91_18
  · exact rt_d91_19
  · exact rt_d91_20
  · exact rt_d91_21
  · exact rt_d91_22
  · exact rt_d91_23
  · exact rt_d91_24
  · exact rt_d91_25
  · exact rt_d91_26
  · exact rt_d91_27
  · exact rt_d91_28
  · exact rt_d91_29
set_option maxRecDepth 100000 in
theorem rt_d92_0 : rt_dk prog_15_method_2_code rt_i92_0 = true := by decide +kernel
theorem rt_D92 : ∀ c ∈ rt_m92.2.2.2.2.2.2.1, rt_dk rt_m92.2.2.2.1 c.2 = true := by
  intro c hc
  have hc : c ∈ [(0, rt_i92_0)] := hc
  simp only [List.mem_cons, List.not_mem_nil, or_false] at hc
  rcases hc with rfl
  · exact rt_d92_0
set_option maxRecDepth 100000 in
theorem rt_d93_0 : rt_dk prog_15_method_3_code rt_i93_0 = true := by decide +kernel
set_option maxRecDepth 100000 in
theorem rt_d93_1 : rt_dk prog_15_method_3_code rt_i93_1 = true := by decide +kernel
theorem rt_D93 : ∀ c ∈ rt_m93.2.2.2.2.2.2.1, rt_dk rt_m93.2.2.2.1 c.2 = true := by
  intro c hc
  have hc : c ∈ [(0, rt_i93_0), (1, rt_i93_1)] := hc
  simp only [List.mem_cons, List.not_mem_nil, or_false] at hc
  rcases hc with rfl | rfl
  · exact rt_d93_0
  · exact rt_d93_1
set_option maxRecDepth 100000 in
theorem rt_d94_0 : rt_dk prog_15_method_4_code rt_i94_0 = true := by decide +kernel
set_option maxRecDepth 100000 in
theorem rt_d94_1 : rt_dk prog_15_method_4_code rt_i94_1 = true := by decide +kernel
theorem rt_D94 : ∀ c ∈ rt_m94.2.2.2.2.2.2.1, rt_dk rt_m94.2.2.2.1 c.2 = true := by
  intro c hc
  have hc : c ∈ [(0, rt_i94_0), (1, rt_i94_1)] := hc
  simp only [List.mem_cons, List.not_mem_nil, or_false] at hc
  rcases hc with rfl | rfl
  · exact rt_d94_0
  · exact rt_d94_1
set_option maxRecDepth 100000 in
theorem rt_d95_0 : rt_dk prog_15_method_5_code rt_i95_0 = true := by decide +kernel
theorem rt_D95 : ∀ c ∈ rt_m95.2.2.2.2.2.2.1, rt_dk rt_m95.2.2.2.1 c.2 = true := by
  intro c hc
  have hc : c ∈ [(0, rt_i95_0)] := hc
  simp only [List.mem_cons, List.not_mem_nil, or_false] at hc
  rcases hc with rfl
  · exact rt_d95_0
set_option maxRecDepth 100000 in
theorem rt_d96_0 : rt_dk prog_15_method_6_code rt_i96_0 = true := by decide +kernel
theorem rt_D96 : ∀ c ∈ rt_m96.2.2.2.2.2.2.1, rt_dk rt_m96.2.2.2.1 c.2 = true := by
  intro c hc
  have hc : c ∈ [(0, rt_i96_0)] := hc
  simp only [List.mem_cons, List.not_mem_nil, or_false] at hc
  rcases hc with rfl
  · exact rt_d96_0
set_option maxRecDepth 100000 in
theorem rt_d97_0 : rt_dk prog_15_method_20_code rt_i97_0 = true := by decide +kernel
theorem rt_D97 : ∀ c ∈ rt_m97.2.2.2.2.2.2.1, rt_dk rt_m97.2.2.2.1 c.2 = true := by
  intro c hc
  have hc : c ∈ [(0, rt_i97_0)] := hc
  simp only [List.mem_cons, List.not_mem_nil, or_false] at hc
  rcases hc with rfl
  · exact rt_d97_0
set_option maxRecDepth 100000 in
theorem rt_d98_0 : rt_dk prog_15_method_21_code rt_i98_0 = true := by decide +kernel
set_option maxRecDepth 100000 in
theorem rt_d98_1 : rt_dk prog_15_method_21_code rt_i98_1 = true := by decide +kernel
theorem rt_D98 : ∀ c ∈ rt_m98.2.2.2.2.2.2.1, rt_dk rt_m98.2.2.2.1 c.2 = true := by
  intro c hc
  have hc : c ∈ [(0, rt_i98_0), (1, rt_i98_1)] := hc
  simp only [List.mem_cons, List.not_mem_nil, or_false] at hc
  rcases hc with rfl | rfl
  · exact rt_d98_0
  · exact rt_d98_1
set_option maxRecDepth 100000 in
theorem rt_d99_0 : rt_dk prog_15_method_24_code rt_i99_0 = true := by decide +kernel
set_option maxRecDepth 100000 in
theorem rt_d99_1 : rt_dk prog_15_method_24_code rt_i99_1 = true := by decide +kernel
set_option maxRecDepth 100000 in
theorem rt_d99_2 : rt_dk prog_15_method_24_code rt_i99_2 = true := by decide +kernel
set_option maxRecDepth 100000 in
theorem rt_d99_3 : rt_dk prog_15_method_24_code rt_i99_3 = true := by decide +kernel
set_option maxRecDepth 100000 in
theorem rt_d99_4 : rt_dk prog_15_method_24_code rt_i99_4 = true := by decide +kernel
set_option maxRecDepth 100000 in
theorem rt_d99_5 : rt_dk prog_15_method_24_code rt_i99_5 = true := by decide +kernel
set_option maxRecDepth 100000 in
theorem rt_d99_6 : rt_dk prog_15_method_24_code rt_i99_6 = true := by decide +kernel
set_option maxRecDepth 100000 in
theorem rt_d99_7 : rt_dk prog_15_method_24_code rt_i99_7 = true := by decide +kernel
set_option maxRecDepth 100000 in
theorem rt_d99_8 : rt_dk prog_15_method_24_code rt_i99_8 = true := by decide +kernel
set_option maxRecDepth 100000 in
theorem rt_d99_9 : rt_dk prog_15_method_24_code rt_i99_9 = true := by decide +kernel
set_option maxRecDepth 100000 in
theorem rt_d99_10 : rt_dk prog_15_method_24_code rt_i99_10 = true := by decide +kernel
set_option maxRecDepth 100000 in
theorem rt_d99_11 : rt_dk prog_15_method_24_code rt_i99_11 = true := by decide +kernel
set_option maxRecDepth 100000 in
theorem rt_d99_12 : rt_dk prog_15_method_24_code rt_i99_12 = true := by decide +kernel
set_option maxRecDepth 100000 in
theorem rt_d99_13 : rt_dk prog_15_method_24_code rt_i99_13 = true := by decide +kernel
theorem rt_D99 : ∀ c ∈ rt_m99.2.2.2.2.2.2.1, rt_dk rt_m99.2.2.2.1 c.2 = true := by
  intro c hc
  have hc : c ∈ [(0, rt_i99_0), (1, rt_i99_1), (2, rt_i99_2), (3, rt_i99_3), (4, rt_i99_4), (5, rt_i99_5), (6, rt_i99_6), (7, rt_i99_7), (8, rt_i99_8), (9, rt_i99_9), (10, rt_i99_10), (11, rt_i99_11), (12, rt_i99_12), (13, rt_i99_13)] := hc
  simp only [List.mem_cons, List.not_mem_nil, or_false] at hc
  rcases hc with rfl | rfl | rfl | rfl | rfl | rfl | rfl | rfl | rfl | rfl | rfl | rfl | rfl | rfl
  · exact rt_d99_0
  · exact rt_d99_1
  · exact rt_d99_2
  · exact rt_d99_3
  · exact rt_d99_4
  · exact rt_d99_5
  · exact rt_d99_6
  · exact rt_d99_7
  · exact rt_d99_8
  · exact rt_d99_9
  · exact rt_d99_10
  · exact rt_d99_11
  · exact rt_d99_12
  · exact rt_d99_13
set_option maxRecDepth 100000 in
theorem rt_d100_0 : rt_dk prog_15_method_32_code rt_i100_0 = true := by decide +kernel
set_option maxRecDepth 100000 in
theorem rt_d100_1 : rt_dk prog_15_method_32_code rt_i100_1 = true := by decide +kernel
theorem rt_D100 : ∀ c ∈ rt_m100.2.2.2.2.2.2.1, rt_dk rt_m100.2.2.2.1 c.2 = true := by
  intro c hc
  have hc : c ∈ [(0, rt_i100_0), (1, rt_i100_1)] := hc
  simp only [List.mem_cons, List.not_mem_nil, or_false] at hc
  rcases hc with rfl | rfl
  · exact rt_d100_0
  · exact rt_d100_1
set_option maxRecDepth 100000 in
theorem rt_d101_0 : rt_dk prog_15_method_33_code rt_i101_0 = true := by decide +kernel
set_option maxRecDepth 100000 in
theorem rt_d101_1 : rt_dk prog_15_method_33_code rt_i101_1 = true := by decide +kernel
theorem rt_D101 : ∀ c ∈ rt_m101.2.2.2.2.2.2.1, rt_dk rt_m101.2.2.2.1 c.2 = true := by
  intro c hc
  have hc : c ∈ [(0, rt_i101_0), (1, rt_i101_1)] := hc
  simp only [List.mem_cons, List.not_mem_nil, or_false] at hc
  rcases hc with rfl | rfl
  · exact rt_d101_0
  · exact rt_d101_1
set_option maxRecDepth 100000 in
theorem rt_d102_0 : rt_dk prog_15_method_34_code rt_i102_0 = true := by decide +kernel
theorem rt_D102 : ∀ c ∈ rt_m102.2.2.2.2.2.2.1, rt_dk rt_m102.2.2.2.1 c.2 = true := by
  intro c hc
  have hc : c ∈ [(0, rt_i102_0)] := hc
  simp only [List.mem_cons, List.not_mem_nil, or_false] at hc
  rcases hc with rfl
  · exact rt_d102_0
set_option maxRecDepth 100000 in
theorem rt_d103_0 : rt_dk prog_15_method_36_code rt_i103_0 = true := by decide +kernel
theorem rt_D103 : ∀ c ∈ rt_m103.2.2.2.2.2.2.1, rt_dk rt_m103.2.2.2.1 c.2 = true := by
  intro c hc
  have hc : c ∈ [(0, rt_i103_0)] := hc
  simp only [List.mem_cons, List.not_mem_nil, or_false] at hc
  rcases hc with rfl
  · exact rt_d103_0
set_option maxRecDepth 100000 in
theorem rt_d104_0 : rt_dk prog_15_method_40_code rt_i104_0 = true := by decide +kernel
set_option maxRecDepth 100000 in
theorem rt_d104_1 : rt_dk prog_15_method_40_code rt_i104_1 = true := by decide +kernel
set_option maxRecDepth 100000 in
theorem rt_d104_2 : rt_dk prog_15_method_40_code rt_i104_2 = true := by decide +kernel
set_option maxRecDepth 100000 in
theorem rt_d104_3 : rt_dk prog_15_method_40_code rt_i104_3 = true := by decide +kernel
set_option maxRecDepth 100000 in
theorem rt_d104_4 : rt_dk prog_15_method_40_code rt_i104_4 = true := by decide +kernel
set_option maxRecDepth 100000 in
theorem rt_d104_5 : rt_dk prog_15_method_40_code rt_i104_5 = true := by decide +kernel
theorem rt_D104 : ∀ c ∈ rt_m104.2.2.2.2.2.2.1, rt_dk rt_m104.2.2.2.1 c.2 = true := by
  intro c hc
  have hc : c ∈ [(0, rt_i104_0), (1, rt_i104_1), (2, rt_i104_2), (3, rt_i104_3), (4, rt_i104_4), (5, rt_i104_5)] := hc
  simp only [List.mem_cons, List.not_mem_nil, or_false] at hc
  rcases hc with rfl | rfl | rfl | rfl | rfl | rfl
  · exact rt_d104_0
  · exact rt_d104_1
  · exact rt_d104_2
  · exact rt_d104_3
  · exact rt_d104_4
  · exact rt_d104_5
set_option maxRecDepth 100000 in
theorem rt_d105_0 : rt_dk prog_15_method_74_code rt_i105_0 = true := by decide +kernel
set_option maxRecDepth 100000 in
theorem rt_d105_1 : rt_dk prog_15_method_74_code rt_i105_1 = true := by decide +kernel
theorem rt_D105 : ∀ c ∈ rt_m105.2.2.2.2.2.2.1, rt_dk rt_m105.2.2.2.1 c.2 = true := by
  intro c hc
  have hc : c ∈ [(0, rt_i105_0), (1, rt_i105_1)] := hc
  simp only [List.mem_cons, List.not_mem_nil, or_false] at hc
  rcases hc with rfl | rfl
  · exact rt_d105_0
  · exact rt_d105_1
set_option maxRecDepth 100000 in
theorem rt_d106_0 : rt_dk prog_15_method_80_code rt_i106_0 = true := by decide +kernel
set_option maxRecDepth 100000 in
theorem rt_d106_1 : rt_dk prog_15_method_80_code rt_i106_1 = true := by decide +kernel
set_option maxRecDepth 100000 in
theorem rt_d106_2 : rt_dk prog_15_method_80_code rt_i106_2 = true := by decide +kernel
set_option maxRecDepth 100000 in
theorem rt_d106_3 : rt_dk prog_15_method_80_code rt_i106_3 = true := by decide +kernel
set_option maxRecDepth 100000 in
theorem rt_d106_4 : rt_dk prog_15_method_80_code rt_i106_4 = true := by decide +kernel
set_option maxRecDepth 100000 in
theorem rt_d106_5 : rt_dk prog_15_method_80_code rt_i106_5 = true := by decide +kernel
theorem rt_D106 : ∀ c ∈ rt_m106.2.2.2.2.2.2.1, rt_dk rt_m106.2.2.2.1 c.2 = true := by
  intro c hc
  have hc : c ∈ [(0, rt_i106_0), (1, rt_i106_1), (2, rt_i106_2), (3, rt_i106_3), (4, rt_i106_4), (5, rt_i106_5)] := hc
  simp only [List.mem_cons, List.not_mem_nil, or_false] at hc
  rcases hc with rfl | rfl | rfl | rfl | rfl | rfl
  · exact rt_d106_0
  · exact rt_d106_1
  · exact rt_d106_2
  · exact rt_d106_3
  · exact rt_d106_4
  · exact rt_d106_5
set_option maxRecDepth 100000 in
theorem rt_d107_0 : rt_dk prog_15_method_81_code rt_i107_0 = true := by decide +kernel
theorem rt_D107 : ∀ c ∈ rt_m107.2.2.2.2.2.2.1, rt_dk rt_m107.2.2.2.1 c.2 = true := by
  intro c hc
  have hc : c ∈ [(0, rt_i107_0)] := hc
  simp only [List.mem_cons, List.not_mem_nil, or_false] at hc
  rcases hc with rfl
  · exact rt_d107_0
set_option maxRecDepth 100000 in
theorem rt_d108_0 : rt_dk prog_15_method_82_code rt_i108_0 = true := by decide +kernel
theorem rt_D108 : ∀ c ∈ rt_m108.2.2.2.2.2.2.1, rt_dk rt_m108.2.2.2.1 c.2 = true := by
  intro c hc
  have hc : c ∈ [(0, rt_i108_0)] := hc
  simp only [List.mem_cons, List.not_mem_nil, or_false] at hc
  rcases hc with rfl
  · exact rt_d108_0
set_option maxRecDepth 100000 in
theorem rt_d109_0 : rt_dk prog_15_method_83_code rt_i109_0 = true := by decide +kernel
set_option maxRecDepth 100000 in
theorem rt_d109_1 : rt_dk prog_15_method_83_code rt_i109_1 = true := by decide +kernel
set_option maxRecDepth 100000 in
theorem rt_d109_2 : rt_dk prog_15_method_83_code rt_i109_2 = true := by decide +kernel
set_option maxRecDepth 100000 in
theorem rt_d109_3 : rt_dk prog_15_method_83_code rt_i109_3 = true := by decide +kernel
theorem rt_D109 : ∀ c ∈ rt_m109.2.2.2.2.2.2.1, rt_dk rt_m109.2.2.2.1 c.2 = true := by
  intro c hc
  have hc : c ∈ [(0, rt_i109_0), (1, rt_i109_1), (2, rt_i109_2), (3, rt_i109_3)] := hc
  simp only [List.mem_cons, List.not_mem_nil, or_false] at hc
  rcases hc with rfl | rfl | rfl | rfl
  · exact rt_d109_0
  · exact rt_d109_1
  · exact rt_d109_2
  · exact rt_d109_3
set_option maxRecDepth 100000 in
theorem rt_d110_0 : rt_dk prog_15_method_84_code rt_i110_0 = true := by decide +kernel
set_option maxRecDepth 100000 in
theorem rt_d110_1 : rt_dk prog_15_method_84_code rt_i110_1 = true := by decide +kernel
theorem rt_D110 : ∀ c ∈ rt_m110.2.2.2.2.2.2.1, rt_dk rt_m110.2.2.2.1 c.2 = true := by
  intro c hc
  have hc : c ∈ [(0, rt_i110_0), (1, rt_i110_1)] := hc
  simp only [List.mem_cons, List.not_mem_nil, or_false] at hc
  rcases hc with rfl | rfl
  · exact rt_d110_0
  · exact rt_d110_1
set_option maxRecDepth 100000 in
theorem rt_d111_0 : rt_dk prog_15_method_87_code rt_i111_0 = true := by decide +kernel
theorem rt_D111 : ∀ c ∈ rt_m111.2.2.2.2.2.2.1, rt_dk rt_m111.2.2.2.1 c.2 = true := by
  intro c hc
  have hc : c ∈ [(0, rt_i111_0)] := hc
  simp only [List.mem_cons, List.not_mem_nil, or_false] at hc
  rcases hc with rfl
  · exact rt_d111_0
set_option maxRecDepth 100000 in
theorem rt_d112_0 : rt_dk prog_15_method_88_code rt_i112_0 = true := by decide +kernel
theorem rt_D112 : ∀ c ∈ rt_m112.2.2.2.2.2.2.1, rt_dk rt_m112.2.2.2.1 c.2 = true := by
  intro c hc
  have hc : c ∈ [(0, rt_i112_0)] := hc
  simp only [List.mem_cons, List.not_mem_nil, or_false] at hc
  rcases hc with rfl
  · exact rt_d112_0
set_option maxRecDepth 100000 in
theorem rt_d113_0 : rt_dk prog_15_method_90_code rt_i113_0 = true := by decide +kernel
set_option maxRecDepth 100000 in
theorem rt_d113_1 : rt_dk prog_15_method_90_code rt_i113_1 = true := by decide +kernel
theorem rt_D113 : ∀ c ∈ rt_m113.2.2.2.2.2.2.1, rt_dk rt_m113.2.2.2.1 c.2 = true := by
  intro c hc
  have hc : c ∈ [(0, rt_i113_0), (1, rt_i113_1)] := hc
  simp only [List.mem_cons, List.not_mem_nil, or_false] at hc
  rcases hc with rfl | rfl
  · exact rt_d113_0
  · exact rt_d113_1
set_option maxRecDepth 100000 in
theorem rt_d114_0 : rt_dk prog_15_method_100_code rt_i114_0 = true := by decide +kernel
set_option maxRecDepth 100000 in
theorem rt_d114_1 : rt_dk prog_15_method_100_code rt_i114_1 = true := by decide +kernel
theorem rt_D114 : ∀ c ∈ rt_m114.2.2.2.2.2.2.1, rt_dk rt_m114.2.2.2.1 c.2 = true := by
  intro c hc
  have hc : c ∈ [(0, rt_i114_0), (1, rt_i114_1)] := hc
  simp only [List.mem_cons, List.not_mem_nil, or_false] at hc
  rcases hc with rfl | rfl
  · exact rt_d114_0
  · exact rt_d114_1
set_option maxRecDepth 100000 in
theorem rt_d115_0 : rt_dk prog_15_method_101_code rt_i115_0 = true := by decide +kernel
set_option maxRecDepth 100000 in
theorem rt_d115_1 : rt_dk prog_15_method_101_code rt_i115_1 = true := by decide +kernel
set_option maxRecDepth 100000 in
theorem rt_d115_2 : rt_dk prog_15_method_101_code rt_i115_2 = true := by decide +kernel
set_option maxRecDepth 100000 in
theorem rt_d115_3 : rt_dk prog_15_method_101_code rt_i115_3 = true := by decide +kernel
set_option maxRecDepth 100000 in
theorem rt_d115_4 : rt_dk prog_15_method_101_code rt_i115_4 = true := by decide +kernel
set_option maxRecDepth 100000 in
theorem rt_d115_5 : rt_dk prog_15_method_101_code rt_i115_5 = true := by decide +kernel
theorem rt_D115 : ∀ c ∈ rt_m115.2.2.2.2.2.2.1, rt_dk rt_m115.2.2.2.1 c.2 = true := by
  intro c hc
  have hc : c ∈ [(0, rt_i115_0), (1, rt_i115_1), (2, rt_i115_2), (3, rt_i115_3), (4, rt_i115_4), (5, rt_i115_5)] := hc
  simp only [List.mem_cons, List.not_mem_nil, or_false] at hc
  rcases hc with rfl | rfl | rfl | rfl | rfl | rfl
  · exact rt_d115_0
  · exact rt_d115_1
  · exact rt_d115_2
  · exact rt_d115_3
  · exact rt_d115_4
  · exact rt_d115_5
set_option maxRecDepth 100000 in
theorem rt_d116_0 : rt_dk prog_15_method_102_code rt_i116_0 = true := by decide +kernel
set_option maxRecDepth 100000 in
theorem rt_d116_1 : rt_dk prog_15_method_102_code rt_i116_1 = true := by decide +kernel
set_option maxRecDepth 100000 in
theorem rt_d116_2 : rt_dk prog_15_method_102_code rt_i116_2 = true := by decide +kernel
set_option maxRecDepth 100000 in
theorem rt_d116_3 : rt_dk prog_15_method_102_code rt_i116_3 = true := by decide +kernel
set_option maxRecDepth 100000 in
theorem rt_d116_4 : rt_dk prog_15_method_102_code rt_i116_4 = true := by decide +kernel
set_option maxRecDepth 100000 in
theorem rt_d116_5 : rt_dk prog_15_method_102_code rt_i116_5 = true := by decide +kernel
set_option maxRecDepth 100000 in
theorem rt_d116_6 : rt_dk prog_15_method_102_code rt_i116_6 = true := by decide +kernel
theorem rt_D116 : ∀ c ∈ rt_m116.2.2.2.2.2.2.1, rt_dk rt_m116.2.2.2.1 c.2 = true := by
  intro c hc
  have hc : c ∈ [(0, rt_i116_0), (1, rt_i116_1), (2, rt_i116_2), (3, rt_i116_3), (4, rt_i116_4), (5, rt_i116_5), (6, rt_i116_6)] := hc
  simp only [List.mem_cons, List.not_mem_nil, or_false] at hc
  rcases hc with rfl | rfl | rfl | rfl | rfl | rfl | rfl
  · exact rt_d116_0
  · exact rt_d116_1
  · exact rt_d116_2
  · exact rt_d116_3
  · exact rt_d116_4
  · exact rt_d116_5
  · exact rt_d116_6
set_option maxRecDepth 100000 in
theorem rt_d117_0 : rt_dk prog_15_method_103_code rt_i117_0 = true := by decide +kernel
set_option maxRecDepth 100000 in
theorem rt_d117_1 : rt_dk prog_15_method_103_code rt_i117_1 = true := by decide +kernel
set_option maxRecDepth 100000 in
theorem rt_d117_2 : rt_dk prog_15_method_103_code rt_i117_2 = true := by decide +kernel
set_option maxRecDepth 100000 in
theorem rt_d117_3 : rt_dk prog_15_method_103_code rt_i117_3 = true := by decide +kernel
set_option maxRecDepth 100000 in
theorem rt_d117_4 : rt_dk prog_15_method_103_code rt_i117_4 = true := by decide +kernel
theorem rt_D117 : ∀ c ∈ rt_m117.2.2.2.2.2.2.1, rt_dk rt_m117.2.2.2.1 c.2 = true := by
  intro c hc
  have hc : c ∈ [(0, rt_i117_0), (1, rt_i117_1), (2, rt_i117_2), (3, rt_i117_3), (4, rt_i117_4)] := hc
  simp only [List.mem_cons, List.not_mem_nil, or_false] at hc
  rcases hc with rfl | rfl | rfl | rfl | rfl
  · exact rt_d117_0
  · exact rt_d117_1
  · exact rt_d117_2
  · exact rt_d117_3
  · exact rt_d117_4
set_option maxRecDepth 100000 in
theorem rt_d118_0 : rt_dk prog_15_method_104_code rt_i118_0 = true := by decide +kernel
set_option maxRecDepth 100000 in
theorem rt_d118_2 : rt_dk prog_15_method_104_code rt_i118_2 = true := by decide +kernel
set_option maxRecDepth 100000 in
theorem rt_d118_3 : rt_dk prog_15_method_104_code rt_i118_3 = true := by decide +kernel
set_option maxRecDepth 100000 in
theorem rt_d118_4 : rt_dk prog_15_method_104_code rt_i118_4 = true := by decide +kernel
set_option maxRecDepth 100000 in
theorem rt_d118_5 : rt_dk prog_15_method_104_code rt_i118_5 = true := by decide +kernel
set_option maxRecDepth 100000 in
theorem rt_d118_6 : rt_dk prog_15_method_104_code rt_i118_6 = true := by decide +kernel
set_option maxRecDepth 100000 in
theorem rt_d118_7 : rt_dk prog_15_method_104_code rt_i118_7 = true := by decide +kernel
theorem rt_D118 : ∀ c ∈ rt_m118.2.2.2.2.2.2.1, rt_dk rt_m118.2.2.2.1 c.2 = true := by
  intro c hc
  have hc : c ∈ [(0, rt_i118_0), (2, rt_i118_2), (3, rt_i118_3), (4, rt_i118_4), (5, rt_i118_5), (6, rt_i118_6), (7, rt_i118_7)] := hc
  simp only [List.mem_cons, List.not_mem_nil, or_false] at hc
  rcases hc with rfl | rfl | rfl | rfl | rfl | rfl | rfl
  · exact rt_d118_0
  · exact rt_d118_2
  · exact rt_d118_3
  · exact rt_d118_4
  · exact rt_d118_5
  · exact rt_d118_6
  · exact rt_d118_7
set_option maxRecDepth 100000 in
theorem rt_d119_0 : rt_dk prog_15_method_105_code rt_i119_0 = true := by decide +kernel
theorem rt_D119 : ∀ c ∈ rt_m119.2.2.2.2.2.2.1, rt_dk rt_m119.2.2.2.1 c.2 = true := by
  intro c hc
  have hc : c ∈ [(0, rt_i119_0)] := hc
  simp only [List.mem_cons, List.not_mem_nil, or_false] at hc
  rcases hc with rfl
  · exact rt_d119_0
set_option maxRecDepth 100000 in
theorem rt_d120_0 : rt_dk prog_15_method_106_code rt_i120_0 = true := by decide +kernel
set_option maxRecDepth 100000 in
theorem rt_d120_1 : rt_dk prog_15_method_106_code rt_i120_1 = true := by decide +kernel
set_option maxRecDepth 100000 in
theorem rt_d120_2 : rt_dk prog_15_method_106_code rt_i120_2 = true := by decide +kernel
set_option maxRecDepth 100000 in
theorem rt_d120_3 : rt_dk prog_15_method_106_code rt_i120_3 = true := by decide +kernel
theorem rt_D120 : ∀ c ∈ rt_m120.2.2.2.2.2.2.1, rt_dk rt_m120.2.2.2.1 c.2 = true := by
  intro c hc
  have hc : c ∈ [(0, rt_i120_0), (1, rt_i120_1), (2, rt_i120_2), (3, rt_i120_3)] := hc
  simp only [List.mem_cons, List.not_mem_nil, or_false] at hc
  rcases hc with rfl | rfl | rfl | rfl
  · exact rt_d120_0
  · exact rt_d120_1
  · exact rt_d120_2
  · exact rt_d120_3
set_option maxRecDepth 100000 in
theorem rt_d121_0 : rt_dk prog_15_method_111_code rt_i121_0 = true := by decide +kernel
set_option maxRecDepth 100000 in
theorem rt_d121_1 : rt_dk prog_15_method_111_code rt_i121_1 = true := by decide +kernel
set_option maxRecDepth 100000 in
theorem rt_d121_2 : rt_dk prog_15_method_111_code rt_i121_2 = true := by decide +kernel
set_option maxRecDepth 100000 in
theorem rt_d121_3 : rt_dk prog_15_method_111_code rt_i121_3 = true := by decide +kernel
set_option maxRecDepth 100000 in
theorem rt_d121_4 : rt_dk prog_15_method_111_code rt_i121_4 = true := by decide +kernel
set_option maxRecDepth 100000 in
theorem rt_d121_5 : rt_dk prog_15_method_111_code rt_i121_5 = true := by decide +kernel
set_option maxRecDepth 100000 in
theorem rt_d121_6 : rt_dk prog_15_method_111_code rt_i121_6 = true := by decide +kernel
set_option maxRecDepth 100000 in
theorem rt_d121_7 : rt_dk prog_15_method_111_code rt_i121_7 = true := by decide +kernel
set_option maxRecDepth 100000 in
theorem rt_d121_8 : rt_dk prog_15_method_111_code rt_i121_8 = true := by decide +kernel
theorem rt_D121 : ∀ c ∈ rt_m121.2.2.2.2.2.2.1, rt_dk rt_m121.2.2.2.1 c.2 = true := by
  intro c hc
  have hc : c ∈ [(0, rt_i121_0), (1, rt_i121_1), (2, rt_i121_2), (3, rt_i121_3), (4, rt_i121_4), (5, rt_i121_5), (6, rt_i121_6), (7, rt_i121_7), (8, rt_i121_8)] := hc
  simp only [List.mem_cons, List.not_mem_nil, or_false] at hc
  rcases hc with rfl | rfl | rfl | rfl | rfl | rfl | rfl | rfl | rfl
  · exact rt_d121_0
  · exact rt_d121_1
  · exact rt_d121_2
  · exact rt_d121_3
  · exact rt_d121_4
  · exact rt_d121_5
  · exact rt_d121_6
  · exact rt_d121_7
  · exact rt_d121_8
set_option maxRecDepth 100000 in
theorem rt_d122_0 : rt_dk prog_15_method_114_code rt_i122_0 = true := by decide +kernel
set_option maxRecDepth 100000 in
theorem rt_d122_1 : rt_dk prog_15_method_114_code rt_i122_1 = true := by decide +kernel
set_option maxRecDepth 100000 in
theorem rt_d122_2 : rt_dk prog_15_method_114_code rt_i122_2 = true := by decide +kernel
set_option maxRecDepth 100000 in
theorem rt_d122_3 : rt_dk prog_15_method_114_code rt_i122_3 = true := by decide +kernel
set_option maxRecDepth 100000 in
theorem rt_d122_4 : rt_dk prog_15_method_114_code rt_i122_4 = true := by decide +kernel
set_option maxRecDepth 100000 in
theorem rt_d122_5 : rt_dk prog_15_method_114_code rt_i122_5 = true := by decide +kernel
set_option maxRecDepth 100000 in
theorem rt_d122_6 : rt_dk prog_15_method_114_code rt_i122_6 = true := by decide +kernel
theorem rt_D122 : ∀ c ∈ rt_m122.2.2.2.2.2.2.1, rt_dk rt_m122.2.2.2.1 c.2 = true := by
  intro c hc
  have hc : c ∈ [(0, rt_i122_0), (1, rt_i122_1), (2, rt_i122_2), (3, rt_i122_3), (4, rt_i122_4), (5, rt_i122_5), (6, rt_i122_6)] := hc
  simp only [List.mem_cons, List.not_mem_nil, or_false] at hc
  rcases hc with rfl | rfl | rfl | rfl | rfl | rfl | rfl
  · exact rt_d122_0
  · exact rt_d122_1
  · exact rt_d122_2
  · exact rt_d122_3
  · exact rt_d122_4
  · exact rt_d122_5
  · exact rt_d122_6
set_option maxRecDepth 100000 in
theorem rt_d123_0 : rt_dk prog_15_method_125_code rt_i123_0 = true := by decide +kernel
set_option maxRecDepth 100000 in
theorem rt_d123_1 : rt_dk prog_15_method_125_code rt_i123_1 = true := by decide +kernel
set_option maxRecDepth 100000 in
theorem rt_d123_2 : rt_dk prog_15_method_125_code rt_i123_2 = true := by decide +kernel
set_option maxRecDepth 100000 in
theorem rt_d123_3 : rt_dk prog_15_method_125_code rt_i123_3 = true := by decide +kernel
set_option maxRecDepth 100000 in
theorem rt_d123_4 : rt_dk prog_15_method_125_code rt_i123_4 = true := by decide +kernel
set_option maxRecDepth 100000 in
theorem rt_d123_5 : rt_dk prog_15_method_125_code rt_i123_5 = true := by decide +kernel
theorem rt_D123 : ∀ c ∈ rt_m123.2.2.2.2.2.2.1, rt_dk rt_m123.2.2.2.1 c.2 = true := by
  intro c hc
  have hc : c ∈ [(0, rt_i123_0), (1, rt_i123_1), (2, rt_i123_2), (3, rt_i123_3), (4, rt_i123_4), (5, rt_i123_5)] := hc
  simp only [List.mem_cons, List.not_mem_nil, or_false] at hc
  rcases hc with rfl | rfl | rfl | rfl | rfl | rfl
  · exact rt_d123_0
  · exact rt_d123_1
  · exact rt_d123_2
  · exact rt_d123_3
  · exact rt_d123_4
  · exact rt_d123_5
set_option maxRecDepth 100000 in
theorem rt_d124_0 : rt_dk prog_15_method_126_code rt_i124_0 = true := by decide +kernel
set_option maxRecDepth 100000 in
theorem rt_d124_1 : rt_dk prog_15_method_126_code rt_i124_1 = true := by decide +kernel
set_option maxRecDepth 100000 in
theorem rt_d124_2 : rt_dk prog_15_method_126_code rt_i124_2 = true := by decide +kernel
set_option maxRecDepth 100000 in
theorem rt_d124_3 : rt_dk prog_15_method_126_code rt_i124_3 = true := by decide +kernel
set_option maxRecDepth 100000 in
theorem rt_d124_4 : rt_dk prog_15_method_126_code rt_i124_4 = true := by decide +kernel
set_option maxRecDepth 100000 in
theorem rt_d124_5 : rt_dk prog_15_method_126_code rt_i124_5 = true := by decide +kernel
set_option maxRecDepth 100000 in
theorem rt_d124_6 : rt_dk prog_15_method_126_code rt_i124_6 = true := by decide +kernel
set_option maxRecDepth 100000 in
theorem rt_d124_7 : rt_dk prog_15_method_126_code rt_i124_7 = true := by decide +kernel
set_option maxRecDepth 100000 in
theorem rt_d124_8 : rt_dk prog_15_method_126_code rt_i124_8 = true := by decide +kernel
theorem rt_D124 : ∀ c ∈ rt_m124.2.2.2.2.2.2.1, rt_dk rt_m124.2.2.2.1 c.2 = true := by
  intro c hc
  have hc : c ∈ [(0, rt_i124_0), (1, rt_i124_1), (2, rt_i124_2), (3, rt_i124_3), (4, rt_i124_4), (5, rt_i124_5), (6, rt_i124_6), (7, rt_i124_7), (8, rt_i124_8)] := hc
  simp only [List.mem_cons, List.not_mem_nil, or_false] at hc
  rcases hc with rfl | rfl | rfl | rfl | rfl | rfl | rfl | rfl | rfl
  · exact rt_d124_0
  · exact rt_d124_1
  · exact rt_d124_2
  · exact rt_d124_3
  · exact rt_d124_4
  · exact rt_d124_5
  · exact rt_d124_6
  · exact rt_d124_7
  · exact rt_d124_8
set_option maxRecDepth 100000 in
theorem rt_d125_0 : rt_dk prog_15_method_128_code rt_i125_0 = true := by decide +kernel
theorem rt_D125 : ∀ c ∈ rt_m125.2.2.2.2.2.2.1, rt_dk rt_m125.2.2.2.1 c.2 = true := by
  intro c hc
  have hc : c ∈ [(0, rt_i125_0)] := hc
  simp only [List.mem_cons, List.not_mem_nil, or_false] at hc
  rcases hc with rfl
  · exact rt_d125_0
set_option maxRecDepth 100000 in
theorem rt_d126_0 : rt_dk prog_15_method_140_code rt_i126_0 = true := by decide +kernel
set_option maxRecDepth 100000 in
theorem rt_d126_1 : rt_dk prog_15_method_140_code rt_i126_1 = true := by decide +kernel
theorem rt_D126 : ∀ c ∈ rt_m126.2.2.2.2.2.2.1, rt_dk rt_m126.2.2.2.1 c.2 = true := by
  intro c hc
  have hc : c ∈ [(0, rt_i126_0), (1, rt_i126_1)] := hc
  simp only [List.mem_cons, List.not_mem_nil, or_false] at hc
  rcases hc with rfl | rfl
  · exact rt_d126_0
  · exact rt_d126_1
set_option maxRecDepth 100000 in
theorem rt_d127_0 : rt_dk prog_15_method_141_code rt_i127_0 = true := by decide +kernel
set_option maxRecDepth 100000 in
theorem rt_d127_1 : rt_dk prog_15_method_141_code rt_i127_1 = true := by decide +kernel
set_option maxRecDepth 100000 in
theorem rt_d127_2 : rt_dk prog_15_method_141_code rt_i127_2 = true := by decide +kernel
set_option maxRecDepth 100000 in
theorem rt_d127_3 : rt_dk prog_15_method_141_code rt_i127_3 = true := by decide +kernel
theorem rt_D127 : ∀ c ∈ rt_m127.2.2.2.2.2.2.1, rt_dk rt_m127.2.2.2.1 c.2 = true := by
  intro c hc
  have hc : c ∈ [(0, rt_i127_0), (1, rt_i127_1), (2, rt_i127_2), (3, rt_i127_3)] := hc
  simp only [List.mem_cons, List.not_mem_nil, or_false] at hc
  rcases hc with rfl | rfl | rfl | rfl
  · exact rt_d127_0
  · exact rt_d127_1
  · exact rt_d127_2
  · exact rt_d127_3
set_option maxRecDepth 100000 in
theorem rt_d128_0 : rt_dk prog_15_method_142_code rt_i128_0 = true := by decide +kernel
set_option maxRecDepth 100000 in
theorem rt_d128_1 : rt_dk prog_15_method_142_code rt_i128_1 = true := by decide +kernel
set_option maxRecDepth 100000 in
theorem rt_d128_2 : rt_dk prog_15_method_142_code rt_i128_2 = true := by decide +kernel
set_option maxRecDepth 100000 in
theorem rt_d128_3 : rt_dk prog_15_method_142_code rt_i128_3 = true := by decide +kernel
theorem rt_D128 : ∀ c ∈ rt_m128.2.2.2.2.2.2.1, rt_dk rt_m128.2.2.2.1 c.2 = true := by
  intro c hc
  have hc : c ∈ [(0, rt_i128_0), (1, rt_i128_1), (2, rt_i128_2), (3, rt_i128_3)] := hc
  simp only [List.mem_cons, List.not_mem_nil, or_false] at hc
  rcases hc with rfl | rfl | rfl | rfl
  · exact rt_d128_0
  · exact rt_d128_1
  · exact rt_d128_2
  · exact rt_d128_3
set_option maxRecDepth 100000 in
theorem rt_d129_0 : rt_dk prog_15_method_144_code rt_i129_0 = true := by decide +kernel
set_option maxRecDepth 100000 in
theorem rt_d129_1 : rt_dk prog_15_method_144_code rt_i129_1 = true := by decide +kernel
set_option maxRecDepth 100000 in
theorem rt_d129_2 : rt_dk prog_15_method_144_code rt_i129_2 = true := by decide +kernel
set_option maxRecDepth 100000 in
theorem rt_d129_3 : rt_dk prog_15_method_144_code rt_i129_3 = true := by decide +kernel
set_option maxRecDepth 100000 in
theorem rt_d129_4 : rt_dk prog_15_method_144_code rt_i129_4 = true := by decide +kernel
set_option maxRecDepth 100000 in
theorem rt_d129_5 : rt_dk prog_15_method_144_code rt_i129_5 = true := by decide +kernel
set_option maxRecDepth 100000 in
theorem rt_d129_6 : rt_dk prog_15_method_144_code rt_i129_6 = true := by decide +kernel
set_option maxRecDepth 100000 in
theorem rt_d129_7 : rt_dk prog_15_method_144_code rt_i129_7 = true := by decide +kernel
set_option maxRecDepth 100000 in
theorem rt_d129_8 : rt_dk prog_15_method_144_code rt_i129_8 = true := by decide +kernel
set_option maxRecDepth 100000 in
theorem rt_d129_9 : rt_dk prog_15_method_144_code rt_i129_9 = true := by decide +kernel
set_option maxRecDepth 100000 in
theorem rt_d129_10 : rt_dk prog_15_method_144_code rt_i129_10 = true := by decide +kernel
set_option maxRecDepth 100000 in
theorem rt_d129_11 : rt_dk prog_15_method_144_code rt_i129_11 = true := by decide +kernel
theorem rt_D129 : ∀ c ∈ rt_m129.2.2.2.2.2.2.1, rt_dk rt_m129.2.2.2.1 c.2 = true := by
  intro c hc
  have hc : c ∈ [(0, rt_i129_0), (1, rt_i129_1), (2, rt_i129_2), (3, rt_i129_3), (4, rt_i129_4), (5, rt_i129_5), (6, rt_i129_6), (7, rt_i129_7), (8, rt_i129_8), (9, rt_i129_9), (10, rt_i129_10), (11, rt_i129_11)] := hc
  simp only [List.mem_cons, List.not_mem_nil, or_false] at hc
  rcases hc with rfl | rfl | rfl | rfl | rfl | rfl | rfl | rfl | rfl | rfl | rfl | rfl
  · exact rt_d129_0
  · exact rt_d129_1
  · exact rt_d129_2
  · exact rt_d129_3
  · exact rt_d129_4
  · exact rt_d129_5
  · exact rt_d129_6
  · exact rt_d129_7
  · exact rt_d129_8
  · exact rt_d129_9
  · exact rt_d129_10
  · exact rt_d129_11
set_option maxRecDepth 100000 in
theorem rt_d130_0 : rt_dk prog_15_method_146_code rt_i130_0 = true := by decide +kernel
set_option maxRecDepth 100000 in
theorem rt_d130_1 : rt_dk prog_15_method_146_code rt_i130_1 = true := by decide +kernel
theorem rt_D130 : ∀ c ∈ rt_m130.2.2.2.2.2.2.1, rt_dk rt_m130.2.2.2.1 c.2 = true := by
  intro c hc
  have hc : c ∈ [(0, rt_i130_0), (1, rt_i130_1)] := hc
  simp only [List.mem_cons, List.not_mem_nil, or_false] at hc
  rcases hc with rfl | rfl
  · exact rt_d130_0
  · exact rt_d130_1
set_option maxRecDepth 100000 in
theorem rt_d131_0 : rt_dk prog_15_method_147_code rt_i131_0 = true := by decide +kernel
set_option maxRecDepth 100000 in
theorem rt_d131_1 : rt_dk prog_15_method_147_code rt_i131_1 = true := by decide +kernel
set_option maxRecDepth 100000 in
theorem rt_d131_2 : rt_dk prog_15_method_147_code rt_i131_2 = true := by decide +kernel
set_option maxRecDepth 100000 in
theorem rt_d131_3 : rt_dk prog_15_method_147_code rt_i131_3 = true := by decide +kernel
set_option maxRecDepth 100000 in
theorem rt_d131_4 : rt_dk prog_15_method_147_code rt_i131_4 = true := by decide +kernel
set_option maxRecDepth 100000 in
theorem rt_d131_5 : rt_dk prog_15_method_147_code rt_i131_5 = true := by decide +kernel
set_option maxRecDepth 100000 in
theorem rt_d131_6 : rt_dk prog_15_method_147_code rt_i131_6 = true := by decide +kernel
set_option maxRecDepth 100000 in
theorem rt_d131_7 : rt_dk prog_15_method_147_code rt_i131_7 = true := by decide +kernel
set_option maxRecDepth 100000 in
theorem rt_d131_8 : rt_dk prog_15_method_147_code rt_i131_8 = true := by decide +kernel
set_option maxRecDepth 100000 in
theorem rt_d131_9 : rt_dk prog_15_method_147_code rt_i131_9 = true := by decide +kernel
theorem rt_D131 : ∀ c ∈ rt_m131.2.2.2.2.2.2.1, rt_dk rt_m131.2.2.2.1 c.2 = true := by
  intro c hc
  have hc : c ∈ [(0, rt_i131_0), (1, rt_i131_1), (2, rt_i131_2), (3, rt_i131_3), (4, rt_i131_4), (5, rt_i131_5), (6, rt_i131_6), (7, rt_i131_7), (8, rt_i131_8), (9, rt_i131_9)] := hc
  simp only [List.mem_cons, List.not_mem_nil, or_false] at hc
  rcases hc with rfl | rfl | rfl | rfl | rfl | rfl | rfl | rfl | rfl | rfl
  · exact rt_d131_0
  · exact rt_d131_1
  · exact rt_d131_2
  · exact rt_d131_3
  · exact rt_d131_4
  · exact rt_d131_5
  · exact rt_d131_6
  · exact rt_d131_7
  · exact rt_d131_8
  · exact rt_d131_9
set_option maxRecDepth 100000 in
theorem rt_d132_0 : rt_dk prog_15_method_148_code rt_i132_0 = true := by decide +kernel
set_option maxRecDepth 100000 in
theorem rt_d132_1 : rt_dk prog_15_method_148_code rt_i132_1 = true := by decide +kernel
theorem rt_D132 : ∀ c ∈ rt_m132.2.2.2.2.2.2.1, rt_dk rt_m132.2.2.2.1 c.2 = true := by
  intro c hc
  have hc : c ∈ [(0, rt_i132_0), (1, rt_i132_1)] := hc
  simp only [List.mem_cons, List.not_mem_nil, or_false] at hc
  rcases hc with rfl | rfl
  · exact rt_d132_0
  · exact rt_d132_1
set_option maxRecDepth 100000 in
theorem rt_d133_0 : rt_dk prog_15_method_149_code rt_i133_0 = true := by decide +kernel
theorem rt_D133 : ∀ c ∈ rt_m133.2.2.2.2.2.2.1, rt_dk rt_m133.2.2.2.1 c.2 = true := by
  intro c hc
  have hc : c ∈ [(0, rt_i133_0)] := hc
  simp only [List.mem_cons, List.not_mem_nil, or_false] at hc
  rcases hc with rfl
  · exact rt_d133_0
set_option maxRecDepth 100000 in
theorem rt_d134_0 : rt_dk prog_15_method_151_code rt_i134_0 = true := by decide +kernel
set_option maxRecDepth 100000 in
theorem rt_d134_1 : rt_dk prog_15_method_151_code rt_i134_1 = true := by decide +kernel
set_option maxRecDepth 100000 in
theorem rt_d134_2 : rt_dk prog_15_method_151_code rt_i134_2 = true := by decide +kernel
set_option maxRecDepth 100000 in
theorem rt_d134_3 : rt_dk prog_15_method_151_code rt_i134_3 = true := by decide +kernel
set_option maxRecDepth 100000 in
theorem rt_d134_4 : rt_dk prog_15_method_151_code rt_i134_4 = true := by decide +kernel
theorem rt_D134 : ∀ c ∈ rt_m134.2.2.2.2.2.2.1, rt_dk rt_m134.2.2.2.1 c.2 = true := by
  intro c hc
  have hc : c ∈ [(0, rt_i134_0), (1, rt_i134_1), (2, rt_i134_2), (3, rt_i134_3), (4, rt_i134_4)] := hc
  simp only [List.mem_cons, List.not_mem_nil, or_false] at hc
  rcases hc with rfl | rfl | rfl | rfl | rfl
  · exact rt_d134_0
  · exact rt_d134_1
  · exact rt_d134_2
  · exact rt_d134_3
  · exact rt_d134_4
set_option maxRecDepth 100000 in
theorem rt_d135_0 : rt_dk prog_15_method_154_code rt_i135_0 = true := by decide +kernel
set_option maxRecDepth 100000 in
theorem rt_d135_1 : rt_dk prog_15_method_154_code rt_i135_1 = true := by decide +kernel
set_option maxRecDepth 100000 in
theorem rt_d135_2 : rt_dk prog_15_method_154_code rt_i135_2 = true := by decide +kernel
set_option maxRecDepth 100000 in
theorem rt_d135_3 : rt_dk prog_15_method_154_code rt_i135_3 = true := by decide +kernel
set_option maxRecDepth 100000 in
theorem rt_d135_4 : rt_dk prog_15_method_154_code rt_i135_4 = true := by decide +kernel
set_option maxRecDepth 100000 in
theorem rt_d135_5 : rt_dk prog_15_method_154_code rt_i135_5 = true := by decide +kernel
theorem rt_D135 : ∀ c ∈ rt_m135.2.2.2.2.2.2.1, rt_dk rt_m135.2.2.2.1 c.2 = true := by
  intro c hc
  have hc : c ∈ [(0, rt_i135_0), (1, rt_i135_1), (2, rt_i135_2), (3, rt_i135_3), (4, rt_i135_4), (5, rt_i135_5)] := hc
  simp only [List.mem_cons, List.not_mem_nil, or_false] at hc
  rcases hc with rfl | rfl | rfl | rfl | rfl | rfl
  · exact rt_d135_0
  · exact rt_d135_1
  · exact rt_d135_2
  · exact rt_d135_3
  · exact rt_d135_4
  · exact rt_d135_5
set_option maxRecDepth 100000 in
theorem rt_d136_0 : rt_dk prog_15_method_155_code rt_i136_0 = true := by decide +kernel
theorem rt_D136 : ∀ c ∈ rt_m136.2.2.2.2.2.2.1, rt_dk rt_m136.2.2.2.1 c.2 = true := by
  intro c hc
  have hc : c ∈ [(0, rt_i136_0)] := hc
  simp only [List.mem_cons, List.not_mem_nil, or_false] at hc
  rcases hc with rfl
  · exact rt_d136_0
set_option maxRecDepth 100000 in
theorem rt_d137_0 : rt_dk prog_15_method_156_code rt_i137_0 = true := by decide +kernel
set_option maxRecDepth 100000 in
theorem rt_d137_1 : rt_dk prog_15_method_156_code rt_i137_1 = true := by decide +kernel
theorem rt_D137 : ∀ c ∈ rt_m137.2.2.2.2.2.2.1, rt_dk rt_m137.2.2.2.1 c.2 = true := by
  intro c hc
  have hc : c ∈ [(0, rt_i137_0), (1, rt_i137_1)] := hc
  simp only [List.mem_cons, List.not_mem_nil, or_false] at hc
  rcases hc with rfl | rfl
  · exact rt_d137_0
  · exact rt_d137_1
set_option maxRecDepth 100000 in
theorem rt_d138_0 : rt_dk prog_15_method_158_code rt_i138_0 = true := by decide +kernel
set_option maxRecDepth 100000 in
theorem rt_d138_1 : rt_dk prog_15_method_158_code rt_i138_1 = true := by decide +kernel
theorem rt_D138 : ∀ c ∈ rt_m138.2.2.2.2.2.2.1, rt_dk rt_m138.2.2.2.1 c.2 = true := by
  intro c hc
  have hc : c ∈ [(0, rt_i138_0), (1, rt_i138_1)] := hc
  simp only [List.mem_cons, List.not_mem_nil, or_false] at hc
  rcases hc with rfl | rfl
  · exact rt_d138_0
  · exact rt_d138_1
set_option maxRecDepth 100000 in
theorem rt_d139_0 : rt_dk prog_15_method_160_code rt_i139_0 = true := by decide +kernel
set_option maxRecDepth 100000 in
theorem rt_d139_1 : rt_dk prog_15_method_160_code rt_i139_1 = true := by decide +kernel
set_option maxRecDepth 100000 in
theorem rt_d139_2 : rt_dk prog_15_method_160_code rt_i139_2 = true := by decide +kernel
set_option maxRecDepth 100000 in
theorem rt_d139_3 : rt_dk prog_15_method_160_code rt_i139_3 = true := by decide +kernel
set_option maxRecDepth 100000 in
theorem rt_d139_4 : rt_dk prog_15_method_160_code rt_i139_4 = true := by decide +kernel
set_option maxRecDepth 100000 in
theorem rt_d139_5 : rt_dk prog_15_method_160_code rt_i139_5 = true := by decide +kernel
set_option maxRecDepth 100000 in
theorem rt_d139_6 : rt_dk prog_15_method_160_code rt_i139_6 = true := by decide +kernel
theorem rt_D139 : ∀ c ∈ rt_m139.2.2.2.2.2.2.1, rt_dk rt_m139.2.2.2.1 c.2 = true := by
  intro c hc
  have hc : c ∈ [(0, rt_i139_0), (1, rt_i139_1), (2, rt_i139_2), (3, rt_i139_3), (4, rt_i139_4), (5, rt_i139_5), (6, rt_i139_6)] := hc
  simp only [List.mem_cons, List.not_mem_nil, or_false] at hc
  rcases hc with rfl | rfl | rfl | rfl | rfl | rfl | rfl
  · exact rt_d139_0
  · exact rt_d139_1
  · exact rt_d139_2
  · exact rt_d139_3
  · exact rt_d139_4
  · exact rt_d139_5
  · exact rt_d139_6
set_option maxRecDepth 100000 in
theorem rt_d140_0 : rt_dk prog_15_method_161_code rt_i140_0 = true := by decide +kernel
set_option maxRecDepth 100000 in
theorem rt_d140_1 : rt_dk prog_15_method_161_code rt_i140_1 = true := by decide +kernel
set_option maxRecDepth 100000 in
theorem rt_d140_2 : rt_dk prog_15_method_161_code rt_i140_2 = true := by decide +kernel
set_option maxRecDepth 100000 in
theorem rt_d140_3 : rt_dk prog_15_method_161_code rt_i140_3 = true := by decide +kernel
set_option maxRecDepth 100000 in
theorem rt_d140_4 : rt_dk prog_15_method_161_code rt_i140_4 = true := by decide +kernel
set_option maxRecDepth 100000 in
theorem rt_d140_5 : rt_dk prog_15_method_161_code rt_i140_5 = true := by decide +kernel
theorem rt_D140 : ∀ c ∈ rt_m140.2.2.2.2.2.2.1, rt_dk rt_m140.2.2.2.1 c.2 = true := by
  intro c hc
  have hc : c ∈ [(0, rt_i140_0), (1, rt_i140_1), (2, rt_i140_2), (3, rt_i140_3), (4, rt_i140_4), (5, rt_i140_5)] := hc
  simp only [List.mem_cons, List.not_mem_nil, or_false] at hc
  rcases hc with rfl | rfl | rfl | rfl | rfl | rfl
  · exact rt_d140_0
  · exact rt_d140_1
  · exact rt_d140_2
  · exact rt_d140_3
  · exact rt_d140_4
  · exact rt_d140_5
set_option maxRecDepth 100000 in
theorem rt_d141_0 : rt_dk prog_15_method_168_code rt_i141_0 = true := by decide +kernel
set_option maxRecDepth 100000 in
theorem rt_d141_1 : rt_dk prog_15_method_168_code rt_i141_1 = true := by decide +kernel
set_option maxRecDepth 100000 in
theorem rt_d141_2 : rt_dk prog_15_method_168_code rt_i141_2 = true := by decide +kernel
set_option maxRecDepth 100000 in
theorem rt_d141_4 : rt_dk prog_15_method_168_code rt_i141_4 = true := by decide +kernel
set_option maxRecDepth 100000 in
theorem rt_d141_5 : rt_dk prog_15_method_168_code rt_i141_5 = true := by decide +kernel
set_option maxRecDepth 100000 in
theorem rt_d141_6 : rt_dk prog_15_method_168_code rt_i141_6 = true := by decide +kernel
set_option maxRecDepth 100000 in
theorem rt_d141_7 : rt_dk prog_15_method_168_code rt_i141_7 = true := by decide +kernel
theorem rt_D141 : ∀ c ∈ rt_m141.2.2.2.2.2.2.1, rt_dk rt_m141.2.2.2.1 c.2 = true := by
  intro c hc
  have hc : c ∈ [(0, rt_i141_0), (1, rt_i141_1), (2, rt_i141_2), (4, rt_i141_4), (5, rt_i141_5), (6, rt_i141_6), (7, rt_i141_7)] := hc
  simp only [List.mem_cons, List.not_mem_nil, or_false] at hc
  rcases hc with rfl | rfl | rfl | rfl | rfl | rfl | rfl
  · exact rt_d141_0
  · exact rt_d141_1
  · exact rt_d141_2
  · exact rt_d141_4
  · exact rt_d141_5
  · exact rt_d141_6
  · exact rt_d141_7
set_option maxRecDepth 100000 in
theorem rt_d142_0 : rt_dk prog_15_method_169_code rt_i142_0 = true := by decide +kernel
theorem rt_D142 : ∀ c ∈ rt_m142.2.2.2.2.2.2.1, rt_dk rt_m142.2.2.2.1 c.2 = true := by
  intro c hc
  have hc : c ∈ [(0, rt_i142_0)] := hc
  simp only [List.mem_cons, List.not_mem_nil, or_false] at hc
  rcases hc with rfl
  · exact rt_d142_0
set_option maxRecDepth 100000 in
theorem rt_d143_0 : rt_dk prog_15_method_174_code rt_i143_0 = true := by decide +kernel
set_option maxRecDepth 100000 in
theorem rt_d143_1 : rt_dk prog_15_method_174_code rt_i143_1 = true := by decide +kernel
set_option maxRecDepth 100000 in
theorem rt_d143_2 : rt_dk prog_15_method_174_code rt_i143_2 = true := by decide +kernel
set_option maxRecDepth 100000 in
theorem rt_d143_3 : rt_dk prog_15_method_174_code rt_i143_3 = true := by decide +kernel
set_option maxRecDepth 100000 in
theorem rt_d143_4 : rt_dk prog_15_method_174_code rt_i143_4 = true := by decide +kernel
set_option maxRecDepth 100000 in
theorem rt_d143_5 : rt_dk prog_15_method_174_code rt_i143_5 = true := by decide +kernel
set_option maxRecDepth 100000 in
theorem rt_d143_6 : rt_dk prog_15_method_174_code rt_i143_6 = true := by decide +kernel
theorem rt_D143 : ∀ c ∈ rt_m143.2.2.2.2.2.2.1, rt_dk rt_m143.2.2.2.1 c.2 = true := by
  intro c hc
  have hc : c ∈ [(0, rt_i143_0), (1, rt_i143_1), (2, rt_i143_2), (3, rt_i143_3), (4, rt_i143_4), (5, rt_i143_5), (6, rt_i143_6)] := hc
  simp only [List.mem_cons, List.not_mem_nil, or_false] at hc
  rcases hc with rfl | rfl | rfl | rfl | rfl | rfl | rfl
  · exact rt_d143_0
  · exact rt_d143_1
  · exact rt_d143_2
  · exact rt_d143_3
  · exact rt_d143_4
  · exact rt_d143_5
  · exact rt_d143_6
set_option maxRecDepth 100000 in
theorem rt_d144_0 : rt_dk prog_15_method_178_code rt_i144_0 = true := by decide +kernel
set_option maxRecDepth 100000 in
theorem rt_d144_1 : rt_dk prog_15_method_178_code rt_i144_1 = true := by decide +kernel
set_option maxRecDepth 100000 in
theorem rt_d144_2 : rt_dk prog_15_method_178_code rt_i144_2 = true := by decide +kernel
theorem rt_D144 : ∀ c ∈ rt_m144.2.2.2.2.2.2.1, rt_dk rt_m144.2.2.2.1 c.2 = true := by
  intro c hc
  have hc : c ∈ [(0, rt_i144_0), (1, rt_i144_1), (2, rt_i144_2)] := hc
  simp only [List.mem_cons, List.not_mem_nil, or_false] at hc
  rcases hc with rfl | rfl | rfl
  · exact rt_d144_0
  · exact rt_d144_1
  · exact rt_d144_2
set_option maxRecDepth 100000 in
theorem rt_d145_0 : rt_dk prog_26_method_54_code rt_i145_0 = true := by decide +kernel
theorem rt_D145 : ∀ c ∈ rt_m145.2.2.2.2.2.2.1, rt_dk rt_m145.2.2.2.1 c.2 = true := by
  intro c hc
  have hc : c ∈ [(0, rt_i145_0)] := hc
  simp only [List.mem_cons, List.not_mem_nil, or_false] at hc
  rcases hc with rfl
  · exact rt_d145_0
set_option maxRecDepth 100000 in
theorem rt_d146_0 : rt_dk prog_26_method_56_code rt_i146_0 = true := by decide +kernel
theorem rt_D146 : ∀ c ∈ rt_m146.2.2.2.2.2.2.1, rt_dk rt_m146.2.2.2.1 c.2 = true := by
  intro c hc
  have hc : c ∈ [(0, rt_i146_0)] := hc
  simp only [List.mem_cons, List.not_mem_nil, or_false] at hc
  rcases hc with rfl
  · exact rt_d146_0
set_option maxRecDepth 100000 in
theorem rt_d147_0 : rt_dk prog_26_method_152_code rt_i147_0 = true := by decide +kernel
theorem rt_D147 : ∀ c ∈ rt_m147.2.2.2.2.2.2.1, rt_dk rt_m147.2.2.2.1 c.2 = true := by
  intro c hc
  have hc : c ∈ [(0, rt_i147_0)] := hc
  simp only [List.mem_cons, List.not_mem_nil, or_false] at hc
  rcases hc with rfl
  · exact rt_d147_0
set_option maxRecDepth 100000 in
theorem rt_d148_0 : rt_dk prog_26_method_154_code rt_i148_0 = true := by decide +kernel
theorem rt_D148 : ∀ c ∈ rt_m148.2.2.2.2.2.2.1, rt_dk rt_m148.2.2.2.1 c.2 = true := by
  intro c hc
  have hc : c ∈ [(0, rt_i148_0)] := hc
  simp only [List.mem_cons, List.not_mem_nil, or_false] at hc
  rcases hc with rfl
  · exact rt_d148_0
set_option maxRecDepth 100000 in
theorem rt_d149_0 : rt_dk prog_26_method_155_code rt_i149_0 = true := by decide +kernel
theorem rt_D149 : ∀ c ∈ rt_m149.2.2.2.2.2.2.1, rt_dk rt_m149.2.2.2.1 c.2 = true := by
  intro c hc
  have hc : c ∈ [(0, rt_i149_0)] := hc
  simp only [List.mem_cons, List.not_mem_nil, or_false] at hc
  rcases hc with rfl
  · exact rt_d149_0
set_option maxRecDepth 100000 in
theorem rt_d150_0 : rt_dk prog_28_method_2_code rt_i150_0 = true := by decide +kernel
theorem rt_D150 : ∀ c ∈ rt_m150.2.2.2.2.2.2.1, rt_dk rt_m150.2.2.2.1 c.2 = true := by
  intro c hc
  have hc : c ∈ [(0, rt_i150_0)] := hc
  simp only [List.mem_cons, List.not_mem_nil, or_false] at hc
  rcases hc with rfl
  · exact rt_d150_0
set_option maxRecDepth 100000 in
theorem rt_d151_0 : rt_dk prog_32_method_30_code rt_i151_0 = true := by decide +kernel
set_option maxRecDepth 100000 in
theorem rt_d151_1 : rt_dk prog_32_method_30_code rt_i151_1 = true := by decide +kernel
set_option maxRecDepth 100000 in
theorem rt_d151_2 : rt_dk prog_32_method_30_code rt_i151_2 = true := by decide +kernel
theorem rt_D151 : ∀ c ∈ rt_m151.2.2.2.2.2.2.1, rt_dk rt_m151.2.2.2.1 c.2 = true := by
  intro c hc
  have hc : c ∈ [(0, rt_i151_0), (1, rt_i151_1), (2, rt_i151_2)] := hc
  simp only [List.mem_cons, List.not_mem_nil, or_false] at hc
  rcases hc with rfl | rfl | rfl
  · exact rt_d151_0
  · exact rt_d151_1
  · exact rt_d151_2
set_option maxRecDepth 100000 in
theorem rt_d152_0 : rt_dk prog_32_method_102_code rt_i152_0 = true := by decide +kernel
theorem rt_D152 : ∀ c ∈ rt_m152.2.2.2.2.2.2.1, rt_dk rt_m152.2.2.2.1 c.2 = true := by
  intro c hc
  have hc : c ∈ [(0, rt_i152_0)] := hc
  simp only [List.mem_cons, List.not_mem_nil, or_false] at hc
  rcases hc with rfl
  · exact rt_d152_0
set_option maxRecDepth 100000 in
theorem rt_d153_0 : rt_dk prog_32_method_103_code rt_i153_0 = true := by decide +kernel
theorem rt_D153 : ∀ c ∈ rt_m153.2.2.2.2.2.2.1, rt_dk rt_m153.2.2.2.1 c.2 = true := by
  intro c hc
  have hc : c ∈ [(0, rt_i153_0)] := hc
  simp only [List.mem_cons, List.not_mem_nil, or_false] at hc
  rcases hc with rfl
  · exact rt_d153_0
set_option maxRecDepth 100000 in
theorem rt_d154_0 : rt_dk prog_32_method_104_code rt_i154_0 = true := by decide +kernel
theorem rt_D154 : ∀ c ∈ rt_m154.2.2.2.2.2.2.1, rt_dk rt_m154.2.2.2.1 c.2 = true := by
  intro c hc
  have hc : c ∈ [(0, rt_i154_0)] := hc
  simp only [List.mem_cons, List.not_mem_nil, or_false] at hc
  rcases hc with rfl
  · exact rt_d154_0
set_option maxRecDepth 100000 in
theorem rt_d155_0 : rt_dk prog_35_method_11_code rt_i155_0 = true := by decide +kernel
theorem rt_D155 : ∀ c ∈ rt_m155.2.2.2.2.2.2.1, rt_dk rt_m155.2.2.2.1 c.2 = true := by
  intro c hc
  have hc : c ∈ [(0, rt_i155_0)] := hc
  simp only [List.mem_cons, List.not_mem_nil, or_false] at hc
  rcases hc with rfl
  · exact rt_d155_0
set_option maxRecDepth 100000 in
theorem rt_d156_0 : rt_dk prog_2_method_5_code rt_i156_0 = true := by decide +kernel
theorem rt_D156 : ∀ c ∈ rt_m156.2.2.2.2.2.2.1, rt_dk rt_m156.2.2.2.1 c.2 = true := by
  intro c hc
  have hc : c ∈ [(0, rt_i156_0)] := hc
  simp only [List.mem_cons, List.not_mem_nil, or_false] at hc
  rcases hc with rfl
  · exact rt_d156_0
set_option maxRecDepth 100000 in
theorem rt_d157_0 : rt_dk prog_2_method_6_code rt_i157_0 = true := by decide +kernel
theorem rt_D157 : ∀ c ∈ rt_m157.2.2.2.2.2.2.1, rt_dk rt_m157.2.2.2.1 c.2 = true := by
  intro c hc
  have hc : c ∈ [(0, rt_i157_0)] := hc
  simp only [List.mem_cons, List.not_mem_nil, or_false] at hc
  rcases hc with rfl
  · exact rt_d157_0
set_option maxRecDepth 100000 in
theorem rt_d158_0 : rt_dk prog_2_method_7_code rt_i158_0 = true := by decide +kernel
theorem rt_D158 : ∀ c ∈ rt_m158.2.2.2.2.2.2.1, rt_dk rt_m158.2.2.2.1 c.2 = true := by
  intro c hc
  have hc : c ∈ [(0, rt_i158_0)] := hc
  simp only [List.mem_cons, List.not_mem_nil, or_false] at hc
  rcases hc with rfl
  · exact rt_d158_0
set_option maxRecDepth 100000 in
theorem rt_d159_0 : rt_dk prog_2_method_8_code rt_i159_0 = true := by decide +kernel
set_option maxRecDepth 100000 in
theorem rt_d159_1 : rt_dk prog_2_method_8_code rt_i159_1 = true := by decide +kernel
theorem rt_D159 : ∀ c ∈ rt_m159.2.2.2.2.2.2.1, rt_dk rt_m159.2.2.2.1 c.2 = true := by
  intro c hc
  have hc : c ∈ [(0, rt_i159_0), (1, rt_i159_1)] := hc
  simp only [List.mem_cons, List.not_mem_nil, or_false] at hc
  rcases hc with rfl | rfl
  · exact rt_d159_0
  · exact rt_d159_1
set_option maxRecDepth 100000 in
theorem rt_d160_0 : rt_dk prog_2_method_9_code rt_i160_0 = true := by decide +kernel
set_option maxRecDepth 100000 in
theorem rt_d160_1 : rt_dk prog_2_method_9_code rt_i160_1 = true := by decide +kernel
theorem rt_D160 : ∀ c ∈ rt_m160.2.2.2.2.2.2.1, rt_dk rt_m160.2.2.2.1 c.2 = true := by
  intro c hc
  have hc : c ∈ [(0, rt_i160_0), (1, rt_i160_1)] := hc
  simp only [List.mem_cons, List.not_mem_nil, or_false] at hc
  rcases hc with rfl | rfl
  · exact rt_d160_0
  · exact rt_d160_1
set_option maxRecDepth 100000 in
theorem rt_d161_0 : rt_dk prog_2_method_10_code rt_i161_0 = true := by decide +kernel
set_option maxRecDepth 100000 in
theorem rt_d161_1 : rt_dk prog_2_method_10_code rt_i161_1 = true := by decide +kernel
theorem rt_D161 : ∀ c ∈ rt_m161.2.2.2.2.2.2.1, rt_dk rt_m161.2.2.2.1 c.2 = true := by
  intro c hc
  have hc : c ∈ [(0, rt_i161_0), (1, rt_i161_1)] := hc
  simp only [List.mem_cons, List.not_mem_nil, or_false] at hc
  rcases hc with rfl | rfl
  · exact rt_d161_0
  · exact rt_d161_1
set_option maxRecDepth 100000 in
theorem rt_d162_0 : rt_dk prog_2_method_11_code rt_i162_0 = true := by decide +kernel
theorem rt_D162 : ∀ c ∈ rt_m162.2.2.2.2.2.2.1, rt_dk rt_m162.2.2.2.1 c.2 = true := by
  intro c hc
  have hc : c ∈ [(0, rt_i162_0)] := hc
  simp only [List.mem_cons, List.not_mem_nil, or_false] at hc
  rcases hc with rfl
  · exact rt_d162_0
set_option maxRecDepth 100000 in
theorem rt_d163_0 : rt_dk prog_2_method_12_code rt_i163_0 = true := by decide +kernel
set_option maxRecDepth 100000 in
theorem rt_d163_1 : rt_dk prog_2_method_12_code rt_i163_1 = true := by decide +kernel
theorem rt_D163 : ∀ c ∈ rt_m163.2.2.2.2.2.2.1, rt_dk rt_m163.2.2.2.1 c.2 = true := by
  intro c hc
  have hc : c ∈ [(0, rt_i163_0), (1, rt_i163_1)] := hc
  simp only [List.mem_cons, List.not_mem_nil, or_false] at hc
  rcases hc with rfl | rfl
  · exact rt_d163_0
  · exact rt_d163_1
set_option maxRecDepth 100000 in
theorem rt_d164_0 : rt_dk prog_2_method_13_code rt_i164_0 = true := by decide +kernel
set_option maxRecDepth 100000 in
theorem rt_d164_1 : rt_dk prog_2_method_13_code rt_i164_1 = true := by decide +kernel
set_option maxRecDepth 100000 in
theorem rt_d164_2 : rt_dk prog_2_method_13_code rt_i164_2 = true := by decide +kernel
set_option maxRecDepth 100000 in
theorem rt_d164_3 : rt_dk prog_2_method_13_code rt_i164_3 = true := by decide +kernel
theorem rt_D164 : ∀ c ∈ rt_m164.2.2.2.2.2.2.1, rt_dk rt_m164.2.2.2.1 c.2 = true := by
  intro c hc
  have hc : c ∈ [(0, rt_i164_0), (1, rt_i164_1), (2, rt_i164_2), (3, rt_i164_3)] := hc
  simp only [List.mem_cons, List.not_mem_nil, or_false] at hc
  rcases hc with rfl | rfl | rfl | rfl
  · exact rt_d164_0
  · exact rt_d164_1
  · exact rt_d164_2
  · exact rt_d164_3
set_option maxRecDepth 100000 in
theorem rt_d165_0 : rt_dk prog_2_method_14_code rt_i165_0 = true := by decide +kernel
set_option maxRecDepth 100000 in
theorem rt_d165_1 : rt_dk prog_2_method_14_code rt_i165_1 = true := by decide +kernel
theorem rt_D165 : ∀ c ∈ rt_m165.2.2.2.2.2.2.1, rt_dk rt_m165.2.2.2.1 c.2 = true := by
  intro c hc
  have hc : c ∈ [(0, rt_i165_0), (1, rt_i165_1)] := hc
  simp only [List.mem_cons, List.not_mem_nil, or_false] at hc
  rcases hc with rfl | rfl
  · exact rt_d165_0
  · exact rt_d165_1
set_option maxRecDepth 100000 in
theorem rt_d166_0 : rt_dk prog_2_method_15_code rt_i166_0 = true := by decide +kernel
theorem rt_D166 : ∀ c ∈ rt_m166.2.2.2.2.2.2.1, rt_dk rt_m166.2.2.2.1 c.2 = true := by
  intro c hc
  have hc : c ∈ [(0, rt_i166_0)] := hc
  simp only [List.mem_cons, List.not_mem_nil, or_false] at hc
  rcases hc with rfl
  · exact rt_d166_0
set_option maxRecDepth 100000 in
theorem rt_d167_0 : rt_dk prog_2_method_16_code rt_i167_0 = true := by decide +kernel
theorem rt_D167 : ∀ c ∈ rt_m167.2.2.2.2.2.2.1, rt_dk rt_m167.2.2.2.1 c.2 = true := by
  intro c hc
  have hc : c ∈ [(0, rt_i167_0)] := hc
  simp only [List.mem_cons, List.not_mem_nil, or_false] at hc
  rcases hc with rfl
  · exact rt_d167_0
set_option maxRecDepth 100000 in
theorem rt_d168_0 : rt_dk prog_2_method_17_code rt_i168_0 = true := by decide +kernel
set_option maxRecDepth 100000 in
theorem rt_d168_1 : rt_dk prog_2_method_17_code rt_i168_1 = true := by decide +kernel
theorem rt_D168 : ∀ c ∈ rt_m168.2.2.2.2.2.2.1, rt_dk rt_m168.2.2.2.1 c.2 = true := by
  intro c hc
  have hc : c ∈ [(0, rt_i168_0), (1, rt_i168_1)] := hc
  simp only [List.mem_cons, List.not_mem_nil, or_false] at hc
  rcases hc with rfl | rfl
  · exact rt_d168_0
  · exact rt_d168_1
set_option maxRecDepth 100000 in
theorem rt_d169_0 : rt_dk prog_2_method_18_code rt_i169_0 = true := by decide +kernel
set_option maxRecDepth 100000 in
theorem rt_d169_1 : rt_dk prog_2_method_18_code rt_i169_1 = true := by decide +kernel
theorem rt_D169 : ∀ c ∈ rt_m169.2.2.2.2.2.2.1, rt_dk rt_m169.2.2.2.1 c.2 = true := by
  intro c hc
  have hc : c ∈ [(0, rt_i169_0), (1, rt_i169_1)] := hc
  simp only [List.mem_cons, List.not_mem_nil, or_false] at hc
  rcases hc with rfl | rfl
  · exact rt_d169_0
  · exact rt_d169_1
set_option maxRecDepth 100000 in
theorem rt_d170_0 : rt_dk prog_2_method_19_code rt_i170_0 = true := by decide +kernel
theorem rt_D170 : ∀ c ∈ rt_m170.2.2.2.2.2.2.1, rt_dk rt_m170.2.2.2.1 c.2 = true := by
  intro c hc
  have hc : c ∈ [(0, rt_i170_0)] := hc
  simp only [List.mem_cons, List.not_mem_nil, or_false] at hc
  rcases hc with rfl
  · exact rt_d170_0
set_option maxRecDepth 100000 in
theorem rt_d171_0 : rt_dk prog_3_method_5_code rt_i171_0 = true := by decide +kernel
set_option maxRecDepth 100000 in
theorem rt_d171_1 : rt_dk prog_3_method_5_code rt_i171_1 = true := by decide +kernel
set_option maxRecDepth 100000 in
theorem rt_d171_2 : rt_dk prog_3_method_5_code rt_i171_2 = true := by decide +kernel
theorem rt_D171 : ∀ c ∈ rt_m171.2.2.2.2.2.2.1, rt_dk rt_m171.2.2.2.1 c.2 = true := by
  intro c hc
  have hc : c ∈ [(0, rt_i171_0), (1, rt_i171_1), (2, rt_i171_2)] := hc
  simp only [List.mem_cons, List.not_mem_nil, or_false] at hc
  rcases hc with rfl | rfl | rfl
  · exact rt_d171_0
  · exact rt_d171_1
  · exact rt_d171_2
set_option maxRecDepth 100000 in
theorem rt_d172_0 : rt_dk prog_3_method_6_code rt_i172_0 = true := by decide +kernel
set_option maxRecDepth 100000 in
theorem rt_d172_1 : rt_dk prog_3_method_6_code rt_i172_1 = true := by decide +kernel
set_option maxRecDepth 100000 in
theorem rt_d172_2 : rt_dk prog_3_method_6_code rt_i172_2 = true := by decide +kernel
set_option maxRecDepth 100000 in
theorem rt_d172_3 : rt_dk prog_3_method_6_code rt_i172_3 = true := by decide +kernel
theorem rt_D172 : ∀ c ∈ rt_m172.2.2.2.2.2.2.1, rt_dk rt_m172.2.2.2.1 c.2 = true := by
  intro c hc
  have hc : c ∈ [(0, rt_i172_0), (1, rt_i172_1), (2, rt_i172_2), (3, rt_i172_3)] := hc
  simp only [List.mem_cons, List.not_mem_nil, or_false] at hc
  rcases hc with rfl | rfl | rfl | rfl
  · exact rt_d172_0
  · exact rt_d172_1
  · exact rt_d172_2
  · exact rt_d172_3
set_option maxRecDepth 100000 in
theorem rt_d173_0 : rt_dk prog_3_method_7_code rt_i173_0 = true := by decide +kernel
set_option maxRecDepth 100000 in
theorem rt_d173_1 : rt_dk prog_3_method_7_code rt_i173_1 = true := by decide +kernel
theorem rt_D173 : ∀ c ∈ rt_m173.2.2.2.2.2.2.1, rt_dk rt_m173.2.2.2.1 c.2 = true := by
  intro c hc
  have hc : c ∈ [(0, rt_i173_0), (1, rt_i173_1)] := hc
  simp only [List.mem_cons, List.not_mem_nil, or_false] at hc
  rcases hc with rfl | rfl
  · exact rt_d173_0
  · exact rt_d173_1
set_option maxRecDepth 100000 in
theorem rt_d174_0 : rt_dk prog_3_method_8_code rt_i174_0 = true := by decide +kernel
set_option maxRecDepth 100000 in
theorem rt_d174_1 : rt_dk prog_3_method_8_code rt_i174_1 = true := by decide +kernel
set_option maxRecDepth 100000 in
theorem rt_d174_2 : rt_dk prog_3_method_8_code rt_i174_2 = true := by decide +kernel
set_option maxRecDepth 100000 in
theorem rt_d174_3 : rt_dk prog_3_method_8_code rt_i174_3 = true := by decide +kernel
theorem rt_D174 : ∀ c ∈ rt_m174.2.2.2.2.2.2.1, rt_dk rt_m174.2.2.2.1 c.2 = true := by
  intro c hc
  have hc : c ∈ [(0, rt_i174_0), (1, rt_i174_1), (2, rt_i174_2), (3, rt_i174_3)] := hc
  simp only [List.mem_cons, List.not_mem_nil, or_false] at hc
  rcases hc with rfl | rfl | rfl | rfl
  · exact rt_d174_0
  · exact rt_d174_1
  · exact rt_d174_2
  · exact rt_d174_3
set_option maxRecDepth 100000 in
theorem rt_d175_0 : rt_dk prog_3_method_9_code rt_i175_0 = true := by decide +kernel
set_option maxRecDepth 100000 in
theorem rt_d175_1 : rt_dk prog_3_method_9_code rt_i175_1 = true := by decide +kernel
set_option maxRecDepth 100000 in
theorem rt_d175_2 : rt_dk prog_3_method_9_code rt_i175_2 = true := by decide +kernel
set_option maxRecDepth 100000 in
theorem rt_d175_3 : rt_dk prog_3_method_9_code rt_i175_3 = true := by decide +kernel
set_option maxRecDepth 100000 in
theorem rt_d175_4 : rt_dk prog_3_method_9_code rt_i175_4 = true := by decide +kernel
theorem rt_D175 : ∀ c ∈ rt_m175.2.2.2.2.2.2.1, rt_dk rt_m175.2.2.2.1 c.2 = true := by
  intro c hc
  have hc : c ∈ [(0, rt_i175_0), (1, rt_i175_1), (2, rt_i175_2), (3, rt_i175_3), (4, rt_i175_4)] := hc
  simp only [List.mem_cons, List.not_mem_nil, or_false] at hc
  rcases hc with rfl | rfl | rfl | rfl | rfl
  · exact rt_d175_0
  · exact rt_d175_1
  · exact rt_d175_2
  · exact rt_d175_3
  · exact rt_d175_4
set_option maxRecDepth 100000 in
theorem rt_d176_0 : rt_dk prog_4_method_2_code rt_i176_0 = true := by decide +kernel
set_option maxRecDepth 100000 in
theorem rt_d176_1 : rt_dk prog_4_method_2_code rt_i176_1 = true := by decide +kernel
theorem rt_D176 : ∀ c ∈ rt_m176.2.2.2.2.2.2.1, rt_dk rt_m176.2.2.2.1 c.2 = true := by
  intro c hc
  have hc : c ∈ [(0, rt_i176_0), (1, rt_i176_1)] := hc
  simp only [List.mem_cons, List.not_mem_nil, or_false] at hc
  rcases hc with rfl | rfl
  · exact rt_d176_0
  · exact rt_d176_1
set_option maxRecDepth 100000 in
theorem rt_d177_0 : rt_dk prog_4_method_3_code rt_i177_0 = true := by decide +kernel
set_option maxRecDepth 100000 in
theorem rt_d177_1 : rt_dk prog_4_method_3_code rt_i177_1 = true := by decide +kernel
theorem rt_D177 : ∀ c ∈ rt_m177.2.2.2.2.2.2.1, rt_dk rt_m177.2.2.2.1 c.2 = true := by
  intro c hc
  have hc : c ∈ [(0, rt_i177_0), (1, rt_i177_1)] := hc
  simp only [List.mem_cons, List.not_mem_nil, or_false] at hc
  rcases hc with rfl | rfl
  · exact rt_d177_0
  · exact rt_d177_1
set_option maxRecDepth 100000 in
theorem rt_d178_0 : rt_dk prog_4_method_4_code rt_i178_0 = true := by decide +kernel
set_option maxRecDepth 100000 in
theorem rt_d178_1 : rt_dk prog_4_method_4_code rt_i178_1 = true := by decide +kernel
set_option maxRecDepth 100000 in
theorem rt_d178_2 : rt_dk prog_4_method_4_code rt_i178_2 = true := by decide +kernel
set_option maxRecDepth 100000 in
theorem rt_d178_3 : rt_dk prog_4_method_4_code rt_i178_3 = true := by decide +kernel
set_option maxRecDepth 100000 in
theorem rt_d178_4 : rt_dk prog_4_method_4_code rt_i178_4 = true := by decide +kernel
set_option maxRecDepth 100000 in
theorem rt_d178_5 : rt_dk prog_4_method_4_code rt_i178_5 = true := by decide +kernel
theorem rt_D178 : ∀ c ∈ rt_m178.2.2.2.2.2.2.1, rt_dk rt_m178.2.2.2.1 c.2 = true := by
  intro c hc
  have hc : c ∈ [(0, rt_i178_0), (1, rt_i178_1), (2, rt_i178_2), (3, rt_i178_3), (4, rt_i178_4), (5, rt_i178_5)] := hc
  simp only [List.mem_cons, List.not_mem_nil, or_false] at hc
  rcases hc with rfl | rfl | rfl | rfl | rfl | rfl
  · exact rt_d178_0
  · exact rt_d178_1
  · exact rt_d178_2
  · exact rt_d178_3
  · exact rt_d178_4
  · exact rt_d178_5
set_option maxRecDepth 100000 in
theorem rt_d179_0 : rt_dk prog_4_method_5_code rt_i179_0 = true := by decide +kernel
set_option maxRecDepth 100000 in
theorem rt_d179_1 : rt_dk prog_4_method_5_code rt_i179_1 = true := by decide +kernel
set_option maxRecDepth 100000 in
theorem rt_d179_2 : rt_dk prog_4_method_5_code rt_i179_2 = true := by decide +kernel
theorem rt_D179 : ∀ c ∈ rt_m179.2.2.2.2.2.2.1, rt_dk rt_m179.2.2.2.1 c.2 = true := by
  intro c hc
  have hc : c ∈ [(0, rt_i179_0), (1, rt_i179_1), (2, rt_i179_2)] := hc
  simp only [List.mem_cons, List.not_mem_nil, or_false] at hc
  rcases hc with rfl | rfl | rfl
  · exact rt_d179_0
  · exact rt_d179_1
  · exact rt_d179_2
set_option maxRecDepth 100000 in
theorem rt_d180_0 : rt_dk prog_4_method_6_code rt_i180_0 = true := by decide +kernel
set_option maxRecDepth 100000 in
theorem rt_d180_1 : rt_dk prog_4_method_6_code rt_i180_1 = true := by decide +kernel
set_option maxRecDepth 100000 in
theorem rt_d180_2 : rt_dk prog_4_method_6_code rt_i180_2 = true := by decide +kernel
set_option maxRecDepth 100000 in
theorem rt_d180_3 : rt_dk prog_4_method_6_code rt_i180_3 = true := by decide +kernel
set_option maxRecDepth 100000 in
theorem rt_d180_4 : rt_dk prog_4_method_6_code rt_i180_4 = true := by decide +kernel
theorem rt_D180 : ∀ c ∈ rt_m180.2.2.2.2.2.2.1, rt_dk rt_m180.2.2.2.1 c.2 = true := by
  intro c hc
  have hc : c ∈ [(0, rt_i180_0), (1, rt_i180_1), (2, rt_i180_2), (3, rt_i180_3), (4, rt_i180_4)] := hc
  simp only [List.mem_cons, List.not_mem_nil, or_false] at hc
  rcases hc with rfl | rfl | rfl | rfl | rfl
  · exact rt_d180_0
  · exact rt_d180_1
  · exact rt_d180_2
  · exact rt_d180_3
  · exact rt_d180_4
set_option maxRecDepth 100000 in
theorem rt_d181_0 : rt_dk prog_4_method_7_code rt_i181_0 = true := by decide +kernel
set_option maxRecDepth 100000 in
theorem rt_d181_1 : rt_dk prog_4_method_7_code rt_i181_1 = true := by decide +kernel
set_option maxRecDepth 100000 in
theorem rt_d181_2 : rt_dk prog_4_method_7_code rt_i181_2 = true := by decide +kernel
set_option maxRecDepth 100000 in
theorem rt_d181_3 : rt_dk prog_4_method_7_code rt_i181_3 = true := by decide +kernel
theorem rt_D181 : ∀ c ∈ rt_m181.2.2.2.2.2.2.1, rt_dk rt_m181.2.2.2.1 c.2 = true := by
  intro c hc
  have hc : c ∈ [(0, rt_i181_0), (1, rt_i181_1), (2, rt_i181_2), (3, rt_i181_3)] := hc
  simp only [List.mem_cons, List.not_mem_nil, or_false] at hc
  rcases hc with rfl | rfl | rfl | rfl
  · exact rt_d181_0
  · exact rt_d181_1
  · exact rt_d181_2
  · exact rt_d181_3
set_option maxRecDepth 100000 in
theorem rt_d182_0 : rt_dk prog_4_method_8_code rt_i182_0 = true := by decide +kernel
set_option maxRecDepth 100000 in
theorem rt_d182_1 : rt_dk prog_4_method_8_code rt_i182_1 = true := by decide +kernel
theorem rt_D182 : ∀ c ∈ rt_m182.2.2.2.2.2.2.1, rt_dk rt_m182.2.2.2.1 c.2 = true := by
  intro c hc
  have hc : c ∈ [(0, rt_i182_0), (1, rt_i182_1)] := hc
  simp only [List.mem_cons, List.not_mem_nil, or_false] at hc
  rcases hc with rfl | rfl
  · exact rt_d182_0
  · exact rt_d182_1
set_option maxRecDepth 100000 in
theorem rt_d183_0 : rt_dk prog_4_method_9_code rt_i183_0 = true := by decide +kernel
set_option maxRecDepth 100000 in
theorem rt_d183_1 : rt_dk prog_4_method_9_code rt_i183_1 = true := by decide +kernel
theorem rt_D183 : ∀ c ∈ rt_m183.2.2.2.2.2.2.1, rt_dk rt_m183.2.2.2.1 c.2 = true := by
  intro c hc
  have hc : c ∈ [(0, rt_i183_0), (1, rt_i183_1)] := hc
  simp only [List.mem_cons, List.not_mem_nil, or_false] at hc
  rcases hc with rfl | rfl
  · exact rt_d183_0
  · exact rt_d183_1
set_option maxRecDepth 100000 in
theorem rt_d184_0 : rt_dk prog_4_method_10_code rt_i184_0 = true := by decide +kernel
set_option maxRecDepth 100000 in
theorem rt_d184_1 : rt_dk prog_4_method_10_code rt_i184_1 = true := by decide +kernel
set_option maxRecDepth 100000 in
theorem rt_d184_2 : rt_dk prog_4_method_10_code rt_i184_2 = true := by decide +kernel
set_option maxRecDepth 100000 in
theorem rt_d184_3 : rt_dk prog_4_method_10_code rt_i184_3 = true := by decide +kernel
theorem rt_D184 : ∀ c ∈ rt_m184.2.2.2.2.2.2.1, rt_dk rt_m184.2.2.2.1 c.2 = true := by
  intro c hc
  have hc : c ∈ [(0, rt_i184_0), (1, rt_i184_1), (2, rt_i184_2), (3, rt_i184_3)] := hc
  simp only [List.mem_cons, List.not_mem_nil, or_false] at hc
  rcases hc with rfl | rfl | rfl | rfl
  · exact rt_d184_0
  · exact rt_d184_1
  · exact rt_d184_2
  · exact rt_d184_3
set_option maxRecDepth 100000 in
theorem rt_d185_0 : rt_dk prog_4_method_11_code rt_i185_0 = true := by decide +kernel
set_option maxRecDepth 100000 in
theorem rt_d185_1 : rt_dk prog_4_method_11_code rt_i185_1 = true := by decide +kernel
set_option maxRecDepth 100000 in
theorem rt_d185_2 : rt_dk prog_4_method_11_code rt_i185_2 = true := by decide +kernel
set_option maxRecDepth 100000 in
theorem rt_d185_3 : rt_dk prog_4_method_11_code rt_i185_3 = true := by decide +kernel
theorem rt_D185 : ∀ c ∈ rt_m185.2.2.2.2.2.2.1, rt_dk rt_m185.2.2.2.1 c.2 = true := by
  intro c hc
  have hc : c ∈ [(0, rt_i185_0), (1, rt_i185_1), (2, rt_i185_2), (3, rt_i185_3)] := hc
  simp only [List.mem_cons, List.not_mem_nil, or_false] at hc
  rcases hc with rfl | rfl | rfl | rfl
  · exact rt_d185_0
  · exact rt_d185_1
  · exact rt_d185_2
  · exact rt_d185_3
set_option maxRecDepth 100000 in
theorem rt_d186_0 : rt_dk prog_4_method_12_code rt_i186_0 = true := by decide +kernel
set_option maxRecDepth 100000 in
theorem rt_d186_1 : rt_dk prog_4_method_12_code rt_i186_1 = true := by decide +kernel
set_option maxRecDepth 100000 in
theorem rt_d186_2 : rt_dk prog_4_method_12_code rt_i186_2 = true := by decide +kernel
theorem rt_D186 : ∀ c ∈ rt_m186.2.2.2.2.2.2.1, rt_dk rt_m186.2.2.2.1 c.2 = true := by
  intro c hc
  have hc : c ∈ [(0, rt_i186_0), (1, rt_i186_1), (2, rt_i186_2)] := hc
  simp only [List.mem_cons, List.not_mem_nil, or_false] at hc
  rcases hc with rfl | rfl | rfl
  · exact rt_d186_0
  · exact rt_d186_1
  · exact rt_d186_2
set_option maxRecDepth 100000 in
theorem rt_d187_0 : rt_dk prog_4_method_13_code rt_i187_0 = true := by decide +kernel
set_option maxRecDepth 100000 in
theorem rt_d187_1 : rt_dk prog_4_method_13_code rt_i187_1 = true := by decide +kernel
set_option maxRecDepth 100000 in
theorem rt_d187_2 : rt_dk prog_4_method_13_code rt_i187_2 = true := by decide +kernel
set_option maxRecDepth 100000 in
theorem rt_d187_3 : rt_dk prog_4_method_13_code rt_i187_3 = true := by decide +kernel
theorem rt_D187 : ∀ c ∈ rt_m187.2.2.2.2.2.2.1, rt_dk rt_m187.2.2.2.1 c.2 = true := by
  intro c hc
  have hc : c ∈ [(0, rt_i187_0), (1, rt_i187_1), (2, rt_i187_2), (3, rt_i187_3)] := hc
  simp only [List.mem_cons, List.not_mem_nil, or_false] at hc
  rcases hc with rfl | rfl | rfl | rfl
  · exact rt_d187_0
  · exact rt_d187_1
  · exact rt_d187_2
  · exact rt_d187_3
set_option maxRecDepth 100000 in
theorem rt_d188_0 : rt_dk prog_4_method_14_code rt_i188_0 = true := by decide +kernel
set_option maxRecDepth 100000 in
theorem rt_d188_1 : rt_dk prog_4_method_14_code rt_i188_1 = true := by decide +kernel
set_option maxRecDepth 100000 in
theorem rt_d188_2 : rt_dk prog_4_method_14_code rt_i188_2 = true := by decide +kernel
theorem rt_D188 : ∀ c ∈ rt_m188.2.2.2.2.2.2.1, rt_dk rt_m188.2.2.2.1 c.2 = true := by
  intro c hc
  have hc : c ∈ [(0, rt_i188_0), (1, rt_i188_1), (2, rt_i188_2)] := hc
  simp only [List.mem_cons, List.not_mem_nil, or_false] at hc
  rcases hc with rfl | rfl | rfl
  · exact rt_d188_0
  · exact rt_d188_1
  · exact rt_d188_2
set_option maxRecDepth 100000 in
theorem rt_d189_0 : rt_dk prog_4_method_15_code rt_i189_0 = true := by decide +kernel
set_option maxRecDepth 100000 in
theorem rt_d189_1 : rt_dk prog_4_method_15_code rt_i189_1 = true := by decide +kernel
theorem rt_D189 : ∀ c ∈ rt_m189.2.2.2.2.2.2.1, rt_dk rt_m189.2.2.2.1 c.2 = true := by
  intro c hc
  have hc : c ∈ [(0, rt_i189_0), (1, rt_i189_1)] := hc
  simp only [List.mem_cons, List.not_mem_nil, or_false] at hc
  rcases hc with rfl | rfl
  · exact rt_d189_0
  · exact rt_d189_1
set_option maxRecDepth 100000 in
theorem rt_d190_0 : rt_dk prog_4_method_16_code rt_i190_0 = true := by decide +kernel
theorem rt_D190 : ∀ c ∈ rt_m190.2.2.2.2.2.2.1, rt_dk rt_m190.2.2.2.1 c.2 = true := by
  intro c hc
  have hc : c ∈ [(0, rt_i190_0)] := hc
  simp only [List.mem_cons, List.not_mem_nil, or_false] at hc
  rcases hc with rfl
  · exact rt_d190_0
set_option maxRecDepth 100000 in
theorem rt_d191_0 : rt_dk prog_4_method_17_code rt_i191_0 = true := by decide +kernel
set_option maxRecDepth 100000 in
theorem rt_d191_1 : rt_dk prog_4_method_17_code rt_i191_1 = true := by decide +kernel
set_option maxRecDepth 100000 in
theorem rt_d191_2 : rt_dk prog_4_method_17_code rt_i191_2 = true := by decide +kernel
theorem rt_D191 : ∀ c ∈ rt_m191.2.2.2.2.2.2.1, rt_dk rt_m191.2.2.2.1 c.2 = true := by
  intro c hc
  have hc : c ∈ [(0, rt_i191_0), (1, rt_i191_1), (2, rt_i191_2)] := hc
  simp only [List.mem_cons, List.not_mem_nil, or_false] at hc
  rcases hc with rfl | rfl | rfl
  · exact rt_d191_0
  · exact rt_d191_1
  · exact rt_d191_2
set_option maxRecDepth 100000 in
theorem rt_d192_0 : rt_dk prog_4_method_18_code rt_i192_0 = true := by decide +kernel
set_option maxRecDepth 100000 in
theorem rt_d192_1 : rt_dk prog_4_method_18_code rt_i192_1 = true := by decide +kernel
theorem rt_D192 : ∀ c ∈ rt_m192.2.2.2.2.2.2.1, rt_dk rt_m192.2.2.2.1 c.2 = true := by
  intro c hc
  have hc : c ∈ [(0, rt_i192_0), (1, rt_i192_1)] := hc
  simp only [List.mem_cons, List.not_mem_nil, or_false] at hc
  rcases hc with rfl | rfl
  · exact rt_d192_0
  · exact rt_d192_1
set_option maxRecDepth 100000 in
theorem rt_d193_0 : rt_dk prog_4_method_19_code rt_i193_0 = true := by decide +kernel
theorem rt_D193 : ∀ c ∈ rt_m193.2.2.2.2.2.2.1, rt_dk rt_m193.2.2.2.1 c.2 = true := by
  intro c hc
  have hc : c ∈ [(0, rt_i193_0)] := hc
  simp only [List.mem_cons, List.not_mem_nil, or_false] at hc
  rcases hc with rfl
  · exact rt_d193_0
set_option maxRecDepth 100000 in
theorem rt_d194_0 : rt_dk prog_4_method_20_code rt_i194_0 = true := by decide +kernel
set_option maxRecDepth 100000 in
theorem rt_d194_1 : rt_dk prog_4_method_20_code rt_i194_1 = true := by decide +kernel
set_option maxRecDepth 100000 in
theorem rt_d194_2 : rt_dk prog_4_method_20_code rt_i194_2 = true := by decide +kernel
set_option maxRecDepth 100000 in
theorem rt_d194_3 : rt_dk prog_4_method_20_code rt_i194_3 = true := by decide +kernel
set_option maxRecDepth 100000 in
theorem rt_d194_4 : rt_dk prog_4_method_20_code rt_i194_4 = true := by decide +kernel
theorem rt_D194 : ∀ c ∈ rt_m194.2.2.2.2.2.2.1, rt_dk rt_m194.2.2.2.1 c.2 = true := by
  intro c hc
  have hc : c ∈ [(0, rt_i194_0), (1, rt_i194_1), (2, rt_i194_2), (3, rt_i194_3), (4, rt_i194_4)] := hc
  simp only [List.mem_cons, List.not_mem_nil, or_false] at hc
  rcases hc with rfl | rfl | rfl | rfl | rfl
  · exact rt_d194_0
  · exact rt_d194_1
  · exact rt_d194_2
  · exact rt_d194_3
  · exact rt_d194_4
set_option maxRecDepth 100000 in
theorem rt_d195_0 : rt_dk prog_4_method_21_code rt_i195_0 = true := by decide +kernel
set_option maxRecDepth 100000 in
theorem rt_d195_1 : rt_dk prog_4_method_21_code rt_i195_1 = true := by decide +kernel
set_option maxRecDepth 100000 in
theorem rt_d195_2 : rt_dk prog_4_method_21_code rt_i195_2 = true := by decide +kernel
set_option maxRecDepth 100000 in
theorem rt_d195_3 : rt_dk prog_4_method_21_code rt_i195_3 = true := by decide +kernel
theorem rt_D195 : ∀ c ∈ rt_m195.2.2.2.2.2.2.1, rt_dk rt_m195.2.2.2.1 c.2 = true := by
  intro c hc
  have hc : c ∈ [(0, rt_i195_0), (1, rt_i195_1), (2, rt_i195_2), (3, rt_i195_3)] := hc
  simp only [List.mem_cons, List.not_mem_nil, or_false] at hc
  rcases hc with rfl | rfl | rfl | rfl
  · exact rt_d195_0
  · exact rt_d195_1
  · exact rt_d195_2
  · exact rt_d195_3
set_option maxRecDepth 100000 in
theorem rt_d196_0 : rt_dk prog_5_method_3_code rt_i196_0 = true := by decide +kernel
set_option maxRecDepth 100000 in
theorem rt_d196_1 : rt_dk prog_5_method_3_code rt_i196_1 = true := by decide +kernel
theorem rt_D196 : ∀ c ∈ rt_m196.2.2.2.2.2.2.1, rt_dk rt_m196.2.2.2.1 c.2 = true := by
  intro c hc
  have hc : c ∈ [(0, rt_i196_0), (1, rt_i196_1)] := hc
  simp only [List.mem_cons, List.not_mem_nil, or_false] at hc
  rcases hc with rfl | rfl
  · exact rt_d196_0
  · exact rt_d196_1
set_option maxRecDepth 100000 in
theorem rt_d197_0 : rt_dk prog_5_method_4_code rt_i197_0 = true := by decide +kernel
set_option maxRecDepth 100000 in
theorem rt_d197_1 : rt_dk prog_5_method_4_code rt_i197_1 = true := by decide +kernel
set_option maxRecDepth 100000 in
theorem rt_d197_2 : rt_dk prog_5_method_4_code rt_i197_2 = true := by decide +kernel
theorem rt_D197 : ∀ c ∈ rt_m197.2.2.2.2.2.2.1, rt_dk rt_m197.2.2.2.1 c.2 = true := by
  intro c hc
  have hc : c ∈ [(0, rt_i197_0), (1, rt_i197_1), (2, rt_i197_2)] := hc
  simp only [List.mem_cons, List.not_mem_nil, or_false] at hc
  rcases hc with rfl | rfl | rfl
  · exact rt_d197_0
  · exact rt_d197_1
  · exact rt_d197_2
set_option maxRecDepth 100000 in
theorem rt_d198_0 : rt_dk prog_5_method_5_code rt_i198_0 = true := by decide +kernel
set_option maxRecDepth 100000 in
theorem rt_d198_1 : rt_dk prog_5_method_5_code rt_i198_1 = true := by decide +kernel
set_option maxRecDepth 100000 in
theorem rt_d198_2 : rt_dk prog_5_method_5_code rt_i198_2 = true := by decide +kernel
theorem rt_D198 : ∀ c ∈ rt_m198.2.2.2.2.2.2.1, rt_dk rt_m198.2.2.2.1 c.2 = true := by
  intro c hc
  have hc : c ∈ [(0, rt_i198_0), (1, rt_i198_1), (2, rt_i198_2)] := hc
  simp only [List.mem_cons, List.not_mem_nil, or_false] at hc
  rcases hc with rfl | rfl | rfl
  · exact rt_d198_0
  · exact rt_d198_1
  · exact rt_d198_2
set_option maxRecDepth 100000 in
theorem rt_d199_0 : rt_dk prog_5_method_6_code rt_i199_0 = true := by decide +kernel
set_option maxRecDepth 100000 in
theorem rt_d199_1 : rt_dk prog_5_method_6_code rt_i199_1 = true := by decide +kernel
set_option maxRecDepth 100000 in
theorem rt_d199_2 : rt_dk prog_5_method_6_code rt_i199_2 = true := by decide +kernel
theorem rt_D199 : ∀ c ∈ rt_m199.2.2.2.2.2.2.1, rt_dk rt_m199.2.2.2.1 c.2 = true := by
  intro c hc
  have hc : c ∈ [(0, rt_i199_0), (1, rt_i199_1), (2, rt_i199_2)] := hc
  simp only [List.mem_cons, List.not_mem_nil, or_false] at hc
  rcases hc with rfl | rfl | rfl
  · exact rt_d199_0
  · exact rt_d199_1
  · exact rt_d199_2
set_option maxRecDepth 100000 in
theorem rt_d200_0 : rt_dk prog_5_method_7_code rt_i200_0 = true := by decide +kernel
set_option maxRecDepth 100000 in
theorem rt_d200_1 : rt_dk prog_5_method_7_code rt_i200_1 = true := by decide +kernel
theorem rt_D200 : ∀ c ∈ rt_m200.2.2.2.2.2.2.1, rt_dk rt_m200.2.2.2.1 c.2 = true := by
  intro c hc
  have hc : c ∈ [(0, rt_i200_0), (1, rt_i200_1)] := hc
  simp only [List.mem_cons, List.not_mem_nil, or_false] at hc
  rcases hc with rfl | rfl
  · exact rt_d200_0
  · exact rt_d200_1
set_option maxRecDepth 100000 in
theorem rt_d201_0 : rt_dk prog_5_method_8_code rt_i201_0 = true := by decide +kernel
set_option maxRecDepth 100000 in
theorem rt_d201_1 : rt_dk prog_5_method_8_code rt_i201_1 = true := by decide +kernel
set_option maxRecDepth 100000 in
theorem rt_d201_2 : rt_dk prog_5_method_8_code rt_i201_2 = true := by decide +kernel
theorem rt_D201 : ∀ c ∈ rt_m201.2.2.2.2.2.2.1, rt_dk rt_m201.2.2.2.1 c.2 = true := by
  intro c hc
  have hc : c ∈ [(0, rt_i201_0), (1, rt_i201_1), (2, rt_i201_2)] := hc
  simp only [List.mem_cons, List.not_mem_nil, or_false] at hc
  rcases hc with rfl | rfl | rfl
  · exact rt_d201_0
  · exact rt_d201_1
  · exact rt_d201_2
set_option maxRecDepth 100000 in
theorem rt_d202_0 : rt_dk prog_5_method_9_code rt_i202_0 = true := by decide +kernel
set_option maxRecDepth 100000 in
theorem rt_d202_3 : rt_dk prog_5_method_9_code rt_i202_3 = true := by decide +kernel
set_option maxRecDepth 100000 in
theorem rt_d202_4 : rt_dk prog_5_method_9_code rt_i202_4 = true := by decide +kernel
set_option maxRecDepth 100000 in
theorem rt_d202_5 : rt_dk prog_5_method_9_code rt_i202_5 = true := by decide +kernel
set_option maxRecDepth 100000 in
theorem rt_d202_6 : rt_dk prog_5_method_9_code rt_i202_6 = true := by decide +kernel
set_option maxRecDepth 100000 in
theorem rt_d202_7 : rt_dk prog_5_method_9_code rt_i202_7 = true := by decide +kernel
set_option maxRecDepth 100000 in
theorem rt_d202_8 : rt_dk prog_5_method_9_code rt_i202_8 = true := by decide +kernel
set_option maxRecDepth 100000 in
theorem rt_d202_9 : rt_dk prog_5_method_9_code rt_i202_9 = true := by decide +kernel
set_option maxRecDepth 100000 in
theorem rt_d202_10 : rt_dk prog_5_method_9_code rt_i202_10 = true := by decide +kernel
theorem rt_D202 : ∀ c ∈ rt_m202.2.2.2.2.2.2.1, rt_dk rt_m202.2.2.2.1 c.2 = true := by
  intro c hc
  have hc : c ∈ [(0, rt_i202_0), (3, rt_i202_3), (4, rt_i202_4), (5, rt_i202_5), (6, rt_i202_6), (7, rt_i202_7), (8, rt_i202_8), (9, rt_i202_9), (10, rt_i202_10)] := hc
  simp only [List.mem_cons, List.not_mem_nil, or_false] at hc
  rcases hc with rfl | rfl | rfl | rfl | rfl | rfl | rfl | rfl | rfl
  · exact rt_d202_0
  · exact rt_d202_3
  · exact rt_d202_4
  · exact rt_d202_5
  · exact rt_d202_6
  · exact rt_d202_7
  · exact rt_d202_8
  · exact rt_d202_9
  · exact rt_d202_10
set_option maxRecDepth 100000 in
theorem rt_d203_0 : rt_dk prog_5_method_10_code rt_i203_0 = true := by decide +kernel
set_option maxRecDepth 100000 in
theorem rt_d203_1 : rt_dk prog_5_method_10_code rt_i203_1 = true := by decide +kernel
set_option maxRecDepth 100000 in
theorem rt_d203_2 : rt_dk prog_5_method_10_code rt_i203_2 = true := by decide +kernel
theorem rt_D203 : ∀ c ∈ rt_m203.2.2.2.2.2.2.1, rt_dk rt_m203.2.2.2.1 c.2 = true := by
  intro c hc
  have hc : c ∈ [(0, rt_i203_0), (1, rt_i203_1), (2, rt_i203_2)] := hc
  simp only [List.mem_cons, List.not_mem_nil, or_false] at hc
  rcases hc with rfl | rfl | rfl
  · exact rt_d203_0
  · exact rt_d203_1
  · exact rt_d203_2
set_option maxRecDepth 100000 in
theorem rt_d204_0 : rt_dk prog_5_method_11_code rt_i204_0 = true := by decide +kernel
set_option maxRecDepth 100000 in
theorem rt_d204_1 : rt_dk prog_5_method_11_code rt_i204_1 = true := by decide +kernel
set_option maxRecDepth 100000 in
theorem rt_d204_2 : rt_dk prog_5_method_11_code rt_i204_2 = true := by decide +kernel
theorem rt_D204 : ∀ c ∈ rt_m204.2.2.2.2.2.2.1, rt_dk rt_m204.2.2.2.1 c.2 = true := by
  intro c hc
  have hc : c ∈ [(0, rt_i204_0), (1, rt_i204_1), (2, rt_i204_2)] := hc
  simp only [List.mem_cons, List.not_mem_nil, or_false] at hc
  rcases hc with rfl | rfl | rfl
  · exact rt_d204_0
  · exact rt_d204_1
  · exact rt_d204_2
set_option maxRecDepth 100000 in
theorem rt_d205_0 : rt_dk prog_5_method_12_code rt_i205_0 = true := by decide +kernel
set_option maxRecDepth 100000 in
theorem rt_d205_1 : rt_dk prog_5_method_12_code rt_i205_1 = true := by decide +kernel
set_option maxRecDepth 100000 in
theorem rt_d205_2 : rt_dk prog_5_method_12_code rt_i205_2 = true := by decide +kernel
set_option maxRecDepth 100000 in
theorem rt_d205_3 : rt_dk prog_5_method_12_code rt_i205_3 = true := by decide +kernel
theorem rt_D205 : ∀ c ∈ rt_m205.2.2.2.2.2.2.1, rt_dk rt_m205.2.2.2.1 c.2 = true := by
  intro c hc
  have hc : c ∈ [(0, rt_i205_0), (1, rt_i205_1), (2, rt_i205_2), (3, rt_i205_3)] := hc
  simp only [List.mem_cons, List.not_mem_nil, or_false] at hc
  rcases hc with rfl | rfl | rfl | rfl
  · exact rt_d205_0
  · exact rt_d205_1
  · exact rt_d205_2
  · exact rt_d205_3
set_option maxRecDepth 100000 in
theorem rt_d206_0 : rt_dk prog_5_method_13_code rt_i206_0 = true := by decide +kernel
set_option maxRecDepth 100000 in
theorem rt_d206_1 : rt_dk prog_5_method_13_code rt_i206_1 = true := by decide +kernel
theorem rt_D206 : ∀ c ∈ rt_m206.2.2.2.2.2.2.1, rt_dk rt_m206.2.2.2.1 c.2 = true := by
  intro c hc
  have hc : c ∈ [(0, rt_i206_0), (1, rt_i206_1)] := hc
  simp only [List.mem_cons, List.not_mem_nil, or_false] at hc
  rcases hc with rfl | rfl
  · exact rt_d206_0
  · exact rt_d206_1
set_option maxRecDepth 100000 in
theorem rt_d207_0 : rt_dk prog_5_method_15_code rt_i207_0 = true := by decide +kernel
set_option maxRecDepth 100000 in
theorem rt_d207_1 : rt_dk prog_5_method_15_code rt_i207_1 = true := by decide +kernel
set_option maxRecDepth 100000 in
theorem rt_d207_2 : rt_dk prog_5_method_15_code rt_i207_2 = true := by decide +kernel
set_option maxRecDepth 100000 in
theorem rt_d207_3 : rt_dk prog_5_method_15_code rt_i207_3 = true := by decide +kernel
set_option maxRecDepth 100000 in
theorem rt_d207_4 : rt_dk prog_5_method_15_code rt_i207_4 = true := by decide +kernel
theorem rt_D207 : ∀ c ∈ rt_m207.2.2.2.2.2.2.1, rt_dk rt_m207.2.2.2.1 c.2 = true := by
  intro c hc
  have hc : c ∈ [(0, rt_i207_0), (1, rt_i207_1), (2, rt_i207_2), (3, rt_i207_3), (4, rt_i207_4)] := hc
  simp only [List.mem_cons, List.not_mem_nil, or_false] at hc
  rcases hc with rfl | rfl | rfl | rfl | rfl
  · exact rt_d207_0
  · exact rt_d207_1
  · exact rt_d207_2
  · exact rt_d207_3
  · exact rt_d207_4
set_option maxRecDepth 100000 in
theorem rt_d208_0 : rt_dk prog_5_method_16_code rt_i208_0 = true := by decide +kernel
set_option maxRecDepth 100000 in
theorem rt_d208_1 : rt_dk prog_5_method_16_code rt_i208_1 = true := by decide +kernel
set_option maxRecDepth 100000 in
theorem rt_d208_2 : rt_dk prog_5_method_16_code rt_i208_2 = true := by decide +kernel
set_option maxRecDepth 100000 in
theorem rt_d208_3 : rt_dk prog_5_method_16_code rt_i208_3 = true := by decide +kernel
theorem rt_D208 : ∀ c ∈ rt_m208.2.2.2.2.2.2.1, rt_dk rt_m208.2.2.2.1 c.2 = true := by
  intro c hc
  have hc : c ∈ [(0, rt_i208_0), (1, rt_i208_1), (2, rt_i208_2), (3, rt_i208_3)] := hc
  simp only [List.mem_cons, List.not_mem_nil, or_false] at hc
  rcases hc with rfl | rfl | rfl | rfl
  · exact rt_d208_0
  · exact rt_d208_1
  · exact rt_d208_2
  · exact rt_d208_3
set_option maxRecDepth 100000 in
theorem rt_d209_0 : rt_dk prog_5_method_17_code rt_i209_0 = true := by decide +kernel
set_option maxRecDepth 100000 in
theorem rt_d209_1 : rt_dk prog_5_method_17_code rt_i209_1 = true := by decide +kernel
set_option maxRecDepth 100000 in
theorem rt_d209_2 : rt_dk prog_5_method_17_code rt_i209_2 = true := by decide +kernel
theorem rt_D209 : ∀ c ∈ rt_m209.2.2.2.2.2.2.1, rt_dk rt_m209.2.2.2.1 c.2 = true := by
  intro c hc
  have hc : c ∈ [(0, rt_i209_0), (1, rt_i209_1), (2, rt_i209_2)] := hc
  simp only [List.mem_cons, List.not_mem_nil, or_false] at hc
  rcases hc with rfl | rfl | rfl
  · exact rt_d209_0
  · exact rt_d209_1
  · exact rt_d209_2
set_option maxRecDepth 100000 in
theorem rt_d210_0 : rt_dk prog_5_method_18_code rt_i210_0 = true := by decide +kernel
set_option maxRecDepth 100000 in
theorem rt_d210_1 : rt_dk prog_5_method_18_code rt_i210_1 = true := by decide +kernel
set_option maxRecDepth 100000 in
theorem rt_d210_2 : rt_dk prog_5_method_18_code rt_i210_2 = true := by decide +kernel
set_option maxRecDepth 100000 in
theorem rt_d210_3 : rt_dk prog_5_method_18_code rt_i210_3 = true := by decide +kernel
set_option maxRecDepth 100000 in
theorem rt_d210_4 : rt_dk prog_5_method_18_code rt_i210_4 = true := by decide +kernel
theorem rt_D210 : ∀ c ∈ rt_m210.2.2.2.2.2.2.1, rt_dk rt_m210.2.2.2.1 c.2 = true := by
  intro c hc
  have hc : c ∈ [(0, rt_i210_0), (1, rt_i210_1), (2, rt_i210_2), (3, rt_i210_3), (4, rt_i210_4)] := hc
  simp only [List.mem_cons, List.not_mem_nil, or_false] at hc
  rcases hc with rfl | rfl | rfl | rfl | rfl
  · exact rt_d210_0
  · exact rt_d210_1
  · exact rt_d210_2
  · exact rt_d210_3
  · exact rt_d210_4
set_option maxRecDepth 100000 in
theorem rt_d211_0 : rt_dk prog_5_method_19_code rt_i211_0 = true := by decide +kernel
set_option maxRecDepth 100000 in
theorem rt_d211_1 : rt_dk prog_5_method_19_code rt_i211_1 = true := by decide +kernel
set_option maxRecDepth 100000 in
theorem rt_d211_2 : rt_dk prog_5_method_19_code rt_i211_2 = true := by decide +kernel
theorem rt_D211 : ∀ c ∈ rt_m211.2.2.2.2.2.2.1, rt_dk rt_m211.2.2.2.1 c.2 = true := by
  intro c hc
  have hc : c ∈ [(0, rt_i211_0), (1, rt_i211_1), (2, rt_i211_2)] := hc
  simp only [List.mem_cons, List.not_mem_nil, or_false] at hc
  rcases hc with rfl | rfl | rfl
  · exact rt_d211_0
  · exact rt_d211_1
  · exact rt_d211_2
set_option maxRecDepth 100000 in
theorem rt_d212_0 : rt_dk prog_5_method_20_code rt_i212_0 = true := by decide +kernel
set_option maxRecDepth 100000 in
theorem rt_d212_1 : rt_dk prog_5_method_20_code rt_i212_1 = true := by decide +kernel
set_option maxRecDepth 100000 in
theorem rt_d212_2 : rt_dk prog_5_method_20_code rt_i212_2 = true := by decide +kernel
set_option maxRecDepth 100000 in
theorem rt_d212_3 : rt_dk prog_5_method_20_code rt_i212_3 = true := by decide +kernel
theorem rt_D212 : ∀ c ∈ rt_m212.2.2.2.2.2.2.1, rt_dk rt_m212.2.2.2.1 c.2 = true := by
  intro c hc
  have hc : c ∈ [(0, rt_i212_0), (1, rt_i212_1), (2, rt_i212_2), (3, rt_i212_3)] := hc
  simp only [List.mem_cons, List.not_mem_nil, or_false] at hc
  rcases hc with rfl | rfl | rfl | rfl
  · exact rt_d212_0
  · exact rt_d212_1
  · exact rt_d212_2
  · exact rt_d212_3
set_option maxRecDepth 100000 in
theorem rt_d213_0 : rt_dk prog_5_method_21_code rt_i213_0 = true := by decide +kernel
set_option maxRecDepth 100000 in
theorem rt_d213_1 : rt_dk prog_5_method_21_code rt_i213_1 = true := by decide +kernel
set_option maxRecDepth 100000 in
theorem rt_d213_2 : rt_dk prog_5_method_21_code rt_i213_2 = true := by decide +kernel
set_option maxRecDepth 100000 in
theorem rt_d213_3 : rt_dk prog_5_method_21_code rt_i213_3 = true := by decide +kernel
theorem rt_D213 : ∀ c ∈ rt_m213.2.2.2.2.2.2.1, rt_dk rt_m213.2.2.2.1 c.2 = true := by
  intro c hc
  have hc : c ∈ [(0, rt_i213_0), (1, rt_i213_1), (2, rt_i213_2), (3, rt_i213_3)] := hc
  simp only [List.mem_cons, List.not_mem_nil, or_false] at hc
  rcases hc with rfl | rfl | rfl | rfl
  · exact rt_d213_0
  · exact rt_d213_1
  · exact rt_d213_2
  · exact rt_d213_3
set_option maxRecDepth 100000 in
theorem rt_d214_0 : rt_dk prog_5_method_22_code rt_i214_0 = true := by decide +kernel
set_option maxRecDepth 100000 in
theorem rt_d214_1 : rt_dk prog_5_method_22_code rt_i214_1 = true := by decide +kernel
set_option maxRecDepth 100000 in
theorem rt_d214_2 : rt_dk prog_5_method_22_code rt_i214_2 = true := by decide +kernel
set_option maxRecDepth 100000 in
theorem rt_d214_3 : rt_dk prog_5_method_22_code rt_i214_3 = true := by decide +kernel
set_option maxRecDepth 100000 in
theorem rt_d214_4 : rt_dk prog_5_method_22_code rt_i214_4 = true := by decide +kernel
set_option maxRecDepth 100000 in
theorem rt_d214_5 : rt_dk prog_5_method_22_code rt_i214_5 = true := by decide +kernel
theorem rt_D214 : ∀ c ∈ rt_m214.2.2.2.2.2.2.1, rt_dk rt_m214.2.2.2.1 c.2 = true := by
  intro c hc
  have hc : c ∈ [(0, rt_i214_0), (1, rt_i214_1), (2, rt_i214_2), (3, rt_i214_3), (4, rt_i214_4), (5, rt_i214_5)] := hc
  simp only [List.mem_cons, List.not_mem_nil, or_false] at hc
  rcases hc with rfl | rfl | rfl | rfl | rfl | rfl
  · exact rt_d214_0
  · exact rt_d214_1
  · exact rt_d214_2
  · exact rt_d214_3
  · exact rt_d214_4
  · exact rt_d214_5
set_option maxRecDepth 100000 in
theorem rt_d215_0 : rt_dk prog_5_method_23_code rt_i215_0 = true := by decide +kernel
set_option maxRecDepth 100000 in
theorem rt_d215_1 : rt_dk prog_5_method_23_code rt_i215_1 = true := by decide +kernel
set_option maxRecDepth 100000 in
theorem rt_d215_2 : rt_dk prog_5_method_23_code rt_i215_2 = true := by decide +kernel
theorem rt_D215 : ∀ c ∈ rt_m215.2.2.2.2.2.2.1, rt_dk rt_m215.2.2.2.1 c.2 = true := by
  intro c hc
  have hc : c ∈ [(0, rt_i215_0), (1, rt_i215_1), (2, rt_i215_2)] := hc
  simp only [List.mem_cons, List.not_mem_nil, or_false] at hc
  rcases hc with rfl | rfl | rfl
  · exact rt_d215_0
  · exact rt_d215_1
  · exact rt_d215_2
set_option maxRecDepth 100000 in
theorem rt_d216_0 : rt_dk prog_5_method_24_code rt_i216_0 = true := by decide +kernel
set_option maxRecDepth 100000 in
theorem rt_d216_1 : rt_dk prog_5_method_24_code rt_i216_1 = true := by decide +kernel
set_option maxRecDepth 100000 in
theorem rt_d216_2 : rt_dk prog_5_method_24_code rt_i216_2 = true := by decide +kernel
theorem rt_D216 : ∀ c ∈ rt_m216.2.2.2.2.2.2.1, rt_dk rt_m216.2.2.2.1 c.2 = true := by
  intro c hc
  have hc : c ∈ [(0, rt_i216_0), (1, rt_i216_1), (2, rt_i216_2)] := hc
  simp only [List.mem_cons, List.not_mem_nil, or_false] at hc
  rcases hc with rfl | rfl | rfl
  · exact rt_d216_0
  · exact rt_d216_1
  · exact rt_d216_2
set_option maxRecDepth 100000 in
theorem rt_d217_0 : rt_dk prog_6_method_2_code rt_i217_0 = true := by decide +kernel
set_option maxRecDepth 100000 in
theorem rt_d217_1 : rt_dk prog_6_method_2_code rt_i217_1 = true := by decide +kernel
theorem rt_D217 : ∀ c ∈ rt_m217.2.2.2.2.2.2.1, rt_dk rt_m217.2.2.2.1 c.2 = true := by
  intro c hc
  have hc : c ∈ [(0, rt_i217_0), (1, rt_i217_1)] := hc
  simp only [List.mem_cons, List.not_mem_nil, or_false] at hc
  rcases hc with rfl | rfl
  · exact rt_d217_0
  · exact rt_d217_1
set_option maxRecDepth 100000 in
theorem rt_d218_0 : rt_dk prog_6_method_3_code rt_i218_0 = true := by decide +kernel
theorem rt_D218 : ∀ c ∈ rt_m218.2.2.2.2.2.2.1, rt_dk rt_m218.2.2.2.1 c.2 = true := by
  intro c hc
  have hc : c ∈ [(0, rt_i218_0)] := hc
  simp only [List.mem_cons, List.not_mem_nil, or_false] at hc
  rcases hc with rfl
  · exact rt_d218_0
set_option maxRecDepth 100000 in
theorem rt_d219_0 : rt_dk prog_6_method_4_code rt_i219_0 = true := by decide +kernel
theorem rt_D219 : ∀ c ∈ rt_m219.2.2.2.2.2.2.1, rt_dk rt_m219.2.2.2.1 c.2 = true := by
  intro c hc
  have hc : c ∈ [(0, rt_i219_0)] := hc
  simp only [List.mem_cons, List.not_mem_nil, or_false] at hc
  rcases hc with rfl
  · exact rt_d219_0
set_option maxRecDepth 100000 in
theorem rt_d220_0 : rt_dk prog_6_method_5_code rt_i220_0 = true := by decide +kernel
set_option maxRecDepth 100000 in
theorem rt_d220_1 : rt_dk prog_6_method_5_code rt_i220_1 = true := by decide +kernel
theorem rt_D220 : ∀ c ∈ rt_m220.2.2.2.2.2.2.1, rt_dk rt_m220.2.2.2.1 c.2 = true := by
  intro c hc
  have hc : c ∈ [(0, rt_i220_0), (1, rt_i220_1)] := hc
  simp only [List.mem_cons, List.not_mem_nil, or_false] at hc
  rcases hc with rfl | rfl
  · exact rt_d220_0
  · exact rt_d220_1
set_option maxRecDepth 100000 in
theorem rt_d221_0 : rt_dk prog_6_method_6_code rt_i221_0 = true := by decide +kernel
set_option maxRecDepth 100000 in
theorem rt_d221_1 : rt_dk prog_6_method_6_code rt_i221_1 = true := by decide +kernel
theorem rt_D221 : ∀ c ∈ rt_m221.2.2.2.2.2.2.1, rt_dk rt_m221.2.2.2.1 c.2 = true := by
  intro c hc
  have hc : c ∈ [(0, rt_i221_0), (1, rt_i221_1)] := hc
  simp only [List.mem_cons, List.not_mem_nil, or_false] at hc
  rcases hc with rfl | rfl
  · exact rt_d221_0
  · exact rt_d221_1
set_option maxRecDepth 100000 in
theorem rt_d222_0 : rt_dk prog_7_method_3_code rt_i222_0 = true := by decide +kernel
set_option maxRecDepth 100000 in
theorem rt_d222_1 : rt_dk prog_7_method_3_code rt_i222_1 = true := by decide +kernel
theorem rt_D222 : ∀ c ∈ rt_m222.2.2.2.2.2.2.1, rt_dk rt_m222.2.2.2.1 c.2 = true := by
  intro c hc
  have hc : c ∈ [(0, rt_i222_0), (1, rt_i222_1)] := hc
  simp only [List.mem_cons, List.not_mem_nil, or_false] at hc
  rcases hc with rfl | rfl
  · exact rt_d222_0
  · exact rt_d222_1
set_option maxRecDepth 100000 in
theorem rt_d223_0 : rt_dk prog_7_method_4_code rt_i223_0 = true := by decide +kernel
theorem rt_D223 : ∀ c ∈ rt_m223.2.2.2.2.2.2.1, rt_dk rt_m223.2.2.2.1 c.2 = true := by
  intro c hc
  have hc : c ∈ [(0, rt_i223_0)] := hc
  simp only [List.mem_cons, List.not_mem_nil, or_false] at hc
  rcases hc with rfl
  · exact rt_d223_0
set_option maxRecDepth 100000 in
theorem rt_d224_0 : rt_dk prog_7_method_5_code rt_i224_0 = true := by decide +kernel
set_option maxRecDepth 100000 in
theorem rt_d224_1 : rt_dk prog_7_method_5_code rt_i224_1 = true := by decide +kernel
set_option maxRecDepth 100000 in
theorem rt_d224_2 : rt_dk prog_7_method_5_code rt_i224_2 = true := by decide +kernel
set_option maxRecDepth 100000 in
theorem rt_d224_3 : rt_dk prog_7_method_5_code rt_i224_3 = true := by decide +kernel
set_option maxRecDepth 100000 in
theorem rt_d224_4 : rt_dk prog_7_method_5_code rt_i224_4 = true := by decide +kernel
set_option maxRecDepth 100000 in
theorem rt_d224_5 : rt_dk prog_7_method_5_code rt_i224_5 = true := by decide +kernel
theorem rt_D224 : ∀ c ∈ rt_m224.2.2.2.2.2.2.1, rt_dk rt_m224.2.2.2.1 c.2 = true := by
  intro c hc
  have hc : c ∈ [(0, rt_i224_0), (1, rt_i224_1), (2, rt_i224_2), (3, rt_i224_3), (4, rt_i224_4), (5, rt_i224_5)] := hc
  simp only [List.mem_cons, List.not_mem_nil, or_false] at hc
  rcases hc with rfl | rfl | rfl | rfl | rfl | rfl
  · exact rt_d224_0
  · exact rt_d224_1
  · exact rt_d224_2
  · exact rt_d224_3
  · exact rt_d224_4
  · exact rt_d224_5
set_option maxRecDepth 100000 in
theorem rt_d225_0 : rt_dk prog_7_method_6_code rt_i225_0 = true := by decide +kernel
set_option maxRecDepth 100000 in
theorem rt_d225_1 : rt_dk prog_7_method_6_code rt_i225_1 = true := by decide +kernel
set_option maxRecDepth 100000 in
theorem rt_d225_2 : rt_dk prog_7_method_6_code rt_i225_2 = true := by decide +kernel
theorem rt_D225 : ∀ c ∈ rt_m225.2.2.2.2.2.2.1, rt_dk rt_m225.2.2.2.1 c.2 = true := by
  intro c hc
  have hc : c ∈ [(0, rt_i225_0), (1, rt_i225_1), (2, rt_i225_2)] := hc
  simp only [List.mem_cons, List.not_mem_nil, or_false] at hc
  rcases hc with rfl | rfl | rfl
  · exact rt_d225_0
  · exact rt_d225_1
  · exact rt_d225_2
set_option maxRecDepth 100000 in
theorem rt_d226_0 : rt_dk prog_7_method_7_code rt_i226_0 = true := by decide +kernel
set_option maxRecDepth 100000 in
theorem rt_d226_1 : rt_dk prog_7_method_7_code rt_i226_1 = true := by decide +kernel
set_option maxRecDepth 100000 in
theorem rt_d226_2 : rt_dk prog_7_method_7_code rt_i226_2 = true := by decide +kernel
theorem rt_D226 : ∀ c ∈ rt_m226.2.2.2.2.2.2.1, rt_dk rt_m226.2.2.2.1 c.2 = true := by
  intro c hc
  have hc : c ∈ [(0, rt_i226_0), (1, rt_i226_1), (2, rt_i226_2)] := hc
  simp only [List.mem_cons, List.not_mem_nil, or_false] at hc
  rcases hc with rfl | rfl | rfl
  · exact rt_d226_0
  · exact rt_d226_1
  · exact rt_d226_2
set_option maxRecDepth 100000 in
theorem rt_d227_0 : rt_dk prog_7_method_8_code rt_i227_0 = true := by decide +kernel
theorem rt_D227 : ∀ c ∈ rt_m227.2.2.2.2.2.2.1, rt_dk rt_m227.2.2.2.1 c.2 = true := by
  intro c hc
  have hc : c ∈ [(0, rt_i227_0)] := hc
  simp only [List.mem_cons, List.not_mem_nil, or_false] at hc
  rcases hc with rfl
  · exact rt_d227_0
set_option maxRecDepth 100000 in
theorem rt_d228_0 : rt_dk prog_7_method_9_code rt_i228_0 = true := by decide +kernel
theorem rt_D228 : ∀ c ∈ rt_m228.2.2.2.2.2.2.1, rt_dk rt_m228.2.2.2.1 c.2 = true := by
  intro c hc
  have hc : c ∈ [(0, rt_i228_0)] := hc
  simp only [List.mem_cons, List.not_mem_nil, or_false] at hc
  rcases hc with rfl
  · exact rt_d228_0
set_option maxRecDepth 100000 in
theorem rt_d229_0 : rt_dk prog_7_method_10_code rt_i229_0 = true := by decide +kernel
set_option maxRecDepth 100000 in
theorem rt_d229_1 : rt_dk prog_7_method_10_code rt_i229_1 = true := by decide +kernel
theorem rt_D229 : ∀ c ∈ rt_m229.2.2.2.2.2.2.1, rt_dk rt_m229.2.2.2.1 c.2 = true := by
  intro c hc
  have hc : c ∈ [(0, rt_i229_0), (1, rt_i229_1)] := hc
  simp only [List.mem_cons, List.not_mem_nil, or_false] at hc
  rcases hc with rfl | rfl
  · exact rt_d229_0
  · exact rt_d229_1
set_option maxRecDepth 100000 in
theorem rt_d230_0 : rt_dk prog_7_method_11_code rt_i230_0 = true := by decide +kernel
set_option maxRecDepth 100000 in
theorem rt_d230_1 : rt_dk prog_7_method_11_code rt_i230_1 = true := by decide +kernel
theorem rt_D230 : ∀ c ∈ rt_m230.2.2.2.2.2.2.1, rt_dk rt_m230.2.2.2.1 c.2 = true := by
  intro c hc
  have hc : c ∈ [(0, rt_i230_0), (1, rt_i230_1)] := hc
  simp only [List.mem_cons, List.not_mem_nil, or_false] at hc
  rcases hc with rfl | rfl
  · exact rt_d230_0
  · exact rt_d230_1
set_option maxRecDepth 100000 in
theorem rt_d231_0 : rt_dk prog_7_method_12_code rt_i231_0 = true := by decide +kernel
set_option maxRecDepth 100000 in
theorem rt_d231_1 : rt_dk prog_7_method_12_code rt_i231_1 = true := by decide +kernel
theorem rt_D231 : ∀ c ∈ rt_m231.2.2.2.2.2.2.1, rt_dk rt_m231.2.2.2.1 c.2 = true := by
  intro c hc
  have hc : c ∈ [(0, rt_i231_0), (1, rt_i231_1)] := hc
  simp only [List.mem_cons, List.not_mem_nil, or_false] at hc
  rcases hc with rfl | rfl
  · exact rt_d231_0
  · exact rt_d231_1
set_option maxRecDepth 100000 in
theorem rt_d232_0 : rt_dk prog_7_method_13_code rt_i232_0 = true := by decide +kernel
set_option maxRecDepth 100000 in
theorem rt_d232_1 : rt_dk prog_7_method_13_code rt_i232_1 = true := by decide +kernel
set_option maxRecDepth 100000 in
theorem rt_d232_2 : rt_dk prog_7_method_13_code rt_i232_2 = true := by decide +kernel
theorem rt_D232 : ∀ c ∈ rt_m232.2.2.2.2.2.2.1, rt_dk rt_m232.2.2.2.1 c.2 = true := by
  intro c hc
  have hc : c ∈ [(0, rt_i232_0), (1, rt_i232_1), (2, rt_i232_2)] := hc
  simp only [List.mem_cons, List.not_mem_nil, or_false] at hc
  rcases hc with rfl | rfl | rfl
  · exact rt_d232_0
  · exact rt_d232_1
  · exact rt_d232_2
set_option maxRecDepth 100000 in
theorem rt_d233_0 : rt_dk prog_7_method_14_code rt_i233_0 = true := by decide +kernel
set_option maxRecDepth 100000 in
theorem rt_d233_1 : rt_dk prog_7_method_14_code rt_i233_1 = true := by decide +kernel
theorem rt_D233 : ∀ c ∈ rt_m233.2.2.2.2.2.2.1, rt_dk rt_m233.2.2.2.1 c.2 = true := by
  intro c hc
  have hc : c ∈ [(0, rt_i233_0), (1, rt_i233_1)] := hc
  simp only [List.mem_cons, List.not_mem_nil, or_false] at hc
  rcases hc with rfl | rfl
  · exact rt_d233_0
  · exact rt_d233_1
set_option maxRecDepth 100000 in
theorem rt_d234_0 : rt_dk prog_8_method_2_code rt_i234_0 = true := by decide +kernel
theorem rt_D234 : ∀ c ∈ rt_m234.2.2.2.2.2.2.1, rt_dk rt_m234.2.2.2.1 c.2 = true := by
  intro c hc
  have hc : c ∈ [(0, rt_i234_0)] := hc
  simp only [List.mem_cons, List.not_mem_nil, or_false] at hc
  rcases hc with rfl
  · exact rt_d234_0
set_option maxRecDepth 100000 in
theorem rt_d235_0 : rt_dk prog_8_method_3_code rt_i235_0 = true := by decide +kernel
theorem rt_D235 : ∀ c ∈ rt_m235.2.2.2.2.2.2.1, rt_dk rt_m235.2.2.2.1 c.2 = true := by
  intro c hc
  have hc : c ∈ [(0, rt_i235_0)] := hc
  simp only [List.mem_cons, List.not_mem_nil, or_false] at hc
  rcases hc with rfl
  · exact rt_d235_0
set_option maxRecDepth 100000 in
theorem rt_d236_0 : rt_dk prog_8_method_4_code rt_i236_0 = true := by decide +kernel
set_option maxRecDepth 100000 in
theorem rt_d236_1 : rt_dk prog_8_method_4_code rt_i236_1 = true := by decide +kernel
theorem rt_D236 : ∀ c ∈ rt_m236.2.2.2.2.2.2.1, rt_dk rt_m236.2.2.2.1 c.2 = true := by
  intro c hc
  have hc : c ∈ [(0, rt_i236_0), (1, rt_i236_1)] := hc
  simp only [List.mem_cons, List.not_mem_nil, or_false] at hc
  rcases hc with rfl | rfl
  · exact rt_d236_0
  · exact rt_d236_1
set_option maxRecDepth 100000 in
theorem rt_d237_0 : rt_dk prog_8_method_5_code rt_i237_0 = true := by decide +kernel
theorem rt_D237 : ∀ c ∈ rt_m237.2.2.2.2.2.2.1, rt_dk rt_m237.2.2.2.1 c.2 = true := by
  intro c hc
  have hc : c ∈ [(0, rt_i237_0)] := hc
  simp only [List.mem_cons, List.not_mem_nil, or_false] at hc
  rcases hc with rfl
  · exact rt_d237_0
set_option maxRecDepth 100000 in
theorem rt_d238_0 : rt_dk prog_8_method_6_code rt_i238_0 = true := by decide +kernel
theorem rt_D238 : ∀ c ∈ rt_m238.2.2.2.2.2.2.1, rt_dk rt_m238.2.2.2.1 c.2 = true := by
  intro c hc
  have hc : c ∈ [(0, rt_i238_0)] := hc
  simp only [List.mem_cons, List.not_mem_nil, or_false] at hc
  rcases hc with rfl
  · exact rt_d238_0
set_option maxRecDepth 100000 in
theorem rt_d239_0 : rt_dk prog_8_method_7_code rt_i239_0 = true := by decide +kernel
theorem rt_D239 : ∀ c ∈ rt_m239.2.2.2.2.2.2.1, rt_dk rt_m239.2.2.2.1 c.2 = true := by
  intro c hc
  have hc : c ∈ [(0, rt_i239_0)] := hc
  simp only [List.mem_cons, List.not_mem_nil, or_false] at hc
  rcases hc with rfl
  · exact rt_d239_0
set_option maxRecDepth 100000 in
theorem rt_d240_0 : rt_dk prog_8_method_8_code rt_i240_0 = true := by decide +kernel
set_option maxRecDepth 100000 in
theorem rt_d240_1 : rt_dk prog_8_method_8_code rt_i240_1 = true := by decide +kernel
theorem rt_D240 : ∀ c ∈ rt_m240.2.2.2.2.2.2.1, rt_dk rt_m240.2.2.2.1 c.2 = true := by
  intro c hc
  have hc : c ∈ [(0, rt_i240_0), (1, rt_i240_1)] := hc
  simp only [List.mem_cons, List.not_mem_nil, or_false] at hc
  rcases hc with rfl | rfl
  · exact rt_d240_0
  · exact rt_d240_1
set_option maxRecDepth 100000 in
theorem rt_d241_0 : rt_dk prog_8_method_9_code rt_i241_0 = true := by decide +kernel
set_option maxRecDepth 100000 in
theorem rt_d241_1 : rt_dk prog_8_method_9_code rt_i241_1 = true := by decide +kernel
set_option maxRecDepth 100000 in
theorem rt_d241_2 : rt_dk prog_8_method_9_code rt_i241_2 = true := by decide +kernel
set_option maxRecDepth 100000 in
theorem rt_d241_3 : rt_dk prog_8_method_9_code rt_i241_3 = true := by decide +kernel
set_option maxRecDepth 100000 in
theorem rt_d241_4 : rt_dk prog_8_method_9_code rt_i241_4 = true := by decide +kernel
set_option maxRecDepth 100000 in
theorem rt_d241_5 : rt_dk prog_8_method_9_code rt_i241_5 = true := by decide +kernel
set_option maxRecDepth 100000 in
theorem rt_d241_6 : rt_dk prog_8_method_9_code rt_i241_6 = true := by decide +kernel
theorem rt_D241 : ∀ c ∈ rt_m241.2.2.2.2.2.2.1, rt_dk rt_m241.2.2.2.1 c.2 = true := by
  intro c hc
  have hc : c ∈ [(0, rt_i241_0), (1, rt_i241_1), (2, rt_i241_2), (3, rt_i241_3), (4, rt_i241_4), (5, rt_i241_5), (6, rt_i241_6)] := hc
  simp only [List.mem_cons, List.not_mem_nil, or_false] at hc
  rcases hc with rfl | rfl | rfl | rfl | rfl | rfl | rfl
  · exact rt_d241_0
  · exact rt_d241_1
  · exact rt_d241_2
  · exact rt_d241_3
  · exact rt_d241_4
  · exact rt_d241_5
  · exact rt_d241_6
set_option maxRecDepth 100000 in
theorem rt_d242_0 : rt_dk prog_8_method_10_code rt_i242_0 = true := by decide +kernel
set_option maxRecDepth 100000 in
theorem rt_d242_1 : rt_dk prog_8_method_10_code rt_i242_1 = true := by decide +kernel
set_option maxRecDepth 100000 in
theorem rt_d242_2 : rt_dk prog_8_method_10_code rt_i242_2 = true := by decide +kernel
set_option maxRecDepth 100000 in
theorem rt_d242_3 : rt_dk prog_8_method_10_code rt_i242_3 = true := by decide +kernel
theorem rt_D242 : ∀ c ∈ rt_m242.2.2.2.2.2.2.1, rt_dk rt_m242.2.2.2.1 c.2 = true := by
  intro c hc
  have hc : c ∈ [(0, rt_i242_0), (1, rt_i242_1), (2, rt_i242_2), (3, rt_i242_3)] := hc
  simp only [List.mem_cons, List.not_mem_nil, or_false] at hc
  rcases hc with rfl | rfl | rfl | rfl
  · exact rt_d242_0
  · exact rt_d242_1
  · exact rt_d242_2
  · exact rt_d242_3
set_option maxRecDepth 100000 in
theorem rt_d243_0 : rt_dk prog_8_method_11_code rt_i243_0 = true := by decide +kernel
set_option maxRecDepth 100000 in
theorem rt_d243_1 : rt_dk prog_8_method_11_code rt_i243_1 = true := by decide +kernel
theorem rt_D243 : ∀ c ∈ rt_m243.2.2.2.2.2.2.1, rt_dk rt_m243.2.2.2.1 c.2 = true := by
  intro c hc
  have hc : c ∈ [(0, rt_i243_0), (1, rt_i243_1)] := hc
  simp only [List.mem_cons, List.not_mem_nil, or_false] at hc
  rcases hc with rfl | rfl
  · exact rt_d243_0
  · exact rt_d243_1
set_option maxRecDepth 100000 in
theorem rt_d244_0 : rt_dk prog_9_method_5_code rt_i244_0 = true := by decide +kernel
theorem rt_D244 : ∀ c ∈ rt_m244.2.2.2.2.2.2.1, rt_dk rt_m244.2.2.2.1 c.2 = true := by
  intro c hc
  have hc : c ∈ [(0, rt_i244_0)] := hc
  simp only [List.mem_cons, List.not_mem_nil, or_false] at hc
  rcases hc with rfl
  · exact rt_d244_0
set_option maxRecDepth 100000 in
theorem rt_d245_0 : rt_dk prog_9_method_6_code rt_i245_0 = true := by decide +kernel
theorem rt_D245 : ∀ c ∈ rt_m245.2.2.2.2.2.2.1, rt_dk rt_m245.2.2.2.1 c.2 = true := by
  intro c hc
  have hc : c ∈ [(0, rt_i245_0)] := hc
  simp only [List.mem_cons, List.not_mem_nil, or_false] at hc
  rcases hc with rfl
  · exact rt_d245_0
set_option maxRecDepth 100000 in
theorem rt_d246_0 : rt_dk prog_9_method_7_code rt_i246_0 = true := by decide +kernel
theorem rt_D246 : ∀ c ∈ rt_m246.2.2.2.2.2.2.1, rt_dk rt_m246.2.2.2.1 c.2 = true := by
  intro c hc
  have hc : c ∈ [(0, rt_i246_0)] := hc
  simp only [List.mem_cons, List.not_mem_nil, or_false] at hc
  rcases hc with rfl
  · exact rt_d246_0
set_option maxRecDepth 100000 in
theorem rt_d247_0 : rt_dk prog_9_method_8_code rt_i247_0 = true := by decide +kernel
set_option maxRecDepth 100000 in
theorem rt_d247_1 : rt_dk prog_9_method_8_code rt_i247_1 = true := by decide +kernel
theorem rt_D247 : ∀ c ∈ rt_m247.2.2.2.2.2.2.1, rt_dk rt_m247.2.2.2.1 c.2 = true := by
  intro c hc
  have hc : c ∈ [(0, rt_i247_0), (1, rt_i247_1)] := hc
  simp only [List.mem_cons, List.not_mem_nil, or_false] at hc
  rcases hc with rfl | rfl
  · exact rt_d247_0
  · exact rt_d247_1
set_option maxRecDepth 100000 in
theorem rt_d248_0 : rt_dk prog_9_method_9_code rt_i248_0 = true := by decide +kernel
set_option maxRecDepth 100000 in
theorem rt_d248_1 : rt_dk prog_9_method_9_code rt_i248_1 = true := by decide +kernel
theorem rt_D248 : ∀ c ∈ rt_m248.2.2.2.2.2.2.1, rt_dk rt_m248.2.2.2.1 c.2 = true := by
  intro c hc
  have hc : c ∈ [(0, rt_i248_0), (1, rt_i248_1)] := hc
  simp only [List.mem_cons, List.not_mem_nil, or_false] at hc
  rcases hc with rfl | rfl
  · exact rt_d248_0
  · exact rt_d248_1
set_option maxRecDepth 100000 in
theorem rt_d249_0 : rt_dk prog_9_method_10_code rt_i249_0 = true := by decide +kernel
theorem rt_D249 : ∀ c ∈ rt_m249.2.2.2.2.2.2.1, rt_dk rt_m249.2.2.2.1 c.2 = true := by
  intro c hc
  have hc : c ∈ [(0, rt_i249_0)] := hc
  simp only [List.mem_cons, List.not_mem_nil, or_false] at hc
  rcases hc with rfl
  · exact rt_d249_0
set_option maxRecDepth 100000 in
theorem rt_d250_0 : rt_dk prog_9_method_11_code rt_i250_0 = true := by decide +kernel
set_option maxRecDepth 100000 in
theorem rt_d250_1 : rt_dk prog_9_method_11_code rt_i250_1 = true := by decide +kernel
theorem rt_D250 : ∀ c ∈ rt_m250.2.2.2.2.2.2.1, rt_dk rt_m250.2.2.2.1 c.2 = true := by
  intro c hc
  have hc : c ∈ [(0, rt_i250_0), (1, rt_i250_1)] := hc
  simp only [List.mem_cons, List.not_mem_nil, or_false] at hc
  rcases hc with rfl | rfl
  · exact rt_d250_0
  · exact rt_d250_1
set_option maxRecDepth 100000 in
theorem rt_d251_0 : rt_dk prog_9_method_12_code rt_i251_0 = true := by decide +kernel
theorem rt_D251 : ∀ c ∈ rt_m251.2.2.2.2.2.2.1, rt_dk rt_m251.2.2.2.1 c.2 = true := by
  intro c hc
  have hc : c ∈ [(0, rt_i251_0)] := hc
  simp only [List.mem_cons, List.not_mem_nil, or_false] at hc
  rcases hc with rfl
  · exact rt_d251_0
set_option maxRecDepth 100000 in
theorem rt_d252_0 : rt_dk prog_9_method_13_code rt_i252_0 = true := by decide +kernel
set_option maxRecDepth 100000 in
theorem rt_d252_1 : rt_dk prog_9_method_13_code rt_i252_1 = true := by decide +kernel
set_option maxRecDepth 100000 in
theorem rt_d252_2 : rt_dk prog_9_method_13_code rt_i252_2 = true := by decide +kernel
set_option maxRecDepth 100000 in
theorem rt_d252_3 : rt_dk prog_9_method_13_code rt_i252_3 = true := by decide +kernel
set_option maxRecDepth 100000 in
theorem rt_d252_4 : rt_dk prog_9_method_13_code rt_i252_4 = true := by decide +kernel
set_option maxRecDepth 100000 in
theorem rt_d252_5 : rt_dk prog_9_method_13_code rt_i252_5 = true := by decide +kernel
theorem rt_D252 : ∀ c ∈ rt_m252.2.2.2.2.2.2.1, rt_dk rt_m252.2.2.2.1 c.2 = true := by
  intro c hc
  have hc : c ∈ [(0, rt_i252_0), (1, rt_i252_1), (2, rt_i252_2), (3, rt_i252_3), (4, rt_i252_4), (5, rt_i252_5)] := hc
  simp only [List.mem_cons, List.not_mem_nil, or_false] at hc
  rcases hc with rfl | rfl | rfl | rfl | rfl | rfl
  · exact rt_d252_0
  · exact rt_d252_1
  · exact rt_d252_2
  · exact rt_d252_3
  · exact rt_d252_4
  · exact rt_d252_5
set_option maxRecDepth 100000 in
theorem rt_d253_0 : rt_dk prog_9_method_14_code rt_i253_0 = true := by decide +kernel
set_option maxRecDepth 100000 in
theorem rt_d253_1 : rt_dk prog_9_method_14_code rt_i253_1 = true := by decide +kernel
theorem rt_D253 : ∀ c ∈ rt_m253.2.2.2.2.2.2.1, rt_dk rt_m253.2.2.2.1 c.2 = true := by
  intro c hc
  have hc : c ∈ [(0, rt_i253_0), (1, rt_i253_1)] := hc
  simp only [List.mem_cons, List.not_mem_nil, or_false] at hc
  rcases hc with rfl | rfl
  · exact rt_d253_0
  · exact rt_d253_1
set_option maxRecDepth 100000 in
theorem rt_d254_0 : rt_dk prog_9_method_15_code rt_i254_0 = true := by decide +kernel
set_option maxRecDepth 100000 in
theorem rt_d254_1 : rt_dk prog_9_method_15_code rt_i254_1 = true := by decide +kernel
theorem rt_D254 : ∀ c ∈ rt_m254.2.2.2.2.2.2.1, rt_dk rt_m254.2.2.2.1 c.2 = true := by
  intro c hc
  have hc : c ∈ [(0, rt_i254_0), (1, rt_i254_1)] := hc
  simp only [List.mem_cons, List.not_mem_nil, or_false] at hc
  rcases hc with rfl | rfl
  · exact rt_d254_0
  · exact rt_d254_1
set_option maxRecDepth 100000 in
theorem rt_d255_0 : rt_dk prog_9_method_16_code rt_i255_0 = true := by decide +kernel
theorem rt_D255 : ∀ c ∈ rt_m255.2.2.2.2.2.2.1, rt_dk rt_m255.2.2.2.1 c.2 = true := by
  intro c hc
  have hc : c ∈ [(0, rt_i255_0)] := hc
  simp only [List.mem_cons, List.not_mem_nil, or_false] at hc
  rcases hc with rfl
  · exact rt_d255_0
set_option maxRecDepth 100000 in
theorem rt_d256_0 : rt_dk prog_9_method_17_code rt_i256_0 = true := by decide +kernel
theorem rt_D256 : ∀ c ∈ rt_m256.2.2.2.2.2.2.1, rt_dk rt_m256.2.2.2.1 c.2 = true := by
  intro c hc
  have hc : c ∈ [(0, rt_i256_0)] := hc
  simp only [List.mem_cons, List.not_mem_nil, or_false] at hc
  rcases hc with rfl
  · exact rt_d256_0
set_option maxRecDepth 100000 in
theorem rt_d257_0 : rt_dk prog_10_method_6_code rt_i257_0 = true := by decide +kernel
set_option maxRecDepth 100000 in
theorem rt_d257_1 : rt_dk prog_10_method_6_code rt_i257_1 = true := by decide +kernel
theorem rt_D257 : ∀ c ∈ rt_m257.2.2.2.2.2.2.1, rt_dk rt_m257.2.2.2.1 c.2 = true := by
  intro c hc
  have hc : c ∈ [(0, rt_i257_0), (1, rt_i257_1)] := hc
  simp only [List.mem_cons, List.not_mem_nil, or_false] at hc
  rcases hc with rfl | rfl
  · exact rt_d257_0
  · exact rt_d257_1
set_option maxRecDepth 100000 in
theorem rt_d258_0 : rt_dk prog_10_method_7_code rt_i258_0 = true := by decide +kernel
set_option maxRecDepth 100000 in
theorem rt_d258_1 : rt_dk prog_10_method_7_code rt_i258_1 = true := by decide +kernel
theorem rt_D258 : ∀ c ∈ rt_m258.2.2.2.2.2.2.1, rt_dk rt_m258.2.2.2.1 c.2 = true := by
  intro c hc
  have hc : c ∈ [(0, rt_i258_0), (1, rt_i258_1)] := hc
  simp only [List.mem_cons, List.not_mem_nil, or_false] at hc
  rcases hc with rfl | rfl
  · exact rt_d258_0
  · exact rt_d258_1
set_option maxRecDepth 100000 in
theorem rt_d259_0 : rt_dk prog_10_method_8_code rt_i259_0 = true := by decide +kernel
theorem rt_D259 : ∀ c ∈ rt_m259.2.2.2.2.2.2.1, rt_dk rt_m259.2.2.2.1 c.2 = true := by
  intro c hc
  have hc : c ∈ [(0, rt_i259_0)] := hc
  simp only [List.mem_cons, List.not_mem_nil, or_false] at hc
  rcases hc with rfl
  · exact rt_d259_0
set_option maxRecDepth 100000 in
theorem rt_d260_0 : rt_dk prog_10_method_9_code rt_i260_0 = true := by decide +kernel
set_option maxRecDepth 100000 in
theorem rt_d260_1 : rt_dk prog_10_method_9_code rt_i260_1 = true := by decide +kernel
theorem rt_D260 : ∀ c ∈ rt_m260.2.2.2.2.2.2.1, rt_dk rt_m260.2.2.2.1 c.2 = true := by
  intro c hc
  have hc : c ∈ [(0, rt_i260_0), (1, rt_i260_1)] := hc
  simp only [List.mem_cons, List.not_mem_nil, or_false] at hc
  rcases hc with rfl | rfl
  · exact rt_d260_0
  · exact rt_d260_1
set_option maxRecDepth 100000 in
theorem rt_d261_0 : rt_dk prog_10_method_12_code rt_i261_0 = true := by decide +kernel
theorem rt_D261 : ∀ c ∈ rt_m261.2.2.2.2.2.2.1, rt_dk rt_m261.2.2.2.1 c.2 = true := by
  intro c hc
  have hc : c ∈ [(0, rt_i261_0)] := hc
  simp only [List.mem_cons, List.not_mem_nil, or_false] at hc
  rcases hc with rfl
  · exact rt_d261_0
set_option maxRecDepth 100000 in
theorem rt_d262_0 : rt_dk prog_10_method_13_code rt_i262_0 = true := by decide +kernel
set_option maxRecDepth 100000 in
theorem rt_d262_1 : rt_dk prog_10_method_13_code rt_i262_1 = true := by decide +kernel
set_option maxRecDepth 100000 in
theorem rt_d262_2 : rt_dk prog_10_method_13_code rt_i262_2 = true := by decide +kernel
set_option maxRecDepth 100000 in
theorem rt_d262_3 : rt_dk prog_10_method_13_code rt_i262_3 = true := by decide +kernel
set_option maxRecDepth 100000 in
theorem rt_d262_4 : rt_dk prog_10_method_13_code rt_i262_4 = true := by decide +kernel
set_option maxRecDepth 100000 in
theorem rt_d262_5 : rt_dk prog_10_method_13_code rt_i262_5 = true := by decide +kernel
theorem rt_D262 : ∀ c ∈ rt_m262.2.2.2.2.2.2.1, rt_dk rt_m262.2.2.2.1 c.2 = true := by
  intro c hc
  have hc : c ∈ [(0, rt_i262_0), (1, rt_i262_1), (2, rt_i262_2), (3, rt_i262_3), (4, rt_i262_4), (5, rt_i262_5)] := hc
  simp only [List.mem_cons, List.not_mem_nil, or_false] at hc
  rcases hc with rfl | rfl | rfl | rfl | rfl | rfl
  · exact rt_d262_0
  · exact rt_d262_1
  · exact rt_d262_2
  · exact rt_d262_3
  · exact rt_d262_4
  · exact rt_d262_5
set_option maxRecDepth 100000 in
theorem rt_d263_0 : rt_dk prog_10_method_14_code rt_i263_0 = true := by decide +kernel
set_option maxRecDepth 100000 in
theorem rt_d263_1 : rt_dk prog_10_method_14_code rt_i263_1 = true := by decide +kernel
set_option maxRecDepth 100000 in
theorem rt_d263_2 : rt_dk prog_10_method_14_code rt_i263_2 = true := by decide +kernel
theorem rt_D263 : ∀ c ∈ rt_m263.2.2.2.2.2.2.1, rt_dk rt_m263.2.2.2.1 c.2 = true := by
  intro c hc
  have hc : c ∈ [(0, rt_i263_0), (1, rt_i263_1), (2, rt_i263_2)] := hc
  simp only [List.mem_cons, List.not_mem_nil, or_false] at hc
  rcases hc with rfl | rfl | rfl
  · exact rt_d263_0
  · exact rt_d263_1
  · exact rt_d263_2
set_option maxRecDepth 100000 in
theorem rt_d264_0 : rt_dk prog_10_method_15_code rt_i264_0 = true := by decide +kernel
set_option maxRecDepth 100000 in
theorem rt_d264_1 : rt_dk prog_10_method_15_code rt_i264_1 = true := by decide +kernel
set_option maxRecDepth 100000 in
theorem rt_d264_2 : rt_dk prog_10_method_15_code rt_i264_2 = true := by decide +kernel
set_option maxRecDepth 100000 in
theorem rt_d264_3 : rt_dk prog_10_method_15_code rt_i264_3 = true := by decide +kernel
set_option maxRecDepth 100000 in
theorem rt_d264_4 : rt_dk prog_10_method_15_code rt_i264_4 = true := by decide +kernel
set_option maxRecDepth 100000 in
theorem rt_d264_5 : rt_dk prog_10_method_15_code rt_i264_5 = true := by decide +kernel
theorem rt_D264 : ∀ c ∈ rt_m264.2.2.2.2.2.2.1, rt_dk rt_m264.2.2.2.1 c.2 = true := by
  intro c hc
  have hc : c ∈ [(0, rt_i264_0), (1, rt_i264_1), (2, rt_i264_2), (3, rt_i264_3), (4, rt_i264_4), (5, rt_i264_5)] := hc
  simp only [List.mem_cons, List.not_mem_nil, or_false] at hc
  rcases hc with rfl | rfl | rfl | rfl | rfl | rfl
  · exact rt_d264_0
  · exact rt_d264_1
  · exact rt_d264_2
  · exact rt_d264_3
  · exact rt_d264_4
  · exact rt_d264_5
set_option maxRecDepth 100000 in
theorem rt_d265_0 : rt_dk prog_10_method_16_code rt_i265_0 = true := by decide +kernel
set_option maxRecDepth 100000 in
theorem rt_d265_1 : rt_dk prog_10_method_16_code rt_i265_1 = true := by decide +kernel
set_option maxRecDepth 100000 in
theorem rt_d265_2 : rt_dk prog_10_method_16_code rt_i265_2 = true := by decide +kernel
set_option maxRecDepth 100000 in
theorem rt_d265_3 : rt_dk prog_10_method_16_code rt_i265_3 = true := by decide +kernel
set_option maxRecDepth 100000 in
theorem rt_d265_4 : rt_dk prog_10_method_16_code rt_i265_4 = true := by decide +kernel
set_option maxRecDepth 100000 in
theorem rt_d265_5 : rt_dk prog_10_method_16_code rt_i265_5 = true := by decide +kernel
set_option maxRecDepth 100000 in
theorem rt_d265_6 : rt_dk prog_10_method_16_code rt_i265_6 = true := by decide +kernel
theorem rt_D265 : ∀ c ∈ rt_m265.2.2.2.2.2.2.1, rt_dk rt_m265.2.2.2.1 c.2 = true := by
  intro c hc
  have hc : c ∈ [(0, rt_i265_0), (1, rt_i265_1), (2, rt_i265_2), (3, rt_i265_3), (4, rt_i265_4), (5, rt_i265_5), (6, rt_i265_6)] := hc
  simp only [List.mem_cons, List.not_mem_nil, or_false] at hc
  rcases hc with rfl | rfl | rfl | rfl | rfl | rfl | rfl
  · exact rt_d265_0
  · exact rt_d265_1
  · exact rt_d265_2
  · exact rt_d265_3
  · exact rt_d265_4
  · exact rt_d265_5
  · exact rt_d265_6
set_option maxRecDepth 100000 in
theorem rt_d266_0 : rt_dk prog_10_method_17_code rt_i266_0 = true := by decide +kernel
set_option maxRecDepth 100000 in
theorem rt_d266_1 : rt_dk prog_10_method_17_code rt_i266_1 = true := by decide +kernel
set_option maxRecDepth 100000 in
theorem rt_d266_2 : rt_dk prog_10_method_17_code rt_i266_2 = true := by decide +kernel
theorem rt_D266 : ∀ c ∈ rt_m266.2.2.2.2.2.2.1, rt_dk rt_m266.2.2.2.1 c.2 = true := by
  intro c hc
  have hc : c ∈ [(0, rt_i266_0), (1, rt_i266_1), (2, rt_i266_2)] := hc
  simp only [List.mem_cons, List.not_mem_nil, or_false] at hc
  rcases hc with rfl | rfl | rfl
  · exact rt_d266_0
  · exact rt_d266_1
  · exact rt_d266_2
set_option maxRecDepth 100000 in
theorem rt_d267_0 : rt_dk prog_10_method_18_code rt_i267_0 = true := by decide +kernel
set_option maxRecDepth 100000 in
theorem rt_d267_1 : rt_dk prog_10_method_18_code rt_i267_1 = true := by decide +kernel
set_option maxRecDepth 100000 in
theorem rt_d267_2 : rt_dk prog_10_method_18_code rt_i267_2 = true := by decide +kernel
set_option maxRecDepth 100000 in
theorem rt_d267_3 : rt_dk prog_10_method_18_code rt_i267_3 = true := by decide +kernel
set_option maxRecDepth 100000 in
theorem rt_d267_4 : rt_dk prog_10_method_18_code rt_i267_4 = true := by decide +kernel
theorem rt_D267 : ∀ c ∈ rt_m267.2.2.2.2.2.2.1, rt_dk rt_m267.2.2.2.1 c.2 = true := by
  intro c hc
  have hc : c ∈ [(0, rt_i267_0), (1, rt_i267_1), (2, rt_i267_2), (3, rt_i267_3), (4, rt_i267_4)] := hc
  simp only [List.mem_cons, List.not_mem_nil, or_false] at hc
  rcases hc with rfl | rfl | rfl | rfl | rfl
  · exact rt_d267_0
  · exact rt_d267_1
  · exact rt_d267_2
  · exact rt_d267_3
  · exact rt_d267_4
set_option maxRecDepth 100000 in
theorem rt_d268_0 : rt_dk prog_10_method_19_code rt_i268_0 = true := by decide +kernel
set_option maxRecDepth 100000 in
theorem rt_d268_1 : rt_dk prog_10_method_19_code rt_i268_1 = true := by decide +kernel
set_option maxRecDepth 100000 in
theorem rt_d268_2 : rt_dk prog_10_method_19_code rt_i268_2 = true := by decide +kernel
set_option maxRecDepth 100000 in
theorem rt_d268_3 : rt_dk prog_10_method_19_code rt_i268_3 = true := by decide +kernel
set_option maxRecDepth 100000 in
theorem rt_d268_4 : rt_dk prog_10_method_19_code rt_i268_4 = true := by decide +kernel
theorem rt_D268 : ∀ c ∈ rt_m268.2.2.2.2.2.2.1, rt_dk rt_m268.2.2.2.1 c.2 = true := by
  intro c hc
  have hc : c ∈ [(0, rt_i268_0), (1, rt_i268_1), (2, rt_i268_2), (3, rt_i268_3), (4, rt_i268_4)] := hc
  simp only [List.mem_cons, List.not_mem_nil, or_false] at hc
  rcases hc with rfl | rfl | rfl | rfl | rfl
  · exact rt_d268_0
  · exact rt_d268_1
  · exact rt_d268_2
  · exact rt_d268_3
  · exact rt_d268_4
set_option maxRecDepth 100000 in
theorem rt_d269_0 : rt_dk prog_10_method_20_code rt_i269_0 = true := by decide +kernel
set_option maxRecDepth 100000 in
theorem rt_d269_1 : rt_dk prog_10_method_20_code rt_i269_1 = true := by decide +kernel
set_option maxRecDepth 100000 in
theorem rt_d269_2 : rt_dk prog_10_method_20_code rt_i269_2 = true := by decide +kernel
set_option maxRecDepth 100000 in
theorem rt_d269_3 : rt_dk prog_10_method_20_code rt_i269_3 = true := by decide +kernel
set_option maxRecDepth 100000 in
theorem rt_d269_4 : rt_dk prog_10_method_20_code rt_i269_4 = true := by decide +kernel
set_option maxRecDepth 100000 in
theorem rt_d269_5 : rt_dk prog_10_method_20_code rt_i269_5 = true := by decide +kernel
theorem rt_D269 : ∀ c ∈ rt_m269.2.2.2.2.2.2.1, rt_dk rt_m269.2.2.2.1 c.2 = true := by
  intro c hc
  have hc : c ∈ [(0, rt_i269_0), (1, rt_i269_1), (2, rt_i269_2), (3, rt_i269_3), (4, rt_i269_4), (5, rt_i269_5)] := hc
  simp only [List.mem_cons, List.not_mem_nil, or_false] at hc
  rcases hc with rfl | rfl | rfl | rfl | rfl | rfl
  · exact rt_d269_0
  · exact rt_d269_1
  · exact rt_d269_2
  · exact rt_d269_3
  · exact rt_d269_4
  · exact rt_d269_5
set_option maxRecDepth 100000 in
theorem rt_d270_0 : rt_dk prog_10_method_21_code rt_i270_0 = true := by decide +kernel
set_option maxRecDepth 100000 in
theorem rt_d270_1 : rt_dk prog_10_method_21_code rt_i270_1 = true := by decide +kernel
set_option maxRecDepth 100000 in
theorem rt_d270_2 : rt_dk prog_10_method_21_code rt_i270_2 = true := by decide +kernel
set_option maxRecDepth 100000 in
theorem rt_d270_3 : rt_dk prog_10_method_21_code rt_i270_3 = true := by decide +kernel
set_option maxRecDepth 100000 in
theorem rt_d270_4 : rt_dk prog_10_method_21_code rt_i270_4 = true := by decide +kernel
set_option maxRecDepth 100000 in
theorem rt_d270_5 : rt_dk prog_10_method_21_code rt_i270_5 = true := by decide +kernel
theorem rt_D270 : ∀ c ∈ rt_m270.2.2.2.2.2.2.1, rt_dk rt_m270.2.2.2.1 c.2 = true := by
  intro c hc
  have hc : c ∈ [(0, rt_i270_0), (1, rt_i270_1), (2, rt_i270_2), (3, rt_i270_3), (4, rt_i270_4), (5, rt_i270_5)] := hc
  simp only [List.mem_cons, List.not_mem_nil, or_false] at hc
  rcases hc with rfl | rfl | rfl | rfl | rfl | rfl
  · exact rt_d270_0
  · exact rt_d270_1
  · exact rt_d270_2
  · exact rt_d270_3
  · exact rt_d270_4
  · exact rt_d270_5
set_option maxRecDepth 100000 in
theorem rt_d271_0 : rt_dk prog_10_method_22_code rt_i271_0 = true := by decide +kernel
set_option maxRecDepth 100000 in
theorem rt_d271_1 : rt_dk prog_10_method_22_code rt_i271_1 = true := by decide +kernel
set_option maxRecDepth 100000 in
theorem rt_d271_2 : rt_dk prog_10_method_22_code rt_i271_2 = true := by decide +kernel
set_option maxRecDepth 100000 in
theorem rt_d271_3 : rt_dk prog_10_method_22_code rt_i271_3 = true := by decide +kernel
set_option maxRecDepth 100000 in
theorem rt_d271_4 : rt_dk prog_10_method_22_code rt_i271_4 = true := by decide +kernel
set_option maxRecDepth 100000 in
theorem rt_d271_5 : rt_dk prog_10_method_22_code rt_i271_5 = true := by decide +kernel
set_option maxRecDepth 100000 in
theorem rt_d271_6 : rt_dk prog_10_method_22_code rt_i271_6 = true := by decide +kernel
set_option maxRecDepth 100000 in
theorem rt_d271_7 : rt_dk prog_10_method_22_code rt_i271_7 = true := by decide +kernel
set_option maxRecDepth 100000 in
theorem rt_d271_8 : rt_dk prog_10_method_22_code rt_i271_8 = true := by decide +kernel
set_option maxRecDepth 100000 in
theorem rt_d271_9 : rt_dk prog_10_method_22_code rt_i271_9 = true := by decide +kernel
set_option maxRecDepth 100000 in
theorem rt_d271_10 : rt_dk prog_10_method_22_code rt_i271_10 = true := by decide +kernel
theorem rt_D271 : ∀ c ∈ rt_m271.2.2.2.2.2.2.1, rt_dk rt_m271.2.2.2.1 c.2 = true := by
  intro c hc
  have hc : c ∈ [(0, rt_i271_0), (1, rt_i271_1), (2, rt_i271_2), (3, rt_i271_3), (4, rt_i271_4), (5, rt_i271_5), (6, rt_i271_6), (7, rt_i271_7), (8, rt_i271_8), (9, rt_i271_9), (10, rt_i271_10)] := hc
  simp only [List.mem_cons, List.not_mem_nil, or_false] at hc
  rcases hc with rfl | rfl | rfl | rfl | rfl | rfl | rfl | rfl | rfl | rfl | rfl
  · exact rt_d271_0
  · exact rt_d271_1
  · exact rt_d271_2
  · exact rt_d271_3
  · exact rt_d271_4
  · exact rt_d271_5
  · exact rt_d271_6
  · exact rt_d271_7
  · exact rt_d271_8
  · exact rt_d271_9
  · exact rt_d271_10
set_option maxRecDepth 100000 in
theorem rt_d272_0 : rt_dk prog_10_method_23_code rt_i272_0 = true := by decide +kernel
theorem rt_D272 : ∀ c ∈ rt_m272.2.2.2.2.2.2.1, rt_dk rt_m272.2.2.2.1 c.2 = true := by
  intro c hc
  have hc : c ∈ [(0, rt_i272_0)] := hc
  simp only [List.mem_cons, List.not_mem_nil, or_false] at hc
  rcases hc with rfl
  · exact rt_d272_0
set_option maxRecDepth 100000 in
theorem rt_d273_0 : rt_dk prog_10_method_24_code rt_i273_0 = true := by decide +kernel
set_option maxRecDepth 100000 in
theorem rt_d273_1 : rt_dk prog_10_method_24_code rt_i273_1 = true := by decide +kernel
set_option maxRecDepth 100000 in
theorem rt_d273_2 : rt_dk prog_10_method_24_code rt_i273_2 = true := by decide +kernel
set_option maxRecDepth 100000 in
theorem rt_d273_3 : rt_dk prog_10_method_24_code rt_i273_3 = true := by decide +kernel
set_option maxRecDepth 100000 in
theorem rt_d273_4 : rt_dk prog_10_method_24_code rt_i273_4 = true := by decide +kernel
theorem rt_D273 : ∀ c ∈ rt_m273.2.2.2.2.2.2.1, rt_dk rt_m273.2.2.2.1 c.2 = true := by
  intro c hc
  have hc : c ∈ [(0, rt_i273_0), (1, rt_i273_1), (2, rt_i273_2), (3, rt_i273_3), (4, rt_i273_4)] := hc
  simp only [List.mem_cons, List.not_mem_nil, or_false] at hc
  rcases hc with rfl | rfl | rfl | rfl | rfl
  · exact rt_d273_0
  · exact rt_d273_1
  · exact rt_d273_2
  · exact rt_d273_3
  · exact rt_d273_4
set_option maxRecDepth 100000 in
theorem rt_d274_0 : rt_dk prog_10_method_25_code rt_i274_0 = true := by decide +kernel
set_option maxRecDepth 100000 in
theorem rt_d274_1 : rt_dk prog_10_method_25_code rt_i274_1 = true := by decide +kernel
set_option maxRecDepth 100000 in
theorem rt_d274_2 : rt_dk prog_10_method_25_code rt_i274_2 = true := by decide +kernel
set_option maxRecDepth 100000 in
theorem rt_d274_3 : rt_dk prog_10_method_25_code rt_i274_3 = true := by decide +kernel
set_option maxRecDepth 100000 in
theorem rt_d274_4 : rt_dk prog_10_method_25_code rt_i274_4 = true := by decide +kernel
set_option maxRecDepth 100000 in
theorem rt_d274_5 : rt_dk prog_10_method_25_code rt_i274_5 = true := by decide +kernel
set_option maxRecDepth 100000 in
theorem rt_d274_6 : rt_dk prog_10_method_25_code rt_i274_6 = true := by decide +kernel
theorem rt_D274 : ∀ c ∈ rt_m274.2.2.2.2.2.2.1, rt_dk rt_m274.2.2.2.1 c.2 = true := by
  intro c hc
  have hc : c ∈ [(0, rt_i274_0), (1, rt_i274_1), (2, rt_i274_2), (3, rt_i274_3), (4, rt_i274_4), (5, rt_i274_5), (6, rt_i274_6)] := hc
  simp only [List.mem_cons, List.not_mem_nil, or_false] at hc
  rcases hc with rfl | rfl | rfl | rfl | rfl | rfl | rfl
  · exact rt_d274_0
  · exact rt_d274_1
  · exact rt_d274_2
  · exact rt_d274_3
  · exact rt_d274_4
  · exact rt_d274_5
  · exact rt_d274_6
set_option maxRecDepth 100000 in
theorem rt_d275_0 : rt_dk prog_10_method_26_code rt_i275_0 = true := by decide +kernel
set_option maxRecDepth 100000 in
theorem rt_d275_1 : rt_dk prog_10_method_26_code rt_i275_1 = true := by decide +kernel
theorem rt_D275 : ∀ c ∈ rt_m275.2.2.2.2.2.2.1, rt_dk rt_m275.2.2.2.1 c.2 = true := by
  intro c hc
  have hc : c ∈ [(0, rt_i275_0), (1, rt_i275_1)] := hc
  simp only [List.mem_cons, List.not_mem_nil, or_false] at hc
  rcases hc with rfl | rfl
  · exact rt_d275_0
  · exact rt_d275_1
set_option maxRecDepth 100000 in
theorem rt_d276_0 : rt_dk prog_10_method_27_code rt_i276_0 = true := by decide +kernel
set_option maxRecDepth 100000 in
theorem rt_d276_1 : rt_dk prog_10_method_27_code rt_i276_1 = true := by decide +kernel
theorem rt_D276 : ∀ c ∈ rt_m276.2.2.2.2.2.2.1, rt_dk rt_m276.2.2.2.1 c.2 = true := by
  intro c hc
  have hc : c ∈ [(0, rt_i276_0), (1, rt_i276_1)] := hc
  simp only [List.mem_cons, List.not_mem_nil, or_false] at hc
  rcases hc with rfl | rfl
  · exact rt_d276_0
  · exact rt_d276_1
set_option maxRecDepth 100000 in
theorem rt_d277_0 : rt_dk prog_10_method_28_code rt_i277_0 = true := by decide +kernel
set_option maxRecDepth 100000 in
theorem rt_d277_1 : rt_dk prog_10_method_28_code rt_i277_1 = true := by decide +kernel
set_option maxRecDepth 100000 in
theorem rt_d277_2 : rt_dk prog_10_method_28_code rt_i277_2 = true := by decide +kernel
set_option maxRecDepth 100000 in
theorem rt_d277_3 : rt_dk prog_10_method_28_code rt_i277_3 = true := by decide +kernel
set_option maxRecDepth 100000 in
theorem rt_d277_4 : rt_dk prog_10_method_28_code rt_i277_4 = true := by decide +kernel
set_option maxRecDepth 100000 in
theorem rt_d277_5 : rt_dk prog_10_method_28_code rt_i277_5 = true := by decide +kernel
set_option maxRecDepth 100000 in
theorem rt_d277_6 : rt_dk prog_10_method_28_code rt_i277_6 = true := by decide +kernel
theorem rt_D277 : ∀ c ∈ rt_m277.2.2.2.2.2.2.1, rt_dk rt_m277.2.2.2.1 c.2 = true := by
  intro c hc
  have hc : c ∈ [(0, rt_i277_0), (1, rt_i277_1), (2, rt_i277_2), (3, rt_i277_3), (4, rt_i277_4), (5, rt_i277_5), (6, rt_i277_6)] := hc
  simp only [List.mem_cons, List.not_mem_nil, or_false] at hc
  rcases hc with rfl | rfl | rfl | rfl | rfl | rfl | rfl
  · exact rt_d277_0
  · exact rt_d277_1
  · exact rt_d277_2
  · exact rt_d277_3
  · exact rt_d277_4
  · exact rt_d277_5
  · exact rt_d277_6
set_option maxRecDepth 100000 in
theorem rt_d278_0 : rt_dk prog_10_method_29_code rt_i278_0 = true := by decide +kernel
set_option maxRecDepth 100000 in
theorem rt_d278_1 : rt_dk prog_10_method_29_code rt_i278_1 = true := by decide +kernel
set_option maxRecDepth 100000 in
theorem rt_d278_2 : rt_dk prog_10_method_29_code rt_i278_2 = true := by decide +kernel
set_option maxRecDepth 100000 in
theorem rt_d278_3 : rt_dk prog_10_method_29_code rt_i278_3 = true := by decide +kernel
theorem rt_D278 : ∀ c ∈ rt_m278.2.2.2.2.2.2.1, rt_dk rt_m278.2.2.2.1 c.2 = true := by
  intro c hc
  have hc : c ∈ [(0, rt_i278_0), (1, rt_i278_1), (2, rt_i278_2), (3, rt_i278_3)] := hc
  simp only [List.mem_cons, List.not_mem_nil, or_false] at hc
  rcases hc with rfl | rfl | rfl | rfl
  · exact rt_d278_0
  · exact rt_d278_1
  · exact rt_d278_2
  · exact rt_d278_3
set_option maxRecDepth 100000 in
theorem rt_d279_0 : rt_dk prog_10_method_30_code rt_i279_0 = true := by decide +kernel
set_option maxRecDepth 100000 in
theorem rt_d279_1 : rt_dk prog_10_method_30_code rt_i279_1 = true := by decide +kernel
set_option maxRecDepth 100000 in
theorem rt_d279_2 : rt_dk prog_10_method_30_code rt_i279_2 = true := by decide +kernel
set_option maxRecDepth 100000 in
theorem rt_d279_3 : rt_dk prog_10_method_30_code rt_i279_3 = true := by decide +kernel
set_option maxRecDepth 100000 in
theorem rt_d279_4 : rt_dk prog_10_method_30_code rt_i279_4 = true := by decide +kernel
set_option maxRecDepth 100000 in
theorem rt_d279_5 : rt_dk prog_10_method_30_code rt_i279_5 = true := by decide +kernel
set_option maxRecDepth 100000 in
theorem rt_d279_6 : rt_dk prog_10_method_30_code rt_i279_6 = true := by decide +kernel
theorem rt_D279 : ∀ c ∈ rt_m279.2.2.2.2.2.2.1, rt_dk rt_m279.2.2.2.1 c.2 = true := by
  intro c hc
  have hc : c ∈ [(0, rt_i279_0), (1, rt_i279_1), (2, rt_i279_2), (3, rt_i279_3), (4, rt_i279_4), (5, rt_i279_5), (6, rt_i279_6)] := hc
  simp only [List.mem_cons, List.not_mem_nil, or_false] at hc
  rcases hc with rfl | rfl | rfl | rfl | rfl | rfl | rfl
  · exact rt_d279_0
  · exact rt_d279_1
  · exact rt_d279_2
  · exact rt_d279_3
  · exact rt_d279_4
  · exact rt_d279_5
  · exact rt_d279_6
set_option maxRecDepth 100000 in
theorem rt_d280_0 : rt_dk prog_10_method_31_code rt_i280_0 = true := by decide +kernel
theorem rt_D280 : ∀ c ∈ rt_m280.2.2.2.2.2.2.1, rt_dk rt_m280.2.2.2.1 c.2 = true := by
  intro c hc
  have hc : c ∈ [(0, rt_i280_0)] := hc
  simp only [List.mem_cons, List.not_mem_nil, or_false] at hc
  rcases hc with rfl
  · exact rt_d280_0
set_option maxRecDepth 100000 in
theorem rt_d281_0 : rt_dk prog_10_method_32_code rt_i281_0 = true := by decide +kernel
set_option maxRecDepth 100000 in
theorem rt_d281_2 : rt_dk prog_10_method_32_code rt_i281_2 = true := by decide +kernel
set_option maxRecDepth 100000 in
theorem rt_d281_3 : rt_dk prog_10_method_32_code rt_i281_3 = true := by decide +kernel
set_option maxRecDepth 100000 in
theorem rt_d281_4 : rt_dk prog_10_method_32_code rt_i281_4 = true := by decide +kernel
set_option maxRecDepth 100000 in
theorem rt_d281_5 : rt_dk prog_10_method_32_code rt_i281_5 = true := by decide +kernel
set_option maxRecDepth 100000 in
theorem rt_d281_6 : rt_dk prog_10_method_32_code rt_i281_6 = true := by decide +kernel
set_option maxRecDepth 100000 in
theorem rt_d281_7 : rt_dk prog_10_method_32_code rt_i281_7 = true := by decide +kernel
set_option maxRecDepth 100000 in
theorem rt_d281_8 : rt_dk prog_10_method_32_code rt_i281_8 = true := by decide +kernel
theorem rt_D281 : ∀ c ∈ rt_m281.2.2.2.2.2.2.1, rt_dk rt_m281.2.2.2.1 c.2 = true := by
  intro c hc
  have hc : c ∈ [(0, rt_i281_0), (2, rt_i281_2), (3, rt_i281_3), (4, rt_i281_4), (5, rt_i281_5), (6, rt_i281_6), (7, rt_i281_7), (8, rt_i281_8)] := hc
  simp only [List.mem_cons, List.not_mem_nil, or_false] at hc
  rcases hc with rfl | rfl | rfl | rfl | rfl | rfl | rfl | rfl
  · exact rt_d281_0
  · exact rt_d281_2
  · exact rt_d281_3
  · exact rt_d281_4
  · exact rt_d281_5
  · exact rt_d281_6
  · exact rt_d281_7
  · exact rt_d281_8
set_option maxRecDepth 100000 in
theorem rt_d282_0 : rt_dk prog_10_method_33_code rt_i282_0 = true := by decide +kernel
set_option maxRecDepth 100000 in
theorem rt_d282_1 : rt_dk prog_10_method_33_code rt_i282_1 = true := by decide +kernel
set_option maxRecDepth 100000 in
theorem rt_d282_2 : rt_dk prog_10_method_33_code rt_i282_2 = true := by decide +kernel
set_option maxRecDepth 100000 in
theorem rt_d282_3 : rt_dk prog_10_method_33_code rt_i282_3 = true := by decide +kernel
set_option maxRecDepth 100000 in
theorem rt_d282_4 : rt_dk prog_10_method_33_code rt_i282_4 = true := by decide +kernel
theorem rt_D282 : ∀ c ∈ rt_m282.2.2.2.2.2.2.1, rt_dk rt_m282.2.2.2.1 c.2 = true := by
  intro c hc
  have hc : c ∈ [(0, rt_i282_0), (1, rt_i282_1), (2, rt_i282_2), (3, rt_i282_3), (4, rt_i282_4)] := hc
  simp only [List.mem_cons, List.not_mem_nil, or_false] at hc
  rcases hc with rfl | rfl | rfl | rfl | rfl
  · exact rt_d282_0
  · exact rt_d282_1
  · exact rt_d282_2
  · exact rt_d282_3
  · exact rt_d282_4
set_option maxRecDepth 100000 in
theorem rt_d283_0 : rt_dk prog_10_method_34_code rt_i283_0 = true := by decide +kernel
set_option maxRecDepth 100000 in
theorem rt_d283_1 : rt_dk prog_10_method_34_code rt_i283_1 = true := by decide +kernel
set_option maxRecDepth 100000 in
theorem rt_d283_2 : rt_dk prog_10_method_34_code rt_i283_2 = true := by decide +kernel
set_option maxRecDepth 100000 in
theorem rt_d283_3 : rt_dk prog_10_method_34_code rt_i283_3 = true := by decide +kernel
theorem rt_D283 : ∀ c ∈ rt_m283.2.2.2.2.2.2.1, rt_dk rt_m283.2.2.2.1 c.2 = true := by
  intro c hc
  have hc : c ∈ [(0, rt_i283_0), (1, rt_i283_1), (2, rt_i283_2), (3, rt_i283_3)] := hc
  simp only [List.mem_cons, List.not_mem_nil, or_false] at hc
  rcases hc with rfl | rfl | rfl | rfl
  · exact rt_d283_0
  · exact rt_d283_1
  · exact rt_d283_2
  · exact rt_d283_3
set_option maxRecDepth 100000 in
theorem rt_d284_0 : rt_dk prog_10_method_35_code rt_i284_0 = true := by decide +kernel
set_option maxRecDepth 100000 in
theorem rt_d284_1 : rt_dk prog_10_method_35_code rt_i284_1 = true := by decide +kernel
theorem rt_D284 : ∀ c ∈ rt_m284.2.2.2.2.2.2.1, rt_dk rt_m284.2.2.2.1 c.2 = true := by
  intro c hc
  have hc : c ∈ [(0, rt_i284_0), (1, rt_i284_1)] := hc
  simp only [List.mem_cons, List.not_mem_nil, or_false] at hc
  rcases hc with rfl | rfl
  · exact rt_d284_0
  · exact rt_d284_1
set_option maxRecDepth 100000 in
theorem rt_d285_0 : rt_dk prog_10_method_36_code rt_i285_0 = true := by decide +kernel
set_option maxRecDepth 100000 in
theorem rt_d285_1 : rt_dk prog_10_method_36_code rt_i285_1 = true := by decide +kernel
set_option maxRecDepth 100000 in
theorem rt_d285_2 : rt_dk prog_10_method_36_code rt_i285_2 = true := by decide +kernel
theorem rt_D285 : ∀ c ∈ rt_m285.2.2.2.2.2.2.1, rt_dk rt_m285.2.2.2.1 c.2 = true := by
  intro c hc
  have hc : c ∈ [(0, rt_i285_0), (1, rt_i285_1), (2, rt_i285_2)] := hc
  simp only [List.mem_cons, List.not_mem_nil, or_false] at hc
  rcases hc with rfl | rfl | rfl
  · exact rt_d285_0
  · exact rt_d285_1
  · exact rt_d285_2
set_option maxRecDepth 100000 in
theorem rt_d286_0 : rt_dk prog_10_method_37_code rt_i286_0 = true := by decide +kernel
set_option maxRecDepth 100000 in
theorem rt_d286_1 : rt_dk prog_10_method_37_code rt_i286_1 = true := by decide +kernel
set_option maxRecDepth 100000 in
theorem rt_d286_2 : rt_dk prog_10_method_37_code rt_i286_2 = true := by decide +kernel
theorem rt_D286 : ∀ c ∈ rt_m286.2.2.2.2.2.2.1, rt_dk rt_m286.2.2.2.1 c.2 = true := by
  intro c hc
  have hc : c ∈ [(0, rt_i286_0), (1, rt_i286_1), (2, rt_i286_2)] := hc
  simp only [List.mem_cons, List.not_mem_nil, or_false] at hc
  rcases hc with rfl | rfl | rfl
  · exact rt_d286_0
  · exact rt_d286_1
  · exact rt_d286_2
set_option maxRecDepth 100000 in
theorem rt_d287_0 : rt_dk prog_10_method_38_code rt_i287_0 = true := by decide +kernel
set_option maxRecDepth 100000 in
theorem rt_d287_1 : rt_dk prog_10_method_38_code rt_i287_1 = true := by decide +kernel
set_option maxRecDepth 100000 in
theorem rt_d287_2 : rt_dk prog_10_method_38_code rt_i287_2 = true := by decide +kernel
set_option maxRecDepth 100000 in
theorem rt_d287_3 : rt_dk prog_10_method_38_code rt_i287_3 = true := by decide +kernel
set_option maxRecDepth 100000 in
theorem rt_d287_4 : rt_dk prog_10_method_38_code rt_i287_4 = true := by decide +kernel
set_option maxRecDepth 100000 in
theorem rt_d287_5 : rt_dk prog_10_method_38_code rt_i287_5 = true := by decide +kernel
set_option maxRecDepth 100000 in
theorem rt_d287_6 : rt_dk prog_10_method_38_code rt_i287_6 = true := by decide +kernel
set_option maxRecDepth 100000 in
theorem rt_d287_7 : rt_dk prog_10_method_38_code rt_i287_7 = true := by decide +kernel
set_option maxRecDepth 100000 in
theorem rt_d287_8 : rt_dk prog_10_method_38_code rt_i287_8 = true := by decide +kernel
theorem rt_D287 : ∀ c ∈ rt_m287.2.2.2.2.2.2.1, rt_dk rt_m287.2.2.2.1 c.2 = true := by
  intro c hc
  have hc : c ∈ [(0, rt_i287_0), (1, rt_i287_1), (2, rt_i287_2), (3, rt_i287_3), (4, rt_i287_4), (5, rt_i287_5), (6, rt_i287_6), (7, rt_i287_7), (8, rt_i287_8)] := hc
  simp only [List.mem_cons, List.not_mem_nil, or_false] at hc
  rcases hc with rfl | rfl | rfl | rfl | rfl | rfl | rfl | rfl | rfl
  · exact rt_d287_0
  · exact rt_d287_1
  · exact rt_d287_2
  · exact rt_d287_3
  · exact rt_d287_4
  · exact rt_d287_5
  · exact rt_d287_6
  · exact rt_d287_7
  · exact rt_d287_8
set_option maxRecDepth 100000 in
theorem rt_d288_0 : rt_dk prog_10_method_39_code rt_i288_0 = true := by decide +kernel
set_option maxRecDepth 100000 in
theorem rt_d288_1 : rt_dk prog_10_method_39_code rt_i288_1 = true := by decide +kernel
theorem rt_D288 : ∀ c ∈ rt_m288.2.2.2.2.2.2.1, rt_dk rt_m288.2.2.2.1 c.2 = true := by
  intro c hc
  have hc : c ∈ [(0, rt_i288_0), (1, rt_i288_1)] := hc
  simp only [List.mem_cons, List.not_mem_nil, or_false] at hc
  rcases hc with rfl | rfl
  · exact rt_d288_0
  · exact rt_d288_1
set_option maxRecDepth 100000 in
theorem rt_d289_0 : rt_dk prog_10_method_40_code rt_i289_0 = true := by decide +kernel
set_option maxRecDepth 100000 in
theorem rt_d289_1 : rt_dk prog_10_method_40_code rt_i289_1 = true := by decide +kernel
theorem rt_D289 : ∀ c ∈ rt_m289.2.2.2.2.2.2.1, rt_dk rt_m289.2.2.2.1 c.2 = true := by
  intro c hc
  have hc : c ∈ [(0, rt_i289_0), (1, rt_i289_1)] := hc
  simp only [List.mem_cons, List.not_mem_nil, or_false] at hc
  rcases hc with rfl | rfl
  · exact rt_d289_0
  · exact rt_d289_1
set_option maxRecDepth 100000 in
theorem rt_d290_0 : rt_dk prog_10_method_41_code rt_i290_0 = true := by decide +kernel
set_option maxRecDepth 100000 in
theorem rt_d290_1 : rt_dk prog_10_method_41_code rt_i290_1 = true := by decide +kernel
set_option maxRecDepth 100000 in
theorem rt_d290_2 : rt_dk prog_10_method_41_code rt_i290_2 = true := by decide +kernel
set_option maxRecDepth 100000 in
theorem rt_d290_3 : rt_dk prog_10_method_41_code rt_i290_3 = true := by decide +kernel
set_option maxRecDepth 100000 in
theorem rt_d290_4 : rt_dk prog_10_method_41_code rt_i290_4 = true := by decide +kernel
set_option maxRecDepth 100000 in
theorem rt_d290_5 : rt_dk prog_10_method_41_code rt_i290_5 = true := by decide +kernel
theorem rt_D290 : ∀ c ∈ rt_m290.2.2.2.2.2.2.1, rt_dk rt_m290.2.2.2.1 c.2 = true := by
  intro c hc
  have hc : c ∈ [(0, rt_i290_0), (1, rt_i290_1), (2, rt_i290_2), (3, rt_i290_3), (4, rt_i290_4), (5, rt_i290_5)] := hc
  simp only [List.mem_cons, List.not_mem_nil, or_false] at hc
  rcases hc with rfl | rfl | rfl | rfl | rfl | rfl
  · exact rt_d290_0
  · exact rt_d290_1
  · exact rt_d290_2
  · exact rt_d290_3
  · exact rt_d290_4
  · exact rt_d290_5
set_option maxRecDepth 100000 in
theorem rt_d291_0 : rt_dk prog_10_method_42_code rt_i291_0 = true := by decide +kernel
set_option maxRecDepth 100000 in
theorem rt_d291_1 : rt_dk prog_10_method_42_code rt_i291_1 = true := by decide +kernel
set_option maxRecDepth 100000 in
theorem rt_d291_2 : rt_dk prog_10_method_42_code rt_i291_2 = true := by decide +kernel
theorem rt_D291 : ∀ c ∈ rt_m291.2.2.2.2.2.2.1, rt_dk rt_m291.2.2.2.1 c.2 = true := by
  intro c hc
  have hc : c ∈ [(0, rt_i291_0), (1, rt_i291_1), (2, rt_i291_2)] := hc
  simp only [List.mem_cons, List.not_mem_nil, or_false] at hc
  rcases hc with rfl | rfl | rfl
  · exact rt_d291_0
  · exact rt_d291_1
  · exact rt_d291_2
set_option maxRecDepth 100000 in
theorem rt_d292_0 : rt_dk prog_10_method_43_code rt_i292_0 = true := by decide +kernel
set_option maxRecDepth 100000 in
theorem rt_d292_1 : rt_dk prog_10_method_43_code rt_i292_1 = true := by decide +kernel
set_option maxRecDepth 100000 in
theorem rt_d292_2 : rt_dk prog_10_method_43_code rt_i292_2 = true := by decide +kernel
theorem rt_D292 : ∀ c ∈ rt_m292.2.2.2.2.2.2.1, rt_dk rt_m292.2.2.2.1 c.2 = true := by
  intro c hc
  have hc : c ∈ [(0, rt_i292_0), (1, rt_i292_1), (2, rt_i292_2)] := hc
  simp only [List.mem_cons, List.not_mem_nil, or_false] at hc
  rcases hc with rfl | rfl | rfl
  · exact rt_d292_0
  · exact rt_d292_1
  · exact rt_d292_2
set_option maxRecDepth 100000 in
theorem rt_d293_0 : rt_dk prog_10_method_44_code rt_i293_0 = true := by decide +kernel
set_option maxRecDepth 100000 in
theorem rt_d293_1 : rt_dk prog_10_method_44_code rt_i293_1 = true := by decide +kernel
set_option maxRecDepth 100000 in
theorem rt_d293_2 : rt_dk prog_10_method_44_code rt_i293_2 = true := by decide +kernel
theorem rt_D293 : ∀ c ∈ rt_m293.2.2.2.2.2.2.1, rt_dk rt_m293.2.2.2.1 c.2 = true := by
  intro c hc
  have hc : c ∈ [(0, rt_i293_0), (1, rt_i293_1), (2, rt_i293_2)] := hc
  simp only [List.mem_cons, List.not_mem_nil, or_false] at hc
  rcases hc with rfl | rfl | rfl
  · exact rt_d293_0
  · exact rt_d293_1
  · exact rt_d293_2
set_option maxRecDepth 100000 in
theorem rt_d294_0 : rt_dk prog_10_method_45_code rt_i294_0 = true := by decide +kernel
set_option maxRecDepth 100000 in
theorem rt_d294_1 : rt_dk prog_10_method_45_code rt_i294_1 = true := by decide +kernel
set_option maxRecDepth 100000 in
theorem rt_d294_2 : rt_dk prog_10_method_45_code rt_i294_2 = true := by decide +kernel
set_option maxRecDepth 100000 in
theorem rt_d294_3 : rt_dk prog_10_method_45_code rt_i294_3 = true := by decide +kernel
set_option maxRecDepth 100000 in
theorem rt_d294_4 : rt_dk prog_10_method_45_code rt_i294_4 = true := by decide +kernel
set_option maxRecDepth 100000 in
theorem rt_d294_5 : rt_dk prog_10_method_45_code rt_i294_5 = true := by decide +kernel
theorem rt_D294 : ∀ c ∈ rt_m294.2.2.2.2.2.2.1, rt_dk rt_m294.2.2.2.1 c.2 = true := by
  intro c hc
  have hc : c ∈ [(0, rt_i294_0), (1, rt_i294_1), (2, rt_i294_2), (3, rt_i294_3), (4, rt_i294_4), (5, rt_i294_5)] := hc
  simp only [List.mem_cons, List.not_mem_nil, or_false] at hc
  rcases hc with rfl | rfl | rfl | rfl | rfl | rfl
  · exact rt_d294_0
  · exact rt_d294_1
  · exact rt_d294_2
  · exact rt_d294_3
  · exact rt_d294_4
  · exact rt_d294_5
set_option maxRecDepth 100000 in
theorem rt_d295_0 : rt_dk prog_10_method_46_code rt_i295_0 = true := by decide +kernel
set_option maxRecDepth 100000 in
theorem rt_d295_1 : rt_dk prog_10_method_46_code rt_i295_1 = true := by decide +kernel
set_option maxRecDepth 100000 in
theorem rt_d295_2 : rt_dk prog_10_method_46_code rt_i295_2 = true := by decide +kernel
theorem rt_D295 : ∀ c ∈ rt_m295.2.2.2.2.2.2.1, rt_dk rt_m295.2.2.2.1 c.2 = true := by
  intro c hc
  have hc : c ∈ [(0, rt_i295_0), (1, rt_i295_1), (2, rt_i295_2)] := hc
  simp only [List.mem_cons, List.not_mem_nil, or_false] at hc
  rcases hc with rfl | rfl | rfl
  · exact rt_d295_0
  · exact rt_d295_1
  · exact rt_d295_2
set_option maxRecDepth 100000 in
theorem rt_d296_0 : rt_dk prog_10_method_47_code rt_i296_0 = true := by decide +kernel
set_option maxRecDepth 100000 in
theorem rt_d296_1 : rt_dk prog_10_method_47_code rt_i296_1 = true := by decide +kernel
theorem rt_D296 : ∀ c ∈ rt_m296.2.2.2.2.2.2.1, rt_dk rt_m296.2.2.2.1 c.2 = true := by
  intro c hc
  have hc : c ∈ [(0, rt_i296_0), (1, rt_i296_1)] := hc
  simp only [List.mem_cons, List.not_mem_nil, or_false] at hc
  rcases hc with rfl | rfl
  · exact rt_d296_0
  · exact rt_d296_1
set_option maxRecDepth 100000 in
theorem rt_d297_0 : rt_dk prog_10_method_48_code rt_i297_0 = true := by decide +kernel
set_option maxRecDepth 100000 in
theorem rt_d297_1 : rt_dk prog_10_method_48_code rt_i297_1 = true := by decide +kernel
set_option maxRecDepth 100000 in
theorem rt_d297_2 : rt_dk prog_10_method_48_code rt_i297_2 = true := by decide +kernel
theorem rt_D297 : ∀ c ∈ rt_m297.2.2.2.2.2.2.1, rt_dk rt_m297.2.2.2.1 c.2 = true := by
  intro c hc
  have hc : c ∈ [(0, rt_i297_0), (1, rt_i297_1), (2, rt_i297_2)] := hc
  simp only [List.mem_cons, List.not_mem_nil, or_false] at hc
  rcases hc with rfl | rfl | rfl
  · exact rt_d297_0
  · exact rt_d297_1
  · exact rt_d297_2
set_option maxRecDepth 100000 in
theorem rt_d298_0 : rt_dk prog_11_method_3_code rt_i298_0 = true := by decide +kernel
set_option maxRecDepth 100000 in
theorem rt_d298_1 : rt_dk prog_11_method_3_code rt_i298_1 = true := by decide +kernel
theorem rt_D298 : ∀ c ∈ rt_m298.2.2.2.2.2.2.1, rt_dk rt_m298.2.2.2.1 c.2 = true := by
  intro c hc
  have hc : c ∈ [(0, rt_i298_0), (1, rt_i298_1)] := hc
  simp only [List.mem_cons, List.not_mem_nil, or_false] at hc
  rcases hc with rfl | rfl
  · exact rt_d298_0
  · exact rt_d298_1
set_option maxRecDepth 100000 in
theorem rt_d299_0 : rt_dk prog_11_method_6_code rt_i299_0 = true := by decide +kernel
theorem rt_D299 : ∀ c ∈ rt_m299.2.2.2.2.2.2.1, rt_dk rt_m299.2.2.2.1 c.2 = true := by
  intro c hc
  have hc : c ∈ [(0, rt_i299_0)] := hc
  simp only [List.mem_cons, List.not_mem_nil, or_false] at hc
  rcases hc with rfl
  · exact rt_d299_0
set_option maxRecDepth 100000 in
theorem rt_d300_0 : rt_dk prog_11_method_7_code rt_i300_0 = true := by decide +kernel
set_option maxRecDepth 100000 in
theorem rt_d300_1 : rt_dk prog_11_method_7_code rt_i300_1 = true := by decide +kernel
set_option maxRecDepth 100000 in
theorem rt_d300_2 : rt_dk prog_11_method_7_code rt_i300_2 = true := by decide +kernel
set_option maxRecDepth 100000 in
theorem rt_d300_3 : rt_dk prog_11_method_7_code rt_i300_3 = true := by decide +kernel
set_option maxRecDepth 100000 in
theorem rt_d300_4 : rt_dk prog_11_method_7_code rt_i300_4 = true := by decide +kernel
set_option maxRecDepth 100000 in
theorem rt_d300_5 : rt_dk prog_11_method_7_code rt_i300_5 = true := by decide +kernel
theorem rt_D300 : ∀ c ∈ rt_m300.2.2.2.2.2.2.1, rt_dk rt_m300.2.2.2.1 c.2 = true := by
  intro c hc
  have hc : c ∈ [(0, rt_i300_0), (1, rt_i300_1), (2, rt_i300_2), (3, rt_i300_3), (4, rt_i300_4), (5, rt_i300_5)] := hc
  simp only [List.mem_cons, List.not_mem_nil, or_false] at hc
  rcases hc with rfl | rfl | rfl | rfl | rfl | rfl
  · exact rt_d300_0
  · exact rt_d300_1
  · exact rt_d300_2
  · exact rt_d300_3
  · exact rt_d300_4
  · exact rt_d300_5
set_option maxRecDepth 100000 in
theorem rt_d301_0 : rt_dk prog_11_method_8_code rt_i301_0 = true := by decide +kernel
set_option maxRecDepth 100000 in
theorem rt_d301_1 : rt_dk prog_11_method_8_code rt_i301_1 = true := by decide +kernel
theorem rt_D301 : ∀ c ∈ rt_m301.2.2.2.2.2.2.1, rt_dk rt_m301.2.2.2.1 c.2 = true := by
  intro c hc
  have hc : c ∈ [(0, rt_i301_0), (1, rt_i301_1)] := hc
  simp only [List.mem_cons, List.not_mem_nil, or_false] at hc
  rcases hc with rfl | rfl
  · exact rt_d301_0
  · exact rt_d301_1
set_option maxRecDepth 100000 in
theorem rt_d302_0 : rt_dk prog_11_method_9_code rt_i302_0 = true := by decide +kernel
set_option maxRecDepth 100000 in
theorem rt_d302_1 : rt_dk prog_11_method_9_code rt_i302_1 = true := by decide +kernel
theorem rt_D302 : ∀ c ∈ rt_m302.2.2.2.2.2.2.1, rt_dk rt_m302.2.2.2.1 c.2 = true := by
  intro c hc
  have hc : c ∈ [(0, rt_i302_0), (1, rt_i302_1)] := hc
  simp only [List.mem_cons, List.not_mem_nil, or_false] at hc
  rcases hc with rfl | rfl
  · exact rt_d302_0
  · exact rt_d302_1
set_option maxRecDepth 100000 in
theorem rt_d303_0 : rt_dk prog_11_method_10_code rt_i303_0 = true := by decide +kernel
set_option maxRecDepth 100000 in
theorem rt_d303_1 : rt_dk prog_11_method_10_code rt_i303_1 = true := by decide +kernel
set_option maxRecDepth 100000 in
theorem rt_d303_2 : rt_dk prog_11_method_10_code rt_i303_2 = true := by decide +kernel
set_option maxRecDepth 100000 in
theorem rt_d303_3 : rt_dk prog_11_method_10_code rt_i303_3 = true := by decide +kernel
set_option maxRecDepth 100000 in
theorem rt_d303_4 : rt_dk prog_11_method_10_code rt_i303_4 = true := by decide +kernel
set_option maxRecDepth 100000 in
theorem rt_d303_5 : rt_dk prog_11_method_10_code rt_i303_5 = true := by decide +kernel
set_option maxRecDepth 100000 in
theorem rt_d303_6 : rt_dk prog_11_method_10_code rt_i303_6 = true := by decide +kernel
theorem rt_D303 : ∀ c ∈ rt_m303.2.2.2.2.2.2.1, rt_dk rt_m303.2.2.2.1 c.2 = true := by
  intro c hc
  have hc : c ∈ [(0, rt_i303_0), (1, rt_i303_1), (2, rt_i303_2), (3, rt_i303_3), (4, rt_i303_4), (5, rt_i303_5), (6, rt_i303_6)] := hc
  simp only [List.mem_cons, List.not_mem_nil, or_false] at hc
  rcases hc with rfl | rfl | rfl | rfl | rfl | rfl | rfl
  · exact rt_d303_0
  · exact rt_d303_1
  · exact rt_d303_2
  · exact rt_d303_3
  · exact rt_d303_4
  · exact rt_d303_5
  · exact rt_d303_6
set_option maxRecDepth 100000 in
theorem rt_d304_0 : rt_dk prog_11_method_11_code rt_i304_0 = true := by decide +kernel
theorem rt_D304 : ∀ c ∈ rt_m304.2.2.2.2.2.2.1, rt_dk rt_m304.2.2.2.1 c.2 = true := by
  intro c hc
  have hc : c ∈ [(0, rt_i304_0)] := hc
  simp only [List.mem_cons, List.not_mem_nil, or_false] at hc
  rcases hc with rfl
  · exact rt_d304_0
set_option maxRecDepth 100000 in
theorem rt_d305_0 : rt_dk prog_11_method_12_code rt_i305_0 = true := by decide +kernel
theorem rt_D305 : ∀ c ∈ rt_m305.2.2.2.2.2.2.1, rt_dk rt_m305.2.2.2.1 c.2 = true := by
  intro c hc
  have hc : c ∈ [(0, rt_i305_0)] := hc
  simp only [List.mem_cons, List.not_mem_nil, or_false] at hc
  rcases hc with rfl
  · exact rt_d305_0
set_option maxRecDepth 100000 in
theorem rt_d306_0 : rt_dk prog_11_method_13_code rt_i306_0 = true := by decide +kernel
set_option maxRecDepth 100000 in
theorem rt_d306_1 : rt_dk prog_11_method_13_code rt_i306_1 = true := by decide +kernel
theorem rt_D306 : ∀ c ∈ rt_m306.2.2.2.2.2.2.1, rt_dk rt_m306.2.2.2.1 c.2 = true := by
  intro c hc
  have hc : c ∈ [(0, rt_i306_0), (1, rt_i306_1)] := hc
  simp only [List.mem_cons, List.not_mem_nil, or_false] at hc
  rcases hc with rfl | rfl
  · exact rt_d306_0
  · exact rt_d306_1
set_option maxRecDepth 100000 in
theorem rt_d307_0 : rt_dk prog_11_method_14_code rt_i307_0 = true := by decide +kernel
set_option maxRecDepth 100000 in
theorem rt_d307_1 : rt_dk prog_11_method_14_code rt_i307_1 = true := by decide +kernel
theorem rt_D307 : ∀ c ∈ rt_m307.2.2.2.2.2.2.1, rt_dk rt_m307.2.2.2.1 c.2 = true := by
  intro c hc
  have hc : c ∈ [(0, rt_i307_0), (1, rt_i307_1)] := hc
  simp only [List.mem_cons, List.not_mem_nil, or_false] at hc
  rcases hc with rfl | rfl
  · exact rt_d307_0
  · exact rt_d307_1
set_option maxRecDepth 100000 in
theorem rt_d308_0 : rt_dk prog_11_method_15_code rt_i308_0 = true := by decide +kernel
set_option maxRecDepth 100000 in
theorem rt_d308_1 : rt_dk prog_11_method_15_code rt_i308_1 = true := by decide +kernel
set_option maxRecDepth 100000 in
theorem rt_d308_2 : rt_dk prog_11_method_15_code rt_i308_2 = true := by decide +kernel
theorem rt_D308 : ∀ c ∈ rt_m308.2.2.2.2.2.2.1, rt_dk rt_m308.2.2.2.1 c.2 = true := by
  intro c hc
  have hc : c ∈ [(0, rt_i308_0), (1, rt_i308_1), (2, rt_i308_2)] := hc
  simp only [List.mem_cons, List.not_mem_nil, or_false] at hc
  rcases hc with rfl | rfl | rfl
  · exact rt_d308_0
  · exact rt_d308_1
  · exact rt_d308_2
set_option maxRecDepth 100000 in
theorem rt_d309_0 : rt_dk prog_11_method_16_code rt_i309_0 = true := by decide +kernel
set_option maxRecDepth 100000 in
theorem rt_d309_1 : rt_dk prog_11_method_16_code rt_i309_1 = true := by decide +kernel
theorem rt_D309 : ∀ c ∈ rt_m309.2.2.2.2.2.2.1, rt_dk rt_m309.2.2.2.1 c.2 = true := by
  intro c hc
  have hc : c ∈ [(0, rt_i309_0), (1, rt_i309_1)] := hc
  simp only [List.mem_cons, List.not_mem_nil, or_false] at hc
  rcases hc with rfl | rfl
  · exact rt_d309_0
  · exact rt_d309_1
set_option maxRecDepth 100000 in
theorem rt_d310_0 : rt_dk prog_11_method_17_code rt_i310_0 = true := by decide +kernel
set_option maxRecDepth 100000 in
theorem rt_d310_1 : rt_dk prog_11_method_17_code rt_i310_1 = true := by decide +kernel
set_option maxRecDepth 100000 in
theorem rt_d310_2 : rt_dk prog_11_method_17_code rt_i310_2 = true := by decide +kernel
theorem rt_D310 : ∀ c ∈ rt_m310.2.2.2.2.2.2.1, rt_dk rt_m310.2.2.2.1 c.2 = true := by
  intro c hc
  have hc : c ∈ [(0, rt_i310_0), (1, rt_i310_1), (2, rt_i310_2)] := hc
  simp only [List.mem_cons, List.not_mem_nil, or_false] at hc
  rcases hc with rfl | rfl | rfl
  · exact rt_d310_0
  · exact rt_d310_1
  · exact rt_d310_2
set_option maxRecDepth 100000 in
theorem rt_d311_0 : rt_dk prog_11_method_18_code rt_i311_0 = true := by decide +kernel
set_option maxRecDepth 100000 in
theorem rt_d311_1 : rt_dk prog_11_method_18_code rt_i311_1 = true := by decide +kernel
set_option maxRecDepth 100000 in
theorem rt_d311_2 : rt_dk prog_11_method_18_code rt_i311_2 = true := by decide +kernel
set_option maxRecDepth 100000 in
theorem rt_d311_3 : rt_dk prog_11_method_18_code rt_i311_3 = true := by decide +kernel
set_option maxRecDepth 100000 in
theorem rt_d311_4 : rt_dk prog_11_method_18_code rt_i311_4 = true := by decide +kernel
theorem rt_D311 : ∀ c ∈ rt_m311.2.2.2.2.2.2.1, rt_dk rt_m311.2.2.2.1 c.2 = true := by
  intro c hc
  have hc : c ∈ [(0, rt_i311_0), (1, rt_i311_1), (2, rt_i311_2), (3, rt_i311_3), (4, rt_i311_4)] := hc
  simp only [List.mem_cons, List.not_mem_nil, or_false] at hc
  rcases hc with rfl | rfl | rfl | rfl | rfl
  · exact rt_d311_0
  · exact rt_d311_1
  · exact rt_d311_2
  · exact rt_d311_3
  · exact rt_d311_4
set_option maxRecDepth 100000 in
theorem rt_d312_0 : rt_dk prog_11_method_19_code rt_i312_0 = true := by decide +kernel
set_option maxRecDepth 100000 in
theorem rt_d312_1 : rt_dk prog_11_method_19_code rt_i312_1 = true := by decide +kernel
set_option maxRecDepth 100000 in
theorem rt_d312_2 : rt_dk prog_11_method_19_code rt_i312_2 = true := by decide +kernel
theorem rt_D312 : ∀ c ∈ rt_m312.2.2.2.2.2.2.1, rt_dk rt_m312.2.2.2.1 c.2 = true := by
  intro c hc
  have hc : c ∈ [(0, rt_i312_0), (1, rt_i312_1), (2, rt_i312_2)] := hc
  simp only [List.mem_cons, List.not_mem_nil, or_false] at hc
  rcases hc with rfl | rfl | rfl
  · exact rt_d312_0
  · exact rt_d312_1
  · exact rt_d312_2
set_option maxRecDepth 100000 in
theorem rt_d313_0 : rt_dk prog_11_method_20_code rt_i313_0 = true := by decide +kernel
set_option maxRecDepth 100000 in
theorem rt_d313_1 : rt_dk prog_11_method_20_code rt_i313_1 = true := by decide +kernel
set_option maxRecDepth 100000 in
theorem rt_d313_3 : rt_dk prog_11_method_20_code rt_i313_3 = true := by decide +kernel
set_option maxRecDepth 100000 in
theorem rt_d313_4 : rt_dk prog_11_method_20_code rt_i313_4 = true := by decide +kernel
set_option maxRecDepth 100000 in
theorem rt_d313_5 : rt_dk prog_11_method_20_code rt_i313_5 = true := by decide +kernel
set_option maxRecDepth 100000 in
theorem rt_d313_6 : rt_dk prog_11_method_20_code rt_i313_6 = true := by decide +kernel
set_option maxRecDepth 100000 in
theorem rt_d313_7 : rt_dk prog_11_method_20_code rt_i313_7 = true := by decide +kernel
set_option maxRecDepth 100000 in
theorem rt_d313_8 : rt_dk prog_11_method_20_code rt_i313_8 = true := by decide +kernel
set_option maxRecDepth 100000 in
theorem rt_d313_9 : rt_dk prog_11_method_20_code rt_i313_9 = true := by decide +kernel
set_option maxRecDepth 100000 in
theorem rt_d313_10 : rt_dk prog_11_method_20_code rt_i313_10 = true := by decide +kernel
set_option maxRecDepth 100000 in
theorem rt_d313_11 : rt_dk prog_11_method_20_code rt_i313_11 = true := by decide +kernel
set_option maxRecDepth 100000 in
theorem rt_d313_12 : rt_dk prog_11_method_20_code rt_i313_12 = true := by decide +kernel
theorem rt_D313 : ∀ c ∈ rt_m313.2.2.2.2.2.2.1, rt_dk rt_m313.2.2.2.1 c.2 = true := by
  intro c hc
  have hc : c ∈ [(0, rt_i313_0), (1, rt_i313_1), (3, rt_i313_3), (4, rt_i313_4), (5, rt_i313_5), (6, rt_i313_6), (7, rt_i313_7), (8, rt_i313_8), (9, rt_i313_9), (10, rt_i313_10), (11, rt_i313_11), (12, rt_i313_12)] := hc
  simp only [List.mem_cons, List.not_mem_nil, or_false] at hc
  rcases hc with rfl | rfl | rfl | rfl | rfl | rfl | rfl | rfl | rfl | rfl | rfl | rfl
  · exact rt_d313_0
  · exact rt_d313_1
  · exact rt_d313_3
  · exact rt_d313_4
  · exact rt_d313_5
  · exact rt_d313_6
  · exact rt_d313_7
  · exact rt_d313_8
  · exact rt_d313_9
  · exact rt_d313_10
  · exact rt_d313_11
  · exact rt_d313_12
set_option maxRecDepth 100000 in
theorem rt_d314_0 : rt_dk prog_11_method_21_code rt_i314_0 = true := by decide +kernel
theorem rt_D314 : ∀ c ∈ rt_m314.2.2.2.2.2.2.1, rt_dk rt_m314.2.2.2.1 c.2 = true := by
  intro c hc
  have hc : c ∈ [(0, rt_i314_0)] := hc
  simp only [List.mem_cons, List.not_mem_nil, or_false] at hc
  rcases hc with rfl
  · exact rt_d314_0
set_option maxRecDepth 100000 in
theorem rt_d315_0 : rt_dk prog_11_method_22_code rt_i315_0 = true := by decide +kernel
set_option maxRecDepth 100000 in
theorem rt_d315_1 : rt_dk prog_11_method_22_code rt_i315_1 = true := by decide +kernel
set_option maxRecDepth 100000 in
theorem rt_d315_2 : rt_dk prog_11_method_22_code rt_i315_2 = true := by decide +kernel
set_option maxRecDepth 100000 in
theorem rt_d315_3 : rt_dk prog_11_method_22_code rt_i315_3 = true := by decide +kernel
theorem rt_D315 : ∀ c ∈ rt_m315.2.2.2.2.2.2.1, rt_dk rt_m315.2.2.2.1 c.2 = true := by
  intro c hc
  have hc : c ∈ [(0, rt_i315_0), (1, rt_i315_1), (2, rt_i315_2), (3, rt_i315_3)] := hc
  simp only [List.mem_cons, List.not_mem_nil, or_false] at hc
  rcases hc with rfl | rfl | rfl | rfl
  · exact rt_d315_0
  · exact rt_d315_1
  · exact rt_d315_2
  · exact rt_d315_3
set_option maxRecDepth 100000 in
theorem rt_d316_0 : rt_dk prog_11_method_24_code rt_i316_0 = true := by decide +kernel
theorem rt_D316 : ∀ c ∈ rt_m316.2.2.2.2.2.2.1, rt_dk rt_m316.2.2.2.1 c.2 = true := by
  intro c hc
  have hc : c ∈ [(0, rt_i316_0)] := hc
  simp only [List.mem_cons, List.not_mem_nil, or_false] at hc
  rcases hc with rfl
  · exact rt_d316_0
set_option maxRecDepth 100000 in
theorem rt_d317_0 : rt_dk prog_12_method_2_code rt_i317_0 = true := by decide +kernel
theorem rt_D317 : ∀ c ∈ rt_m317.2.2.2.2.2.2.1, rt_dk rt_m317.2.2.2.1 c.2 = true := by
  intro c hc
  have hc : c ∈ [(0, rt_i317_0)] := hc
  simp only [List.mem_cons, List.not_mem_nil, or_false] at hc
  rcases hc with rfl
  · exact rt_d317_0
set_option maxRecDepth 100000 in
theorem rt_d318_0 : rt_dk prog_12_method_3_code rt_i318_0 = true := by decide +kernel
set_option maxRecDepth 100000 in
theorem rt_d318_1 : rt_dk prog_12_method_3_code rt_i318_1 = true := by decide +kernel
theorem rt_D318 : ∀ c ∈ rt_m318.2.2.2.2.2.2.1, rt_dk rt_m318.2.2.2.1 c.2 = true := by
  intro c hc
  have hc : c ∈ [(0, rt_i318_0), (1, rt_i318_1)] := hc
  simp only [List.mem_cons, List.not_mem_nil, or_false] at hc
  rcases hc with rfl | rfl
  · exact rt_d318_0
  · exact rt_d318_1
set_option maxRecDepth 100000 in
theorem rt_d319_0 : rt_dk prog_12_method_4_code rt_i319_0 = true := by decide +kernel
set_option maxRecDepth 100000 in
theorem rt_d319_1 : rt_dk prog_12_method_4_code rt_i319_1 = true := by decide +kernel
set_option maxRecDepth 100000 in
theorem rt_d319_2 : rt_dk prog_12_method_4_code rt_i319_2 = true := by decide +kernel
theorem rt_D319 : ∀ c ∈ rt_m319.2.2.2.2.2.2.1, rt_dk rt_m319.2.2.2.1 c.2 = true := by
  intro c hc
  have hc : c ∈ [(0, rt_i319_0), (1, rt_i319_1), (2, rt_i319_2)] := hc
  simp only [List.mem_cons, List.not_mem_nil, or_false] at hc
  rcases hc with rfl | rfl | rfl
  · exact rt_d319_0
  · exact rt_d319_1
  · exact rt_d319_2
set_option maxRecDepth 100000 in
theorem rt_d320_0 : rt_dk prog_12_method_5_code rt_i320_0 = true := by decide +kernel
theorem rt_D320 : ∀ c ∈ rt_m320.2.2.2.2.2.2.1, rt_dk rt_m320.2.2.2.1 c.2 = true := by
  intro c hc
  have hc : c ∈ [(0, rt_i320_0)] := hc
  simp only [List.mem_cons, List.not_mem_nil, or_false] at hc
  rcases hc with rfl
  · exact rt_d320_0
set_option maxRecDepth 100000 in
theorem rt_d321_0 : rt_dk prog_12_method_6_code rt_i321_0 = true := by decide +kernel
theorem rt_D321 : ∀ c ∈ rt_m321.2.2.2.2.2.2.1, rt_dk rt_m321.2.2.2.1 c.2 = true := by
  intro c hc
  have hc : c ∈ [(0, rt_i321_0)] := hc
  simp only [List.mem_cons, List.not_mem_nil, or_false] at hc
  rcases hc with rfl
  · exact rt_d321_0
set_option maxRecDepth 100000 in
theorem rt_d322_0 : rt_dk prog_12_method_7_code rt_i322_0 = true := by decide +kernel
theorem rt_D322 : ∀ c ∈ rt_m322.2.2.2.2.2.2.1, rt_dk rt_m322.2.2.2.1 c.2 = true := by
  intro c hc
  have hc : c ∈ [(0, rt_i322_0)] := hc
  simp only [List.mem_cons, List.not_mem_nil, or_false] at hc
  rcases hc with rfl
  · exact rt_d322_0
set_option maxRecDepth 100000 in
theorem rt_d323_0 : rt_dk prog_12_method_8_code rt_i323_0 = true := by decide +kernel
set_option maxRecDepth 100000 in
theorem rt_d323_1 : rt_dk prog_12_method_8_code rt_i323_1 = true := by decide +kernel
theorem rt_D323 : ∀ c ∈ rt_m323.2.2.2.2.2.2.1, rt_dk rt_m323.2.2.2.1 c.2 = true := by
  intro c hc
  have hc : c ∈ [(0, rt_i323_0), (1, rt_i323_1)] := hc
  simp only [List.mem_cons, List.not_mem_nil, or_false] at hc
  rcases hc with rfl | rfl
  · exact rt_d323_0
  · exact rt_d323_1
set_option maxRecDepth 100000 in
theorem rt_d324_0 : rt_dk prog_12_method_9_code rt_i324_0 = true := by decide +kernel
set_option maxRecDepth 100000 in
theorem rt_d324_1 : rt_dk prog_12_method_9_code rt_i324_1 = true := by decide +kernel
set_option maxRecDepth 100000 in
theorem rt_d324_2 : rt_dk prog_12_method_9_code rt_i324_2 = true := by decide +kernel
set_option maxRecDepth 100000 in
theorem rt_d324_3 : rt_dk prog_12_method_9_code rt_i324_3 = true := by decide +kernel
set_option maxRecDepth 100000 in
theorem rt_d324_4 : rt_dk prog_12_method_9_code rt_i324_4 = true := by decide +kernel
set_option maxRecDepth 100000 in
theorem rt_d324_5 : rt_dk prog_12_method_9_code rt_i324_5 = true := by decide +kernel
set_option maxRecDepth 100000 in
theorem rt_d324_6 : rt_dk prog_12_method_9_code rt_i324_6 = true := by decide +kernel
set_option maxRecDepth 100000 in
theorem rt_d324_7 : rt_dk prog_12_method_9_code rt_i324_7 = true := by decide +kernel
set_option maxRecDepth 100000 in
theorem rt_d324_8 : rt_dk prog_12_method_9_code rt_i324_8 = true := by decide +kernel
theorem rt_D324 : ∀ c ∈ rt_m324.2.2.2.2.2.2.1, rt_dk rt_m324.2.2.2.1 c.2 = true := by
  intro c hc
  have hc : c ∈ [(0, rt_i324_0), (1, rt_i324_1), (2, rt_i324_2), (3, rt_i324_3), (4, rt_i324_4), (5, rt_i324_5), (6, rt_i324_6), (7, rt_i324_7), (8, rt_i324_8)] := hc
  simp only [List.mem_cons, List.not_mem_nil, or_false] at hc
  rcases hc with rfl | rfl | rfl | rfl | rfl | rfl | rfl | rfl | rfl
  · exact rt_d324_0
  · exact rt_d324_1
  · exact rt_d324_2
  · exact rt_d324_3
  · exact rt_d324_4
  · exact rt_d324_5
  · exact rt_d324_6
  · exact rt_d324_7
  · exact rt_d324_8
set_option maxRecDepth 100000 in
theorem rt_d325_0 : rt_dk prog_12_method_10_code rt_i325_0 = true := by decide +kernel
set_option maxRecDepth 100000 in
theorem rt_d325_1 : rt_dk prog_12_method_10_code rt_i325_1 = true := by decide +kernel
set_option maxRecDepth 100000 in
theorem rt_d325_2 : rt_dk prog_12_method_10_code rt_i325_2 = true := by decide +kernel
set_option maxRecDepth 100000 in
theorem rt_d325_3 : rt_dk prog_12_method_10_code rt_i325_3 = true := by decide +kernel
set_option maxRecDepth 100000 in
theorem rt_d325_4 : rt_dk prog_12_method_10_code rt_i325_4 = true := by decide +kernel
theorem rt_D325 : ∀ c ∈ rt_m325.2.2.2.2.2.2.1, rt_dk rt_m325.2.2.2.1 c.2 = true := by
  intro c hc
  have hc : c ∈ [(0, rt_i325_0), (1, rt_i325_1), (2, rt_i325_2), (3, rt_i325_3), (4, rt_i325_4)] := hc
  simp only [List.mem_cons, List.not_mem_nil, or_false] at hc
  rcases hc with rfl | rfl | rfl | rfl | rfl
  · exact rt_d325_0
  · exact rt_d325_1
  · exact rt_d325_2
  · exact rt_d325_3
  · exact rt_d325_4
set_option maxRecDepth 100000 in
theorem rt_d326_0 : rt_dk prog_12_method_11_code rt_i326_0 = true := by decide +kernel
set_option maxRecDepth 100000 in
theorem rt_d326_1 : rt_dk prog_12_method_11_code rt_i326_1 = true := by decide +kernel
set_option maxRecDepth 100000 in
theorem rt_d326_2 : rt_dk prog_12_method_11_code rt_i326_2 = true := by decide +kernel
set_option maxRecDepth 100000 in
theorem rt_d326_3 : rt_dk prog_12_method_11_code rt_i326_3 = true := by decide +kernel
set_option maxRecDepth 100000 in
theorem rt_d326_4 : rt_dk prog_12_method_11_code rt_i326_4 = true := by decide +kernel
set_option maxRecDepth 100000 in
theorem rt_d326_5 : rt_dk prog_12_method_11_code rt_i326_5 = true := by decide +kernel
set_option maxRecDepth 100000 in
theorem rt_d326_6 : rt_dk prog_12_method_11_code rt_i326_6 = true := by decide +kernel
theorem rt_D326 : ∀ c ∈ rt_m326.2.2.2.2.2.2.1, rt_dk rt_m326.2.2.2.1 c.2 = true := by
  intro c hc
  have hc : c ∈ [(0, rt_i326_0), (1, rt_i326_1), (2, rt_i326_2), (3, rt_i326_3), (4, rt_i326_4), (5, rt_i326_5), (6, rt_i326_6)] := hc
  simp only [List.mem_cons, List.not_mem_nil, or_false] at hc
  rcases hc with rfl | rfl | rfl | rfl | rfl | rfl | rfl
  · exact rt_d326_0
  · exact rt_d326_1
  · exact rt_d326_2
  · exact rt_d326_3
  · exact rt_d326_4
  · exact rt_d326_5
  · exact rt_d326_6
set_option maxRecDepth 100000 in
theorem rt_d327_0 : rt_dk prog_12_method_12_code rt_i327_0 = true := by decide +kernel
set_option maxRecDepth 100000 in
theorem rt_d327_1 : rt_dk prog_12_method_12_code rt_i327_1 = true := by decide +kernel
theorem rt_D327 : ∀ c ∈ rt_m327.2.2.2.2.2.2.1, rt_dk rt_m327.2.2.2.1 c.2 = true := by
  intro c hc
  have hc : c ∈ [(0, rt_i327_0), (1, rt_i327_1)] := hc
  simp only [List.mem_cons, List.not_mem_nil, or_false] at hc
  rcases hc with rfl | rfl
  · exact rt_d327_0
  · exact rt_d327_1
set_option maxRecDepth 100000 in
theorem rt_d328_0 : rt_dk prog_12_method_13_code rt_i328_0 = true := by decide +kernel
set_option maxRecDepth 100000 in
theorem rt_d328_1 : rt_dk prog_12_method_13_code rt_i328_1 = true := by decide +kernel
set_option maxRecDepth 100000 in
theorem rt_d328_2 : rt_dk prog_12_method_13_code rt_i328_2 = true := by decide +kernel
set_option maxRecDepth 100000 in
theorem rt_d328_3 : rt_dk prog_12_method_13_code rt_i328_3 = true := by decide +kernel
set_option maxRecDepth 100000 in
theorem rt_d328_4 : rt_dk prog_12_method_13_code rt_i328_4 = true := by decide +kernel
set_option maxRecDepth 100000 in
theorem rt_d328_5 : rt_dk prog_12_method_13_code rt_i328_5 = true := by decide +kernel
theorem rt_D328 : ∀ c ∈ rt_m328.2.2.2.2.2.2.1, rt_dk rt_m328.2.2.2.1 c.2 = true := by
  intro c hc
  have hc : c ∈ [(0, rt_i328_0), (1, rt_i328_1), (2, rt_i328_2), (3, rt_i328_3), (4, rt_i328_4), (5, rt_i328_5)] := hc
  simp only [List.mem_cons, List.not_mem_nil, or_false] at hc
  rcases hc with rfl | rfl | rfl | rfl | rfl | rfl
  · exact rt_d328_0
  · exact rt_d328_1
  · exact rt_d328_2
  · exact rt_d328_3
  · exact rt_d328_4
  · exact rt_d328_5
set_option maxRecDepth 100000 in
theorem rt_d329_0 : rt_dk prog_12_method_14_code rt_i329_0 = true := by decide +kernel
set_option maxRecDepth 100000 in
theorem rt_d329_1 : rt_dk prog_12_method_14_code rt_i329_1 = true := by decide +kernel
set_option maxRecDepth 100000 in
theorem rt_d329_2 : rt_dk prog_12_method_14_code rt_i329_2 = true := by decide +kernel
set_option maxRecDepth 100000 in
theorem rt_d329_3 : rt_dk prog_12_method_14_code rt_i329_3 = true := by decide +kernel
theorem rt_D329 : ∀ c ∈ rt_m329.2.2.2.2.2.2.1, rt_dk rt_m329.2.2.2.1 c.2 = true := by
  intro c hc
  have hc : c ∈ [(0, rt_i329_0), (1, rt_i329_1), (2, rt_i329_2), (3, rt_i329_3)] := hc
  simp only [List.mem_cons, List.not_mem_nil, or_false] at hc
  rcases hc with rfl | rfl | rfl | rfl
  · exact rt_d329_0
  · exact rt_d329_1
  · exact rt_d329_2
  · exact rt_d329_3
set_option maxRecDepth 100000 in
theorem rt_d330_0 : rt_dk prog_12_method_15_code rt_i330_0 = true := by decide +kernel
set_option maxRecDepth 100000 in
theorem rt_d330_1 : rt_dk prog_12_method_15_code rt_i330_1 = true := by decide +kernel
set_option maxRecDepth 100000 in
theorem rt_d330_2 : rt_dk prog_12_method_15_code rt_i330_2 = true := by decide +kernel
theorem rt_D330 : ∀ c ∈ rt_m330.2.2.2.2.2.2.1, rt_dk rt_m330.2.2.2.1 c.2 = true := by
  intro c hc
  have hc : c ∈ [(0, rt_i330_0), (1, rt_i330_1), (2, rt_i330_2)] := hc
  simp only [List.mem_cons, List.not_mem_nil, or_false] at hc
  rcases hc with rfl | rfl | rfl
  · exact rt_d330_0
  · exact rt_d330_1
  · exact rt_d330_2
set_option maxRecDepth 100000 in
theorem rt_d331_0 : rt_dk prog_12_method_16_code rt_i331_0 = true := by decide +kernel
set_option maxRecDepth 100000 in
theorem rt_d331_1 : rt_dk prog_12_method_16_code rt_i331_1 = true := by decide +kernel
set_option maxRecDepth 100000 in
theorem rt_d331_2 : rt_dk prog_12_method_16_code rt_i331_2 = true := by decide +kernel
set_option maxRecDepth 100000 in
theorem rt_d331_3 : rt_dk prog_12_method_16_code rt_i331_3 = true := by decide +kernel
theorem rt_D331 : ∀ c ∈ rt_m331.2.2.2.2.2.2.1, rt_dk rt_m331.2.2.2.1 c.2 = true := by
  intro c hc
  have hc : c ∈ [(0, rt_i331_0), (1, rt_i331_1), (2, rt_i331_2), (3, rt_i331_3)] := hc
  simp only [List.mem_cons, List.not_mem_nil, or_false] at hc
  rcases hc with rfl | rfl | rfl | rfl
  · exact rt_d331_0
  · exact rt_d331_1
  · exact rt_d331_2
  · exact rt_d331_3
set_option maxRecDepth 100000 in
theorem rt_d332_0 : rt_dk prog_12_method_17_code rt_i332_0 = true := by decide +kernel
set_option maxRecDepth 100000 in
theorem rt_d332_1 : rt_dk prog_12_method_17_code rt_i332_1 = true := by decide +kernel
set_option maxRecDepth 100000 in
theorem rt_d332_2 : rt_dk prog_12_method_17_code rt_i332_2 = true := by decide +kernel
set_option maxRecDepth 100000 in
theorem rt_d332_3 : rt_dk prog_12_method_17_code rt_i332_3 = true := by decide +kernel
set_option maxRecDepth 100000 in
theorem rt_d332_4 : rt_dk prog_12_method_17_code rt_i332_4 = true := by decide +kernel
set_option maxRecDepth 100000 in
theorem rt_d332_5 : rt_dk prog_12_method_17_code rt_i332_5 = true := by decide +kernel
set_option maxRecDepth 100000 in
theorem rt_d332_6 : rt_dk prog_12_method_17_code rt_i332_6 = true := by decide +kernel
set_option maxRecDepth 100000 in
theorem rt_d332_7 : rt_dk prog_12_method_17_code rt_i332_7 = true := by decide +kernel
theorem rt_D332 : ∀ c ∈ rt_m332.2.2.2.2.2.2.1, rt_dk rt_m332.2.2.2.1 c.2 = true := by
  intro c hc
  have hc : c ∈ [(0, rt_i332_0), (1, rt_i332_1), (2, rt_i332_2), (3, rt_i332_3), (4, rt_i332_4), (5, rt_i332_5), (6, rt_i332_6), (7, rt_i332_7)] := hc
  simp only [List.mem_cons, List.not_mem_nil, or_false] at hc
  rcases hc with rfl | rfl | rfl | rfl | rfl | rfl | rfl | rfl
  · exact rt_d332_0
  · exact rt_d332_1
  · exact rt_d332_2
  · exact rt_d332_3
  · exact rt_d332_4
  · exact rt_d332_5
  · exact rt_d332_6
  · exact rt_d332_7
set_option maxRecDepth 100000 in
theorem rt_d333_0 : rt_dk prog_12_method_18_code rt_i333_0 = true := by decide +kernel
set_option maxRecDepth 100000 in
theorem rt_d333_1 : rt_dk prog_12_method_18_code rt_i333_1 = true := by decide +kernel
set_option maxRecDepth 100000 in
theorem rt_d333_4 : rt_dk prog_12_method_18_code rt_i333_4 = true := by decide +kernel
set_option maxRecDepth 100000 in
theorem rt_d333_5 : rt_dk prog_12_method_18_code rt_i333_5 = true := by decide +kernel
set_option maxRecDepth 100000 in
theorem rt_d333_6 : rt_dk prog_12_method_18_code rt_i333_6 = true := by decide +kernel
set_option maxRecDepth 100000 in
theorem rt_d333_7 : rt_dk prog_12_method_18_code rt_i333_7 = true := by decide +kernel
set_option maxRecDepth 100000 in
theorem rt_d333_8 : rt_dk prog_12_method_18_code rt_i333_8 = true := by decide +kernel
set_option maxRecDepth 100000 in
theorem rt_d333_9 : rt_dk prog_12_method_18_code rt_i333_9 = true := by decide +kernel
set_option maxRecDepth 100000 in
theorem rt_d333_10 : rt_dk prog_12_method_18_code rt_i333_10 = true := by decide +kernel
theorem rt_D333 : ∀ c ∈ rt_m333.2.2.2.2.2.2.1, rt_dk rt_m333.2.2.2.1 c.2 = true := by
  intro c hc
  have hc : c ∈ [(0, rt_i333_0), (1, rt_i333_1), (4, rt_i333_4), (5, rt_i333_5), (6, rt_i333_6), (7, rt_i333_7), (8, rt_i333_8), (9, rt_i333_9), (10, rt_i333_10)] := hc
  simp only [List.mem_cons, List.not_mem_nil, or_false] at hc
  rcases hc with rfl | rfl | rfl | rfl | rfl | rfl | rfl | rfl | rfl
  · exact rt_d333_0
  · exact rt_d333_1
  · exact rt_d333_4
  · exact rt_d333_5
  · exact rt_d333_6
  · exact rt_d333_7
  · exact rt_d333_8
  · exact rt_d333_9
  · exact rt_d333_10
set_option maxRecDepth 100000 in
theorem rt_d334_0 : rt_dk prog_12_method_19_code rt_i334_0 = true := by decide +kernel
set_option maxRecDepth 100000 in
theorem rt_d334_1 : rt_dk prog_12_method_19_code rt_i334_1 = true := by decide +kernel
theorem rt_D334 : ∀ c ∈ rt_m334.2.2.2.2.2.2.1, rt_dk rt_m334.2.2.2.1 c.2 = true := by
  intro c hc
  have hc : c ∈ [(0, rt_i334_0), (1, rt_i334_1)] := hc
  simp only [List.mem_cons, List.not_mem_nil, or_false] at hc
  rcases hc with rfl | rfl
  · exact rt_d334_0
  · exact rt_d334_1
set_option maxRecDepth 100000 in
theorem rt_d335_0 : rt_dk prog_12_method_20_code rt_i335_0 = true := by decide +kernel
set_option maxRecDepth 100000 in
theorem rt_d335_1 : rt_dk prog_12_method_20_code rt_i335_1 = true := by decide +kernel
set_option maxRecDepth 100000 in
theorem rt_d335_2 : rt_dk prog_12_method_20_code rt_i335_2 = true := by decide +kernel
theorem rt_D335 : ∀ c ∈ rt_m335.2.2.2.2.2.2.1, rt_dk rt_m335.2.2.2.1 c.2 = true := by
  intro c hc
  have hc : c ∈ [(0, rt_i335_0), (1, rt_i335_1), (2, rt_i335_2)] := hc
  simp only [List.mem_cons, List.not_mem_nil, or_false] at hc
  rcases hc with rfl | rfl | rfl
  · exact rt_d335_0
  · exact rt_d335_1
  · exact rt_d335_2
set_option maxRecDepth 100000 in
theorem rt_d336_0 : rt_dk prog_12_method_21_code rt_i336_0 = true := by decide +kernel
set_option maxRecDepth 100000 in
theorem rt_d336_1 : rt_dk prog_12_method_21_code rt_i336_1 = true := by decide +kernel
set_option maxRecDepth 100000 in
theorem rt_d336_2 : rt_dk prog_12_method_21_code rt_i336_2 = true := by decide +kernel
set_option maxRecDepth 100000 in
theorem rt_d336_3 : rt_dk prog_12_method_21_code rt_i336_3 = true := by decide +kernel
theorem rt_D336 : ∀ c ∈ rt_m336.2.2.2.2.2.2.1, rt_dk rt_m336.2.2.2.1 c.2 = true := by
  intro c hc
  have hc : c ∈ [(0, rt_i336_0), (1, rt_i336_1), (2, rt_i336_2), (3, rt_i336_3)] := hc
  simp only [List.mem_cons, List.not_mem_nil, or_false] at hc
  rcases hc with rfl | rfl | rfl | rfl
  · exact rt_d336_0
  · exact rt_d336_1
  · exact rt_d336_2
  · exact rt_d336_3
set_option maxRecDepth 100000 in
theorem rt_d337_0 : rt_dk prog_12_method_22_code rt_i337_0 = true := by decide +kernel
set_option maxRecDepth 100000 in
theorem rt_d337_1 : rt_dk prog_12_method_22_code rt_i337_1 = true := by decide +kernel
theorem rt_D337 : ∀ c ∈ rt_m337.2.2.2.2.2.2.1, rt_dk rt_m337.2.2.2.1 c.2 = true := by
  intro c hc
  have hc : c ∈ [(0, rt_i337_0), (1, rt_i337_1)] := hc
  simp only [List.mem_cons, List.not_mem_nil, or_false] at hc
  rcases hc with rfl | rfl
  · exact rt_d337_0
  · exact rt_d337_1
set_option maxRecDepth 100000 in
theorem rt_d338_0 : rt_dk prog_12_method_23_code rt_i338_0 = true := by decide +kernel
set_option maxRecDepth 100000 in
theorem rt_d338_1 : rt_dk prog_12_method_23_code rt_i338_1 = true := by decide +kernel
set_option maxRecDepth 100000 in
theorem rt_d338_2 : rt_dk prog_12_method_23_code rt_i338_2 = true := by decide +kernel
set_option maxRecDepth 100000 in
theorem rt_d338_3 : rt_dk prog_12_method_23_code rt_i338_3 = true := by decide +kernel
set_option maxRecDepth 100000 in
theorem rt_d338_4 : rt_dk prog_12_method_23_code rt_i338_4 = true := by decide +kernel
set_option maxRecDepth 100000 in
theorem rt_d338_5 : rt_dk prog_12_method_23_code rt_i338_5 = true := by decide +kernel
set_option maxRecDepth 100000 in
theorem rt_d338_6 : rt_dk prog_12_method_23_code rt_i338_6 = true := by decide +kernel
theorem rt_D338 : ∀ c ∈ rt_m338.2.2.2.2.2.2.1, rt_dk rt_m338.2.2.2.1 c.2 = true := by
  intro c hc
  have hc : c ∈ [(0, rt_i338_0), (1, rt_i338_1), (2, rt_i338_2), (3, rt_i338_3), (4, rt_i338_4), (5, rt_i338_5), (6, rt_i338_6)] := hc
  simp only [List.mem_cons, List.not_mem_nil, or_false] at hc
  rcases hc with rfl | rfl | rfl | rfl | rfl | rfl | rfl
  · exact rt_d338_0
  · exact rt_d338_1
  · exact rt_d338_2
  · exact rt_d338_3
  · exact rt_d338_4
  · exact rt_d338_5
  · exact rt_d338_6
set_option maxRecDepth 100000 in
theorem rt_d339_0 : rt_dk prog_12_method_24_code rt_i339_0 = true := by decide +kernel
set_option maxRecDepth 100000 in
theorem rt_d339_1 : rt_dk prog_12_method_24_code rt_i339_1 = true := by decide +kernel
theorem rt_D339 : ∀ c ∈ rt_m339.2.2.2.2.2.2.1, rt_dk rt_m339.2.2.2.1 c.2 = true := by
  intro c hc
  have hc : c ∈ [(0, rt_i339_0), (1, rt_i339_1)] := hc
  simp only [List.mem_cons, List.not_mem_nil, or_false] at hc
  rcases hc with rfl | rfl
  · exact rt_d339_0
  · exact rt_d339_1
set_option maxRecDepth 100000 in
theorem rt_d340_0 : rt_dk prog_12_method_25_code rt_i340_0 = true := by decide +kernel
theorem rt_D340 : ∀ c ∈ rt_m340.2.2.2.2.2.2.1, rt_dk rt_m340.2.2.2.1 c.2 = true := by
  intro c hc
  have hc : c ∈ [(0, rt_i340_0)] := hc
  simp only [List.mem_cons, List.not_mem_nil, or_false] at hc
  rcases hc with rfl
  · exact rt_d340_0
set_option maxRecDepth 100000 in
theorem rt_d341_0 : rt_dk prog_12_method_26_code rt_i341_0 = true := by decide +kernel
set_option maxRecDepth 100000 in
theorem rt_d341_1 : rt_dk prog_12_method_26_code rt_i341_1 = true := by decide +kernel
theorem rt_D341 : ∀ c ∈ rt_m341.2.2.2.2.2.2.1, rt_dk rt_m341.2.2.2.1 c.2 = true := by
  intro c hc
  have hc : c ∈ [(0, rt_i341_0), (1, rt_i341_1)] := hc
  simp only [List.mem_cons, List.not_mem_nil, or_false] at hc
  rcases hc with rfl | rfl
  · exact rt_d341_0
  · exact rt_d341_1
set_option maxRecDepth 100000 in
theorem rt_d342_0 : rt_dk prog_12_method_27_code rt_i342_0 = true := by decide +kernel
set_option maxRecDepth 100000 in
theorem rt_d342_1 : rt_dk prog_12_method_27_code rt_i342_1 = true := by decide +kernel
set_option maxRecDepth 100000 in
theorem rt_d342_2 : rt_dk prog_12_method_27_code rt_i342_2 = true := by decide +kernel
theorem rt_D342 : ∀ c ∈ rt_m342.2.2.2.2.2.2.1, rt_dk rt_m342.2.2.2.1 c.2 = true := by
  intro c hc
  have hc : c ∈ [(0, rt_i342_0), (1, rt_i342_1), (2, rt_i342_2)] := hc
  simp only [List.mem_cons, List.not_mem_nil, or_false] at hc
  rcases hc with rfl | rfl | rfl
  · exact rt_d342_0
  · exact rt_d342_1
  · exact rt_d342_2
set_option maxRecDepth 100000 in
theorem rt_d343_0 : rt_dk prog_13_method_4_code rt_i343_0 = true := by decide +kernel
set_option maxRecDepth 100000 in
theorem rt_d343_1 : rt_dk prog_13_method_4_code rt_i343_1 = true := by decide +kernel
set_option maxRecDepth 100000 in
theorem rt_d343_2 : rt_dk prog_13_method_4_code rt_i343_2 = true := by decide +kernel
theorem rt_D343 : ∀ c ∈ rt_m343.2.2.2.2.2.2.1, rt_dk rt_m343.2.2.2.1 c.2 = true := by
  intro c hc
  have hc : c ∈ [(0, rt_i343_0), (1, rt_i343_1), (2, rt_i343_2)] := hc
  simp only [List.mem_cons, List.not_mem_nil, or_false] at hc
  rcases hc with rfl | rfl | rfl
  · exact rt_d343_0
  · exact rt_d343_1
  · exact rt_d343_2
set_option maxRecDepth 100000 in
theorem rt_d344_0 : rt_dk prog_13_method_5_code rt_i344_0 = true := by decide +kernel
set_option maxRecDepth 100000 in
theorem rt_d344_1 : rt_dk prog_13_method_5_code rt_i344_1 = true := by decide +kernel
set_option maxRecDepth 100000 in
theorem rt_d344_2 : rt_dk prog_13_method_5_code rt_i344_2 = true := by decide +kernel
set_option maxRecDepth 100000 in
theorem rt_d344_3 : rt_dk prog_13_method_5_code rt_i344_3 = true := by decide +kernel
theorem rt_D344 : ∀ c ∈ rt_m344.2.2.2.2.2.2.1, rt_dk rt_m344.2.2.2.1 c.2 = true := by
  intro c hc
  have hc : c ∈ [(0, rt_i344_0), (1, rt_i344_1), (2, rt_i344_2), (3, rt_i344_3)] := hc
  simp only [List.mem_cons, List.not_mem_nil, or_false] at hc
  rcases hc with rfl | rfl | rfl | rfl
  · exact rt_d344_0
  · exact rt_d344_1
  · exact rt_d344_2
  · exact rt_d344_3
set_option maxRecDepth 100000 in
theorem rt_d345_0 : rt_dk prog_13_method_6_code rt_i345_0 = true := by decide +kernel
theorem rt_D345 : ∀ c ∈ rt_m345.2.2.2.2.2.2.1, rt_dk rt_m345.2.2.2.1 c.2 = true := by
  intro c hc
  have hc : c ∈ [(0, rt_i345_0)] := hc
  simp only [List.mem_cons, List.not_mem_nil, or_false] at hc
  rcases hc with rfl
  · exact rt_d345_0
set_option maxRecDepth 100000 in
theorem rt_d346_0 : rt_dk prog_13_method_7_code rt_i346_0 = true := by decide +kernel
set_option maxRecDepth 100000 in
theorem rt_d346_1 : rt_dk prog_13_method_7_code rt_i346_1 = true := by decide +kernel
set_option maxRecDepth 100000 in
theorem rt_d346_2 : rt_dk prog_13_method_7_code rt_i346_2 = true := by decide +kernel
theorem rt_D346 : ∀ c ∈ rt_m346.2.2.2.2.2.2.1, rt_dk rt_m346.2.2.2.1 c.2 = true := by
  intro c hc
  have hc : c ∈ [(0, rt_i346_0), (1, rt_i346_1), (2, rt_i346_2)] := hc
  simp only [List.mem_cons, List.not_mem_nil, or_false] at hc
  rcases hc with rfl | rfl | rfl
  · exact rt_d346_0
  · exact rt_d346_1
  · exact rt_d346_2
set_option maxRecDepth 100000 in
theorem rt_d347_0 : rt_dk prog_13_method_8_code rt_i347_0 = true := by decide +kernel
set_option maxRecDepth 100000 in
theorem rt_d347_1 : rt_dk prog_13_method_8_code rt_i347_1 = true := by decide +kernel
set_option maxRecDepth 100000 in
theorem rt_d347_2 : rt_dk prog_13_method_8_code rt_i347_2 = true := by decide +kernel
set_option maxRecDepth 100000 in
theorem rt_d347_3 : rt_dk prog_13_method_8_code rt_i347_3 = true := by decide +kernel
theorem rt_D347 : ∀ c ∈ rt_m347.2.2.2.2.2.2.1, rt_dk rt_m347.2.2.2.1 c.2 = true := by
  intro c hc
  have hc : c ∈ [(0, rt_i347_0), (1, rt_i347_1), (2, rt_i347_2), (3, rt_i347_3)] := hc
  simp only [List.mem_cons, List.not_mem_nil, or_false] at hc
  rcases hc with rfl | rfl | rfl | rfl
  · exact rt_d347_0
  · exact rt_d347_1
  · exact rt_d347_2
  · exact rt_d347_3
set_option maxRecDepth 100000 in
theorem rt_d348_0 : rt_dk prog_13_method_9_code rt_i348_0 = true := by decide +kernel
set_option maxRecDepth 100000 in
theorem rt_d348_1 : rt_dk prog_13_method_9_code rt_i348_1 = true := by decide +kernel
set_option maxRecDepth 100000 in
theorem rt_d348_2 : rt_dk prog_13_method_9_code rt_i348_2 = true := by decide +kernel
set_option maxRecDepth 100000 in
theorem rt_d348_3 : rt_dk prog_13_method_9_code rt_i348_3 = true := by decide +kernel
set_option maxRecDepth 100000 in
theorem rt_d348_4 : rt_dk prog_13_method_9_code rt_i348_4 = true := by decide +kernel
set_option maxRecDepth 100000 in
theorem rt_d348_5 : rt_dk prog_13_method_9_code rt_i348_5 = true := by decide +kernel
set_option maxRecDepth 100000 in
theorem rt_d348_6 : rt_dk prog_13_method_9_code rt_i348_6 = true := by decide +kernel
set_option maxRecDepth 100000 in
theorem rt_d348_7 : rt_dk prog_13_method_9_code rt_i348_7 = true := by decide +kernel
theorem rt_D348 : ∀ c ∈ rt_m348.2.2.2.2.2.2.1, rt_dk rt_m348.2.2.2.1 c.2 = true := by
  intro c hc
  have hc : c ∈ [(0, rt_i348_0), (1, rt_i348_1), (2, rt_i348_2), (3, rt_i348_3), (4, rt_i348_4), (5, rt_i348_5), (6, rt_i348_6), (7, rt_i348_7)] := hc
  simp only [List.mem_cons, List.not_mem_nil, or_false] at hc
  rcases hc with rfl | rfl | rfl | rfl | rfl | rfl | rfl | rfl
  · exact rt_d348_0
  · exact rt_d348_1
  · exact rt_d348_2
  · exact rt_d348_3
  · exact rt_d348_4
  · exact rt_d348_5
  · exact rt_d348_6
  · exact rt_d348_7
set_option maxRecDepth 100000 in
theorem rt_d349_0 : rt_dk prog_13_method_10_code rt_i349_0 = true := by decide +kernel
theorem rt_D349 : ∀ c ∈ rt_m349.2.2.2.2.2.2.1, rt_dk rt_m349.2.2.2.1 c.2 = true := by
  intro c hc
  have hc : c ∈ [(0, rt_i349_0)] := hc
  simp only [List.mem_cons, List.not_mem_nil, or_false] at hc
  rcases hc with rfl
  · exact rt_d349_0
set_option maxRecDepth 100000 in
theorem rt_d350_0 : rt_dk prog_1_method_9_code rt_i350_0 = true := by decide +kernel
theorem rt_D350 : ∀ c ∈ rt_m350.2.2.2.2.2.2.1, rt_dk rt_m350.2.2.2.1 c.2 = true := by
  intro c hc
  have hc : c ∈ [(0, rt_i350_0)] := hc
  simp only [List.mem_cons, List.not_mem_nil, or_false] at hc
  rcases hc with rfl
  · exact rt_d350_0
set_option maxRecDepth 100000 in
theorem rt_d351_0 : rt_dk prog_1_method_38_code rt_i351_0 = true := by decide +kernel
theorem rt_D351 : ∀ c ∈ rt_m351.2.2.2.2.2.2.1, rt_dk rt_m351.2.2.2.1 c.2 = true := by
  intro c hc
  have hc : c ∈ [(0, rt_i351_0)] := hc
  simp only [List.mem_cons, List.not_mem_nil, or_false] at hc
  rcases hc with rfl
  · exact rt_d351_0
set_option maxRecDepth 100000 in
theorem rt_d352_0 : rt_dk prog_1_method_39_code rt_i352_0 = true := by decide +kernel
theorem rt_D352 : ∀ c ∈ rt_m352.2.2.2.2.2.2.1, rt_dk rt_m352.2.2.2.1 c.2 = true := by
  intro c hc
  have hc : c ∈ [(0, rt_i352_0)] := hc
  simp only [List.mem_cons, List.not_mem_nil, or_false] at hc
  rcases hc with rfl
  · exact rt_d352_0
set_option maxRecDepth 100000 in
theorem rt_d353_0 : rt_dk prog_1_method_40_code rt_i353_0 = true := by decide +kernel
theorem rt_D353 : ∀ c ∈ rt_m353.2.2.2.2.2.2.1, rt_dk rt_m353.2.2.2.1 c.2 = true := by
  intro c hc
  have hc : c ∈ [(0, rt_i353_0)] := hc
  simp only [List.mem_cons, List.not_mem_nil, or_false] at hc
  rcases hc with rfl
  · exact rt_d353_0
set_option maxRecDepth 100000 in
theorem rt_d354_0 : rt_dk prog_1_method_41_code rt_i354_0 = true := by decide +kernel
theorem rt_D354 : ∀ c ∈ rt_m354.2.2.2.2.2.2.1, rt_dk rt_m354.2.2.2.1 c.2 = true := by
  intro c hc
  have hc : c ∈ [(0, rt_i354_0)] := hc
  simp only [List.mem_cons, List.not_mem_nil, or_false] at hc
  rcases hc with rfl
  · exact rt_d354_0
set_option maxRecDepth 100000 in
theorem rt_d355_0 : rt_dk prog_1_method_42_code rt_i355_0 = true := by decide +kernel
theorem rt_D355 : ∀ c ∈ rt_m355.2.2.2.2.2.2.1, rt_dk rt_m355.2.2.2.1 c.2 = true := by
  intro c hc
  have hc : c ∈ [(0, rt_i355_0)] := hc
  simp only [List.mem_cons, List.not_mem_nil, or_false] at hc
  rcases hc with rfl
  · exact rt_d355_0
set_option maxRecDepth 100000 in
theorem rt_d356_0 : rt_dk prog_1_method_43_code rt_i356_0 = true := by decide +kernel
theorem rt_D356 : ∀ c ∈ rt_m356.2.2.2.2.2.2.1, rt_dk rt_m356.2.2.2.1 c.2 = true := by
  intro c hc
  have hc : c ∈ [(0, rt_i356_0)] := hc
  simp only [List.mem_cons, List.not_mem_nil, or_false] at hc
  rcases hc with rfl
  · exact rt_d356_0
set_option maxRecDepth 100000 in
theorem rt_d357_0 : rt_dk prog_15_method_7_code rt_i357_0 = true := by decide +kernel
set_option maxRecDepth 100000 in
theorem rt_d357_1 : rt_dk prog_15_method_7_code rt_i357_1 = true := by decide +kernel
theorem rt_D357 : ∀ c ∈ rt_m357.2.2.2.2.2.2.1, rt_dk rt_m357.2.2.2.1 c.2 = true := by
  intro c hc
  have hc : c ∈ [(0, rt_i357_0), (1, rt_i357_1)] := hc
  simp only [List.mem_cons, List.not_mem_nil, or_false] at hc
  rcases hc with rfl | rfl
  · exact rt_d357_0
  · exact rt_d357_1
set_option maxRecDepth 100000 in
theorem rt_d358_0 : rt_dk prog_15_method_8_code rt_i358_0 = true := by decide +kernel
set_option maxRecDepth 100000 in
theorem rt_d358_1 : rt_dk prog_15_method_8_code rt_i358_1 = true := by decide +kernel
theorem rt_D358 : ∀ c ∈ rt_m358.2.2.2.2.2.2.1, rt_dk rt_m358.2.2.2.1 c.2 = true := by
  intro c hc
  have hc : c ∈ [(0, rt_i358_0), (1, rt_i358_1)] := hc
  simp only [List.mem_cons, List.not_mem_nil, or_false] at hc
  rcases hc with rfl | rfl
  · exact rt_d358_0
  · exact rt_d358_1
set_option maxRecDepth 100000 in
theorem rt_d359_0 : rt_dk prog_15_method_9_code rt_i359_0 = true := by decide +kernel
theorem rt_D359 : ∀ c ∈ rt_m359.2.2.2.2.2.2.1, rt_dk rt_m359.2.2.2.1 c.2 = true := by
  intro c hc
  have hc : c ∈ [(0, rt_i359_0)] := hc
  simp only [List.mem_cons, List.not_mem_nil, or_false] at hc
  rcases hc with rfl
  · exact rt_d359_0
set_option maxRecDepth 100000 in
theorem rt_d360_0 : rt_dk prog_15_method_10_code rt_i360_0 = true := by decide +kernel
set_option maxRecDepth 100000 in
theorem rt_d360_1 : rt_dk prog_15_method_10_code rt_i360_1 = true := by decide +kernel
theorem rt_D360 : ∀ c ∈ rt_m360.2.2.2.2.2.2.1, rt_dk rt_m360.2.2.2.1 c.2 = true := by
  intro c hc
  have hc : c ∈ [(0, rt_i360_0), (1, rt_i360_1)] := hc
  simp only [List.mem_cons, List.not_mem_nil, or_false] at hc
  rcases hc with rfl | rfl
  · exact rt_d360_0
  · exact rt_d360_1
set_option maxRecDepth 100000 in
theorem rt_d361_0 : rt_dk prog_15_method_11_code rt_i361_0 = true := by decide +kernel
theorem rt_D361 : ∀ c ∈ rt_m361.2.2.2.2.2.2.1, rt_dk rt_m361.2.2.2.1 c.2 = true := by
  intro c hc
  have hc : c ∈ [(0, rt_i361_0)] := hc
  simp only [List.mem_cons, List.not_mem_nil, or_false] at hc
  rcases hc with rfl
  · exact rt_d361_0
set_option maxRecDepth 100000 in
theorem rt_d362_0 : rt_dk prog_15_method_12_code rt_i362_0 = true := by decide +kernel
theorem rt_D362 : ∀ c ∈ rt_m362.2.2.2.2.2.2.1, rt_dk rt_m362.2.2.2.1 c.2 = true := by
  intro c hc
  have hc : c ∈ [(0, rt_i362_0)] := hc
  simp only [List.mem_cons, List.not_mem_nil, or_false] at hc
  rcases hc with rfl
  · exact rt_d362_0
set_option maxRecDepth 100000 in
theorem rt_d363_0 : rt_dk prog_15_method_13_code rt_i363_0 = true := by decide +kernel
theorem rt_D363 : ∀ c ∈ rt_m363.2.2.2.2.2.2.1, rt_dk rt_m363.2.2.2.1 c.2 = true := by
  intro c hc
  have hc : c ∈ [(0, rt_i363_0)] := hc
  simp only [List.mem_cons, List.not_mem_nil, or_false] at hc
  rcases hc with rfl
  · exact rt_d363_0
set_option maxRecDepth 100000 in
theorem rt_d364_0 : rt_dk prog_15_method_14_code rt_i364_0 = true := by decide +kernel
theorem rt_D364 : ∀ c ∈ rt_m364.2.2.2.2.2.2.1, rt_dk rt_m364.2.2.2.1 c.2 = true := by
  intro c hc
  have hc : c ∈ [(0, rt_i364_0)] := hc
  simp only [List.mem_cons, List.not_mem_nil, or_false] at hc
  rcases hc with rfl
  · exact rt_d364_0
set_option maxRecDepth 100000 in
theorem rt_d365_0 : rt_dk prog_15_method_15_code rt_i365_0 = true := by decide +kernel
theorem rt_D365 : ∀ c ∈ rt_m365.2.2.2.2.2.2.1, rt_dk rt_m365.2.2.2.1 c.2 = true := by
  intro c hc
  have hc : c ∈ [(0, rt_i365_0)] := hc
  simp only [List.mem_cons, List.not_mem_nil, or_false] at hc
  rcases hc with rfl
  · exact rt_d365_0
set_option maxRecDepth 100000 in
theorem rt_d366_0 : rt_dk prog_15_method_16_code rt_i366_0 = true := by decide +kernel
theorem rt_D366 : ∀ c ∈ rt_m366.2.2.2.2.2.2.1, rt_dk rt_m366.2.2.2.1 c.2 = true := by
  intro c hc
  have hc : c ∈ [(0, rt_i366_0)] := hc
  simp only [List.mem_cons, List.not_mem_nil, or_false] at hc
  rcases hc with rfl
  · exact rt_d366_0
set_option maxRecDepth 100000 in
theorem rt_d367_0 : rt_dk prog_15_method_17_code rt_i367_0 = true := by decide +kernel
theorem rt_D367 : ∀ c ∈ rt_m367.2.2.2.2.2.2.1, rt_dk rt_m367.2.2.2.1 c.2 = true := by
  intro c hc
  have hc : c ∈ [(0, rt_i367_0)] := hc
  simp only [List.mem_cons, List.not_mem_nil, or_false] at hc
  rcases hc with rfl
  · exact rt_d367_0
set_option maxRecDepth 100000 in
theorem rt_d368_0 : rt_dk prog_15_method_18_code rt_i368_0 = true := by decide +kernel
theorem rt_D368 : ∀ c ∈ rt_m368.2.2.2.2.2.2.1, rt_dk rt_m368.2.2.2.1 c.2 = true := by
  intro c hc
  have hc : c ∈ [(0, rt_i368_0)] := hc
  simp only [List.mem_cons, List.not_mem_nil, or_false] at hc
  rcases hc with rfl
  · exact rt_d368_0
set_option maxRecDepth 100000 in
theorem rt_d369_0 : rt_dk prog_15_method_19_code rt_i369_0 = true := by decide +kernel
set_option maxRecDepth 100000 in
theorem rt_d369_1 : rt_dk prog_15_method_19_code rt_i369_1 = true := by decide +kernel
set_option maxRecDepth 100000 in
theorem rt_d369_2 : rt_dk prog_15_method_19_code rt_i369_2 = true := by decide +kernel
theorem rt_D369 : ∀ c ∈ rt_m369.2.2.2.2.2.2.1, rt_dk rt_m369.2.2.2.1 c.2 = true := by
  intro c hc
  have hc : c ∈ [(0, rt_i369_0), (1, rt_i369_1), (2, rt_i369_2)] := hc
  simp only [List.mem_cons, List.not_mem_nil, or_false] at hc
  rcases hc with rfl | rfl | rfl
  · exact rt_d369_0
  · exact rt_d369_1
  · exact rt_d369_2
set_option maxRecDepth 100000 in
theorem rt_d370_0 : rt_dk prog_15_method_22_code rt_i370_0 = true := by decide +kernel
theorem rt_D370 : ∀ c ∈ rt_m370.2.2.2.2.2.2.1, rt_dk rt_m370.2.2.2.1 c.2 = true := by
  intro c hc
  have hc : c ∈ [(0, rt_i370_0)] := hc
  simp only [List.mem_cons, List.not_mem_nil, or_false] at hc
  rcases hc with rfl
  · exact rt_d370_0
set_option maxRecDepth 100000 in
theorem rt_d371_0 : rt_dk prog_15_method_23_code rt_i371_0 = true := by decide +kernel
set_option maxRecDepth 100000 in
theorem rt_d371_1 : rt_dk prog_15_method_23_code rt_i371_1 = true := by decide +kernel
theorem rt_D371 : ∀ c ∈ rt_m371.2.2.2.2.2.2.1, rt_dk rt_m371.2.2.2.1 c.2 = true := by
  intro c hc
  have hc : c ∈ [(0, rt_i371_0), (1, rt_i371_1)] := hc
  simp only [List.mem_cons, List.not_mem_nil, or_false] at hc
  rcases hc with rfl | rfl
  · exact rt_d371_0
  · exact rt_d371_1
set_option maxRecDepth 100000 in
theorem rt_d372_0 : rt_dk prog_15_method_25_code rt_i372_0 = true := by decide +kernel
theorem rt_D372 : ∀ c ∈ rt_m372.2.2.2.2.2.2.1, rt_dk rt_m372.2.2.2.1 c.2 = true := by
  intro c hc
  have hc : c ∈ [(0, rt_i372_0)] := hc
  simp only [List.mem_cons, List.not_mem_nil, or_false] at hc
  rcases hc with rfl
  · exact rt_d372_0
set_option maxRecDepth 100000 in
theorem rt_d373_0 : rt_dk prog_15_method_26_code rt_i373_0 = true := by decide +kernel
theorem rt_D373 : ∀ c ∈ rt_m373.2.2.2.2.2.2.1, rt_dk rt_m373.2.2.2.1 c.2 = true := by
  intro c hc
  have hc : c ∈ [(0, rt_i373_0)] := hc
  simp only [List.mem_cons, List.not_mem_nil, or_false] at hc
  rcases hc with rfl
  · exact rt_d373_0
set_option maxRecDepth 100000 in
theorem rt_d374_0 : rt_dk prog_15_method_27_code rt_i374_0 = true := by decide +kernel
theorem rt_D374 : ∀ c ∈ rt_m374.2.2.2.2.2.2.1, rt_dk rt_m374.2.2.2.1 c.2 = true := by
  intro c hc
  have hc : c ∈ [(0, rt_i374_0)] := hc
  simp only [List.mem_cons, List.not_mem_nil, or_false] at hc
  rcases hc with rfl
  · exact rt_d374_0
set_option maxRecDepth 100000 in
theorem rt_d375_0 : rt_dk prog_15_method_28_code rt_i375_0 = true := by decide +kernel
theorem rt_D375 : ∀ c ∈ rt_m375.2.2.2.2.2.2.1, rt_dk rt_m375.2.2.2.1 c.2 = true := by
  intro c hc
  have hc : c ∈ [(0, rt_i375_0)] := hc
  simp only [List.mem_cons, List.not_mem_nil, or_false] at hc
  rcases hc with rfl
  · exact rt_d375_0
set_option maxRecDepth 100000 in
theorem rt_d376_0 : rt_dk prog_15_method_29_code rt_i376_0 = true := by decide +kernel
set_option maxRecDepth 100000 in
theorem rt_d376_1 : rt_dk prog_15_method_29_code rt_i376_1 = true := by decide +kernel
theorem rt_D376 : ∀ c ∈ rt_m376.2.2.2.2.2.2.1, rt_dk rt_m376.2.2.2.1 c.2 = true := by
  intro c hc
  have hc : c ∈ [(0, rt_i376_0), (1, rt_i376_1)] := hc
  simp only [List.mem_cons, List.not_mem_nil, or_false] at hc
  rcases hc with rfl | rfl
  · exact rt_d376_0
  · exact rt_d376_1
set_option maxRecDepth 100000 in
theorem rt_d377_0 : rt_dk prog_15_method_30_code rt_i377_0 = true := by decide +kernel
set_option maxRecDepth 100000 in
theorem rt_d377_1 : rt_dk prog_15_method_30_code rt_i377_1 = true := by decide +kernel
theorem rt_D377 : ∀ c ∈ rt_m377.2.2.2.2.2.2.1, rt_dk rt_m377.2.2.2.1 c.2 = true := by
  intro c hc
  have hc : c ∈ [(0, rt_i377_0), (1, rt_i377_1)] := hc
  simp only [List.mem_cons, List.not_mem_nil, or_false] at hc
  rcases hc with rfl | rfl
  · exact rt_d377_0
  · exact rt_d377_1
set_option maxRecDepth 100000 in
theorem rt_d378_0 : rt_dk prog_15_method_31_code rt_i378_0 = true := by decide +kernel
set_option maxRecDepth 100000 in
theorem rt_d378_1 : rt_dk prog_15_method_31_code rt_i378_1 = true := by decide +kernel
theorem rt_D378 : ∀ c ∈ rt_m378.2.2.2.2.2.2.1, rt_dk rt_m378.2.2.2.1 c.2 = true := by
  intro c hc
  have hc : c ∈ [(0, rt_i378_0), (1, rt_i378_1)] := hc
  simp only [List.mem_cons, List.not_mem_nil, or_false] at hc
  rcases hc with rfl | rfl
  · exact rt_d378_0
  · exact rt_d378_1
set_option maxRecDepth 100000 in
theorem rt_d379_0 : rt_dk prog_15_method_35_code rt_i379_0 = true := by decide +kernel
theorem rt_D379 : ∀ c ∈ rt_m379.2.2.2.2.2.2.1, rt_dk rt_m379.2.2.2.1 c.2 = true := by
  intro c hc
  have hc : c ∈ [(0, rt_i379_0)] := hc
  simp only [List.mem_cons, List.not_mem_nil, or_false] at hc
  rcases hc with rfl
  · exact rt_d379_0
set_option maxRecDepth 100000 in
theorem rt_d380_0 : rt_dk prog_15_method_37_code rt_i380_0 = true := by decide +kernel
set_option maxRecDepth 100000 in
theorem rt_d380_1 : rt_dk prog_15_method_37_code rt_i380_1 = true := by decide +kernel
theorem rt_D380 : ∀ c ∈ rt_m380.2.2.2.2.2.2.1, rt_dk rt_m380.2.2.2.1 c.2 = true := by
  intro c hc
  have hc : c ∈ [(0, rt_i380_0), (1, rt_i380_1)] := hc
  simp only [List.mem_cons, List.not_mem_nil, or_false] at hc
  rcases hc with rfl | rfl
  · exact rt_d380_0
  · exact rt_d380_1
set_option maxRecDepth 100000 in
theorem rt_d381_0 : rt_dk prog_15_method_38_code rt_i381_0 = true := by decide +kernel
set_option maxRecDepth 100000 in
theorem rt_d381_1 : rt_dk prog_15_method_38_code rt_i381_1 = true := by decide +kernel
theorem rt_D381 : ∀ c ∈ rt_m381.2.2.2.2.2.2.1, rt_dk rt_m381.2.2.2.1 c.2 = true := by
  intro c hc
  have hc : c ∈ [(0, rt_i381_0), (1, rt_i381_1)] := hc
  simp only [List.mem_cons, List.not_mem_nil, or_false] at hc
  rcases hc with rfl | rfl
  · exact rt_d381_0
  · exact rt_d381_1
set_option maxRecDepth 100000 in
theorem rt_d382_0 : rt_dk prog_15_method_39_code rt_i382_0 = true := by decide +kernel
set_option maxRecDepth 100000 in
theorem rt_d382_1 : rt_dk prog_15_method_39_code rt_i382_1 = true := by decide +kernel
set_option maxRecDepth 100000 in
theorem rt_d382_2 : rt_dk prog_15_method_39_code rt_i382_2 = true := by decide +kernel
set_option maxRecDepth 100000 in
theorem rt_d382_3 : rt_dk prog_15_method_39_code rt_i382_3 = true := by decide +kernel
set_option maxRecDepth 100000 in
theorem rt_d382_4 : rt_dk prog_15_method_39_code rt_i382_4 = true := by decide +kernel
set_option maxRecDepth 100000 in
theorem rt_d382_5 : rt_dk prog_15_method_39_code rt_i382_5 = true := by decide +kernel
theorem rt_D382 : ∀ c ∈ rt_m382.2.2.2.2.2.2.1, rt_dk rt_m382.2.2.2.1 c.2 = true := by
  intro c hc
  have hc : c ∈ [(0, rt_i382_0), (1, rt_i382_1), (2, rt_i382_2), (3, rt_i382_3), (4, rt_i382_4), (5, rt_i382_5)] := hc
  simp only [List.mem_cons, List.not_mem_nil, or_false] at hc
  rcases hc with rfl | rfl | rfl | rfl | rfl | rfl
  · exact rt_d382_0
  · exact rt_d382_1
  · exact rt_d382_2
  · exact rt_d382_3
  · exact rt_d382_4
  · exact rt_d382_5
set_option maxRecDepth 100000 in
theorem rt_d383_0 : rt_dk prog_15_method_41_code rt_i383_0 = true := by decide +kernel
set_option maxRecDepth 100000 in
theorem rt_d383_1 : rt_dk prog_15_method_41_code rt_i383_1 = true := by decide +kernel
theorem rt_D383 : ∀ c ∈ rt_m383.2.2.2.2.2.2.1, rt_dk rt_m383.2.2.2.1 c.2 = true := by
  intro c hc
  have hc : c ∈ [(0, rt_i383_0), (1, rt_i383_1)] := hc
  simp only [List.mem_cons, List.not_mem_nil, or_false] at hc
  rcases hc with rfl | rfl
  · exact rt_d383_0
  · exact rt_d383_1
set_option maxRecDepth 100000 in
theorem rt_d384_0 : rt_dk prog_15_method_42_code rt_i384_0 = true := by decide +kernel
set_option maxRecDepth 100000 in
theorem rt_d384_1 : rt_dk prog_15_method_42_code rt_i384_1 = true := by decide +kernel
set_option maxRecDepth 100000 in
theorem rt_d384_2 : rt_dk prog_15_method_42_code rt_i384_2 = true := by decide +kernel
theorem rt_D384 : ∀ c ∈ rt_m384.2.2.2.2.2.2.1, rt_dk rt_m384.2.2.2.1 c.2 = true := by
  intro c hc
  have hc : c ∈ [(0, rt_i384_0), (1, rt_i384_1), (2, rt_i384_2)] := hc
  simp only [List.mem_cons, List.not_mem_nil, or_false] at hc
  rcases hc with rfl | rfl | rfl
  · exact rt_d384_0
  · exact rt_d384_1
  · exact rt_d384_2
set_option maxRecDepth 100000 in
theorem rt_d385_0 : rt_dk prog_15_method_43_code rt_i385_0 = true := by decide +kernel
theorem rt_D385 : ∀ c ∈ rt_m385.2.2.2.2.2.2.1, rt_dk rt_m385.2.2.2.1 c.2 = true := by
  intro c hc
  have hc : c ∈ [(0, rt_i385_0)] := hc
  simp only [List.mem_cons, List.not_mem_nil, or_false] at hc
  rcases hc with rfl
  · exact rt_d385_0
set_option maxRecDepth 100000 in
theorem rt_d386_0 : rt_dk prog_15_method_44_code rt_i386_0 = true := by decide +kernel
set_option maxRecDepth 100000 in
theorem rt_d386_1 : rt_dk prog_15_method_44_code rt_i386_1 = true := by decide +kernel
set_option maxRecDepth 100000 in
theorem rt_d386_2 : rt_dk prog_15_method_44_code rt_i386_2 = true := by decide +kernel
set_option maxRecDepth 100000 in
theorem rt_d386_3 : rt_dk prog_15_method_44_code rt_i386_3 = true := by decide +kernel
set_option maxRecDepth 100000 in
theorem rt_d386_4 : rt_dk prog_15_method_44_code rt_i386_4 = true := by decide +kernel
set_option maxRecDepth 100000 in
theorem rt_d386_5 : rt_dk prog_15_method_44_code rt_i386_5 = true := by decide +kernel
set_option maxRecDepth 100000 in
theorem rt_d386_6 : rt_dk prog_15_method_44_code rt_i386_6 = true := by decide +kernel
set_option maxRecDepth 100000 in
theorem rt_d386_7 : rt_dk prog_15_method_44_code rt_i386_7 = true := by decide +kernel
theorem rt_D386 : ∀ c ∈ rt_m386.2.2.2.2.2.2.1, rt_dk rt_m386.2.2.2.1 c.2 = true := by
  intro c hc
  have hc : c ∈ [(0, rt_i386_0), (1, rt_i386_1), (2, rt_i386_2), (3, rt_i386_3), (4, rt_i386_4), (5, rt_i386_5), (6, rt_i386_6), (7, rt_i386_7)] := hc
  simp only [List.mem_cons, List.not_mem_nil, or_false] at hc
  rcases hc with rfl | rfl | rfl | rfl | rfl | rfl | rfl | rfl
  · exact rt_d386_0
  · exact rt_d386_1
  · exact rt_d386_2
  · exact rt_d386_3
  · exact rt_d386_4
  · exact rt_d386_5
  · exact rt_d386_6
  · exact rt_d386_7
set_option maxRecDepth 100000 in
theorem rt_d387_0 : rt_dk prog_15_method_45_code rt_i387_0 = true := by decide +kernel
theorem rt_D387 : ∀ c ∈ rt_m387.2.2.2.2.2.2.1, rt_dk rt_m387.2.2.2.1 c.2 = true := by
  intro c hc
  have hc : c ∈ [(0, rt_i387_0)] := hc
  simp only [List.mem_cons, List.not_mem_nil, or_false] at hc
  rcases hc with rfl
  · exact rt_d387_0
set_option maxRecDepth 100000 in
theorem rt_d388_0 : rt_dk prog_15_method_46_code rt_i388_0 = true := by decide +kernel
set_option maxRecDepth 100000 in
theorem rt_d388_1 : rt_dk prog_15_method_46_code rt_i388_1 = true := by decide +kernel
set_option maxRecDepth 100000 in
theorem rt_d388_2 : rt_dk prog_15_method_46_code rt_i388_2 = true := by decide +kernel
set_option maxRecDepth 100000 in
theorem rt_d388_3 : rt_dk prog_15_method_46_code rt_i388_3 = true := by decide +kernel
set_option maxRecDepth 100000 in
theorem rt_d388_4 : rt_dk prog_15_method_46_code rt_i388_4 = true := by decide +kernel
set_option maxRecDepth 100000 in
theorem rt_d388_5 : rt_dk prog_15_method_46_code rt_i388_5 = true := by decide +kernel
set_option maxRecDepth 100000 in
theorem rt_d388_6 : rt_dk prog_15_method_46_code rt_i388_6 = true := by decide +kernel
theorem rt_D388 : ∀ c ∈ rt_m388.2.2.2.2.2.2.1, rt_dk rt_m388.2.2.2.1 c.2 = true := by
  intro c hc
  have hc : c ∈ [(0, rt_i388_0), (1, rt_i388_1), (2, rt_i388_2), (3, rt_i388_3), (4, rt_i388_4), (5, rt_i388_5), (6, rt_i388_6)] := hc
  simp only [List.mem_cons, List.not_mem_nil, or_false] at hc
  rcases hc with rfl | rfl | rfl | rfl | rfl | rfl | rfl
  · exact rt_d388_0
  · exact rt_d388_1
  · exact rt_d388_2
  · exact rt_d388_3
  · exact rt_d388_4
  · exact rt_d388_5
  · exact rt_d388_6
set_option maxRecDepth 100000 in
theorem rt_d389_0 : rt_dk prog_15_method_47_code rt_i389_0 = true := by decide +kernel
set_option maxRecDepth 100000 in
theorem rt_d389_1 : rt_dk prog_15_method_47_code rt_i389_1 = true := by decide +kernel
set_option maxRecDepth 100000 in
theorem rt_d389_2 : rt_dk prog_15_method_47_code rt_i389_2 = true := by decide +kernel
set_option maxRecDepth 100000 in
theorem rt_d389_3 : rt_dk prog_15_method_47_code rt_i389_3 = true := by decide +kernel
set_option maxRecDepth 100000 in
theorem rt_d389_4 : rt_dk prog_15_method_47_code rt_i389_4 = true := by decide +kernel
set_option maxRecDepth 100000 in
theorem rt_d389_5 : rt_dk prog_15_method_47_code rt_i389_5 = true := by decide +kernel
set_option maxRecDepth 100000 in
theorem rt_d389_6 : rt_dk prog_15_method_47_code rt_i389_6 = true := by decide +kernel
set_option maxRecDepth 100000 in
theorem rt_d389_7 : rt_dk prog_15_method_47_code rt_i389_7 = true := by decide +kernel
set_option maxRecDepth 100000 in
theorem rt_d389_8 : rt_dk prog_15_method_47_code rt_i389_8 = true := by decide +kernel
set_option maxRecDepth 100000 in
theorem rt_d389_9 : rt_dk prog_15_method_47_code rt_i389_9 = true := by decide +kernel
set_option maxRecDepth 100000 in
theorem rt_d389_10 : rt_dk prog_15_method_47_code rt_i389_10 = true := by decide +kernel
set_option maxRecDepth 100000 in
theorem rt_d389_11 : rt_dk prog_15_method_47_code rt_i389_11 = true := by decide +kernel
theorem rt_D389 : ∀ c ∈ rt_m389.2.2.2.2.2.2.1, rt_dk rt_m389.2.2.2.1 c.2 = true := by
  intro c hc
  have hc : c ∈ [(0, rt_i389_0), (1, rt_i389_1), (2, rt_i389_2), (3, rt_i389_3), (4, rt_i389_4), (5, rt_i389_5), (6, rt_i389_6), (7, rt_i389_7), (8, rt_i389_8), (9, rt_i389_9), (10, rt_i389_10), (11, rt_i389_11)] := hc
  simp only [List.mem_cons, List.not_mem_nil, or_false] at hc
  rcases hc with rfl | rfl | rfl | rfl | rfl | rfl | rfl | rfl | rfl | rfl | rfl | rfl
  · exact rt_d389_0
  · exact rt_d389_1
  · exact rt_d389_2
  · exact rt_d389_3
  · exact rt_d389_4
  · exact rt_d389_5
  · exact rt_d389_6
  · exact rt_d389_7
  · exact rt_d389_8
  · exact rt_d389_9
  · exact rt_d389_10
  · exact rt_d389_11
set_option maxRecDepth 100000 in
theorem rt_d390_0 : rt_dk prog_15_method_48_code rt_i390_0 = true := by decide +kernel
theorem rt_D390 : ∀ c ∈ rt_m390.2.2.2.2.2.2.1, rt_dk rt_m390.2.2.2.1 c.2 = true := by
  intro c hc
  have hc : c ∈ [(0, rt_i390_0)] := hc
  simp only [List.mem_cons, List.not_mem_nil, or_false] at hc
  rcases hc with rfl
  · exact rt_d390_0
set_option maxRecDepth 100000 in
theorem rt_d391_0 : rt_dk prog_15_method_49_code rt_i391_0 = true := by decide +kernel
theorem rt_D391 : ∀ c ∈ rt_m391.2.2.2.2.2.2.1, rt_dk rt_m391.2.2.2.1 c.2 = true := by
  intro c hc
  have hc : c ∈ [(0, rt_i391_0)] := hc
  simp only [List.mem_cons, List.not_mem_nil, or_false] at hc
  rcases hc with rfl
  · exact rt_d391_0
set_option maxRecDepth 100000 in
theorem rt_d392_0 : rt_dk prog_15_method_50_code rt_i392_0 = true := by decide +kernel
theorem rt_D392 : ∀ c ∈ rt_m392.2.2.2.2.2.2.1, rt_dk rt_m392.2.2.2.1 c.2 = true := by
  intro c hc
  have hc : c ∈ [(0, rt_i392_0)] := hc
  simp only [List.mem_cons, List.not_mem_nil, or_false] at hc
  rcases hc with rfl
  · exact rt_d392_0
set_option maxRecDepth 100000 in
theorem rt_d393_0 : rt_dk prog_15_method_51_code rt_i393_0 = true := by decide +kernel
set_option maxRecDepth 100000 in
theorem rt_d393_1 : rt_dk prog_15_method_51_code rt_i393_1 = true := by decide +kernel
theorem rt_D393 : ∀ c ∈ rt_m393.2.2.2.2.2.2.1, rt_dk rt_m393.2.2.2.1 c.2 = true := by
  intro c hc
  have hc : c ∈ [(0, rt_i393_0), (1, rt_i393_1)] := hc
  simp only [List.mem_cons, List.not_mem_nil, or_false] at hc
  rcases hc with rfl | rfl
  · exact rt_d393_0
  · exact rt_d393_1
set_option maxRecDepth 100000 in
theorem rt_d394_0 : rt_dk prog_15_method_52_code rt_i394_0 = true := by decide +kernel
set_option maxRecDepth 100000 in
theorem rt_d394_1 : rt_dk prog_15_method_52_code rt_i394_1 = true := by decide +kernel
theorem rt_D394 : ∀ c ∈ rt_m394.2.2.2.2.2.2.1, rt_dk rt_m394.2.2.2.1 c.2 = true := by
  intro c hc
  have hc : c ∈ [(0, rt_i394_0), (1, rt_i394_1)] := hc
  simp only [List.mem_cons, List.not_mem_nil, or_false] at hc
  rcases hc with rfl | rfl
  · exact rt_d394_0
  · exact rt_d394_1
set_option maxRecDepth 100000 in
theorem rt_d395_0 : rt_dk prog_15_method_53_code rt_i395_0 = true := by decide +kernel
set_option maxRecDepth 100000 in
theorem rt_d395_1 : rt_dk prog_15_method_53_code rt_i395_1 = true := by decide +kernel
theorem rt_D395 : ∀ c ∈ rt_m395.2.2.2.2.2.2.1, rt_dk rt_m395.2.2.2.1 c.2 = true := by
  intro c hc
  have hc : c ∈ [(0, rt_i395_0), (1, rt_i395_1)] := hc
  simp only [List.mem_cons, List.not_mem_nil, or_false] at hc
  rcases hc with rfl | rfl
  · exact rt_d395_0
  · exact rt_d395_1
set_option maxRecDepth 100000 in
theorem rt_d396_0 : rt_dk prog_15_method_54_code rt_i396_0 = true := by decide +kernel
set_option maxRecDepth 100000 in
theorem rt_d396_1 : rt_dk prog_15_method_54_code rt_i396_1 = true := by decide +kernel
set_option maxRecDepth 100000 in
theorem rt_d396_2 : rt_dk prog_15_method_54_code rt_i396_2 = true := by decide +kernel
set_option maxRecDepth 100000 in
theorem rt_d396_3 : rt_dk prog_15_method_54_code rt_i396_3 = true := by decide +kernel
theorem rt_D396 : ∀ c ∈ rt_m396.2.2.2.2.2.2.1, rt_dk rt_m396.2.2.2.1 c.2 = true := by
  intro c hc
  have hc : c ∈ [(0, rt_i396_0), (1, rt_i396_1), (2, rt_i396_2), (3, rt_i396_3)] := hc
  simp only [List.mem_cons, List.not_mem_nil, or_false] at hc
  rcases hc with rfl | rfl | rfl | rfl
  · exact rt_d396_0
  · exact rt_d396_1
  · exact rt_d396_2
  · exact rt_d396_3
set_option maxRecDepth 100000 in
theorem rt_d397_0 : rt_dk prog_15_method_55_code rt_i397_0 = true := by decide +kernel
set_option maxRecDepth 100000 in
theorem rt_d397_1 : rt_dk prog_15_method_55_code rt_i397_1 = true := by decide +kernel
set_option maxRecDepth 100000 in
theorem rt_d397_2 : rt_dk prog_15_method_55_code rt_i397_2 = true := by decide +kernel
set_option maxRecDepth 100000 in
theorem rt_d397_3 : rt_dk prog_15_method_55_code rt_i397_3 = true := by decide +kernel
set_option maxRecDepth 100000 in
theorem rt_d397_4 : rt_dk prog_15_method_55_code rt_i397_4 = true := by decide +kernel
set_option maxRecDepth 100000 in
theorem rt_d397_5 : rt_dk prog_15_method_55_code rt_i397_5 = true := by decide +kernel
set_option maxRecDepth 100000 in
theorem rt_d397_6 : rt_dk prog_15_method_55_code rt_i397_6 = true := by decide +kernel
set_option maxRecDepth 100000 in
theorem rt_d397_7 : rt_dk prog_15_method_55_code rt_i397_7 = true := by decide +kernel
set_option maxRecDepth 100000 in
theorem rt_d397_8 : rt_dk prog_15_method_55_code rt_i397_8 = true := by decide +kernel
set_option maxRecDepth 100000 in
theorem rt_d397_9 : rt_dk prog_15_method_55_code rt_i397_9 = true := by decide +kernel
set_option maxRecDepth 100000 in
theorem rt_d397_10 : rt_dk prog_15_method_55_code rt_i397_10 = true := by decide +kernel
set_option maxRecDepth 100000 in
theorem rt_d397_11 : rt_dk prog_15_method_55_code rt_i397_11 = true := by decide +kernel
set_option maxRecDepth 100000 in
theorem rt_d397_12 : rt_dk prog_15_method_55_code rt_i397_12 = true := by decide +kernel
set_option maxRecDepth 100000 in
theorem rt_d397_13 : rt_dk prog_15_method_55_code rt_i397_13 = true := by decide +kernel
set_option maxRecDepth 100000 in
theorem rt_d397_14 : rt_dk prog_15_method_55_code rt_i397_14 = true := by decide +kernel
theorem rt_D397 : ∀ c ∈ rt_m397.2.2.2.2.2.2.1, rt_dk rt_m397.2.2.2.1 c.2 = true := by
  intro c hc
  have hc : c ∈ [(0, rt_i397_0), (1, rt_i397_1), (2, rt_i397_2), (3, rt_i397_3), (4, rt_i397_4), (5, rt_i397_5), (6, rt_i397_6), (7, rt_i397_7), (8, rt_i397_8), (9, rt_i397_9), (10, rt_i397_10), (11, rt_i397_11), (12, rt_i397_12), (13, rt_i397_13), (14, rt_i397_14)] := hc
  simp only [List.mem_cons, List.not_mem_nil, or_false] at hc
  rcases hc with rfl | rfl | rfl | rfl | rfl | rfl | rfl | rfl | rfl | rfl | rfl | rfl | rfl | rfl | rfl
  · exact rt_d397_0
  · exact rt_d397_1
  · exact rt_d397_2
  · exact rt_d397_3
  · exact rt_d397_4
  · exact rt_d397_5
  · exact rt_d397_6
  · exact rt_d397_7
  · exact rt_d397_8
  · exact rt_d397_9
  · exact rt_d397_10
  · exact rt_d397_11
  · exact rt_d397_12
  · exact rt_d397_13
  · exact rt_d397_14
set_option maxRecDepth 100000 in
theorem rt_d398_0 : rt_dk prog_15_method_56_code rt_i398_0 = true := by decide +kernel
set_option maxRecDepth 100000 in
theorem rt_d398_1 : rt_dk prog_15_method_56_code rt_i398_1 = true := by decide +kernel
set_option maxRecDepth 100000 in
theorem rt_d398_2 : rt_dk prog_15_method_56_code rt_i398_2 = true := by decide +kernel
set_option maxRecDepth 100000 in
theorem rt_d398_3 : rt_dk prog_15_method_56_code rt_i398_3 = true := by decide +kernel
set_option maxRecDepth 100000 in
theorem rt_d398_4 : rt_dk prog_15_method_56_code rt_i398_4 = true := by decide +kernel
set_option maxRecDepth 100000 in
theorem rt_d398_5 : rt_dk prog_15_method_56_code rt_i398_5 = true := by decide +kernel
theorem rt_D398 : ∀ c ∈ rt_m398.2.2.2.2.2.2.1, rt_dk rt_m398.2.2.2.1 c.2 = true := by
  intro c hc
  have hc : c ∈ [(0, rt_i398_0), (1, rt_i398_1), (2, rt_i398_2), (3, rt_i398_3), (4, rt_i398_4), (5, rt_i398_5)] := hc
  simp only [List.mem_cons, List.not_mem_nil, or_false] at hc
  rcases hc with rfl | rfl | rfl | rfl | rfl | rfl
  · exact rt_d398_0
  · exact rt_d398_1
  · exact rt_d398_2
  · exact rt_d398_3
  · exact rt_d398_4
  · exact rt_d398_5
set_option maxRecDepth 100000 in
theorem rt_d399_0 : rt_dk prog_15_method_57_code rt_i399_0 = true := by decide +kernel
set_option maxRecDepth 100000 in
theorem rt_d399_1 : rt_dk prog_15_method_57_code rt_i399_1 = true := by decide +kernel
theorem rt_D399 : ∀ c ∈ rt_m399.2.2.2.2.2.2.1, rt_dk rt_m399.2.2.2.1 c.2 = true := by
  intro c hc
  have hc : c ∈ [(0, rt_i399_0), (1, rt_i399_1)] := hc
  simp only [List.mem_cons, List.not_mem_nil, or_false] at hc
  rcases hc with rfl | rfl
  · exact rt_d399_0
  · exact rt_d399_1
set_option maxRecDepth 100000 in
theorem rt_d400_0 : rt_dk prog_15_method_58_code rt_i400_0 = true := by decide +kernel
set_option maxRecDepth 100000 in
theorem rt_d400_1 : rt_dk prog_15_method_58_code rt_i400_1 = true := by decide +kernel
set_option maxRecDepth 100000 in
theorem rt_d400_2 : rt_dk prog_15_method_58_code rt_i400_2 = true := by decide +kernel
set_option maxRecDepth 100000 in
theorem rt_d400_3 : rt_dk prog_15_method_58_code rt_i400_3 = true := by decide +kernel
set_option maxRecDepth 100000 in
theorem rt_d400_4 : rt_dk prog_15_method_58_code rt_i400_4 = true := by decide +kernel
set_option maxRecDepth 100000 in
theorem rt_d400_5 : rt_dk prog_15_method_58_code rt_i400_5 = true := by decide +kernel
set_option maxRecDepth 100000 in
theorem rt_d400_6 : rt_dk prog_15_method_58_code rt_i400_6 = true := by decide +kernel
set_option maxRecDepth 100000 in
theorem rt_d400_7 : rt_dk prog_15_method_58_code rt_i400_7 = true := by decide +kernel
set_option maxRecDepth 100000 in
theorem rt_d400_8 : rt_dk prog_15_method_58_code rt_i400_8 = true := by decide +kernel
theorem rt_D400 : ∀ c ∈ rt_m400.2.2.2.2.2.2.1, rt_dk rt_m400.2.2.2.1 c.2 = true := by
  intro c hc
  have hc : c ∈ [(0, rt_i400_0), (1, rt_i400_1), (2, rt_i400_2), (3, rt_i400_3), (4, rt_i400_4), (5, rt_i400_5), (6, rt_i400_6), (7, rt_i400_7), (8, rt_i400_8)] := hc
  simp only [List.mem_cons, List.not_mem_nil, or_false] at hc
  rcases hc with rfl | rfl | rfl | rfl | rfl | rfl | rfl | rfl | rfl
  · exact rt_d400_0
  · exact rt_d400_1
  · exact rt_d400_2
  · exact rt_d400_3
  · exact rt_d400_4
  · exact rt_d400_5
  · exact rt_d400_6
  · exact rt_d400_7
  · exact rt_d400_8
set_option maxRecDepth 100000 in
theorem rt_d401_0 : rt_dk prog_15_method_59_code rt_i401_0 = true := by decide +kernel
set_option maxRecDepth 100000 in
theorem rt_d401_1 : rt_dk prog_15_method_59_code rt_i401_1 = true := by decide +kernel
set_option maxRecDepth 100000 in
theorem rt_d401_2 : rt_dk prog_15_method_59_code rt_i401_2 = true := by decide +kernel
set_option maxRecDepth 100000 in
theorem rt_d401_3 : rt_dk prog_15_method_59_code rt_i401_3 = true := by decide +kernel
set_option maxRecDepth 100000 in
theorem rt_d401_4 : rt_dk prog_15_method_59_code rt_i401_4 = true := by decide +kernel
set_option maxRecDepth 100000 in
theorem rt_d401_5 : rt_dk prog_15_method_59_code rt_i401_5 = true := by decide +kernel
theorem rt_D401 : ∀ c ∈ rt_m401.2.2.2.2.2.2.1, rt_dk rt_m401.2.2.2.1 c.2 = true := by
  intro c hc
  have hc : c ∈ [(0, rt_i401_0), (1, rt_i401_1), (2, rt_i401_2), (3, rt_i401_3), (4, rt_i401_4), (5, rt_i401_5)] := hc
  simp only [List.mem_cons, List.not_mem_nil, or_false] at hc
  rcases hc with rfl | rfl | rfl | rfl | rfl | rfl
  · exact rt_d401_0
  · exact rt_d401_1
  · exact rt_d401_2
  · exact rt_d401_3
  · exact rt_d401_4
  · exact rt_d401_5
set_option maxRecDepth 100000 in
theorem rt_d402_0 : rt_dk prog_15_method_60_code rt_i402_0 = true := by decide +kernel
set_option maxRecDepth 100000 in
theorem rt_d402_1 : rt_dk prog_15_method_60_code rt_i402_1 = true := by decide +kernel
set_option maxRecDepth 100000 in
theorem rt_d402_2 : rt_dk prog_15_method_60_code rt_i402_2 = true := by decide +kernel
set_option maxRecDepth 100000 in
theorem rt_d402_3 : rt_dk prog_15_method_60_code rt_i402_3 = true := by decide +kernel
set_option maxRecDepth 100000 in
theorem rt_d402_4 : rt_dk prog_15_method_60_code rt_i402_4 = true := by decide +kernel
theorem rt_D402 : ∀ c ∈ rt_m402.2.2.2.2.2.2.1, rt_dk rt_m402.2.2.2.1 c.2 = true := by
  intro c hc
  have hc : c ∈ [(0, rt_i402_0), (1, rt_i402_1), (2, rt_i402_2), (3, rt_i402_3), (4, rt_i402_4)] := hc
  simp only [List.mem_cons, List.not_mem_nil, or_false] at hc
  rcases hc with rfl | rfl | rfl | rfl | rfl
  · exact rt_d402_0
  · exact rt_d402_1
  · exact rt_d402_2
  · exact rt_d402_3
  · exact rt_d402_4
set_option maxRecDepth 100000 in
theorem rt_d403_0 : rt_dk prog_15_method_61_code rt_i403_0 = true := by decide +kernel
set_option maxRecDepth 100000 in
theorem rt_d403_1 : rt_dk prog_15_method_61_code rt_i403_1 = true := by decide +kernel
set_option maxRecDepth 100000 in
theorem rt_d403_2 : rt_dk prog_15_method_61_code rt_i403_2 = true := by decide +kernel
set_option maxRecDepth 100000 in
theorem rt_d403_3 : rt_dk prog_15_method_61_code rt_i403_3 = true := by decide +kernel
set_option maxRecDepth 100000 in
theorem rt_d403_4 : rt_dk prog_15_method_61_code rt_i403_4 = true := by decide +kernel
set_option maxRecDepth 100000 in
theorem rt_d403_5 : rt_dk prog_15_method_61_code rt_i403_5 = true := by decide +kernel
set_option maxRecDepth 100000 in
theorem rt_d403_6 : rt_dk prog_15_method_61_code rt_i403_6 = true := by decide +kernel
theorem rt_D403 : ∀ c ∈ rt_m403.2.2.2.2.2.2.1, rt_dk rt_m403.2.2.2.1 c.2 = true := by
  intro c hc
  have hc : c ∈ [(0, rt_i403_0), (1, rt_i403_1), (2, rt_i403_2), (3, rt_i403_3), (4, rt_i403_4), (5, rt_i403_5), (6, rt_i403_6)] := hc
  simp only [List.mem_cons, List.not_mem_nil, or_false] at hc
  rcases hc with rfl | rfl | rfl | rfl | rfl | rfl | rfl
  · exact rt_d403_0
  · exact rt_d403_1
  · exact rt_d403_2
  · exact rt_d403_3
  · exact rt_d403_4
  · exact rt_d403_5
  · exact rt_d403_6
set_option maxRecDepth 100000 in
theorem rt_d404_0 : rt_dk prog_15_method_62_code rt_i404_0 = true := by decide +kernel
set_option maxRecDepth 100000 in
theorem rt_d404_1 : rt_dk prog_15_method_62_code rt_i404_1 = true := by decide +kernel
set_option maxRecDepth 100000 in
theorem rt_d404_2 : rt_dk prog_15_method_62_code rt_i404_2 = true := by decide +kernel
set_option maxRecDepth 100000 in
theorem rt_d404_3 : rt_dk prog_15_method_62_code rt_i404_3 = true := by decide +kernel
set_option maxRecDepth 100000 in
theorem rt_d404_4 : rt_dk prog_15_method_62_code rt_i404_4 = true := by decide +kernel
set_option maxRecDepth 100000 in
theorem rt_d404_5 : rt_dk prog_15_method_62_code rt_i404_5 = true := by decide +kernel
set_option maxRecDepth 100000 in
theorem rt_d404_6 : rt_dk prog_15_method_62_code rt_i404_6 = true := by decide +kernel
theorem rt_D404 : ∀ c ∈ rt_m404.2.2.2.2.2.2.1, rt_dk rt_m404.2.2.2.1 c.2 = true := by
  intro c hc
  have hc : c ∈ [(0, rt_i404_0), (1, rt_i404_1), (2, rt_i404_2), (3, rt_i404_3), (4, rt_i404_4), (5, rt_i404_5), (6, rt_i404_6)] := hc
  simp only [List.mem_cons, List.not_mem_nil, or_false] at hc
  rcases hc with rfl | rfl | rfl | rfl | rfl | rfl | rfl
  · exact rt_d404_0
  · exact rt_d404_1
  · exact rt_d404_2
  · exact rt_d404_3
  · exact rt_d404_4
  · exact rt_d404_5
  · exact rt_d404_6
set_option maxRecDepth 100000 in
theorem rt_d405_0 : rt_dk prog_15_method_63_code rt_i405_0 = true := by decide +kernel
set_option maxRecDepth 100000 in
theorem rt_d405_1 : rt_dk prog_15_method_63_code rt_i405_1 = true := by decide +kernel
set_option maxRecDepth 100000 in
theorem rt_d405_2 : rt_dk prog_15_method_63_code rt_i405_2 = true := by decide +kernel
set_option maxRecDepth 100000 in
theorem rt_d405_3 : rt_dk prog_15_method_63_code rt_i405_3 = true := by decide +kernel
set_option maxRecDepth 100000 in
theorem rt_d405_4 : rt_dk prog_15_method_63_code rt_i405_4 = true := by decide +kernel
set_option maxRecDepth 100000 in
theorem rt_d405_5 : rt_dk prog_15_method_63_code rt_i405_5 = true := by decide +kernel
set_option maxRecDepth 100000 in
theorem rt_d405_6 : rt_dk prog_15_method_63_code rt_i405_6 = true := by decide +kernel
set_option maxRecDepth 100000 in
theorem rt_d405_7 : rt_dk prog_15_method_63_code rt_i405_7 = true := by decide +kernel
set_option maxRecDepth 100000 in
theorem rt_d405_8 : rt_dk prog_15_method_63_code rt_i405_8 = true := by decide +kernel
set_option maxRecDepth 100000 in
theorem rt_d405_9 : rt_dk prog_15_method_63_code rt_i405_9 = true := by decide +kernel
theorem rt_D405 : ∀ c ∈ rt_m405.2.2.2.2.2.2.1, rt_dk rt_m405.2.2.2.1 c.2 = true := by
  intro c hc
  have hc : c ∈ [(0, rt_i405_0), (1, rt_i405_1), (2, rt_i405_2), (3, rt_i405_3), (4, rt_i405_4), (5, rt_i405_5), (6, rt_i405_6), (7, rt_i405_7), (8, rt_i405_8), (9, rt_i405_9)] := hc
  simp only [List.mem_cons, List.not_mem_nil, or_false] at hc
  rcases hc with rfl | rfl | rfl | rfl | rfl | rfl | rfl | rfl | rfl | rfl
  · exact rt_d405_0
  · exact rt_d405_1
  · exact rt_d405_2
  · exact rt_d405_3
  · exact rt_d405_4
  · exact rt_d405_5
  · exact rt_d405_6
  · exact rt_d405_7
  · exact rt_d405_8
  · exact rt_d405_9
set_option maxRecDepth 100000 in
theorem rt_d406_0 : rt_dk prog_15_method_64_code rt_i406_0 = true := by decide +kernel
set_option maxRecDepth 100000 in
theorem rt_d406_1 : rt_dk prog_15_method_64_code rt_i406_1 = true := by decide +kernel
set_option maxRecDepth 100000 in
theorem rt_d406_2 : rt_dk prog_15_method_64_code rt_i406_2 = true := by decide +kernel
set_option maxRecDepth 100000 in
theorem rt_d406_3 : rt_dk prog_15_method_64_code rt_i406_3 = true := by decide +kernel
set_option maxRecDepth 100000 in
theorem rt_d406_4 : rt_dk prog_15_method_64_code rt_i406_4 = true := by decide +kernel
theorem rt_D406 : ∀ c ∈ rt_m406.2.2.2.2.2.2.1, rt_dk rt_m406.2.2.2.1 c.2 = true := by
  intro c hc
  have hc : c ∈ [(0, rt_i406_0), (1, rt_i406_1), (2, rt_i406_2), (3, rt_i406_3), (4, rt_i406_4)] := hc
  simp only [List.mem_cons, List.not_mem_nil, or_false] at hc
  rcases hc with rfl | rfl | rfl | rfl | rfl
  · exact rt_d406_0
  · exact rt_d406_1
  · exact rt_d406_2
  · exact rt_d406_3
  · exact rt_d406_4
set_option maxRecDepth 100000 in
theorem rt_d407_0 : rt_dk prog_15_method_65_code rt_i407_0 = true := by decide +kernel
set_option maxRecDepth 100000 in
theorem rt_d407_1 : rt_dk prog_15_method_65_code rt_i407_1 = true := by decide +kernel
theorem rt_D407 : ∀ c ∈ rt_m407.2.2.2.2.2.2.1, rt_dk rt_m407.2.2.2.1 c.2 = true := by
  intro c hc
  have hc : c ∈ [(0, rt_i407_0), (1, rt_i407_1)] := hc
  simp only [List.mem_cons, List.not_mem_nil, or_false] at hc
  rcases hc with rfl | rfl
  · exact rt_d407_0
  · exact rt_d407_1
set_option maxRecDepth 100000 in
theorem rt_d408_0 : rt_dk prog_15_method_66_code rt_i408_0 = true := by decide +kernel
set_option maxRecDepth 100000 in
theorem rt_d408_1 : rt_dk prog_15_method_66_code rt_i408_1 = true := by decide +kernel
set_option maxRecDepth 100000 in
theorem rt_d408_2 : rt_dk prog_15_method_66_code rt_i408_2 = true := by decide +kernel
set_option maxRecDepth 100000 in
theorem rt_d408_3 : rt_dk prog_15_method_66_code rt_i408_3 = true := by decide +kernel
set_option maxRecDepth 100000 in
theorem rt_d408_4 : rt_dk prog_15_method_66_code rt_i408_4 = true := by decide +kernel
set_option maxRecDepth 100000 in
theorem rt_d408_5 : rt_dk prog_15_method_66_code rt_i408_5 = true := by decide +kernel
set_option maxRecDepth 100000 in
theorem rt_d408_6 : rt_dk prog_15_method_66_code rt_i408_6 = true := by decide +kernel
set_option maxRecDepth 100000 in
theorem rt_d408_7 : rt_dk prog_15_method_66_code rt_i408_7 = true := by decide +kernel
set_option maxRecDepth 100000 in
theorem rt_d408_8 : rt_dk prog_15_method_66_code rt_i408_8 = true := by decide +kernel
set_option maxRecDepth 100000 in
theorem rt_d408_9 : rt_dk prog_15_method_66_code rt_i408_9 = true := by decide +kernel
set_option maxRecDepth 100000 in
theorem rt_d408_10 : rt_dk prog_15_method_66_code rt_i408_10 = true := by decide +kernel
set_option maxRecDepth 100000 in
theorem rt_d408_11 : rt_dk prog_15_method_66_code rt_i408_11 = true := by decide +kernel
theorem rt_D408 : ∀ c ∈ rt_m408.2.2.2.2.2.2.1, rt_dk rt_m408.2.2.2.1 c.2 = true := by
  intro c hc
  have hc : c ∈ [(0, rt_i408_0), (1, rt_i408_1), (2, rt_i408_2), (3, rt_i408_3), (4, rt_i408_4), (5, rt_i408_5), (6, rt_i408_6), (7, rt_i408_7), (8, rt_i408_8), (9, rt_i408_9), (10, rt_i408_10), (11, rt_i408_11)] := hc
  simp only [List.mem_cons, List.not_mem_nil, or_false] at hc
  rcases hc with rfl | rfl | rfl | rfl | rfl | rfl | rfl | rfl | rfl | rfl | rfl | rfl
  · exact rt_d408_0
  · exact rt_d408_1
  · exact rt_d408_2
  · exact rt_d408_3
  · exact rt_d408_4
  · exact rt_d408_5
  · exact rt_d408_6
  · exact rt_d408_7
  · exact rt_d408_8
  · exact rt_d408_9
  · exact rt_d408_10
  · exact rt_d408_11
set_option maxRecDepth 100000 in
theorem rt_d409_0 : rt_dk prog_15_method_67_code rt_i409_0 = true := by decide +kernel
set_option maxRecDepth 100000 in
theorem rt_d409_2 : rt_dk prog_15_method_67_code rt_i409_2 = true := by decide +kernel
set_option maxRecDepth 100000 in
theorem rt_d409_3 : rt_dk prog_15_method_67_code rt_i409_3 = true := by decide +kernel
set_option maxRecDepth 100000 in
theorem rt_d409_4 : rt_dk prog_15_method_67_code rt_i409_4 = true := by decide +kernel
set_option maxRecDepth 100000 in
theorem rt_d409_5 : rt_dk prog_15_method_67_code rt_i409_5 = true := by decide +kernel
set_option maxRecDepth 100000 in
theorem rt_d409_6 : rt_dk prog_15_method_67_code rt_i409_6 = true := by decide +kernel
theorem rt_D409 : ∀ c ∈ rt_m409.2.2.2.2.2.2.1, rt_dk rt_m409.2.2.2.1 c.2 = true := by
  intro c hc
  have hc : c ∈ [(0, rt_i409_0), (2, rt_i409_2), (3, rt_i409_3), (4, rt_i409_4), (5, rt_i409_5), (6, rt_i409_6)] := hc
  simp only [List.mem_cons, List.not_mem_nil, or_false] at hc
  rcases hc with rfl | rfl | rfl | rfl | rfl | rfl
  · exact rt_d409_0
  · exact rt_d409_2
  · exact rt_d409_3
  · exact rt_d409_4
  · exact rt_d409_5
  · exact rt_d409_6
set_option maxRecDepth 100000 in
theorem rt_d410_0 : rt_dk prog_15_method_68_code rt_i410_0 = true := by decide +kernel
set_option maxRecDepth 100000 in
theorem rt_d410_1 : rt_dk prog_15_method_68_code rt_i410_1 = true := by decide +kernel
set_option maxRecDepth 100000 in
theorem rt_d410_2 : rt_dk prog_15_method_68_code rt_i410_2 = true := by decide +kernel
set_option maxRecDepth 100000 in
theorem rt_d410_3 : rt_dk prog_15_method_68_code rt_i410_3 = true := by decide +kernel
theorem rt_D410 : ∀ c ∈ rt_m410.2.2.2.2.2.2.1, rt_dk rt_m410.2.2.2.1 c.2 = true := by
  intro c hc
  have hc : c ∈ [(0, rt_i410_0), (1, rt_i410_1), (2, rt_i410_2), (3, rt_i410_3)] := hc
  simp only [List.mem_cons, List.not_mem_nil, or_false] at hc
  rcases hc with rfl | rfl | rfl | rfl
  · exact rt_d410_0
  · exact rt_d410_1
  · exact rt_d410_2
  · exact rt_d410_3
set_option maxRecDepth 100000 in
theorem rt_d411_0 : rt_dk prog_15_method_69_code rt_i411_0 = true := by decide +kernel
set_option maxRecDepth 100000 in
theorem rt_d411_1 : rt_dk prog_15_method_69_code rt_i411_1 = true := by decide +kernel
set_option maxRecDepth 100000 in
theorem rt_d411_2 : rt_dk prog_15_method_69_code rt_i411_2 = true := by decide +kernel
set_option maxRecDepth 100000 in
theorem rt_d411_3 : rt_dk prog_15_method_69_code rt_i411_3 = true := by decide +kernel
theorem rt_D411 : ∀ c ∈ rt_m411.2.2.2.2.2.2.1, rt_dk rt_m411.2.2.2.1 c.2 = true := by
  intro c hc
  have hc : c ∈ [(0, rt_i411_0), (1, rt_i411_1), (2, rt_i411_2), (3, rt_i411_3)] := hc
  simp only [List.mem_cons, List.not_mem_nil, or_false] at hc
  rcases hc with rfl | rfl | rfl | rfl
  · exact rt_d411_0
  · exact rt_d411_1
  · exact rt_d411_2
  · exact rt_d411_3
set_option maxRecDepth 100000 in
theorem rt_d412_0 : rt_dk prog_15_method_70_code rt_i412_0 = true := by decide +kernel
set_option maxRecDepth 100000 in
theorem rt_d412_1 : rt_dk prog_15_method_70_code rt_i412_1 = true := by decide +kernel
set_option maxRecDepth 100000 in
theorem rt_d412_2 : rt_dk prog_15_method_70_code rt_i412_2 = true := by decide +kernel
set_option maxRecDepth 100000 in
theorem rt_d412_3 : rt_dk prog_15_method_70_code rt_i412_3 = true := by decide +kernel
set_option maxRecDepth 100000 in
theorem rt_d412_4 : rt_dk prog_15_method_70_code rt_i412_4 = true := by decide +kernel
theorem rt_D412 : ∀ c ∈ rt_m412.2.2.2.2.2.2.1, rt_dk rt_m412.2.2.2.1 c.2 = true := by
  intro c hc
  have hc : c ∈ [(0, rt_i412_0), (1, rt_i412_1), (2, rt_i412_2), (3, rt_i412_3), (4, rt_i412_4)] := hc
  simp only [List.mem_cons, List.not_mem_nil, or_false] at hc
  rcases hc with rfl | rfl | rfl | rfl | rfl
  · exact rt_d412_0
  · exact rt_d412_1
  · exact rt_d412_2
  · exact rt_d412_3
  · exact rt_d412_4
set_option maxRecDepth 100000 in
theorem rt_d413_0 : rt_dk prog_15_method_71_code rt_i413_0 = true := by decide +kernel
set_option maxRecDepth 100000 in
theorem rt_d413_1 : rt_dk prog_15_method_71_code rt_i413_1 = true := by decide +kernel
set_option maxRecDepth 100000 in
theorem rt_d413_2 : rt_dk prog_15_method_71_code rt_i413_2 = true := by decide +kernel
theorem rt_D413 : ∀ c ∈ rt_m413.2.2.2.2.2.2.1, rt_dk rt_m413.2.2.2.1 c.2 = true := by
  intro c hc
  have hc : c ∈ [(0, rt_i413_0), (1, rt_i413_1), (2, rt_i413_2)] := hc
  simp only [List.mem_cons, List.not_mem_nil, or_false] at hc
  rcases hc with rfl | rfl | rfl
  · exact rt_d413_0
  · exact rt_d413_1
  · exact rt_d413_2
set_option maxRecDepth 100000 in
theorem rt_d414_0 : rt_dk prog_15_method_72_code rt_i414_0 = true := by decide +kernel
set_option maxRecDepth 100000 in
theorem rt_d414_1 : rt_dk prog_15_method_72_code rt_i414_1 = true := by decide +kernel
set_option maxRecDepth 100000 in
theorem rt_d414_2 : rt_dk prog_15_method_72_code rt_i414_2 = true := by decide +kernel
theorem rt_D414 : ∀ c ∈ rt_m414.2.2.2.2.2.2.1, rt_dk rt_m414.2.2.2.1 c.2 = true := by
  intro c hc
  have hc : c ∈ [(0, rt_i414_0), (1, rt_i414_1), (2, rt_i414_2)] := hc
  simp only [List.mem_cons, List.not_mem_nil, or_false] at hc
  rcases hc with rfl | rfl | rfl
  · exact rt_d414_0
  · exact rt_d414_1
  · exact rt_d414_2
set_option maxRecDepth 100000 in
theorem rt_d415_0 : rt_dk prog_15_method_73_code rt_i415_0 = true := by decide +kernel
set_option maxRecDepth 100000 in
theorem rt_d415_1 : rt_dk prog_15_method_73_code rt_i415_1 = true := by decide +kernel
set_option maxRecDepth 100000 in
theorem rt_d415_2 : rt_dk prog_15_method_73_code rt_i415_2 = true := by decide +kernel
theorem rt_D415 : ∀ c ∈ rt_m415.2.2.2.2.2.2.1, rt_dk rt_m415.2.2.2.1 c.2 = true := by
  intro c hc
  have hc : c ∈ [(0, rt_i415_0), (1, rt_i415_1), (2, rt_i415_2)] := hc
  simp only [List.mem_cons, List.not_mem_nil, or_false] at hc
  rcases hc with rfl | rfl | rfl
  · exact rt_d415_0
  · exact rt_d415_1
  · exact rt_d415_2
set_option maxRecDepth 100000 in
theorem rt_d416_0 : rt_dk prog_15_method_75_code rt_i416_0 = true := by decide +kernel
set_option maxRecDepth 100000 in
theorem rt_d416_1 : rt_dk prog_15_method_75_code rt_i416_1 = true := by decide +kernel
set_option maxRecDepth 100000 in
theorem rt_d416_2 : rt_dk prog_15_method_75_code rt_i416_2 = true := by decide +kernel
set_option maxRecDepth 100000 in
theorem rt_d416_3 : rt_dk prog_15_method_75_code rt_i416_3 = true := by decide +kernel
set_option maxRecDepth 100000 in
theorem rt_d416_4 : rt_dk prog_15_method_75_code rt_i416_4 = true := by decide +kernel
set_option maxRecDepth 100000 in
theorem rt_d416_5 : rt_dk prog_15_method_75_code rt_i416_5 = true := by decide +kernel
set_option maxRecDepth 100000 in
theorem rt_d416_6 : rt_dk prog_15_method_75_code rt_i416_6 = true := by decide +kernel
set_option maxRecDepth 100000 in
theorem rt_d416_7 : rt_dk prog_15_method_75_code rt_i416_7 = true := by decide +kernel
set_option maxRecDepth 100000 in
theorem rt_d416_8 : rt_dk prog_15_method_75_code rt_i416_8 = true := by decide +kernel
theorem rt_D416 : ∀ c ∈ rt_m416.2.2.2.2.2.2.1, rt_dk rt_m416.2.2.2.1 c.2 = true := by
  intro c hc
  have hc : c ∈ [(0, rt_i416_0), (1, rt_i416_1), (2, rt_i416_2), (3, rt_i416_3), (4, rt_i416_4), (5, rt_i416_5), (6, rt_i416_6), (7, rt_i416_7), (8, rt_i416_8)] := hc
  simp only [List.mem_cons, List.not_mem_nil, or_false] at hc
  rcases hc with rfl | rfl | rfl | rfl | rfl | rfl | rfl | rfl | rfl
  · exact rt_d416_0
  · exact rt_d416_1
  · exact rt_d416_2
  · exact rt_d416_3
  · exact rt_d416_4
  · exact rt_d416_5
  · exact rt_d416_6
  · exact rt_d416_7
  · exact rt_d416_8
set_option maxRecDepth 100000 in
theorem rt_d417_0 : rt_dk prog_15_method_76_code rt_i417_0 = true := by decide +kernel
set_option maxRecDepth 100000 in
theorem rt_d417_2 : rt_dk prog_15_method_76_code rt_i417_2 = true := by decide +kernel
set_option maxRecDepth 100000 in
theorem rt_d417_3 : rt_dk prog_15_method_76_code rt_i417_3 = true := by decide +kernel
theorem rt_D417 : ∀ c ∈ rt_m417.2.2.2.2.2.2.1, rt_dk rt_m417.2.2.2.1 c.2 = true := by
  intro c hc
  have hc : c ∈ [(0, rt_i417_0), (2, rt_i417_2), (3, rt_i417_3)] := hc
  simp only [List.mem_cons, List.not_mem_nil, or_false] at hc
  rcases hc with rfl | rfl | rfl
  · exact rt_d417_0
  · exact rt_d417_2
  · exact rt_d417_3
set_option maxRecDepth 100000 in
theorem rt_d418_0 : rt_dk prog_15_method_77_code rt_i418_0 = true := by decide +kernel
set_option maxRecDepth 100000 in
theorem rt_d418_2 : rt_dk prog_15_method_77_code rt_i418_2 = true := by decide +kernel
theorem rt_D418 : ∀ c ∈ rt_m418.2.2.2.2.2.2.1, rt_dk rt_m418.2.2.2.1 c.2 = true := by
  intro c hc
  have hc : c ∈ [(0, rt_i418_0), (2, rt_i418_2)] := hc
  simp only [List.mem_cons, List.not_mem_nil, or_false] at hc
  rcases hc with rfl | rfl
  · exact rt_d418_0
  · exact rt_d418_2
set_option maxRecDepth 100000 in
theorem rt_d419_0 : rt_dk prog_15_method_78_code rt_i419_0 = true := by decide +kernel
set_option maxRecDepth 100000 in
theorem rt_d419_1 : rt_dk prog_15_method_78_code rt_i419_1 = true := by decide +kernel
set_option maxRecDepth 100000 in
theorem rt_d419_2 : rt_dk prog_15_method_78_code rt_i419_2 = true := by decide +kernel
set_option maxRecDepth 100000 in
theorem rt_d419_3 : rt_dk prog_15_method_78_code rt_i419_3 = true := by decide +kernel
set_option maxRecDepth 100000 in
theorem rt_d419_4 : rt_dk prog_15_method_78_code rt_i419_4 = true := by decide +kernel
set_option maxRecDepth 100000 in
theorem rt_d419_5 : rt_dk prog_15_method_78_code rt_i419_5 = true := by decide +kernel
set_option maxRecDepth 100000 in
theorem rt_d419_6 : rt_dk prog_15_method_78_code rt_i419_6 = true := by decide +kernel
set_option maxRecDepth 100000 in
theorem rt_d419_7 : rt_dk prog_15_method_78_code rt_i419_7 = true := by decide +kernel
set_option maxRecDepth 100000 in
theorem rt_d419_8 : rt_dk prog_15_method_78_code rt_i419_8 = true := by decide +kernel
theorem rt_D419 : ∀ c ∈ rt_m419.2.2.2.2.2.2.1, rt_dk rt_m419.2.2.2.1 c.2 = true := by
  intro c hc
  have hc : c ∈ [(0, rt_i419_0), (1, rt_i419_1), (2, rt_i419_2), (3, rt_i419_3), (4, rt_i419_4), (5, rt_i419_5), (6, rt_i419_6), (7, rt_i419_7), (8, rt_i419_8)] := hc
  simp only [List.mem_cons, List.not_mem_nil, or_false] at hc
  rcases hc with rfl | rfl | rfl | rfl | rfl | rfl | rfl | rfl | rfl
  · exact rt_d419_0
  · exact rt_d419_1
  · exact rt_d419_2
  · exact rt_d419_3
  · exact rt_d419_4
  · exact rt_d419_5
  · exact rt_d419_6
  · exact rt_d419_7
  · exact rt_d419_8
set_option maxRecDepth 100000 in
theorem rt_d420_0 : rt_dk prog_15_method_79_code rt_i420_0 = true := by decide +kernel
set_option maxRecDepth 100000 in
theorem rt_d420_1 : rt_dk prog_15_method_79_code rt_i420_1 = true := by decide +kernel
theorem rt_D420 : ∀ c ∈ rt_m420.2.2.2.2.2.2.1, rt_dk rt_m420.2.2.2.1 c.2 = true := by
  intro c hc
  have hc : c ∈ [(0, rt_i420_0), (1, rt_i420_1)] := hc
  simp only [List.mem_cons, List.not_mem_nil, or_false] at hc
  rcases hc with rfl | rfl
  · exact rt_d420_0
  · exact rt_d420_1
set_option maxRecDepth 100000 in
theorem rt_d421_0 : rt_dk prog_15_method_85_code rt_i421_0 = true := by decide +kernel
theorem rt_D421 : ∀ c ∈ rt_m421.2.2.2.2.2.2.1, rt_dk rt_m421.2.2.2.1 c.2 = true := by
  intro c hc
  have hc : c ∈ [(0, rt_i421_0)] := hc
  simp only [List.mem_cons, List.not_mem_nil, or_false] at hc
  rcases hc with rfl
  · exact rt_d421_0
set_option maxRecDepth 100000 in
theorem rt_d422_0 : rt_dk prog_15_method_86_code rt_i422_0 = true := by decide +kernel
theorem rt_D422 : ∀ c ∈ rt_m422.2.2.2.2.2.2.1, rt_dk rt_m422.2.2.2.1 c.2 = true := by
  intro c hc
  have hc : c ∈ [(0, rt_i422_0)] := hc
  simp only [List.mem_cons, List.not_mem_nil, or_false] at hc
  rcases hc with rfl
  · exact rt_d422_0
set_option maxRecDepth 100000 in
theorem rt_d423_0 : rt_dk prog_15_method_89_code rt_i423_0 = true := by decide +kernel
set_option maxRecDepth 100000 in
theorem rt_d423_1 : rt_dk prog_15_method_89_code rt_i423_1 = true := by decide +kernel
set_option maxRecDepth 100000 in
theorem rt_d423_2 : rt_dk prog_15_method_89_code rt_i423_2 = true := by decide +kernel
set_option maxRecDepth 100000 in
theorem rt_d423_3 : rt_dk prog_15_method_89_code rt_i423_3 = true := by decide +kernel
set_option maxRecDepth 100000 in
theorem rt_d423_4 : rt_dk prog_15_method_89_code rt_i423_4 = true := by decide +kernel
theorem rt_D423 : ∀ c ∈ rt_m423.2.2.2.2.2.2.1, rt_dk rt_m423.2.2.2.1 c.2 = true := by
  intro c hc
  have hc : c ∈ [(0, rt_i423_0), (1, rt_i423_1), (2, rt_i423_2), (3, rt_i423_3), (4, rt_i423_4)] := hc
  simp only [List.mem_cons, List.not_mem_nil, or_false] at hc
  rcases hc with rfl | rfl | rfl | rfl | rfl
  · exact rt_d423_0
  · exact rt_d423_1
  · exact rt_d423_2
  · exact rt_d423_3
  · exact rt_d423_4
set_option maxRecDepth 100000 in
theorem rt_d424_0 : rt_dk prog_15_method_91_code rt_i424_0 = true := by decide +kernel
theorem rt_D424 : ∀ c ∈ rt_m424.2.2.2.2.2.2.1, rt_dk rt_m424.2.2.2.1 c.2 = true := by
  intro c hc
  have hc : c ∈ [(0, rt_i424_0)] := hc
  simp only [List.mem_cons, List.not_mem_nil, or_false] at hc
  rcases hc with rfl
  · exact rt_d424_0
set_option maxRecDepth 100000 in
theorem rt_d425_0 : rt_dk prog_15_method_92_code rt_i425_0 = true := by decide +kernel
set_option maxRecDepth 100000 in
theorem rt_d425_1 : rt_dk prog_15_method_92_code rt_i425_1 = true := by decide +kernel
set_option maxRecDepth 100000 in
theorem rt_d425_2 : rt_dk prog_15_method_92_code rt_i425_2 = true := by decide +kernel
set_option maxRecDepth 100000 in
theorem rt_d425_3 : rt_dk prog_15_method_92_code rt_i425_3 = true := by decide +kernel
set_option maxRecDepth 100000 in
theorem rt_d425_4 : rt_dk prog_15_method_92_code rt_i425_4 = true := by decide +kernel
theorem rt_D425 : ∀ c ∈ rt_m425.2.2.2.2.2.2.1, rt_dk rt_m425.2.2.2.1 c.2 = true := by
  intro c hc
  have hc : c ∈ [(0, rt_i425_0), (1, rt_i425_1), (2, rt_i425_2), (3, rt_i425_3), (4, rt_i425_4)] := hc
  simp only [List.mem_cons, List.not_mem_nil, or_false] at hc
  rcases hc with rfl | rfl | rfl | rfl | rfl
  · exact rt_d425_0
  · exact rt_d425_1
  · exact rt_d425_2
  · exact rt_d425_3
  · exact rt_d425_4
set_option maxRecDepth 100000 in
theorem rt_d426_0 : rt_dk prog_15_method_93_code rt_i426_0 = true := by decide +kernel
set_option maxRecDepth 100000 in
theorem rt_d426_1 : rt_dk prog_15_method_93_code rt_i426_1 = true := by decide +kernel
set_option maxRecDepth 100000 in
theorem rt_d426_2 : rt_dk prog_15_method_93_code rt_i426_2 = true := by decide +kernel
set_option maxRecDepth 100000 in
theorem rt_d426_3 : rt_dk prog_15_method_93_code rt_i426_3 = true := by decide +kernel
set_option maxRecDepth 100000 in
theorem rt_d426_4 : rt_dk prog_15_method_93_code rt_i426_4 = true := by decide +kernel
set_option maxRecDepth 100000 in
theorem rt_d426_5 : rt_dk prog_15_method_93_code rt_i426_5 = true := by decide +kernel
theorem rt_D426 : ∀ c ∈ rt_m426.2.2.2.2.2.2.1, rt_dk rt_m426.2.2.2.1 c.2 = true := by
  intro c hc
  have hc : c ∈ [(0, rt_i426_0), (1, rt_i426_1), (2, rt_i426_2), (3, rt_i426_3), (4, rt_i426_4), (5, rt_i426_5)] := hc
  simp only [List.mem_cons, List.not_mem_nil, or_false] at hc
  rcases hc with rfl | rfl | rfl | rfl | rfl | rfl
  · exact rt_d426_0
  · exact rt_d426_1
  · exact rt_d426_2
  · exact rt_d426_3
  · exact rt_d426_4
  · exact rt_d426_5
set_option maxRecDepth 100000 in
theorem rt_d427_0 : rt_dk prog_15_method_94_code rt_i427_0 = true := by decide +kernel
set_option maxRecDepth 100000 in
theorem rt_d427_1 : rt_dk prog_15_method_94_code rt_i427_1 = true := by decide +kernel
set_option maxRecDepth 100000 in
theorem rt_d427_2 : rt_dk prog_15_method_94_code rt_i427_2 = true := by decide +kernel
theorem rt_D427 : ∀ c ∈ rt_m427.2.2.2.2.2.2.1, rt_dk rt_m427.2.2.2.1 c.2 = true := by
  intro c hc
  have hc : c ∈ [(0, rt_i427_0), (1, rt_i427_1), (2, rt_i427_2)] := hc
  simp only [List.mem_cons, List.not_mem_nil, or_false] at hc
  rcases hc with rfl | rfl | rfl
  · exact rt_d427_0
  · exact rt_d427_1
  · exact rt_d427_2
set_option maxRecDepth 100000 in
theorem rt_d428_0 : rt_dk prog_15_method_95_code rt_i428_0 = true := by decide +kernel
set_option maxRecDepth 100000 in
theorem rt_d428_1 : rt_dk prog_15_method_95_code rt_i428_1 = true := by decide +kernel
set_option maxRecDepth 100000 in
theorem rt_d428_2 : rt_dk prog_15_method_95_code rt_i428_2 = true := by decide +kernel
set_option maxRecDepth 100000 in
theorem rt_d428_3 : rt_dk prog_15_method_95_code rt_i428_3 = true := by decide +kernel
set_option maxRecDepth 100000 in
theorem rt_d428_4 : rt_dk prog_15_method_95_code rt_i428_4 = true := by decide +kernel
set_option maxRecDepth 100000 in
theorem rt_d428_5 : rt_dk prog_15_method_95_code rt_i428_5 = true := by decide +kernel
set_option maxRecDepth 100000 in
theorem rt_d428_6 : rt_dk prog_15_method_95_code rt_i428_6 = true := by decide +kernel
set_option maxRecDepth 100000 in
theorem rt_d428_7 : rt_dk prog_15_method_95_code rt_i428_7 = true := by decide +kernel
set_option maxRecDepth 100000 in
theorem rt_d428_8 : rt_dk prog_15_method_95_code rt_i428_8 = true := by decide +kernel
theorem rt_D428 : ∀ c ∈ rt_m428.2.2.2.2.2.2.1, rt_dk rt_m428.2.2.2.1 c.2 = true := by
  intro c hc
  have hc : c ∈ [(0, rt_i428_0), (1, rt_i428_1), (2, rt_i428_2), (3, rt_i428_3), (4, rt_i428_4), (5, rt_i428_5), (6, rt_i428_6), (7, rt_i428_7), (8, rt_i428_8)] := hc
  simp only [List.mem_cons, List.not_mem_nil, or_false] at hc
  rcases hc with rfl | rfl | rfl | rfl | rfl | rfl | rfl | rfl | rfl
  · exact rt_d428_0
  · exact rt_d428_1
  · exact rt_d428_2
  · exact rt_d428_3
  · exact rt_d428_4
  · exact rt_d428_5
  · exact rt_d428_6
  · exact rt_d428_7
  · exact rt_d428_8
set_option maxRecDepth 100000 in
theorem rt_d429_0 : rt_dk prog_15_method_96_code rt_i429_0 = true := by decide +kernel
set_option maxRecDepth 100000 in
theorem rt_d429_1 : rt_dk prog_15_method_96_code rt_i429_1 = true := by decide +kernel
set_option maxRecDepth 100000 in
theorem rt_d429_2 : rt_dk prog_15_method_96_code rt_i429_2 = true := by decide +kernel
set_option maxRecDepth 100000 in
theorem rt_d429_3 : rt_dk prog_15_method_96_code rt_i429_3 = true := by decide +kernel
set_option maxRecDepth 100000 in
theorem rt_d429_4 : rt_dk prog_15_method_96_code rt_i429_4 = true := by decide +kernel
theorem rt_D429 : ∀ c ∈ rt_m429.2.2.2.2.2.2.1, rt_dk rt_m429.2.2.2.1 c.2 = true := by
  intro c hc
  have hc : c ∈ [(0, rt_i429_0), (1, rt_i429_1), (2, rt_i429_2), (3, rt_i429_3), (4, rt_i429_4)] := hc
  simp only [List.mem_cons, List.not_mem_nil, or_false] at hc
  rcases hc with rfl | rfl | rfl | rfl | rfl
  · exact rt_d429_0
  · exact rt_d429_1
  · exact rt_d429_2
  · exact rt_d429_3
  · exact rt_d429_4
set_option maxRecDepth 100000 in
theorem rt_d430_0 : rt_dk prog_15_method_97_code rt_i430_0 = true := by decide +kernel
set_option maxRecDepth 100000 in
theorem rt_d430_1 : rt_dk prog_15_method_97_code rt_i430_1 = true := by decide +kernel
set_option maxRecDepth 100000 in
theorem rt_d430_2 : rt_dk prog_15_method_97_code rt_i430_2 = true := by decide +kernel
theorem rt_D430 : ∀ c ∈ rt_m430.2.2.2.2.2.2.1, rt_dk rt_m430.2.2.2.1 c.2 = true := by
  intro c hc
  have hc : c ∈ [(0, rt_i430_0), (1, rt_i430_1), (2, rt_i430_2)] := hc
  simp only [List.mem_cons, List.not_mem_nil, or_false] at hc
  rcases hc with rfl | rfl | rfl
  · exact rt_d430_0
  · exact rt_d430_1
  · exact rt_d430_2
set_option maxRecDepth 100000 in
theorem rt_d431_0 : rt_dk prog_15_method_98_code rt_i431_0 = true := by decide +kernel
theorem rt_D431 : ∀ c ∈ rt_m431.2.2.2.2.2.2.1, rt_dk rt_m431.2.2.2.1 c.2 = true := by
  intro c hc
  have hc : c ∈ [(0, rt_i431_0)] := hc
  simp only [List.mem_cons, List.not_mem_nil, or_false] at hc
  rcases hc with rfl
  · exact rt_d431_0
set_option maxRecDepth 100000 in
theorem rt_d432_0 : rt_dk prog_15_method_99_code rt_i432_0 = true := by decide +kernel
set_option maxRecDepth 100000 in
theorem rt_d432_1 : rt_dk prog_15_method_99_code rt_i432_1 = true := by decide +kernel
set_option maxRecDepth 100000 in
theorem rt_d432_2 : rt_dk prog_15_method_99_code rt_i432_2 = true := by decide +kernel
set_option maxRecDepth 100000 in
theorem rt_d432_3 : rt_dk prog_15_method_99_code rt_i432_3 = true := by decide +kernel
theorem rt_D432 : ∀ c ∈ rt_m432.2.2.2.2.2.2.1, rt_dk rt_m432.2.2.2.1 c.2 = true := by
  intro c hc
  have hc : c ∈ [(0, rt_i432_0), (1, rt_i432_1), (2, rt_i432_2), (3, rt_i432_3)] := hc
  simp only [List.mem_cons, List.not_mem_nil, or_false] at hc
  rcases hc with rfl | rfl | rfl | rfl
  · exact rt_d432_0
  · exact rt_d432_1
  · exact rt_d432_2
  · exact rt_d432_3
set_option maxRecDepth 100000 in
theorem rt_d433_0 : rt_dk prog_15_method_107_code rt_i433_0 = true := by decide +kernel
set_option maxRecDepth 100000 in
theorem rt_d433_1 : rt_dk prog_15_method_107_code rt_i433_1 = true := by decide +kernel
set_option maxRecDepth 100000 in
theorem rt_d433_2 : rt_dk prog_15_method_107_code rt_i433_2 = true := by decide +kernel
theorem rt_D433 : ∀ c ∈ rt_m433.2.2.2.2.2.2.1, rt_dk rt_m433.2.2.2.1 c.2 = true := by
  intro c hc
  have hc : c ∈ [(0, rt_i433_0), (1, rt_i433_1), (2, rt_i433_2)] := hc
  simp only [List.mem_cons, List.not_mem_nil, or_false] at hc
  rcases hc with rfl | rfl | rfl
  · exact rt_d433_0
  · exact rt_d433_1
  · exact rt_d433_2
set_option maxRecDepth 100000 in
theorem rt_d434_0 : rt_dk prog_15_method_108_code rt_i434_0 = true := by decide +kernel
set_option maxRecDepth 100000 in
theorem rt_d434_1 : rt_dk prog_15_method_108_code rt_i434_1 = true := by decide +kernel
set_option maxRecDepth 100000 in
theorem rt_d434_2 : rt_dk prog_15_method_108_code rt_i434_2 = true := by decide +kernel
theorem rt_D434 : ∀ c ∈ rt_m434.2.2.2.2.2.2.1, rt_dk rt_m434.2.2.2.1 c.2 = true := by
  intro c hc
  have hc : c ∈ [(0, rt_i434_0), (1, rt_i434_1), (2, rt_i434_2)] := hc
  simp only [List.mem_cons, List.not_mem_nil, or_false] at hc
  rcases hc with rfl | rfl | rfl
  · exact rt_d434_0
  · exact rt_d434_1
  · exact rt_d434_2
set_option maxRecDepth 100000 in
theorem rt_d435_0 : rt_dk prog_15_method_109_code rt_i435_0 = true := by decide +kernel
set_option maxRecDepth 100000 in
theorem rt_d435_1 : rt_dk prog_15_method_109_code rt_i435_1 = true := by decide +kernel
set_option maxRecDepth 100000 in
theorem rt_d435_2 : rt_dk prog_15_method_109_code rt_i435_2 = true := by decide +kernel
theorem rt_D435 : ∀ c ∈ rt_m435.2.2.2.2.2.2.1, rt_dk rt_m435.2.2.2.1 c.2 = true := by
  intro c hc
  have hc : c ∈ [(0, rt_i435_0), (1, rt_i435_1), (2, rt_i435_2)] := hc
  simp only [List.mem_cons, List.not_mem_nil, or_false] at hc
  rcases hc with rfl | rfl | rfl
  · exact rt_d435_0
  · exact rt_d435_1
  · exact rt_d435_2
set_option maxRecDepth 100000 in
theorem rt_d436_0 : rt_dk prog_15_method_110_code rt_i436_0 = true := by decide +kernel
set_option maxRecDepth 100000 in
theorem rt_d436_1 : rt_dk prog_15_method_110_code rt_i436_1 = true := by decide +kernel
set_option maxRecDepth 100000 in
theorem rt_d436_2 : rt_dk prog_15_method_110_code rt_i436_2 = true := by decide +kernel
set_option maxRecDepth 100000 in
theorem rt_d436_3 : rt_dk prog_15_method_110_code rt_i436_3 = true := by decide +kernel
theorem rt_D436 : ∀ c ∈ rt_m436.2.2.2.2.2.2.1, rt_dk rt_m436.2.2.2.1 c.2 = true := by
  intro c hc
  have hc : c ∈ [(0, rt_i436_0), (1, rt_i436_1), (2, rt_i436_2), (3, rt_i436_3)] := hc
  simp only [List.mem_cons, List.not_mem_nil, or_false] at hc
  rcases hc with rfl | rfl | rfl | rfl
  · exact rt_d436_0
  · exact rt_d436_1
  · exact rt_d436_2
  · exact rt_d436_3
set_option maxRecDepth 100000 in
theorem rt_d437_0 : rt_dk prog_15_method_112_code rt_i437_0 = true := by decide +kernel
set_option maxRecDepth 100000 in
theorem rt_d437_1 : rt_dk prog_15_method_112_code rt_i437_1 = true := by decide +kernel
set_option maxRecDepth 100000 in
theorem rt_d437_2 : rt_dk prog_15_method_112_code rt_i437_2 = true := by decide +kernel
theorem rt_D437 : ∀ c ∈ rt_m437.2.2.2.2.2.2.1, rt_dk rt_m437.2.2.2.1 c.2 = true := by
  intro c hc
  have hc : c ∈ [(0, rt_i437_0), (1, rt_i437_1), (2, rt_i437_2)] := hc
  simp only [List.mem_cons, List.not_mem_nil, or_false] at hc
  rcases hc with rfl | rfl | rfl
  · exact rt_d437_0
  · exact rt_d437_1
  · exact rt_d437_2
set_option maxRecDepth 100000 in
theorem rt_d438_0 : rt_dk prog_15_method_113_code rt_i438_0 = true := by decide +kernel
theorem rt_D438 : ∀ c ∈ rt_m438.2.2.2.2.2.2.1, rt_dk rt_m438.2.2.2.1 c.2 = true := by
  intro c hc
  have hc : c ∈ [(0, rt_i438_0)] := hc
  simp only [List.mem_cons, List.not_mem_nil, or_false] at hc
  rcases hc with rfl
  · exact rt_d438_0
set_option maxRecDepth 100000 in
theorem rt_d439_0 : rt_dk prog_15_method_115_code rt_i439_0 = true := by decide +kernel
set_option maxRecDepth 100000 in
theorem rt_d439_1 : rt_dk prog_15_method_115_code rt_i439_1 = true := by decide +kernel
set_option maxRecDepth 100000 in
theorem rt_d439_2 : rt_dk prog_15_method_115_code rt_i439_2 = true := by decide +kernel
set_option maxRecDepth 100000 in
theorem rt_d439_3 : rt_dk prog_15_method_115_code rt_i439_3 = true := by decide +kernel
set_option maxRecDepth 100000 in
theorem rt_d439_4 : rt_dk prog_15_method_115_code rt_i439_4 = true := by decide +kernel
set_option maxRecDepth 100000 in
theorem rt_d439_5 : rt_dk prog_15_method_115_code rt_i439_5 = true := by decide +kernel
set_option maxRecDepth 100000 in
theorem rt_d439_6 : rt_dk prog_15_method_115_code rt_i439_6 = true := by decide +kernel
set_option maxRecDepth 100000 in
theorem rt_d439_7 : rt_dk prog_15_method_115_code rt_i439_7 = true := by decide +kernel
theorem rt_D439 : ∀ c ∈ rt_m439.2.2.2.2.2.2.1, rt_dk rt_m439.2.2.2.1 c.2 = true := by
  intro c hc
  have hc : c ∈ [(0, rt_i439_0), (1, rt_i439_1), (2, rt_i439_2), (3, rt_i439_3), (4, rt_i439_4), (5, rt_i439_5), (6, rt_i439_6), (7, rt_i439_7)] := hc
  simp only [List.mem_cons, List.not_mem_nil, or_false] at hc
  rcases hc with rfl | rfl | rfl | rfl | rfl | rfl | rfl | rfl
  · exact rt_d439_0
  · exact rt_d439_1
  · exact rt_d439_2
  · exact rt_d439_3
  · exact rt_d439_4
  · exact rt_d439_5
  · exact rt_d439_6
  · exact rt_d439_7
set_option maxRecDepth 100000 in
theorem rt_d440_0 : rt_dk prog_15_method_116_code rt_i440_0 = true := by decide +kernel
set_option maxRecDepth 100000 in
theorem rt_d440_1 : rt_dk prog_15_method_116_code rt_i440_1 = true := by decide +kernel
theorem rt_D440 : ∀ c ∈ rt_m440.2.2.2.2.2.2.1, rt_dk rt_m440.2.2.2.1 c.2 = true := by
  intro c hc
  have hc : c ∈ [(0, rt_i440_0), (1, rt_i440_1)] := hc
  simp only [List.mem_cons, List.not_mem_nil, or_false] at hc
  rcases hc with rfl | rfl
  · exact rt_d440_0
  · exact rt_d440_1
set_option maxRecDepth 100000 in
theorem rt_d441_0 : rt_dk prog_15_method_117_code rt_i441_0 = true := by decide +kernel
set_option maxRecDepth 100000 in
theorem rt_d441_1 : rt_dk prog_15_method_117_code rt_i441_1 = true := by decide +kernel
set_option maxRecDepth 100000 in
theorem rt_d441_2 : rt_dk prog_15_method_117_code rt_i441_2 = true := by decide +kernel
set_option maxRecDepth 100000 in
theorem rt_d441_3 : rt_dk prog_15_method_117_code rt_i441_3 = true := by decide +kernel
theorem rt_D441 : ∀ c ∈ rt_m441.2.2.2.2.2.2.1, rt_dk rt_m441.2.2.2.1 c.2 = true := by
  intro c hc
  have hc : c ∈ [(0, rt_i441_0), (1, rt_i441_1), (2, rt_i441_2), (3, rt_i441_3)] := hc
  simp only [List.mem_cons, List.not_mem_nil, or_false] at hc
  rcases hc with rfl | rfl | rfl | rfl
  · exact rt_d441_0
  · exact rt_d441_1
  · exact rt_d441_2
  · exact rt_d441_3
set_option maxRecDepth 100000 in
theorem rt_d442_0 : rt_dk prog_15_method_118_code rt_i442_0 = true := by decide +kernel
set_option maxRecDepth 100000 in
theorem rt_d442_1 : rt_dk prog_15_method_118_code rt_i442_1 = true := by decide +kernel
theorem rt_D442 : ∀ c ∈ rt_m442.2.2.2.2.2.2.1, rt_dk rt_m442.2.2.2.1 c.2 = true := by
  intro c hc
  have hc : c ∈ [(0, rt_i442_0), (1, rt_i442_1)] := hc
  simp only [List.mem_cons, List.not_mem_nil, or_false] at hc
  rcases hc with rfl | rfl
  · exact rt_d442_0
  · exact rt_d442_1
set_option maxRecDepth 100000 in
theorem rt_d443_0 : rt_dk prog_15_method_119_code rt_i443_0 = true := by decide +kernel
set_option maxRecDepth 100000 in
theorem rt_d443_1 : rt_dk prog_15_method_119_code rt_i443_1 = true := by decide +kernel
set_option maxRecDepth 100000 in
theorem rt_d443_2 : rt_dk prog_15_method_119_code rt_i443_2 = true := by decide +kernel
theorem rt_D443 : ∀ c ∈ rt_m443.2.2.2.2.2.2.1, rt_dk rt_m443.2.2.2.1 c.2 = true := by
  intro c hc
  have hc : c ∈ [(0, rt_i443_0), (1, rt_i443_1), (2, rt_i443_2)] := hc
  simp only [List.mem_cons, List.not_mem_nil, or_false] at hc
  rcases hc with rfl | rfl | rfl
  · exact rt_d443_0
  · exact rt_d443_1
  · exact rt_d443_2
set_option maxRecDepth 100000 in
theorem rt_d444_0 : rt_dk prog_15_method_120_code rt_i444_0 = true := by decide +kernel
set_option maxRecDepth 100000 in
theorem rt_d444_1 : rt_dk prog_15_method_120_code rt_i444_1 = true := by decide +kernel
set_option maxRecDepth 100000 in
theorem rt_d444_2 : rt_dk prog_15_method_120_code rt_i444_2 = true := by decide +kernel
set_option maxRecDepth 100000 in
theorem rt_d444_3 : rt_dk prog_15_method_120_code rt_i444_3 = true := by decide +kernel
set_option maxRecDepth 100000 in
theorem rt_d444_4 : rt_dk prog_15_method_120_code rt_i444_4 = true := by decide +kernel
set_option maxRecDepth 100000 in
theorem rt_d444_5 : rt_dk prog_15_method_120_code rt_i444_5 = true := by decide +kernel
theorem rt_D444 : ∀ c ∈ rt_m444.2.2.2.2.2.2.1, rt_dk rt_m444.2.2.2.1 c.2 = true := by
  intro c hc
  have hc : c ∈ [(0, rt_i444_0), (1, rt_i444_1), (2, rt_i444_2), (3, rt_i444_3), (4, rt_i444_4), (5, rt_i444_5)] := hc
  simp only [List.mem_cons, List.not_mem_nil, or_false] at hc
  rcases hc with rfl | rfl | rfl | rfl | rfl | rfl
  · exact rt_d444_0
  · exact rt_d444_1
  · exact rt_d444_2
  · exact rt_d444_3
  · exact rt_d444_4
  · exact rt_d444_5
set_option maxRecDepth 100000 in
theorem rt_d445_0 : rt_dk prog_15_method_121_code rt_i445_0 = true := by decide +kernel
set_option maxRecDepth 100000 in
theorem rt_d445_1 : rt_dk prog_15_method_121_code rt_i445_1 = true := by decide +kernel
set_option maxRecDepth 100000 in
theorem rt_d445_2 : rt_dk prog_15_method_121_code rt_i445_2 = true := by decide +kernel
set_option maxRecDepth 100000 in
theorem rt_d445_3 : rt_dk prog_15_method_121_code rt_i445_3 = true := by decide +kernel
set_option maxRecDepth 100000 in
theorem rt_d445_4 : rt_dk prog_15_method_121_code rt_i445_4 = true := by decide +kernel
set_option maxRecDepth 100000 in
theorem rt_d445_5 : rt_dk prog_15_method_121_code rt_i445_5 = true := by decide +kernel
set_option maxRecDepth 100000 in
theorem rt_d445_6 : rt_dk prog_15_method_121_code rt_i445_6 = true := by decide +kernel
set_option maxRecDepth 100000 in
theorem rt_d445_7 : rt_dk prog_15_method_121_code rt_i445_7 = true := by decide +kernel
set_option maxRecDepth 100000 in
theorem rt_d445_8 : rt_dk prog_15_method_121_code rt_i445_8 = true := by decide +kernel
set_option maxRecDepth 100000 in
theorem rt_d445_9 : rt_dk prog_15_method_121_code rt_i445_9 = true := by decide +kernel
theorem rt_D445 : ∀ c ∈ rt_m445.2.2.2.2.2.2.1, rt_dk rt_m445.2.2.2.1 c.2 = true := by
  intro c hc
  have hc : c ∈ [(0, rt_i445_0), (1, rt_i445_1), (2, rt_i445_2), (3, rt_i445_3), (4, rt_i445_4), (5, rt_i445_5), (6, rt_i445_6), (7, rt_i445_7), (8, rt_i445_8), (9, rt_i445_9)] := hc
  simp only [List.mem_cons, List.not_mem_nil, or_false] at hc
  rcases hc with rfl | rfl | rfl | rfl | rfl | rfl | rfl | rfl | rfl | rfl
  · exact rt_d445_0
  · exact rt_d445_1
  · exact rt_d445_2
  · exact rt_d445_3
  · exact rt_d445_4
  · exact rt_d445_5
  · exact rt_d445_6
  · exact rt_d445_7
  · exact rt_d445_8
  · exact rt_d445_9
set_option maxRecDepth 100000 in
theorem rt_d446_0 : rt_dk prog_15_method_122_code rt_i446_0 = true := by decide +kernel
set_option maxRecDepth 100000 in
theorem rt_d446_1 : rt_dk prog_15_method_122_code rt_i446_1 = true := by decide +kernel
set_option maxRecDepth 100000 in
theorem rt_d446_2 : rt_dk prog_15_method_122_code rt_i446_2 = true := by decide +kernel
set_option maxRecDepth 100000 in
theorem rt_d446_3 : rt_dk prog_15_method_122_code rt_i446_3 = true := by decide +kernel
set_option maxRecDepth 100000 in
theorem rt_d446_4 : rt_dk prog_15_method_122_code rt_i446_4 = true := by decide +kernel
set_option maxRecDepth 100000 in
theorem rt_d446_5 : rt_dk prog_15_method_122_code rt_i446_5 = true := by decide +kernel
set_option maxRecDepth 100000 in
theorem rt_d446_6 : rt_dk prog_15_method_122_code rt_i446_6 = true := by decide +kernel
set_option maxRecDepth 100000 in
theorem rt_d446_7 : rt_dk prog_15_method_122_code rt_i446_7 = true := by decide +kernel
set_option maxRecDepth 100000 in
theorem rt_d446_8 : rt_dk prog_15_method_122_code rt_i446_8 = true := by decide +kernel
set_option maxRecDepth 100000 in
theorem rt_d446_9 : rt_dk prog_15_method_122_code rt_i446_9 = true := by decide +kernel
set_option maxRecDepth 100000 in
theorem rt_d446_10 : rt_dk prog_15_method_122_code rt_i446_10 = true := by decide +kernel
set_option maxRecDepth 100000 in
theorem rt_d446_11 : rt_dk prog_15_method_122_code rt_i446_11 = true := by decide +kernel
theorem rt_D446 : ∀ c ∈ rt_m446.2.2.2.2.2.2.1, rt_dk rt_m446.2.2.2.1 c.2 = true := by
  intro c hc
  have hc : c ∈ [(0, rt_i446_0), (1, rt_i446_1), (2, rt_i446_2), (3, rt_i446_3), (4, rt_i446_4), (5, rt_i446_5), (6, rt_i446_6), (7, rt_i446_7), (8, rt_i446_8), (9, rt_i446_9), (10, rt_i446_10), (11, rt_i446_11)] := hc
  simp only [List.mem_cons, List.not_mem_nil, or_false] at hc
  rcases hc with rfl | rfl | rfl | rfl | rfl | rfl | rfl | rfl | rfl | rfl | rfl | rfl
  · exact rt_d446_0
  · exact rt_d446_1
  · exact rt_d446_2
  · exact rt_d446_3
  · exact rt_d446_4
  · exact rt_d446_5
  · exact rt_d446_6
  · exact rt_d446_7
  · exact rt_d446_8
  · exact rt_d446_9
  · exact rt_d446_10
  · exact rt_d446_11
set_option maxRecDepth 100000 in
theorem rt_d447_0 : rt_dk prog_15_method_123_code rt_i447_0 = true := by decide +kernel
set_option maxRecDepth 100000 in
theorem rt_d447_3 : rt_dk prog_15_method_123_code rt_i447_3 = true := by decide +kernel
set_option maxRecDepth 100000 in
theorem rt_d447_4 : rt_dk prog_15_method_123_code rt_i447_4 = true := by decide +kernel
set_option maxRecDepth 100000 in
theorem rt_d447_5 : rt_dk prog_15_method_123_code rt_i447_5 = true := by decide +kernel
set_option maxRecDepth 100000 in
theorem rt_d447_6 : rt_dk prog_15_method_123_code rt_i447_6 = true := by decide +kernel
set_option maxRecDepth 100000 in
theorem rt_d447_7 : rt_dk prog_15_method_123_code rt_i447_7 = true := by decide +kernel
set_option maxRecDepth 100000 in
theorem rt_d447_8 : rt_dk prog_15_method_123_code rt_i447_8 = true := by decide +kernel
set_option maxRecDepth 100000 in
theorem rt_d447_9 : rt_dk prog_15_method_123_code rt_i447_9 = true := by decide +kernel
set_option maxRecDepth 100000 in
theorem rt_d447_10 : rt_dk prog_15_method_123_code rt_i447_10 = true := by decide +kernel
set_option maxRecDepth 100000 in
theorem rt_d447_11 : rt_dk prog_15_method_123_code rt_i447_11 = true := by decide +kernel
theorem rt_D447 : ∀ c ∈ rt_m447.2.2.2.2.2.2.1, rt_dk rt_m447.2.2.2.1 c.2 = true := by
  intro c hc
  have hc : c ∈ [(0, rt_i447_0), (3, rt_i447_3), (4, rt_i447_4), (5, rt_i447_5), (6, rt_i447_6), (7, rt_i447_7), (8, rt_i447_8), (9, rt_i447_9), (10, rt_i447_10), (11, rt_i447_11)] := hc
  simp only [List.mem_cons, List.not_mem_nil, or_false] at hc
  rcases hc with rfl | rfl | rfl | rfl | rfl | rfl | rfl | rfl | rfl | rfl
  · exact rt_d447_0
  · exact rt_d447_3
  · exact rt_d447_4
  · exact rt_d447_5
  · exact rt_d447_6
  · exact rt_d447_7
  · exact rt_d447_8
  · exact rt_d447_9
  · exact rt_d447_10
  · exact rt_d447_11
set_option maxRecDepth 100000 in
theorem rt_d448_0 : rt_dk prog_15_method_124_code rt_i448_0 = true := by decide +kernel
set_option maxRecDepth 100000 in
theorem rt_d448_1 : rt_dk prog_15_method_124_code rt_i448_1 = true := by decide +kernel
theorem rt_D448 : ∀ c ∈ rt_m448.2.2.2.2.2.2.1, rt_dk rt_m448.2.2.2.1 c.2 = true := by
  intro c hc
  have hc : c ∈ [(0, rt_i448_0), (1, rt_i448_1)] := hc
  simp only [List.mem_cons, List.not_mem_nil, or_false] at hc
  rcases hc with rfl | rfl
  · exact rt_d448_0
  · exact rt_d448_1
set_option maxRecDepth 100000 in
theorem rt_d449_0 : rt_dk prog_15_method_127_code rt_i449_0 = true := by decide +kernel
set_option maxRecDepth 100000 in
theorem rt_d449_1 : rt_dk prog_15_method_127_code rt_i449_1 = true := by decide +kernel
theorem rt_D449 : ∀ c ∈ rt_m449.2.2.2.2.2.2.1, rt_dk rt_m449.2.2.2.1 c.2 = true := by
  intro c hc
  have hc : c ∈ [(0, rt_i449_0), (1, rt_i449_1)] := hc
  simp only [List.mem_cons, List.not_mem_nil, or_false] at hc
  rcases hc with rfl | rfl
  · exact rt_d449_0
  · exact rt_d449_1
set_option maxRecDepth 100000 in
theorem rt_d450_0 : rt_dk prog_15_method_129_code rt_i450_0 = true := by decide +kernel
set_option maxRecDepth 100000 in
theorem rt_d450_1 : rt_dk prog_15_method_129_code rt_i450_1 = true := by decide +kernel
theorem rt_D450 : ∀ c ∈ rt_m450.2.2.2.2.2.2.1, rt_dk rt_m450.2.2.2.1 c.2 = true := by
  intro c hc
  have hc : c ∈ [(0, rt_i450_0), (1, rt_i450_1)] := hc
  simp only [List.mem_cons, List.not_mem_nil, or_false] at hc
  rcases hc with rfl | rfl
  · exact rt_d450_0
  · exact rt_d450_1
set_option maxRecDepth 100000 in
theorem rt_d451_0 : rt_dk prog_15_method_130_code rt_i451_0 = true := by decide +kernel
theorem rt_D451 : ∀ c ∈ rt_m451.2.2.2.2.2.2.1, rt_dk rt_m451.2.2.2.1 c.2 = true := by
  intro c hc
  have hc : c ∈ [(0, rt_i451_0)] := hc
  simp only [List.mem_cons, List.not_mem_nil, or_false] at hc
  rcases hc with rfl
  · exact rt_d451_0
set_option maxRecDepth 100000 in
theorem rt_d452_0 : rt_dk prog_15_method_131_code rt_i452_0 = true := by decide +kernel
set_option maxRecDepth 100000 in
theorem rt_d452_1 : rt_dk prog_15_method_131_code rt_i452_1 = true := by decide +kernel
theorem rt_D452 : ∀ c ∈ rt_m452.2.2.2.2.2.2.1, rt_dk rt_m452.2.2.2.1 c.2 = true := by
  intro c hc
  have hc : c ∈ [(0, rt_i452_0), (1, rt_i452_1)] := hc
  simp only [List.mem_cons, List.not_mem_nil, or_false] at hc
  rcases hc with rfl | rfl
  · exact rt_d452_0
  · exact rt_d452_1
set_option maxRecDepth 100000 in
theorem rt_d453_0 : rt_dk prog_15_method_132_code rt_i453_0 = true := by decide +kernel
set_option maxRecDepth 100000 in
theorem rt_d453_1 : rt_dk prog_15_method_132_code rt_i453_1 = true := by decide +kernel
theorem rt_D453 : ∀ c ∈ rt_m453.2.2.2.2.2.2.1, rt_dk rt_m453.2.2.2.1 c.2 = true := by
  intro c hc
  have hc : c ∈ [(0, rt_i453_0), (1, rt_i453_1)] := hc
  simp only [List.mem_cons, List.not_mem_nil, or_false] at hc
  rcases hc with rfl | rfl
  · exact rt_d453_0
  · exact rt_d453_1
set_option maxRecDepth 100000 in
theorem rt_d454_0 : rt_dk prog_15_method_133_code rt_i454_0 = true := by decide +kernel
set_option maxRecDepth 100000 in
theorem rt_d454_3 : rt_dk prog_15_method_133_code rt_i454_3 = true := by decide +kernel
set_option maxRecDepth 100000 in
theorem rt_d454_4 : rt_dk prog_15_method_133_code rt_i454_4 = true := by decide +kernel
set_option maxRecDepth 100000 in
theorem rt_d454_5 : rt_dk prog_15_method_133_code rt_i454_5 = true := by decide +kernel
set_option maxRecDepth 100000 in
theorem rt_d454_6 : rt_dk prog_15_method_133_code rt_i454_6 = true := by decide +kernel
set_option maxRecDepth 100000 in
theorem rt_d454_7 : rt_dk prog_15_method_133_code rt_i454_7 = true := by decide +kernel
set_option maxRecDepth 100000 in
theorem rt_d454_8 : rt_dk prog_15_method_133_code rt_i454_8 = true := by decide +kernel
set_option maxRecDepth 100000 in
theorem rt_d454_9 : rt_dk prog_15_method_133_code rt_i454_9 = true := by decide +kernel
theorem rt_D454 : ∀ c ∈ rt_m454.2.2.2.2.2.2.1, rt_dk rt_m454.2.2.2.1 c.2 = true := by
  intro c hc
  have hc : c ∈ [(0, rt_i454_0), (3, rt_i454_3), (4, rt_i454_4), (5, rt_i454_5), (6, rt_i454_6), (7, rt_i454_7), (8, rt_i454_8), (9, rt_i454_9)] := hc
  simp only [List.mem_cons, List.not_mem_nil, or_false] at hc
  rcases hc with rfl | rfl | rfl | rfl | rfl | rfl | rfl | rfl
  · exact rt_d454_0
  · exact rt_d454_3
  · exact rt_d454_4
  · exact rt_d454_5
  · exact rt_d454_6
  · exact rt_d454_7
  · exact rt_d454_8
  · exact rt_d454_9
set_option maxRecDepth 100000 in
theorem rt_d455_0 : rt_dk prog_15_method_134_code rt_i455_0 = true := by decide +kernel
set_option maxRecDepth 100000 in
theorem rt_d455_1 : rt_dk prog_15_method_134_code rt_i455_1 = true := by decide +kernel
set_option maxRecDepth 100000 in
theorem rt_d455_2 : rt_dk prog_15_method_134_code rt_i455_2 = true := by decide +kernel
set_option maxRecDepth 100000 in
theorem rt_d455_3 : rt_dk prog_15_method_134_code rt_i455_3 = true := by decide +kernel
set_option maxRecDepth 100000 in
theorem rt_d455_4 : rt_dk prog_15_method_134_code rt_i455_4 = true := by decide +kernel
theorem rt_D455 : ∀ c ∈ rt_m455.2.2.2.2.2.2.1, rt_dk rt_m455.2.2.2.1 c.2 = true := by
  intro c hc
  have hc : c ∈ [(0, rt_i455_0), (1, rt_i455_1), (2, rt_i455_2), (3, rt_i455_3), (4, rt_i455_4)] := hc
  simp only [List.mem_cons, List.not_mem_nil, or_false] at hc
  rcases hc with rfl | rfl | rfl | rfl | rfl
  · exact rt_d455_0
  · exact rt_d455_1
  · exact rt_d455_2
  · exact rt_d455_3
  · exact rt_d455_4
set_option maxRecDepth 100000 in
theorem rt_d456_0 : rt_dk prog_15_method_135_code rt_i456_0 = true := by decide +kernel
set_option maxRecDepth 100000 in
theorem rt_d456_1 : rt_dk prog_15_method_135_code rt_i456_1 = true := by decide +kernel
set_option maxRecDepth 100000 in
theorem rt_d456_2 : rt_dk prog_15_method_135_code rt_i456_2 = true := by decide +kernel
set_option maxRecDepth 100000 in
theorem rt_d456_3 : rt_dk prog_15_method_135_code rt_i456_3 = true := by decide +kernel
set_option maxRecDepth 100000 in
theorem rt_d456_4 : rt_dk prog_15_method_135_code rt_i456_4 = true := by decide +kernel
set_option maxRecDepth 100000 in
theorem rt_d456_5 : rt_dk prog_15_method_135_code rt_i456_5 = true := by decide +kernel
set_option maxRecDepth 100000 in
theorem rt_d456_6 : rt_dk prog_15_method_135_code rt_i456_6 = true := by decide +kernel
set_option maxRecDepth 100000 in
theorem rt_d456_7 : rt_dk prog_15_method_135_code rt_i456_7 = true := by decide +kernel
set_option maxRecDepth 100000 in
theorem rt_d456_8 : rt_dk prog_15_method_135_code rt_i456_8 = true := by decide +kernel
theorem rt_D456 : ∀ c ∈ rt_m456.2.2.2.2.2.2.1, rt_dk rt_m456.2.2.2.1 c.2 = true := by
  intro c hc
  have hc : c ∈ [(0, rt_i456_0), (1, rt_i456_1), (2, rt_i456_2), (3, rt_i456_3), (4, rt_i456_4), (5, rt_i456_5), (6, rt_i456_6), (7, rt_i456_7), (8, rt_i456_8)] := hc
  simp only [List.mem_cons, List.not_mem_nil, or_false] at hc
  rcases hc with rfl | rfl | rfl | rfl | rfl | rfl | rfl | rfl | rfl
  · exact rt_d456_0
  · exact rt_d456_1
  · exact rt_d456_2
  · exact rt_d456_3
  · exact rt_d456_4
  · exact rt_d456_5
  · exact rt_d456_6
  · exact rt_d456_7
  · exact rt_d456_8
set_option maxRecDepth 100000 in
theorem rt_d457_0 : rt_dk prog_15_method_136_code rt_i457_0 = true := by decide +kernel
set_option maxRecDepth 100000 in
theorem rt_d457_1 : rt_dk prog_15_method_136_code rt_i457_1 = true := by decide +kernel
theorem rt_D457 : ∀ c ∈ rt_m457.2.2.2.2.2.2.1, rt_dk rt_m457.2.2.2.1 c.2 = true := by
  intro c hc
  have hc : c ∈ [(0, rt_i457_0), (1, rt_i457_1)] := hc
  simp only [List.mem_cons, List.not_mem_nil, or_false] at hc
  rcases hc with rfl | rfl
  · exact rt_d457_0
  · exact rt_d457_1
set_option maxRecDepth 100000 in
theorem rt_d458_0 : rt_dk prog_15_method_137_code rt_i458_0 = true := by decide +kernel
set_option maxRecDepth 100000 in
theorem rt_d458_1 : rt_dk prog_15_method_137_code rt_i458_1 = true := by decide +kernel
set_option maxRecDepth 100000 in
theorem rt_d458_2 : rt_dk prog_15_method_137_code rt_i458_2 = true := by decide +kernel
theorem rt_D458 : ∀ c ∈ rt_m458.2.2.2.2.2.2.1, rt_dk rt_m458.2.2.2.1 c.2 = true := by
  intro c hc
  have hc : c ∈ [(0, rt_i458_0), (1, rt_i458_1), (2, rt_i458_2)] := hc
  simp only [List.mem_cons, List.not_mem_nil, or_false] at hc
  rcases hc with rfl | rfl | rfl
  · exact rt_d458_0
  · exact rt_d458_1
  · exact rt_d458_2
set_option maxRecDepth 100000 in
theorem rt_d459_0 : rt_dk prog_15_method_138_code rt_i459_0 = true := by decide +kernel
theorem rt_D459 : ∀ c ∈ rt_m459.2.2.2.2.2.2.1, rt_dk rt_m459.2.2.2.1 c.2 = true := by
  intro c hc
  have hc : c ∈ [(0, rt_i459_0)] := hc
  simp only [List.mem_cons, List.not_mem_nil, or_false] at hc
  rcases hc with rfl
  · exact rt_d459_0
set_option maxRecDepth 100000 in
theorem rt_d460_0 : rt_dk prog_15_method_139_code rt_i460_0 = true := by decide +kernel
set_option maxRecDepth 100000 in
theorem rt_d460_1 : rt_dk prog_15_method_139_code rt_i460_1 = true := by decide +kernel
set_option maxRecDepth 100000 in
theorem rt_d460_2 : rt_dk prog_15_method_139_code rt_i460_2 = true := by decide +kernel
set_option maxRecDepth 100000 in
theorem rt_d460_3 : rt_dk prog_15_method_139_code rt_i460_3 = true := by decide +kernel
set_option maxRecDepth 100000 in
theorem rt_d460_4 : rt_dk prog_15_method_139_code rt_i460_4 = true := by decide +kernel
set_option maxRecDepth 100000 in
theorem rt_d460_5 : rt_dk prog_15_method_139_code rt_i460_5 = true := by decide +kernel
set_option maxRecDepth 100000 in
theorem rt_d460_6 : rt_dk prog_15_method_139_code rt_i460_6 = true := by decide +kernel
set_option maxRecDepth 100000 in
theorem rt_d460_7 : rt_dk prog_15_method_139_code rt_i460_7 = true := by decide +kernel
theorem rt_D460 : ∀ c ∈ rt_m460.2.2.2.2.2.2.1, rt_dk rt_m460.2.2.2.1 c.2 = true := by
  intro c hc
  have hc : c ∈ [(0, rt_i460_0), (1, rt_i460_1), (2, rt_i460_2), (3, rt_i460_3), (4, rt_i460_4), (5, rt_i460_5), (6, rt_i460_6), (7, rt_i460_7)] := hc
  simp only [List.mem_cons, List.not_mem_nil, or_false] at hc
  rcases hc with rfl | rfl | rfl | rfl | rfl | rfl | rfl | rfl
  · exact rt_d460_0
  · exact rt_d460_1
  · exact rt_d460_2
  · exact rt_d460_3
  · exact rt_d460_4
  · exact rt_d460_5
  · exact rt_d460_6
  · exact rt_d460_7
set_option maxRecDepth 100000 in
theorem rt_d461_0 : rt_dk prog_15_method_143_code rt_i461_0 = true := by decide +kernel
set_option maxRecDepth 100000 in
theorem rt_d461_1 : rt_dk prog_15_method_143_code rt_i461_1 = true := by decide +kernel
set_option maxRecDepth 100000 in
theorem rt_d461_2 : rt_dk prog_15_method_143_code rt_i461_2 = true := by decide +kernel
set_option maxRecDepth 100000 in
theorem rt_d461_3 : rt_dk prog_15_method_143_code rt_i461_3 = true := by decide +kernel
set_option maxRecDepth 100000 in
theorem rt_d461_4 : rt_dk prog_15_method_143_code rt_i461_4 = true := by decide +kernel
set_option maxRecDepth 100000 in
theorem rt_d461_5 : rt_dk prog_15_method_143_code rt_i461_5 = true := by decide +kernel
set_option maxRecDepth 100000 in
theorem rt_d461_6 : rt_dk prog_15_method_143_code rt_i461_6 = true := by decide +kernel
set_option maxRecDepth 100000 in
theorem rt_d461_7 : rt_dk prog_15_method_143_code rt_i461_7 = true := by decide +kernel
set_option maxRecDepth 100000 in
theorem rt_d461_8 : rt_dk prog_15_method_143_code rt_i461_8 = true := by decide +kernel
theorem rt_D461 : ∀ c ∈ rt_m461.2.2.2.2.2.2.1, rt_dk rt_m461.2.2.2.1 c.2 = true := by
  intro c hc
  have hc : c ∈ [(0, rt_i461_0), (1, rt_i461_1), (2, rt_i461_2), (3, rt_i461_3), (4, rt_i461_4), (5, rt_i461_5), (6, rt_i461_6), (7, rt_i461_7), (8, rt_i461_8)] := hc
  simp only [List.mem_cons, List.not_mem_nil, or_false] at hc
  rcases hc with rfl | rfl | rfl | rfl | rfl | rfl | rfl | rfl | rfl
  · exact rt_d461_0
  · exact rt_d461_1
  · exact rt_d461_2
  · exact rt_d461_3
  · exact rt_d461_4
  · exact rt_d461_5
  · exact rt_d461_6
  · exact rt_d461_7
  · exact rt_d461_8
set_option maxRecDepth 100000 in
theorem rt_d462_0 : rt_dk prog_15_method_145_code rt_i462_0 = true := by decide +kernel
set_option maxRecDepth 100000 in
theorem rt_d462_1 : rt_dk prog_15_method_145_code rt_i462_1 = true := by decide +kernel
set_option maxRecDepth 100000 in
theorem rt_d462_2 : rt_dk prog_15_method_145_code rt_i462_2 = true := by decide +kernel
set_option maxRecDepth 100000 in
theorem rt_d462_3 : rt_dk prog_15_method_145_code rt_i462_3 = true := by decide +kernel
set_option maxRecDepth 100000 in
theorem rt_d462_4 : rt_dk prog_15_method_145_code rt_i462_4 = true := by decide +kernel
set_option maxRecDepth 100000 in
theorem rt_d462_5 : rt_dk prog_15_method_145_code rt_i462_5 = true := by decide +kernel
theorem rt_D462 : ∀ c ∈ rt_m462.2.2.2.2.2.2.1, rt_dk rt_m462.2.2.2.1 c.2 = true := by
  intro c hc
  have hc : c ∈ [(0, rt_i462_0), (1, rt_i462_1), (2, rt_i462_2), (3, rt_i462_3), (4, rt_i462_4), (5, rt_i462_5)] := hc
  simp only [List.mem_cons, List.not_mem_nil, or_false] at hc
  rcases hc with rfl | rfl | rfl | rfl | rfl | rfl
  · exact rt_d462_0
  · exact rt_d462_1
  · exact rt_d462_2
  · exact rt_d462_3
  · exact rt_d462_4
  · exact rt_d462_5
set_option maxRecDepth 100000 in
theorem rt_d463_0 : rt_dk prog_15_method_150_code rt_i463_0 = true := by decide +kernel
theorem rt_D463 : ∀ c ∈ rt_m463.2.2.2.2.2.2.1, rt_dk rt_m463.2.2.2.1 c.2 = true := by
  intro c hc
  have hc : c ∈ [(0, rt_i463_0)] := hc
  simp only [List.mem_cons, List.not_mem_nil, or_false] at hc
  rcases hc with rfl
  · exact rt_d463_0
set_option maxRecDepth 100000 in
theorem rt_d464_0 : rt_dk prog_15_method_152_code rt_i464_0 = true := by decide +kernel
set_option maxRecDepth 100000 in
theorem rt_d464_1 : rt_dk prog_15_method_152_code rt_i464_1 = true := by decide +kernel
theorem rt_D464 : ∀ c ∈ rt_m464.2.2.2.2.2.2.1, rt_dk rt_m464.2.2.2.1 c.2 = true := by
  intro c hc
  have hc : c ∈ [(0, rt_i464_0), (1, rt_i464_1)] := hc
  simp only [List.mem_cons, List.not_mem_nil, or_false] at hc
  rcases hc with rfl | rfl
  · exact rt_d464_0
  · exact rt_d464_1
set_option maxRecDepth 100000 in
theorem rt_d465_0 : rt_dk prog_15_method_153_code rt_i465_0 = true := by decide +kernel
set_option maxRecDepth 100000 in
theorem rt_d465_1 : rt_dk prog_15_method_153_code rt_i465_1 = true := by decide +kernel
theorem rt_D465 : ∀ c ∈ rt_m465.2.2.2.2.2.2.1, rt_dk rt_m465.2.2.2.1 c.2 = true := by
  intro c hc
  have hc : c ∈ [(0, rt_i465_0), (1, rt_i465_1)] := hc
  simp only [List.mem_cons, List.not_mem_nil, or_false] at hc
  rcases hc with rfl | rfl
  · exact rt_d465_0
  · exact rt_d465_1
set_option maxRecDepth 100000 in
theorem rt_d466_0 : rt_dk prog_15_method_157_code rt_i466_0 = true := by decide +kernel
set_option maxRecDepth 100000 in
theorem rt_d466_1 : rt_dk prog_15_method_157_code rt_i466_1 = true := by decide +kernel
theorem rt_D466 : ∀ c ∈ rt_m466.2.2.2.2.2.2.1, rt_dk rt_m466.2.2.2.1 c.2 = true := by
  intro c hc
  have hc : c ∈ [(0, rt_i466_0), (1, rt_i466_1)] := hc
  simp only [List.mem_cons, List.not_mem_nil, or_false] at hc
  rcases hc with rfl | rfl
  · exact rt_d466_0
  · exact rt_d466_1
set_option maxRecDepth 100000 in
theorem rt_d467_0 : rt_dk prog_15_method_159_code rt_i467_0 = true := by decide +kernel
set_option maxRecDepth 100000 in
theorem rt_d467_1 : rt_dk prog_15_method_159_code rt_i467_1 = true := by decide +kernel
theorem rt_D467 : ∀ c ∈ rt_m467.2.2.2.2.2.2.1, rt_dk rt_m467.2.2.2.1 c.2 = true := by
  intro c hc
  have hc : c ∈ [(0, rt_i467_0), (1, rt_i467_1)] := hc
  simp only [List.mem_cons, List.not_mem_nil, or_false] at hc
  rcases hc with rfl | rfl
  · exact rt_d467_0
  · exact rt_d467_1
set_option maxRecDepth 100000 in
theorem rt_d468_0 : rt_dk prog_15_method_162_code rt_i468_0 = true := by decide +kernel
set_option maxRecDepth 100000 in
theorem rt_d468_1 : rt_dk prog_15_method_162_code rt_i468_1 = true := by decide +kernel
set_option maxRecDepth 100000 in
theorem rt_d468_2 : rt_dk prog_15_method_162_code rt_i468_2 = true := by decide +kernel
set_option maxRecDepth 100000 in
theorem rt_d468_3 : rt_dk prog_15_method_162_code rt_i468_3 = true := by decide +kernel
theorem rt_D468 : ∀ c ∈ rt_m468.2.2.2.2.2.2.1, rt_dk rt_m468.2.2.2.1 c.2 = true := by
  intro c hc
  have hc : c ∈ [(0, rt_i468_0), (1, rt_i468_1), (2, rt_i468_2), (3, rt_i468_3)] := hc
  simp only [List.mem_cons, List.not_mem_nil, or_false] at hc
  rcases hc with rfl | rfl | rfl | rfl
  · exact rt_d468_0
  · exact rt_d468_1
  · exact rt_d468_2
  · exact rt_d468_3
set_option maxRecDepth 100000 in
theorem rt_d469_0 : rt_dk prog_15_method_163_code rt_i469_0 = true := by decide +kernel
set_option maxRecDepth 100000 in
theorem rt_d469_1 : rt_dk prog_15_method_163_code rt_i469_1 = true := by decide +kernel
set_option maxRecDepth 100000 in
theorem rt_d469_2 : rt_dk prog_15_method_163_code rt_i469_2 = true := by decide +kernel
set_option maxRecDepth 100000 in
theorem rt_d469_3 : rt_dk prog_15_method_163_code rt_i469_3 = true := by decide +kernel
set_option maxRecDepth 100000 in
theorem rt_d469_4 : rt_dk prog_15_method_163_code rt_i469_4 = true := by decide +kernel
set_option maxRecDepth 100000 in
theorem rt_d469_5 : rt_dk prog_15_method_163_code rt_i469_5 = true := by decide +kernel
theorem rt_D469 : ∀ c ∈ rt_m469.2.2.2.2.2.2.1, rt_dk rt_m469.2.2.2.1 c.2 = true := by
  intro c hc
  have hc : c ∈ [(0, rt_i469_0), (1, rt_i469_1), (2, rt_i469_2), (3, rt_i469_3), (4, rt_i469_4), (5, rt_i469_5)] := hc
  simp only [List.mem_cons, List.not_mem_nil, or_false] at hc
  rcases hc with rfl | rfl | rfl | rfl | rfl | rfl
  · exact rt_d469_0
  · exact rt_d469_1
  · exact rt_d469_2
  · exact rt_d469_3
  · exact rt_d469_4
  · exact rt_d469_5
set_option maxRecDepth 100000 in
theorem rt_d470_0 : rt_dk prog_15_method_164_code rt_i470_0 = true := by decide +kernel
set_option maxRecDepth 100000 in
theorem rt_d470_3 : rt_dk prog_15_method_164_code rt_i470_3 = true := by decide +kernel
set_option maxRecDepth 100000 in
theorem rt_d470_4 : rt_dk prog_15_method_164_code rt_i470_4 = true := by decide +kernel
set_option maxRecDepth 100000 in
theorem rt_d470_5 : rt_dk prog_15_method_164_code rt_i470_5 = true := by decide +kernel
set_option maxRecDepth 100000 in
theorem rt_d470_6 : rt_dk prog_15_method_164_code rt_i470_6 = true := by decide +kernel
set_option maxRecDepth 100000 in
theorem rt_d470_7 : rt_dk prog_15_method_164_code rt_i470_7 = true := by decide +kernel
set_option maxRecDepth 100000 in
theorem rt_d470_8 : rt_dk prog_15_method_164_code rt_i470_8 = true := by decide +kernel
set_option maxRecDepth 100000 in
theorem rt_d470_9 : rt_dk prog_15_method_164_code rt_i470_9 = true := by decide +kernel
set_option maxRecDepth 100000 in
theorem rt_d470_10 : rt_dk prog_15_method_164_code rt_i470_10 = true := by decide +kernel
set_option maxRecDepth 100000 in
theorem rt_d470_11 : rt_dk prog_15_method_164_code rt_i470_11 = true := by decide +kernel
set_option maxRecDepth 100000 in
theorem rt_d470_12 : rt_dk prog_15_method_164_code rt_i470_12 = true := by decide +kernel
set_option maxRecDepth 100000 in
theorem rt_d470_13 : rt_dk prog_15_method_164_code rt_i470_13 = true := by decide +kernel
set_option maxRecDepth 100000 in
theorem rt_d470_14 : rt_dk prog_15_method_164_code rt_i470_14 = true := by decide +kernel
set_option maxRecDepth 100000 in
theorem rt_d470_15 : rt_dk prog_15_method_164_code rt_i470_15 = true := by decide +kernel
set_option maxRecDepth 100000 in
theorem rt_d470_16 : rt_dk prog_15_method_164_code rt_i470_16 = true := by decide +kernel
set_option maxRecDepth 100000 in
theorem rt_d470_17 : rt_dk prog_15_method_164_code rt_i470_17 = true := by decide +kernel
set_option maxRecDepth 100000 in
theorem rt_d470_18 : rt_dk prog_15_method_164_code rt_i470_18 = true := by decide +kernel
set_option maxRecDepth 100000 in
theorem rt_d470_19 : rt_dk prog_15_method_164_code rt_i470_19 = true := by decide +kernel
set_option maxRecDepth 100000 in
theorem rt_d470_20 : rt_dk prog_15_method_164_code rt_i470_20 = true := by decide +kernel
set_option maxRecDepth 100000 in
theorem rt_d470_21 : rt_dk prog_15_method_164_code rt_i470_21 = true := by decide +kernel
set_option maxRecDepth 100000 in
theorem rt_d470_22 : rt_dk prog_15_method_164_code rt_i470_22 = true := by decide +kernel
set_option maxRecDepth 100000 in
theorem rt_d470_23 : rt_dk prog_15_method_164_code rt_i470_23 = true := by decide +kernel
set_option maxRecDepth 100000 in
theorem rt_d470_24 : rt_dk prog_15_method_164_code rt_i470_24 = true := by decide +kernel
set_option maxRecDepth 100000 in
theorem rt_d470_25 : rt_dk prog_15_method_164_code rt_i470_25 = true := by decide +kernel
theorem rt_D470 : ∀ c ∈ rt_m470.2.2.2.2.2.2.1, rt_dk rt_m470.2.2.2.1 c.2 = true := by
  intro c hc
  have hc : c ∈ [(0, rt_i470_0), (3, rt_i470_3), (4, rt_i470_4), (5, rt_i470_5), (6, rt_i470_6), (7, rt_i470_7), (8, rt_i470_8), (9, rt_i470_9), (10, rt_i470_10), (11, rt_i470_11), (12, rt_i470_12), (13, rt_i470_13), (14, rt_i470_14), (15, rt_i470_15), (16, rt_i470_16), (17, rt_i470_17), (18, rt_i470_18), (19, rt_i470_19), (20, rt_i470_20), (21, rt_i470_21), (22, rt_i470_22), (23, rt_i470_23), (24, rt_i470_24), (25, rt_i470_25)] := hc
  simp only [List.mem_cons, List.not_mem_nil, or_false] at hc
  rcases hc with rfl | rfl | rfl | rfl | rfl | rfl | rfl | rfl | rfl | rfl | rfl | rfl | rfl | rfl | rfl | rfl | rfl | rfl | rfl | rfl | rfl | rfl | rfl | rfl
  · exact rt_d470_0
  · exact rt_d470_3
  · exact rt_d470_4
  · exact rt_d470_5
  · exact rt_d470_6
  · exact rt_d470_7
  · exact rt_d470_8
  · exact rt_d470_9
  · exact rt_d470_10
  · exact rt_d470_11
  · exact rt_d470_12
  · exact rt_d470_13
  · exact rt_d470_14
  · exact rt_d470_15
  · exact rt_d470_16
  · exact rt_d470_17
  · exact rt_d470_18
  · exact rt_d470_19
  · exact rt_d470_20
  · exact rt_d470_21
  · exact rt_d470_22
  · exact rt_d470_23
  · exact rt_d470_24
  · exact rt_d470_25
set_option maxRecDepth 100000 in
theorem rt_d471_0 : rt_dk prog_15_method_165_code rt_i471_0 = true := by decide +kernel
set_option maxRecDepth 100000 in
theorem rt_d471_1 : rt_dk prog_15_method_165_code rt_i471_1 = true := by decide +kernel
theorem rt_D471 : ∀ c ∈ rt_m471.2.2.2.2.2.2.1, rt_dk rt_m471.2.2.2.1 c.2 = true := by
  intro c hc
  have hc : c ∈ [(0, rt_i471_0), (1, rt_i471_1)] := hc
  simp only [List.mem_cons, List.not_mem_nil, or_false] at hc
  rcases hc with rfl | rfl
  · exact rt_d471_0
  · exact rt_d471_1
set_option maxRecDepth 100000 in
theorem rt_d472_0 : rt_dk prog_15_method_166_code rt_i472_0 = true := by decide +kernel
set_option maxRecDepth 100000 in
theorem rt_d472_1 : rt_dk prog_15_method_166_code rt_i472_1 = true := by decide +kernel
set_option maxRecDepth 100000 in
theorem rt_d472_2 : rt_dk prog_15_method_166_code rt_i472_2 = true := by decide +kernel
theorem rt_D472 : ∀ c ∈ rt_m472.2.2.2.2.2.2.1, rt_dk rt_m472.2.2.2.1 c.2 = true := by
  intro c hc
  have hc : c ∈ [(0, rt_i472_0), (1, rt_i472_1), (2, rt_i472_2)] := hc
  simp only [List.mem_cons, List.not_mem_nil, or_false] at hc
  rcases hc with rfl | rfl | rfl
  · exact rt_d472_0
  · exact rt_d472_1
  · exact rt_d472_2
set_option maxRecDepth 100000 in
theorem rt_d473_0 : rt_dk prog_15_method_167_code rt_i473_0 = true := by decide +kernel
set_option maxRecDepth 100000 in
theorem rt_d473_1 : rt_dk prog_15_method_167_code rt_i473_1 = true := by decide +kernel
set_option maxRecDepth 100000 in
theorem rt_d473_2 : rt_dk prog_15_method_167_code rt_i473_2 = true := by decide +kernel
set_option maxRecDepth 100000 in
theorem rt_d473_3 : rt_dk prog_15_method_167_code rt_i473_3 = true := by decide +kernel
theorem rt_D473 : ∀ c ∈ rt_m473.2.2.2.2.2.2.1, rt_dk rt_m473.2.2.2.1 c.2 = true := by
  intro c hc
  have hc : c ∈ [(0, rt_i473_0), (1, rt_i473_1), (2, rt_i473_2), (3, rt_i473_3)] := hc
  simp only [List.mem_cons, List.not_mem_nil, or_false] at hc
  rcases hc with rfl | rfl | rfl | rfl
  · exact rt_d473_0
  · exact rt_d473_1
  · exact rt_d473_2
  · exact rt_d473_3
set_option maxRecDepth 100000 in
theorem rt_d474_0 : rt_dk prog_15_method_170_code rt_i474_0 = true := by decide +kernel
set_option maxRecDepth 100000 in
theorem rt_d474_1 : rt_dk prog_15_method_170_code rt_i474_1 = true := by decide +kernel
theorem rt_D474 : ∀ c ∈ rt_m474.2.2.2.2.2.2.1, rt_dk rt_m474.2.2.2.1 c.2 = true := by
  intro c hc
  have hc : c ∈ [(0, rt_i474_0), (1, rt_i474_1)] := hc
  simp only [List.mem_cons, List.not_mem_nil, or_false] at hc
  rcases hc with rfl | rfl
  · exact rt_d474_0
  · exact rt_d474_1
set_option maxRecDepth 100000 in
theorem rt_d475_0 : rt_dk prog_15_method_171_code rt_i475_0 = true := by decide +kernel
theorem rt_D475 : ∀ c ∈ rt_m475.2.2.2.2.2.2.1, rt_dk rt_m475.2.2.2.1 c.2 = true := by
  intro c hc
  have hc : c ∈ [(0, rt_i475_0)] := hc
  simp only [List.mem_cons, List.not_mem_nil, or_false] at hc
  rcases hc with rfl
  · exact rt_d475_0
set_option maxRecDepth 100000 in
theorem rt_d476_0 : rt_dk prog_15_method_172_code rt_i476_0 = true := by decide +kernel
theorem rt_D476 : ∀ c ∈ rt_m476.2.2.2.2.2.2.1, rt_dk rt_m476.2.2.2.1 c.2 = true := by
  intro c hc
  have hc : c ∈ [(0, rt_i476_0)] := hc
  simp only [List.mem_cons, List.not_mem_nil, or_false] at hc
  rcases hc with rfl
  · exact rt_d476_0
set_option maxRecDepth 100000 in
theorem rt_d477_0 : rt_dk prog_15_method_173_code rt_i477_0 = true := by decide +kernel
theorem rt_D477 : ∀ c ∈ rt_m477.2.2.2.2.2.2.1, rt_dk rt_m477.2.2.2.1 c.2 = true := by
  intro c hc
  have hc : c ∈ [(0, rt_i477_0)] := hc
  simp only [List.mem_cons, List.not_mem_nil, or_false] at hc
  rcases hc with rfl
  · exact rt_d477_0
set_option maxRecDepth 100000 in
theorem rt_d478_0 : rt_dk prog_15_method_175_code rt_i478_0 = true := by decide +kernel
set_option maxRecDepth 100000 in
theorem rt_d478_1 : rt_dk prog_15_method_175_code rt_i478_1 = true := by decide +kernel
theorem rt_D478 : ∀ c ∈ rt_m478.2.2.2.2.2.2.1, rt_dk rt_m478.2.2.2.1 c.2 = true := by
  intro c hc
  have hc : c ∈ [(0, rt_i478_0), (1, rt_i478_1)] := hc
  simp only [List.mem_cons, List.not_mem_nil, or_false] at hc
  rcases hc with rfl | rfl
  · exact rt_d478_0
  · exact rt_d478_1
set_option maxRecDepth 100000 in
theorem rt_d479_0 : rt_dk prog_15_method_176_code rt_i479_0 = true := by decide +kernel
set_option maxRecDepth 100000 in
theorem rt_d479_1 : rt_dk prog_15_method_176_code rt_i479_1 = true := by decide +kernel
set_option maxRecDepth 100000 in
theorem rt_d479_2 : rt_dk prog_15_method_176_code rt_i479_2 = true := by decide +kernel
theorem rt_D479 : ∀ c ∈ rt_m479.2.2.2.2.2.2.1, rt_dk rt_m479.2.2.2.1 c.2 = true := by
  intro c hc
  have hc : c ∈ [(0, rt_i479_0), (1, rt_i479_1), (2, rt_i479_2)] := hc
  simp only [List.mem_cons, List.not_mem_nil, or_false] at hc
  rcases hc with rfl | rfl | rfl
  · exact rt_d479_0
  · exact rt_d479_1
  · exact rt_d479_2
set_option maxRecDepth 100000 in
theorem rt_d480_0 : rt_dk prog_15_method_177_code rt_i480_0 = true := by decide +kernel
set_option maxRecDepth 100000 in
theorem rt_d480_1 : rt_dk prog_15_method_177_code rt_i480_1 = true := by decide +kernel
set_option maxRecDepth 100000 in
theorem rt_d480_2 : rt_dk prog_15_method_177_code rt_i480_2 = true := by decide +kernel
set_option maxRecDepth 100000 in
theorem rt_d480_3 : rt_dk prog_15_method_177_code rt_i480_3 = true := by decide +kernel
set_option maxRecDepth 100000 in
theorem rt_d480_4 : rt_dk prog_15_method_177_code rt_i480_4 = true := by decide +kernel
set_option maxRecDepth 100000 in
theorem rt_d480_5 : rt_dk prog_15_method_177_code rt_i480_5 = true := by decide +kernel
set_option maxRecDepth 100000 in
theorem rt_d480_6 : rt_dk prog_15_method_177_code rt_i480_6 = true := by decide +kernel
set_option maxRecDepth 100000 in
theorem rt_d480_7 : rt_dk prog_15_method_177_code rt_i480_7 = true := by decide +kernel
theorem rt_D480 : ∀ c ∈ rt_m480.2.2.2.2.2.2.1, rt_dk rt_m480.2.2.2.1 c.2 = true := by
  intro c hc
  have hc : c ∈ [(0, rt_i480_0), (1, rt_i480_1), (2, rt_i480_2), (3, rt_i480_3), (4, rt_i480_4), (5, rt_i480_5), (6, rt_i480_6), (7, rt_i480_7)] := hc
  simp only [List.mem_cons, List.not_mem_nil, or_false] at hc
  rcases hc with rfl | rfl | rfl | rfl | rfl | rfl | rfl | rfl
  · exact rt_d480_0
  · exact rt_d480_1
  · exact rt_d480_2
  · exact rt_d480_3
  · exact rt_d480_4
  · exact rt_d480_5
  · exact rt_d480_6
  · exact rt_d480_7
set_option maxRecDepth 100000 in
theorem rt_d481_0 : rt_dk prog_22_method_48_code rt_i481_0 = true := by decide +kernel
set_option maxRecDepth 100000 in
theorem rt_d481_1 : rt_dk prog_22_method_48_code rt_i481_1 = true := by decide +kernel
set_option maxRecDepth 100000 in
theorem rt_d481_2 : rt_dk prog_22_method_48_code rt_i481_2 = true := by decide +kernel
theorem rt_D481 : ∀ c ∈ rt_m481.2.2.2.2.2.2.1, rt_dk rt_m481.2.2.2.1 c.2 = true := by
  intro c hc
  have hc : c ∈ [(0, rt_i481_0), (1, rt_i481_1), (2, rt_i481_2)] := hc
  simp only [List.mem_cons, List.not_mem_nil, or_false] at hc
  rcases hc with rfl | rfl | rfl
  · exact rt_d481_0
  · exact rt_d481_1
  · exact rt_d481_2
set_option maxRecDepth 100000 in
theorem rt_d482_0 : rt_dk prog_22_method_49_code rt_i482_0 = true := by decide +kernel
set_option maxRecDepth 100000 in
theorem rt_d482_1 : rt_dk prog_22_method_49_code rt_i482_1 = true := by decide +kernel
theorem rt_D482 : ∀ c ∈ rt_m482.2.2.2.2.2.2.1, rt_dk rt_m482.2.2.2.1 c.2 = true := by
  intro c hc
  have hc : c ∈ [(0, rt_i482_0), (1, rt_i482_1)] := hc
  simp only [List.mem_cons, List.not_mem_nil, or_false] at hc
  rcases hc with rfl | rfl
  · exact rt_d482_0
  · exact rt_d482_1
set_option maxRecDepth 100000 in
theorem rt_d483_0 : rt_dk prog_23_method_49_code rt_i483_0 = true := by decide +kernel
theorem rt_D483 : ∀ c ∈ rt_m483.2.2.2.2.2.2.1, rt_dk rt_m483.2.2.2.1 c.2 = true := by
  intro c hc
  have hc : c ∈ [(0, rt_i483_0)] := hc
  simp only [List.mem_cons, List.not_mem_nil, or_false] at hc
  rcases hc with rfl
  · exact rt_d483_0
set_option maxRecDepth 100000 in
theorem rt_d484_0 : rt_dk prog_26_method_79_code rt_i484_0 = true := by decide +kernel
theorem rt_D484 : ∀ c ∈ rt_m484.2.2.2.2.2.2.1, rt_dk rt_m484.2.2.2.1 c.2 = true := by
  intro c hc
  have hc : c ∈ [(0, rt_i484_0)] := hc
  simp only [List.mem_cons, List.not_mem_nil, or_false] at hc
  rcases hc with rfl
  · exact rt_d484_0
set_option maxRecDepth 100000 in
theorem rt_d485_0 : rt_dk prog_26_method_80_code rt_i485_0 = true := by decide +kernel
set_option maxRecDepth 100000 in
theorem rt_d485_1 : rt_dk prog_26_method_80_code rt_i485_1 = true := by decide +kernel
theorem rt_D485 : ∀ c ∈ rt_m485.2.2.2.2.2.2.1, rt_dk rt_m485.2.2.2.1 c.2 = true := by
  intro c hc
  have hc : c ∈ [(0, rt_i485_0), (1, rt_i485_1)] := hc
  simp only [List.mem_cons, List.not_mem_nil, or_false] at hc
  rcases hc with rfl | rfl
  · exact rt_d485_0
  · exact rt_d485_1
set_option maxRecDepth 100000 in
theorem rt_d486_0 : rt_dk prog_28_method_22_code rt_i486_0 = true := by decide +kernel
set_option maxRecDepth 100000 in
theorem rt_d486_1 : rt_dk prog_28_method_22_code rt_i486_1 = true := by decide +kernel
theorem rt_D486 : ∀ c ∈ rt_m486.2.2.2.2.2.2.1, rt_dk rt_m486.2.2.2.1 c.2 = true := by
  intro c hc
  have hc : c ∈ [(0, rt_i486_0), (1, rt_i486_1)] := hc
  simp only [List.mem_cons, List.not_mem_nil, or_false] at hc
  rcases hc with rfl | rfl
  · exact rt_d486_0
  · exact rt_d486_1
set_option maxRecDepth 100000 in
theorem rt_d487_0 : rt_dk prog_28_method_4_code rt_i487_0 = true := by decide +kernel
theorem rt_D487 : ∀ c ∈ rt_m487.2.2.2.2.2.2.1, rt_dk rt_m487.2.2.2.1 c.2 = true := by
  intro c hc
  have hc : c ∈ [(0, rt_i487_0)] := hc
  simp only [List.mem_cons, List.not_mem_nil, or_false] at hc
  rcases hc with rfl
  · exact rt_d487_0
set_option maxRecDepth 100000 in
theorem rt_d488_0 : rt_dk prog_28_method_23_code rt_i488_0 = true := by decide +kernel
set_option maxRecDepth 100000 in
theorem rt_d488_1 : rt_dk prog_28_method_23_code rt_i488_1 = true := by decide +kernel
theorem rt_D488 : ∀ c ∈ rt_m488.2.2.2.2.2.2.1, rt_dk rt_m488.2.2.2.1 c.2 = true := by
  intro c hc
  have hc : c ∈ [(0, rt_i488_0), (1, rt_i488_1)] := hc
  simp only [List.mem_cons, List.not_mem_nil, or_false] at hc
  rcases hc with rfl | rfl
  · exact rt_d488_0
  · exact rt_d488_1
theorem rt_E0 : ∀ M ∈ rt_r0, ∀ c ∈ M.2.2.2.2.2.2.1, rt_dk M.2.2.2.1 c.2 = true := by
  intro M hM
  simp only [rt_r0, List.mem_cons, List.not_mem_nil, or_false] at hM
  rcases hM with rfl
  · exact rt_D0
theorem rt_E1 : ∀ M ∈ rt_r1, ∀ c ∈ M.2.2.2.2.2.2.1, rt_dk M.2.2.2.1 c.2 = true := by
  intro M hM
  simp only [rt_r1, List.mem_cons, List.not_mem_nil, or_false] at hM
  rcases hM with rfl | rfl | rfl | rfl | rfl | rfl | rfl | rfl | rfl | rfl | rfl | rfl | rfl | rfl | rfl | rfl
  · exact rt_D16
  · exact rt_D17
  · exact rt_D18
  · exact rt_D19
  · exact rt_D20
  · exact rt_D21
  · exact rt_D22
  · exact rt_D23
  · exact rt_D24
  · exact rt_D25
  · exact rt_D26
  · exact rt_D27
  · exact rt_D28
  · exact rt_D29
  · exact rt_D30
  · exact rt_D31
theorem rt_E2 : ∀ M ∈ rt_r2, ∀ c ∈ M.2.2.2.2.2.2.1, rt_dk M.2.2.2.1 c.2 = true := by
  intro M hM
  simp only [rt_r2, List.mem_cons, List.not_mem_nil, or_false] at hM
  rcases hM with rfl | rfl | rfl | rfl | rfl | rfl | rfl | rfl | rfl | rfl | rfl | rfl | rfl | rfl | rfl | rfl
  · exact rt_D32
  · exact rt_D33
  · exact rt_D34
  · exact rt_D35
  · exact rt_D36
  · exact rt_D37
  · exact rt_D38
  · exact rt_D39
  · exact rt_D40
  · exact rt_D41
  · exact rt_D42
  · exact rt_D43
  · exact rt_D44
  · exact rt_D45
  · exact rt_D46
  · exact rt_D47
theorem rt_E3 : ∀ M ∈ rt_r3, ∀ c ∈ M.2.2.2.2.2.2.1, rt_dk M.2.2.2.1 c.2 = true := by
  intro M hM
  simp only [rt_r3, List.mem_cons, List.not_mem_nil, or_false] at hM
  rcases hM with rfl | rfl | rfl | rfl | rfl | rfl | rfl | rfl | rfl | rfl | rfl | rfl | rfl | rfl | rfl | rfl
  · exact rt_D48
  · exact rt_D49
  · exact rt_D50
  · exact rt_D51
  · exact rt_D52
  · exact rt_D53
  · exact rt_D54
  · exact rt_D55
  · exact rt_D56
  · exact rt_D57
  · exact rt_D58
  · exact rt_D59
  · exact rt_D60
  · exact rt_D61
  · exact rt_D62
  · exact rt_D63
theorem rt_E4 : ∀ M ∈ rt_r4, ∀ c ∈ M.2.2.2.2.2.2.1, rt_dk M.2.2.2.1 c.2 = true := by
  intro M hM
  simp only [rt_r4, List.mem_cons, List.not_mem_nil, or_false] at hM
  rcases hM with rfl | rfl | rfl | rfl | rfl | rfl | rfl | rfl | rfl | rfl | rfl | rfl | rfl | rfl | rfl | rfl
  · exact rt_D64
  · exact rt_D65
  · exact rt_D66
  · exact rt_D67
  · exact rt_D68
  · exact rt_D69
  · exact rt_D70
  · exact rt_D71
  · exact rt_D72
  · exact rt_D73
  · exact rt_D74
  · exact rt_D75
  · exact rt_D76
  · exact rt_D77
  · exact rt_D78
  · exact rt_D79
theorem rt_E5 : ∀ M ∈ rt_r5, ∀ c ∈ M.2.2.2.2.2.2.1, rt_dk M.2.2.2.1 c.2 = true := by
  intro M hM
  simp only [rt_r5, List.mem_cons, List.not_mem_nil, or_false] at hM
  rcases hM with rfl | rfl | rfl | rfl | rfl | rfl | rfl | rfl | rfl | rfl | rfl | rfl | rfl | rfl | rfl | rfl
  · exact rt_D80
  · exact rt_D81
  · exact rt_D82
  · exact rt_D83
  · exact rt_D84
  · exact rt_D85
  · exact rt_D86
  · exact rt_D87
  · exact rt_D88
  · exact rt_D89
  · exact rt_D90
  · exact rt_D91
  · exact rt_D92
  · exact rt_D93
  · exact rt_D94
  · exact rt_D95
theorem rt_E6 : ∀ M ∈ rt_r6, ∀ c ∈ M.2.2.2.2.2.2.1, rt_dk M.2.2.2.1 c.2 = true := by
  intro M hM
  simp only [rt_r6, List.mem_cons, List.not_mem_nil, or_false] at hM
  rcases hM with rfl | rfl | rfl | rfl | rfl | rfl | rfl | rfl | rfl | rfl | rfl | rfl | rfl | rfl | rfl | rfl
  · exact rt_D96
  · exact rt_D97
  · exact rt_D98
  · exact rt_D99
  · exact rt_D100
  · exact rt_D101
  · exact rt_D102
  · exact rt_D103
  · exact rt_D104
  · exact rt_D105
  · exact rt_D106
  · exact rt_D107
  · exact rt_D108
  · exact rt_D109
  · exact rt_D110
  · exact rt_D111
theorem rt_E7 : ∀ M ∈ rt_r7, ∀ c ∈ M.2.2.2.2.2.2.1, rt_dk M.2.2.2.1 c.2 = true := by
  intro M hM
  simp only [rt_r7, List.mem_cons, List.not_mem_nil, or_false] at hM
  rcases hM with rfl | rfl | rfl | rfl | rfl | rfl | rfl | rfl | rfl | rfl | rfl | rfl | rfl | rfl | rfl | rfl
  · exact rt_D112
  · exact rt_D113
  · exact rt_D114
  · exact rt_D115
  · exact rt_D116
  · exact rt_D117
  · exact rt_D118
  · exact rt_D119
  · exact rt_D120
  · exact rt_D121
  · exact rt_D122
  · exact rt_D123
  · exact rt_D124
  · exact rt_D125
  · exact rt_D126
  · exact rt_D127
theorem rt_E8 : ∀ M ∈ rt_r8, ∀ c ∈ M.2.2.2.2.2.2.1, rt_dk M.2.2.2.1 c.2 = true := by
  intro M hM
  simp only [rt_r8, List.mem_cons, List.not_mem_nil, or_false] at hM
  rcases hM with rfl | rfl | rfl | rfl | rfl | rfl | rfl | rfl | rfl | rfl | rfl | rfl | rfl | rfl | rfl | rfl
  · exact rt_D128
  · exact rt_D129
  · exact rt_D130
  · exact rt_D131
  · exact rt_D132
  · exact rt_D133
  · exact rt_D134
  · exact rt_D135
  · exact rt_D136
  · exact rt_D137
  · exact rt_D138
  · exact rt_D139
  · exact rt_D140
  · exact rt_D141
  · exact rt_D142
  · exact rt_D143
theorem rt_E9 : ∀ M ∈ rt_r9, ∀ c ∈ M.2.2.2.2.2.2.1, rt_dk M.2.2.2.1 c.2 = true := by
  intro M hM
  simp only [rt_r9, List.mem_cons, List.not_mem_nil, or_false] at hM
  rcases hM with rfl | rfl | rfl | rfl | rfl | rfl | rfl | rfl | rfl | rfl | rfl | rfl | rfl | rfl | rfl | rfl
  · exact rt_D144
  · exact rt_D145
  · exact rt_D146
  · exact rt_D147
  · exact rt_D148
  · exact rt_D149
  · exact rt_D150
  · exact rt_D151
  · exact rt_D152
  · exact rt_D153
  · exact rt_D154
  · exact rt_D155
  · exact rt_D156
  · exact rt_D157
  · exact rt_D158
  · exact rt_D159
theorem rt_E10 : ∀ M ∈ rt_r10, ∀ c ∈ M.2.2.2.2.2.2.1, rt_dk M.2.2.2.1 c.2 = true := by
  intro M hM
  simp only [rt_r10, List.mem_cons, List.not_mem_nil, or_false] at hM
  rcases hM with rfl | rfl | rfl | rfl | rfl | rfl | rfl | rfl | rfl | rfl | rfl | rfl | rfl | rfl | rfl | rfl
  · exact rt_D160
  · exact rt_D161
  · exact rt_D162
  · exact rt_D163
  · exact rt_D164
  · exact rt_D165
  · exact rt_D166
  · exact rt_D167
  · exact rt_D168
  · exact rt_D169
  · exact rt_D170
  · exact rt_D171
  · exact rt_D172
  · exact rt_D173
  · exact rt_D174
  · exact rt_D175
theorem rt_E11 : ∀ M ∈ rt_r11, ∀ c ∈ M.2.2.2.2.2.2.1, rt_dk M.2.2.2.1 c.2 = true := by
  intro M hM
  simp only [rt_r11, List.mem_cons, List.not_mem_nil, or_false] at hM
  rcases hM with rfl | rfl | rfl | rfl | rfl | rfl | rfl | rfl | rfl | rfl | rfl | rfl | rfl | rfl | rfl | rfl
  · exact rt_D176
  · exact rt_D177
  · exact rt_D178
  · exact rt_D179
  · exact rt_D180
  · exact rt_D181
  · exact rt_D182
  · exact rt_D183
  · exact rt_D184
  · exact rt_D185
  · exact rt_D186
  · exact rt_D187
  · exact rt_D188
  · exact rt_D189
  · exact rt_D190
  · exact rt_D191
theorem rt_E12 : ∀ M ∈ rt_r12, ∀ c ∈ M.2.2.2.2.2.2.1, rt_dk M.2.2.2.1 c.2 = true := by
  intro M hM
  simp only [rt_r12, List.mem_cons, List.not_mem_nil, or_false] at hM
  rcases hM with rfl | rfl | rfl | rfl | rfl | rfl | rfl | rfl | rfl | rfl | rfl | rfl | rfl | rfl | rfl | rfl
  · exact rt_D192
  · exact rt_D193
  · exact rt_D194
  · exact rt_D195
  · exact rt_D196
  · exact rt_D197
  · exact rt_D198
  · exact rt_D199
  · exact rt_D200
  · exact rt_D201
  · exact rt_D202
  · exact rt_D203
  · exact rt_D204
  · exact rt_D205
  · exact rt_D206
  · exact rt_D207
theorem rt_E13 : ∀ M ∈ rt_r13, ∀ c ∈ M.2.2.2.2.2.2.1, rt_dk M.2.2.2.1 c.2 = true := by
  intro M hM
  simp only [rt_r13, List.mem_cons, List.not_mem_nil, or_false] at hM
  rcases hM with rfl | rfl | rfl | rfl | rfl | rfl | rfl | rfl | rfl | rfl | rfl | rfl | rfl | rfl | rfl | rfl
  · exact rt_D208
  · exact rt_D209
  · exact rt_D210
  · exact rt_D211
  · exact rt_D212
  · exact rt_D213
  · exact rt_D214
  · exact rt_D215
  · exact rt_D216
  · exact rt_D217
  · exact rt_D218
  · exact rt_D219
  · exact rt_D220
  · exact rt_D221
  · exact rt_D222
  · exact rt_D223
theorem rt_E14 : ∀ M ∈ rt_r14, ∀ c ∈ M.2.2.2.2.2.2.1, rt_dk M.2.2.2.1 c.2 = true := by
  intro M hM
  simp only [rt_r14, List.mem_cons, List.not_mem_nil, or_false] at hM
  rcases hM with rfl | rfl | rfl | rfl | rfl | rfl | rfl | rfl | rfl | rfl | rfl | rfl | rfl | rfl | rfl | rfl
  · exact rt_D224
  · exact rt_D225
  · exact rt_D226
  · exact rt_D227
  · exact rt_D228
  · exact rt_D229
  · exact rt_D230
  · exact rt_D231
  · exact rt_D232
  · exact rt_D233
  · exact rt_D234
  · exact rt_D235
  · exact rt_D236
  · exact rt_D237
  · exact rt_D238
  · exact rt_D239
theorem rt_E15 : ∀ M ∈ rt_r15, ∀ c ∈ M.2.2.2.2.2.2.1, rt_dk M.2.2.2.1 c.2 = true := by
  intro M hM
  simp only [rt_r15, List.mem_cons, List.not_mem_nil, or_false] at hM
  rcases hM with rfl | rfl | rfl | rfl | rfl | rfl | rfl | rfl | rfl | rfl | rfl | rfl | rfl | rfl | rfl | rfl
  · exact rt_D240
  · exact rt_D241
  · exact rt_D242
  · exact rt_D243
  · exact rt_D244
  · exact rt_D245
  · exact rt_D246
  · exact rt_D247
  · exact rt_D248
  · exact rt_D249
  · exact rt_D250
  · exact rt_D251
  · exact rt_D252
  · exact rt_D253
  · exact rt_D254
  · exact rt_D255
theorem rt_E16 : ∀ M ∈ rt_r16, ∀ c ∈ M.2.2.2.2.2.2.1, rt_dk M.2.2.2.1 c.2 = true := by
  intro M hM
  simp only [rt_r16, List.mem_cons, List.not_mem_nil, or_false] at hM
  rcases hM with rfl | rfl | rfl | rfl | rfl | rfl | rfl | rfl | rfl | rfl | rfl | rfl | rfl | rfl | rfl | rfl
  · exact rt_D256
  · exact rt_D257
  · exact rt_D258
  · exact rt_D259
  · exact rt_D260
  · exact rt_D261
  · exact rt_D262
  · exact rt_D263
  · exact rt_D264
  · exact rt_D265
  · exact rt_D266
  · exact rt_D267
  · exact rt_D268
  · exact rt_D269
  · exact rt_D270
  · exact rt_D271
theorem rt_E17 : ∀ M ∈ rt_r17, ∀ c ∈ M.2.2.2.2.2.2.1, rt_dk M.2.2.2.1 c.2 = true := by
  intro M hM
  simp only [rt_r17, List.mem_cons, List.not_mem_nil, or_false] at hM
  rcases hM with rfl | rfl | rfl | rfl | rfl | rfl | rfl | rfl | rfl | rfl | rfl | rfl | rfl | rfl | rfl | rfl
  · exact rt_D272
  · exact rt_D273
  · exact rt_D274
  · exact rt_D275
  · exact rt_D276
  · exact rt_D277
  · exact rt_D278
  · exact rt_D279
  · exact rt_D280
  · exact rt_D281
  · exact rt_D282
  · exact rt_D283
  · exact rt_D284
  · exact rt_D285
  · exact rt_D286
  · exact rt_D287
theorem rt_E18 : ∀ M ∈ rt_r18, ∀ c ∈ M.2.2.2.2.2.2.1, rt_dk M.2.2.2.1 c.2 = true := by
  intro M hM
  simp only [rt_r18, List.mem_cons, List.not_mem_nil, or_false] at hM
  rcases hM with rfl | rfl | rfl | rfl | rfl | rfl | rfl | rfl | rfl | rfl | rfl | rfl | rfl | rfl | rfl | rfl
  · exact rt_D288
  · exact rt_D289
  · exact rt_D290
  · exact rt_D291
  · exact rt_D292
  · exact rt_D293
  · exact rt_D294
  · exact rt_D295
  · exact rt_D296
  · exact rt_D297
  · exact rt_D298
  · exact rt_D299
  · exact rt_D300
  · exact rt_D301
  · exact rt_D302
  · exact rt_D303
theorem rt_E19 : ∀ M ∈ rt_r19, ∀ c ∈ M.2.2.2.2.2.2.1, rt_dk M.2.2.2.1 c.2 = true := by
  intro M hM
  simp only [rt_r19, List.mem_cons, List.not_mem_nil, or_false] at hM
  rcases hM with rfl | rfl | rfl | rfl | rfl | rfl | rfl | rfl | rfl | rfl | rfl | rfl | rfl | rfl | rfl | rfl
  · exact rt_D304
  · exact rt_D305
  · exact rt_D306
  · exact rt_D307
  · exact rt_D308
  · exact rt_D309
  · exact rt_D310
  · exact rt_D311
  · exact rt_D312
  · exact rt_D313
  · exact rt_D314
  · exact rt_D315
  · exact rt_D316
  · exact rt_D317
  · exact rt_D318
  · exact rt_D319
theorem rt_E20 : ∀ M ∈ rt_r20, ∀ c ∈ M.2.2.2.2.2.2.1, rt_dk M.2.2.2.1 c.2 = true := by
  intro M hM
  simp only [rt_r20, List.mem_cons, List.not_mem_nil, or_false] at hM
  rcases hM with rfl | rfl | rfl | rfl | rfl | rfl | rfl | rfl | rfl | rfl | rfl | rfl | rfl | rfl | rfl | rfl
  · exact rt_D320
  · exact rt_D321
  · exact rt_D322
  · exact rt_D323
  · exact rt_D324
  · exact rt_D325
  · exact rt_D326
  · exact rt_D327
  · exact rt_D328
  · exact rt_D329
  · exact rt_D330
  · exact rt_D331
  · exact rt_D332
  · exact rt_D333
  · exact rt_D334
  · exact rt_D335
theorem rt_E21 : ∀ M ∈ rt_r21, ∀ c ∈ M.2.2.2.2.2.2.1, rt_dk M.2.2.2.1 c.2 = true := by
  intro M hM
  simp only [rt_r21, List.mem_cons, List.not_mem_nil, or_false] at hM
  rcases hM with rfl | rfl | rfl | rfl | rfl | rfl | rfl | rfl | rfl | rfl | rfl | rfl | rfl | rfl | rfl | rfl
  · exact rt_D336
  · exact rt_D337
  · exact rt_D338
  · exact rt_D339
  · exact rt_D340
  · exact rt_D341
  · exact rt_D342
  · exact rt_D343
  · exact rt_D344
  · exact rt_D345
  · exact rt_D346
  · exact rt_D347
  · exact rt_D348
  · exact rt_D349
  · exact rt_D350
  · exact rt_D351
theorem rt_E22 : ∀ M ∈ rt_r22, ∀ c ∈ M.2.2.2.2.2.2.1, rt_dk M.2.2.2.1 c.2 = true := by
  intro M hM
  simp only [rt_r22, List.mem_cons, List.not_mem_nil, or_false] at hM
  rcases hM with rfl | rfl | rfl | rfl | rfl | rfl | rfl | rfl | rfl | rfl | rfl | rfl | rfl | rfl | rfl | rfl
  · exact rt_D352
  · exact rt_D353
  · exact rt_D354
  · exact rt_D355
  · exact rt_D356
  · exact rt_D357
  · exact rt_D358
  · exact rt_D359
  · exact rt_D360
  · exact rt_D361
  · exact rt_D362
  · exact rt_D363
  · exact rt_D364
  · exact rt_D365
  · exact rt_D366
  · exact rt_D367
theorem rt_E23 : ∀ M ∈ rt_r23, ∀ c ∈ M.2.2.2.2.2.2.1, rt_dk M.2.2.2.1 c.2 = true := by
  intro M hM
  simp only [rt_r23, List.mem_cons, List.not_mem_nil, or_false] at hM
  rcases hM with rfl | rfl | rfl | rfl | rfl | rfl | rfl | rfl | rfl | rfl | rfl | rfl | rfl | rfl | rfl | rfl
  · exact rt_D368
  · exact rt_D369
  · exact rt_D370
  · exact rt_D371
  · exact rt_D372
  · exact rt_D373
  · exact rt_D374
  · exact rt_D375
  · exact rt_D376
  · exact rt_D377
  · exact rt_D378
  · exact rt_D379
  · exact rt_D380
  · exact rt_D381
  · exact rt_D382
  · exact rt_D383
theorem rt_E24 : ∀ M ∈ rt_r24, ∀ c ∈ M.2.2.2.2.2.2.1, rt_dk M.2.2.2.1 c.2 = true := by
  intro M hM
  simp only [rt_r24, List.mem_cons, List.not_mem_nil, or_false] at hM
  rcases hM with rfl | rfl | rfl | rfl | rfl | rfl | rfl | rfl | rfl | rfl | rfl | rfl | rfl | rfl | rfl | rfl
  · exact rt_D384
  · exact rt_D385
  · exact rt_D386
  · exact rt_D387
  · exact rt_D388
  · exact rt_D389
  · exact rt_D390
  · exact rt_D391
  · exact rt_D392
  · exact rt_D393
  · exact rt_D394
  · exact rt_D395
  · exact rt_D396
  · exact rt_D397
  · exact rt_D398
  · exact rt_D399
theorem rt_E25 : ∀ M ∈ rt_r25, ∀ c ∈ M.2.2.2.2.2.2.1, rt_dk M.2.2.2.1 c.2 = true := by
  intro M hM
  simp only [rt_r25, List.mem_cons, List.not_mem_nil, or_false] at hM
  rcases hM with rfl | rfl | rfl | rfl | rfl | rfl | rfl | rfl | rfl | rfl | rfl | rfl | rfl | rfl | rfl | rfl
  · exact rt_D400
  · exact rt_D401
  · exact rt_D402
  · exact rt_D403
  · exact rt_D404
  · exact rt_D405
  · exact rt_D406
  · exact rt_D407
  · exact rt_D408
  · exact rt_D409
  · exact rt_D410
  · exact rt_D411
  · exact rt_D412
  · exact rt_D413
  · exact rt_D414
  · exact rt_D415
theorem rt_E26 : ∀ M ∈ rt_r26, ∀ c ∈ M.2.2.2.2.2.2.1, rt_dk M.2.2.2.1 c.2 = true := by
  intro M hM
  simp only [rt_r26, List.mem_cons, List.not_mem_nil, or_false] at hM
  rcases hM with rfl | rfl | rfl | rfl | rfl | rfl | rfl | rfl | rfl | rfl | rfl | rfl | rfl | rfl | rfl | rfl
  · exact rt_D416
  · exact rt_D417
  · exact rt_D418
  · exact rt_D419
  · exact rt_D420
  · exact rt_D421
  · exact rt_D422
  · exact rt_D423
  · exact rt_D424
  · exact rt_D425
  · exact rt_D426
  · exact rt_D427
  · exact rt_D428
  · exact rt_D429
  · exact rt_D430
  · exact rt_D431
theorem rt_E27 : ∀ M ∈ rt_r27, ∀ c ∈ M.2.2.2.2.2.2.1, rt_dk M.2.2.2.1 c.2 = true := by
  intro M hM
  simp only [rt_r27, List.mem_cons, List.not_mem_nil, or_false] at hM
  rcases hM with rfl | rfl | rfl | rfl | rfl | rfl | rfl | rfl | rfl | rfl | rfl | rfl | rfl | rfl | rfl | rfl
  · exact rt_D432
  · exact rt_D433
  · exact rt_D434
  · exact rt_D435
  · exact rt_D436
  · exact rt_D437
  · exact rt_D438
  · exact rt_D439
  · exact rt_D440
  · exact rt_D441
  · exact rt_D442
  · exact rt_D443
  · exact rt_D444
  · exact rt_D445
  · exact rt_D446
  · exact rt_D447
theorem rt_E28 : ∀ M ∈ rt_r28, ∀ c ∈ M.2.2.2.2.2.2.1, rt_dk M.2.2.2.1 c.2 = true := by
  intro M hM
  simp only [rt_r28, List.mem_cons, List.not_mem_nil, or_false] at hM
  rcases hM with rfl | rfl | rfl | rfl | rfl | rfl | rfl | rfl | rfl | rfl | rfl | rfl | rfl | rfl | rfl | rfl
  · exact rt_D448
  · exact rt_D449
  · exact rt_D450
  · exact rt_D451
  · exact rt_D452
  · exact rt_D453
  · exact rt_D454
  · exact rt_D455
  · exact rt_D456
  · exact rt_D457
  · exact rt_D458
  · exact rt_D459
  · exact rt_D460
  · exact rt_D461
  · exact rt_D462
  · exact rt_D463
theorem rt_E29 : ∀ M ∈ rt_r29, ∀ c ∈ M.2.2.2.2.2.2.1, rt_dk M.2.2.2.1 c.2 = true := by
  intro M hM
  simp only [rt_r29, List.mem_cons, List.not_mem_nil, or_false] at hM
  rcases hM with rfl | rfl | rfl | rfl | rfl | rfl | rfl | rfl | rfl | rfl | rfl | rfl | rfl | rfl | rfl | rfl
  · exact rt_D464
  · exact rt_D465
  · exact rt_D466
  · exact rt_D467
  · exact rt_D468
  · exact rt_D469
  · exact rt_D470
  · exact rt_D471
  · exact rt_D472
  · exact rt_D473
  · exact rt_D474
  · exact rt_D475
  · exact rt_D476
  · exact rt_D477
  · exact rt_D478
  · exact rt_D479
theorem rt_E30 : ∀ M ∈ rt_r30, ∀ c ∈ M.2.2.2.2.2.2.1, rt_dk M.2.2.2.1 c.2 = true := by
  intro M hM
  simp only [rt_r30, List.mem_cons, List.not_mem_nil, or_false] at hM
  rcases hM with rfl | rfl | rfl | rfl | rfl | rfl | rfl | rfl | rfl
  · exact rt_D480
  · exact rt_D481
  · exact rt_D482
  · exact rt_D483
  · exact rt_D484
  · exact rt_D485
  · exact rt_D486
  · exact rt_D487
  · exact rt_D488
theorem rt_E : ∀ r ∈ rt_MT, ∀ M ∈ r, ∀ c ∈ M.2.2.2.2.2.2.1, rt_dk M.2.2.2.1 c.2 = true := by
  intro r hr
  simp only [rt_MT, rt_MS, List.mem_cons, List.not_mem_nil, or_false] at hr
  rcases hr with rfl | rfl | rfl | rfl | rfl | rfl | rfl | rfl | rfl | rfl | rfl | rfl | rfl | rfl | rfl | rfl | rfl | rfl | rfl | rfl | rfl | rfl | rfl | rfl | rfl | rfl | rfl | rfl | rfl | rfl | rfl
  · exact rt_E0
  · exact rt_E1
  · exact rt_E2
  · exact rt_E3
  · exact rt_E4
  · exact rt_E5
  · exact rt_E6
  · exact rt_E7
  · exact rt_E8
  · exact rt_E9
  · exact rt_E10
  · exact rt_E11
  · exact rt_E12
  · exact rt_E13
  · exact rt_E14
  · exact rt_E15
  · exact rt_E16
  · exact rt_E17
  · exact rt_E18
  · exact rt_E19
  · exact rt_E20
  · exact rt_E21
  · exact rt_E22
  · exact rt_E23
  · exact rt_E24
  · exact rt_E25
  · exact rt_E26
  · exact rt_E27
  · exact rt_E28
  · exact rt_E29
  · exact rt_E30
