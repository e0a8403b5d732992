/-! THE TABLES: texts, layouts, the code as the machine decodes it: by wip/whole/gentab.py -/
def rt_ST : List (List Int32) := [[111, 114, 100, 101, 114, 32, 107, 105, 110, 100, 32, 99, 108, 97, 115, 115, 32, 102, 105, 101, 108, 100, 32, 109, 101, 116, 104, 111, 100, 32, 112, 97, 114, 97, 109, 32, 109, 97, 107, 101, 114, 32, 97, 100, 100, 115, 32, 111, 110, 32, 104, 101, 105, 114, 115, 32, 109, 97, 110, 121, 32, 110, 111, 32, 105, 110, 116, 32, 116, 101, 120, 116, 32, 112, 117, 115, 104, 32, 114, 101, 97, 100, 32, 108, 111, 97, 100, 32, 115, 116, 111, 114, 101, 32, 103, 101, 116, 32, 115, 101, 116, 32, 99, 97, 108, 108, 32, 114, 101, 116, 32, 97, 100, 100, 32, 115, 117, 98, 32, 109, 117, 108, 32, 100, 117, 112, 32, 112, 111, 112, 32, 106, 117, 109, 112, 32, 122, 101, 114, 111, 32, 105, 115, 32, 97, 115], [97, 32, 70, 65, 85, 76, 84], [111, 114, 100, 101, 114], [107, 105, 110, 100], [99, 108, 97, 115, 115], [102, 105, 101, 108, 100], [109, 101, 116, 104, 111, 100], [112, 97, 114, 97, 109], [109, 97, 107, 101, 114], [97, 100, 100, 115], [111, 110], [104, 101, 105, 114, 115], [109, 97, 110, 121], [110, 111], [105, 110, 116], [116, 101, 120, 116], [112, 117, 115, 104], [114, 101, 97, 100], [108, 111, 97, 100], [115, 116, 111, 114, 101], [103, 101, 116], [115, 101, 116], [99, 97, 108, 108], [114, 101, 116], [97, 100, 100], [115, 117, 98], [109, 117, 108], [100, 117, 112], [112, 111, 112], [106, 117, 109, 112], [122, 101, 114, 111], [105, 115], [97, 115], [102, 114, 111, 109, 73, 110, 100, 101, 120, 40], [41, 32, 62, 32, 116, 111, 73, 110, 100, 101, 120, 40], [41]]
theorem rt_okC : rx_OkC := by
  intro ci q h
  match ci, h with
  | 0, h =>
    obtain rfl : (RJ0, TJ0, 4) = q := Option.some.inj h
    exact ⟨tyJ0, fun w hw => rx_TT_3 hw, tyJ0_ok, nmJ0⟩
  | 1, h =>
    obtain rfl : (RJ4, TJ4, 4) = q := Option.some.inj h
    exact ⟨tyJ4, fun w hw => rx_TT_4 hw, tyJ4_ok, nmJ4⟩
  | 2, h =>
    obtain rfl : (RX0, TX0, 20) = q := Option.some.inj h
    exact ⟨tyX0, fun w hw => rx_TT_5 hw, tyX0_ok, nmX0⟩
  | 3, h =>
    obtain rfl : (RX1, TX1, 8) = q := Option.some.inj h
    exact ⟨tyX1, fun w hw => rx_TT_6 hw, tyX1_ok, nmX1⟩
  | 4, h =>
    obtain rfl : (RX2, TX2, 10) = q := Option.some.inj h
    exact ⟨tyX2, fun w hw => rx_TT_7 hw, tyX2_ok, nmX2⟩
  | 5, h =>
    obtain rfl : (RX3, TX3, 17) = q := Option.some.inj h
    exact ⟨tyX3, fun w hw => rx_TT_8 hw, tyX3_ok, nmX3⟩
  | 6, h =>
    obtain rfl : (RX4, TX4, 10) = q := Option.some.inj h
    exact ⟨tyX4, fun w hw => rx_TT_9 hw, tyX4_ok, nmX4⟩
  | 7, h =>
    obtain rfl : (RX5, TX5, 14) = q := Option.some.inj h
    exact ⟨tyX5, fun w hw => rx_TT_10 hw, tyX5_ok, nmX5⟩
  | 8, h =>
    obtain rfl : (RX6, TX6, 9) = q := Option.some.inj h
    exact ⟨tyX6, fun w hw => rx_TT_11 hw, tyX6_ok, nmX6⟩
  | 9, h =>
    obtain rfl : (RX7, TX7, 15) = q := Option.some.inj h
    exact ⟨tyX7, fun w hw => rx_TT_12 hw, tyX7_ok, nmX7⟩
  | 10, h =>
    obtain rfl : (RX8, TX8, 12) = q := Option.some.inj h
    exact ⟨tyX8, fun w hw => rx_TT_13 hw, tyX8_ok, nmX8⟩
  | 11, h =>
    obtain rfl : (RX9, TX9, 15) = q := Option.some.inj h
    exact ⟨tyX9, fun w hw => rx_TT_14 hw, tyX9_ok, nmX9⟩
  | 12, h =>
    obtain rfl : (RX10, TX10, 7) = q := Option.some.inj h
    exact ⟨tyX10, fun w hw => rx_TT_15 hw, tyX10_ok, nmX10⟩
  | 13, h =>
    obtain rfl : (RX11, TX11, 10) = q := Option.some.inj h
    exact ⟨tyX11, fun w hw => rx_TT_16 hw, tyX11_ok, nmX11⟩
  | 14, h =>
    obtain rfl : (RX12, TX12, 10) = q := Option.some.inj h
    exact ⟨tyX12, fun w hw => rx_TT_17 hw, tyX12_ok, nmX12⟩
  | 15, h =>
    obtain rfl : (RX13, TX13, 140) = q := Option.some.inj h
    exact ⟨tyX13, fun w hw => rx_TT_18 hw, tyX13_ok, nmX13⟩
  | k + 16, h => exact absurd h (by simp [vwCl])
def rt_sw : Instr → Bool
  | .tableswitch _ _ _ _ => true
  | _ => false
def rt_dk (cc : ByteArray) (l : List (Nat × Instr)) : Bool := l.all (fun q => match decode cc q.1 with
  | .ok (i, n) => decide (i = q.2) && (Nat.beq n (rx_len i) || rt_sw i)
  | .error _ => false)
set_option maxRecDepth 100000 in
theorem rt_d0_0 : rt_dk code rt_i0_0 = true := by decide +kernel
set_option maxRecDepth 100000 in
theorem rt_d0_1 : rt_dk code rt_i0_1 = true := by decide +kernel
set_option maxRecDepth 100000 in
theorem rt_d0_5 : rt_dk code rt_i0_5 = true := by decide +kernel
set_option maxRecDepth 100000 in
theorem rt_d0_6 : rt_dk code rt_i0_6 = true := by decide +kernel
set_option maxRecDepth 100000 in
theorem rt_d0_7 : rt_dk code rt_i0_7 = true := by decide +kernel
set_option maxRecDepth 100000 in
theorem rt_d0_8 : rt_dk code rt_i0_8 = true := by decide +kernel
set_option maxRecDepth 100000 in
theorem rt_d0_9 : rt_dk code rt_i0_9 = true := by decide +kernel
set_option maxRecDepth 100000 in
theorem rt_d0_10 : rt_dk code rt_i0_10 = true := by decide +kernel
set_option maxRecDepth 100000 in
theorem rt_d0_11 : rt_dk code rt_i0_11 = true := by decide +kernel
set_option maxRecDepth 100000 in
theorem rt_d0_12 : rt_dk code rt_i0_12 = true := by decide +kernel
set_option maxRecDepth 100000 in
theorem rt_d0_13 : rt_dk code rt_i0_13 = true := by decide +kernel
set_option maxRecDepth 100000 in
theorem rt_d0_14 : rt_dk code rt_i0_14 = true := by decide +kernel
set_option maxRecDepth 100000 in
theorem rt_d0_15 : rt_dk code rt_i0_15 = true := by decide +kernel
set_option maxRecDepth 100000 in
theorem rt_d0_16 : rt_dk code rt_i0_16 = true := by decide +kernel
set_option maxRecDepth 100000 in
theorem rt_d0_17 : rt_dk code rt_i0_17 = true := by decide +kernel
set_option maxRecDepth 100000 in
theorem rt_d0_18 : rt_dk code rt_i0_18 = true := by decide +kernel
set_option maxRecDepth 100000 in
theorem rt_d0_19 : rt_dk code rt_i0_19 = true := by decide +kernel
set_option maxRecDepth 100000 in
theorem rt_d0_20 : rt_dk code rt_i0_20 = true := by decide +kernel
set_option maxRecDepth 100000 in
theorem rt_d0_21 : rt_dk code rt_i0_21 = true := by decide +kernel
set_option maxRecDepth 100000 in
theorem rt_d0_22 : rt_dk code rt_i0_22 = true := by decide +kernel
set_option maxRecDepth 100000 in
theorem rt_d0_23 : rt_dk code rt_i0_23 = true := by decide +kernel
set_option maxRecDepth 100000 in
theorem rt_d0_24 : rt_dk code rt_i0_24 = true := by decide +kernel
set_option maxRecDepth 100000 in
theorem rt_d0_25 : rt_dk code rt_i0_25 = true := by decide +kernel
set_option maxRecDepth 100000 in
theorem rt_d0_26 : rt_dk code rt_i0_26 = true := by decide +kernel
set_option maxRecDepth 100000 in
theorem rt_d0_27 : rt_dk code rt_i0_27 = true := by decide +kernel
set_option maxRecDepth 100000 in
theorem rt_d0_28 : rt_dk code rt_i0_28 = true := by decide +kernel
set_option maxRecDepth 100000 in
theorem rt_d0_29 : rt_dk code rt_i0_29 = true := by decide +kernel
set_option maxRecDepth 100000 in
theorem rt_d0_30 : rt_dk code rt_i0_30 = true := by decide +kernel
set_option maxRecDepth 100000 in
theorem rt_d0_31 : rt_dk code rt_i0_31 = true := by decide +kernel
set_option maxRecDepth 100000 in
theorem rt_d0_32 : rt_dk code rt_i0_32 = true := by decide +kernel
set_option maxRecDepth 100000 in
theorem rt_d0_33 : rt_dk code rt_i0_33 = true := by decide +kernel
set_option maxRecDepth 100000 in
theorem rt_d0_34 : rt_dk code rt_i0_34 = true := by decide +kernel
set_option maxRecDepth 100000 in
theorem rt_d0_35 : rt_dk code rt_i0_35 = true := by decide +kernel
set_option maxRecDepth 100000 in
theorem rt_d0_36 : rt_dk code rt_i0_36 = true := by decide +kernel
set_option maxRecDepth 100000 in
theorem rt_d0_37 : rt_dk code rt_i0_37 = true := by decide +kernel
set_option maxRecDepth 100000 in
theorem rt_d0_38 : rt_dk code rt_i0_38 = true := by decide +kernel
set_option maxRecDepth 100000 in
theorem rt_d0_39 : rt_dk code rt_i0_39 = true := by decide +kernel
set_option maxRecDepth 100000 in
theorem rt_d0_40 : rt_dk code rt_i0_40 = true := by decide +kernel
set_option maxRecDepth 100000 in
theorem rt_d0_41 : rt_dk code rt_i0_41 = true := by decide +kernel
theorem rt_D0 : ∀ c ∈ rt_m0.2.2.2.2.2.2.1, rt_dk rt_m0.2.2.2.1 c.2 = true := by
  intro c hc
  have hc : c ∈ [(0, rt_i0_0), (1, rt_i0_1), (5, rt_i0_5), (6, rt_i0_6), (7, rt_i0_7), (8, rt_i0_8), (9, rt_i0_9), (10, rt_i0_10), (11, rt_i0_11), (12, rt_i0_12), (13, rt_i0_13), (14, rt_i0_14), (15, rt_i0_15), (16, rt_i0_16), (17, rt_i0_17), (18, rt_i0_18), (19, rt_i0_19), (20, rt_i0_20), (21, rt_i0_21), (22, rt_i0_22), (23, rt_i0_23), (24, rt_i0_24), (25, rt_i0_25), (26, rt_i0_26), (27, rt_i0_27), (28, rt_i0_28), (29, rt_i0_29), (30, rt_i0_30), (31, rt_i0_31), (32, rt_i0_32), (33, rt_i0_33), (34, rt_i0_34), (35, rt_i0_35), (36, rt_i0_36), (37, rt_i0_37), (38, rt_i0_38), (39, rt_i0_39), (40, rt_i0_40), (41, rt_i0_41)] := hc
  simp only [List.mem_cons, List.not_mem_nil, or_false] at hc
  rcases hc with rfl | rfl | rfl | rfl | rfl | rfl | rfl | rfl | rfl | rfl | rfl | rfl | rfl | rfl | rfl | rfl | rfl | rfl | rfl | rfl | rfl | rfl | rfl | rfl | rfl | rfl | rfl | rfl | rfl | rfl | rfl | rfl | rfl | rfl | rfl | rfl | rfl | rfl | rfl
  · exact rt_d0_0
  · exact rt_d0_1
  · exact rt_d0_5
  · exact rt_d0_6
  · exact rt_d0_7
  · exact rt_d0_8
  · exact rt_d0_9
  · exact rt_d0_10
  · exact rt_d0_11
  · exact rt_d0_12
  · exact rt_d0_13
  · exact rt_d0_14
  · exact rt_d0_15
  · exact rt_d0_16
  · exact rt_d0_17
  · exact rt_d0_18
  · exact rt_d0_19
  · exact rt_d0_20
  · exact rt_d0_21
  · exact rt_d0_22
  · exact rt_d0_23
  · exact rt_d0_24
  · exact rt_d0_25
  · exact rt_d0_26
  · exact rt_d0_27
  · exact rt_d0_28
  · exact rt_d0_29
  · exact rt_d0_30
  · exact rt_d0_31
  · exact rt_d0_32
  · exact rt_d0_33
  · exact rt_d0_34
  · exact rt_d0_35
  · exact rt_d0_36
  · exact rt_d0_37
  · exact rt_d0_38
  · exact rt_d0_39
  · exact rt_d0_40
  · exact rt_d0_41
set_option maxRecDepth 100000 in
theorem rt_d16_0 : rt_dk method_3_code rt_i16_0 = true := by decide +kernel
theorem rt_D16 : ∀ c ∈ rt_m16.2.2.2.2.2.2.1, rt_dk rt_m16.2.2.2.1 c.2 = true := by
  intro c hc
  have hc : c ∈ [(0, rt_i16_0)] := hc
  simp only [List.mem_cons, List.not_mem_nil, or_false] at hc
  rcases hc with rfl
  · exact rt_d16_0
set_option maxRecDepth 100000 in
theorem rt_d17_0 : rt_dk method_4_code rt_i17_0 = true := by decide +kernel
theorem rt_D17 : ∀ c ∈ rt_m17.2.2.2.2.2.2.1, rt_dk rt_m17.2.2.2.1 c.2 = true := by
  intro c hc
  have hc : c ∈ [(0, rt_i17_0)] := hc
  simp only [List.mem_cons, List.not_mem_nil, or_false] at hc
  rcases hc with rfl
  · exact rt_d17_0
set_option maxRecDepth 100000 in
theorem rt_d18_0 : rt_dk method_5_code rt_i18_0 = true := by decide +kernel
theorem rt_D18 : ∀ c ∈ rt_m18.2.2.2.2.2.2.1, rt_dk rt_m18.2.2.2.1 c.2 = true := by
  intro c hc
  have hc : c ∈ [(0, rt_i18_0)] := hc
  simp only [List.mem_cons, List.not_mem_nil, or_false] at hc
  rcases hc with rfl
  · exact rt_d18_0
set_option maxRecDepth 100000 in
theorem rt_d19_0 : rt_dk prog_2_method_1_code rt_i19_0 = true := by decide +kernel
set_option maxRecDepth 100000 in
theorem rt_d19_1 : rt_dk prog_2_method_1_code rt_i19_1 = true := by decide +kernel
set_option maxRecDepth 100000 in
theorem rt_d19_2 : rt_dk prog_2_method_1_code rt_i19_2 = true := by decide +kernel
set_option maxRecDepth 100000 in
theorem rt_d19_3 : rt_dk prog_2_method_1_code rt_i19_3 = true := by decide +kernel
set_option maxRecDepth 100000 in
theorem rt_d19_4 : rt_dk prog_2_method_1_code rt_i19_4 = true := by decide +kernel
set_option maxRecDepth 100000 in
theorem rt_d19_5 : rt_dk prog_2_method_1_code rt_i19_5 = true := by decide +kernel
theorem rt_D19 : ∀ c ∈ rt_m19.2.2.2.2.2.2.1, rt_dk rt_m19.2.2.2.1 c.2 = true := by
  intro c hc
  have hc : c ∈ [(0, rt_i19_0), (1, rt_i19_1), (2, rt_i19_2), (3, rt_i19_3), (4, rt_i19_4), (5, rt_i19_5)] := hc
  simp only [List.mem_cons, List.not_mem_nil, or_false] at hc
  rcases hc with rfl | rfl | rfl | rfl | rfl | rfl
  · exact rt_d19_0
  · exact rt_d19_1
  · exact rt_d19_2
  · exact rt_d19_3
  · exact rt_d19_4
  · exact rt_d19_5
set_option maxRecDepth 100000 in
theorem rt_d20_0 : rt_dk prog_2_method_2_code rt_i20_0 = true := by decide +kernel
theorem rt_D20 : ∀ c ∈ rt_m20.2.2.2.2.2.2.1, rt_dk rt_m20.2.2.2.1 c.2 = true := by
  intro c hc
  have hc : c ∈ [(0, rt_i20_0)] := hc
  simp only [List.mem_cons, List.not_mem_nil, or_false] at hc
  rcases hc with rfl
  · exact rt_d20_0
set_option maxRecDepth 100000 in
theorem rt_d21_0 : rt_dk prog_2_method_3_code rt_i21_0 = true := by decide +kernel
set_option maxRecDepth 100000 in
theorem rt_d21_1 : rt_dk prog_2_method_3_code rt_i21_1 = true := by decide +kernel
set_option maxRecDepth 100000 in
theorem rt_d21_2 : rt_dk prog_2_method_3_code rt_i21_2 = true := by decide +kernel
set_option maxRecDepth 100000 in
theorem rt_d21_3 : rt_dk prog_2_method_3_code rt_i21_3 = true := by decide +kernel
theorem rt_D21 : ∀ c ∈ rt_m21.2.2.2.2.2.2.1, rt_dk rt_m21.2.2.2.1 c.2 = true := by
  intro c hc
  have hc : c ∈ [(0, rt_i21_0), (1, rt_i21_1), (2, rt_i21_2), (3, rt_i21_3)] := hc
  simp only [List.mem_cons, List.not_mem_nil, or_false] at hc
  rcases hc with rfl | rfl | rfl | rfl
  · exact rt_d21_0
  · exact rt_d21_1
  · exact rt_d21_2
  · exact rt_d21_3
set_option maxRecDepth 100000 in
theorem rt_d22_0 : rt_dk prog_2_method_4_code rt_i22_0 = true := by decide +kernel
theorem rt_D22 : ∀ c ∈ rt_m22.2.2.2.2.2.2.1, rt_dk rt_m22.2.2.2.1 c.2 = true := by
  intro c hc
  have hc : c ∈ [(0, rt_i22_0)] := hc
  simp only [List.mem_cons, List.not_mem_nil, or_false] at hc
  rcases hc with rfl
  · exact rt_d22_0
set_option maxRecDepth 100000 in
theorem rt_d23_0 : rt_dk prog_3_method_1_code rt_i23_0 = true := by decide +kernel
set_option maxRecDepth 100000 in
theorem rt_d23_1 : rt_dk prog_3_method_1_code rt_i23_1 = true := by decide +kernel
set_option maxRecDepth 100000 in
theorem rt_d23_2 : rt_dk prog_3_method_1_code rt_i23_2 = true := by decide +kernel
set_option maxRecDepth 100000 in
theorem rt_d23_3 : rt_dk prog_3_method_1_code rt_i23_3 = true := by decide +kernel
theorem rt_D23 : ∀ c ∈ rt_m23.2.2.2.2.2.2.1, rt_dk rt_m23.2.2.2.1 c.2 = true := by
  intro c hc
  have hc : c ∈ [(0, rt_i23_0), (1, rt_i23_1), (2, rt_i23_2), (3, rt_i23_3)] := hc
  simp only [List.mem_cons, List.not_mem_nil, or_false] at hc
  rcases hc with rfl | rfl | rfl | rfl
  · exact rt_d23_0
  · exact rt_d23_1
  · exact rt_d23_2
  · exact rt_d23_3
set_option maxRecDepth 100000 in
theorem rt_d24_0 : rt_dk prog_3_method_2_code rt_i24_0 = true := by decide +kernel
set_option maxRecDepth 100000 in
theorem rt_d24_1 : rt_dk prog_3_method_2_code rt_i24_1 = true := by decide +kernel
theorem rt_D24 : ∀ c ∈ rt_m24.2.2.2.2.2.2.1, rt_dk rt_m24.2.2.2.1 c.2 = true := by
  intro c hc
  have hc : c ∈ [(0, rt_i24_0), (1, rt_i24_1)] := hc
  simp only [List.mem_cons, List.not_mem_nil, or_false] at hc
  rcases hc with rfl | rfl
  · exact rt_d24_0
  · exact rt_d24_1
set_option maxRecDepth 100000 in
theorem rt_d25_0 : rt_dk prog_3_method_3_code rt_i25_0 = true := by decide +kernel
set_option maxRecDepth 100000 in
theorem rt_d25_1 : rt_dk prog_3_method_3_code rt_i25_1 = true := by decide +kernel
set_option maxRecDepth 100000 in
theorem rt_d25_2 : rt_dk prog_3_method_3_code rt_i25_2 = true := by decide +kernel
theorem rt_D25 : ∀ c ∈ rt_m25.2.2.2.2.2.2.1, rt_dk rt_m25.2.2.2.1 c.2 = true := by
  intro c hc
  have hc : c ∈ [(0, rt_i25_0), (1, rt_i25_1), (2, rt_i25_2)] := hc
  simp only [List.mem_cons, List.not_mem_nil, or_false] at hc
  rcases hc with rfl | rfl | rfl
  · exact rt_d25_0
  · exact rt_d25_1
  · exact rt_d25_2
set_option maxRecDepth 100000 in
theorem rt_d26_0 : rt_dk prog_3_method_4_code rt_i26_0 = true := by decide +kernel
set_option maxRecDepth 100000 in
theorem rt_d26_1 : rt_dk prog_3_method_4_code rt_i26_1 = true := by decide +kernel
theorem rt_D26 : ∀ c ∈ rt_m26.2.2.2.2.2.2.1, rt_dk rt_m26.2.2.2.1 c.2 = true := by
  intro c hc
  have hc : c ∈ [(0, rt_i26_0), (1, rt_i26_1)] := hc
  simp only [List.mem_cons, List.not_mem_nil, or_false] at hc
  rcases hc with rfl | rfl
  · exact rt_d26_0
  · exact rt_d26_1
set_option maxRecDepth 100000 in
theorem rt_d27_0 : rt_dk prog_4_method_1_code rt_i27_0 = true := by decide +kernel
set_option maxRecDepth 100000 in
theorem rt_d27_1 : rt_dk prog_4_method_1_code rt_i27_1 = true := by decide +kernel
theorem rt_D27 : ∀ c ∈ rt_m27.2.2.2.2.2.2.1, rt_dk rt_m27.2.2.2.1 c.2 = true := by
  intro c hc
  have hc : c ∈ [(0, rt_i27_0), (1, rt_i27_1)] := hc
  simp only [List.mem_cons, List.not_mem_nil, or_false] at hc
  rcases hc with rfl | rfl
  · exact rt_d27_0
  · exact rt_d27_1
set_option maxRecDepth 100000 in
theorem rt_d28_0 : rt_dk prog_5_method_1_code rt_i28_0 = true := by decide +kernel
set_option maxRecDepth 100000 in
theorem rt_d28_1 : rt_dk prog_5_method_1_code rt_i28_1 = true := by decide +kernel
set_option maxRecDepth 100000 in
theorem rt_d28_2 : rt_dk prog_5_method_1_code rt_i28_2 = true := by decide +kernel
theorem rt_D28 : ∀ c ∈ rt_m28.2.2.2.2.2.2.1, rt_dk rt_m28.2.2.2.1 c.2 = true := by
  intro c hc
  have hc : c ∈ [(0, rt_i28_0), (1, rt_i28_1), (2, rt_i28_2)] := hc
  simp only [List.mem_cons, List.not_mem_nil, or_false] at hc
  rcases hc with rfl | rfl | rfl
  · exact rt_d28_0
  · exact rt_d28_1
  · exact rt_d28_2
set_option maxRecDepth 100000 in
theorem rt_d29_0 : rt_dk prog_5_method_2_code rt_i29_0 = true := by decide +kernel
theorem rt_D29 : ∀ c ∈ rt_m29.2.2.2.2.2.2.1, rt_dk rt_m29.2.2.2.1 c.2 = true := by
  intro c hc
  have hc : c ∈ [(0, rt_i29_0)] := hc
  simp only [List.mem_cons, List.not_mem_nil, or_false] at hc
  rcases hc with rfl
  · exact rt_d29_0
set_option maxRecDepth 100000 in
theorem rt_d30_0 : rt_dk prog_5_method_14_code rt_i30_0 = true := by decide +kernel
theorem rt_D30 : ∀ c ∈ rt_m30.2.2.2.2.2.2.1, rt_dk rt_m30.2.2.2.1 c.2 = true := by
  intro c hc
  have hc : c ∈ [(0, rt_i30_0)] := hc
  simp only [List.mem_cons, List.not_mem_nil, or_false] at hc
  rcases hc with rfl
  · exact rt_d30_0
set_option maxRecDepth 100000 in
theorem rt_d31_0 : rt_dk prog_6_method_1_code rt_i31_0 = true := by decide +kernel
set_option maxRecDepth 100000 in
theorem rt_d31_1 : rt_dk prog_6_method_1_code rt_i31_1 = true := by decide +kernel
theorem rt_D31 : ∀ c ∈ rt_m31.2.2.2.2.2.2.1, rt_dk rt_m31.2.2.2.1 c.2 = true := by
  intro c hc
  have hc : c ∈ [(0, rt_i31_0), (1, rt_i31_1)] := hc
  simp only [List.mem_cons, List.not_mem_nil, or_false] at hc
  rcases hc with rfl | rfl
  · exact rt_d31_0
  · exact rt_d31_1
set_option maxRecDepth 100000 in
theorem rt_d32_0 : rt_dk prog_7_method_1_code rt_i32_0 = true := by decide +kernel
set_option maxRecDepth 100000 in
theorem rt_d32_1 : rt_dk prog_7_method_1_code rt_i32_1 = true := by decide +kernel
set_option maxRecDepth 100000 in
theorem rt_d32_2 : rt_dk prog_7_method_1_code rt_i32_2 = true := by decide +kernel
set_option maxRecDepth 100000 in
theorem rt_d32_3 : rt_dk prog_7_method_1_code rt_i32_3 = true := by decide +kernel
theorem rt_D32 : ∀ c ∈ rt_m32.2.2.2.2.2.2.1, rt_dk rt_m32.2.2.2.1 c.2 = true := by
  intro c hc
  have hc : c ∈ [(0, rt_i32_0), (1, rt_i32_1), (2, rt_i32_2), (3, rt_i32_3)] := hc
  simp only [List.mem_cons, List.not_mem_nil, or_false] at hc
  rcases hc with rfl | rfl | rfl | rfl
  · exact rt_d32_0
  · exact rt_d32_1
  · exact rt_d32_2
  · exact rt_d32_3
set_option maxRecDepth 100000 in
theorem rt_d33_0 : rt_dk prog_7_method_2_code rt_i33_0 = true := by decide +kernel
theorem rt_D33 : ∀ c ∈ rt_m33.2.2.2.2.2.2.1, rt_dk rt_m33.2.2.2.1 c.2 = true := by
  intro c hc
  have hc : c ∈ [(0, rt_i33_0)] := hc
  simp only [List.mem_cons, List.not_mem_nil, or_false] at hc
  rcases hc with rfl
  · exact rt_d33_0
set_option maxRecDepth 100000 in
theorem rt_d34_0 : rt_dk prog_8_method_1_code rt_i34_0 = true := by decide +kernel
set_option maxRecDepth 100000 in
theorem rt_d34_1 : rt_dk prog_8_method_1_code rt_i34_1 = true := by decide +kernel
theorem rt_D34 : ∀ c ∈ rt_m34.2.2.2.2.2.2.1, rt_dk rt_m34.2.2.2.1 c.2 = true := by
  intro c hc
  have hc : c ∈ [(0, rt_i34_0), (1, rt_i34_1)] := hc
  simp only [List.mem_cons, List.not_mem_nil, or_false] at hc
  rcases hc with rfl | rfl
  · exact rt_d34_0
  · exact rt_d34_1
set_option maxRecDepth 100000 in
theorem rt_d35_0 : rt_dk prog_9_method_1_code rt_i35_0 = true := by decide +kernel
set_option maxRecDepth 100000 in
theorem rt_d35_1 : rt_dk prog_9_method_1_code rt_i35_1 = true := by decide +kernel
set_option maxRecDepth 100000 in
theorem rt_d35_2 : rt_dk prog_9_method_1_code rt_i35_2 = true := by decide +kernel
set_option maxRecDepth 100000 in
theorem rt_d35_3 : rt_dk prog_9_method_1_code rt_i35_3 = true := by decide +kernel
set_option maxRecDepth 100000 in
theorem rt_d35_4 : rt_dk prog_9_method_1_code rt_i35_4 = true := by decide +kernel
theorem rt_D35 : ∀ c ∈ rt_m35.2.2.2.2.2.2.1, rt_dk rt_m35.2.2.2.1 c.2 = true := by
  intro c hc
  have hc : c ∈ [(0, rt_i35_0), (1, rt_i35_1), (2, rt_i35_2), (3, rt_i35_3), (4, rt_i35_4)] := hc
  simp only [List.mem_cons, List.not_mem_nil, or_false] at hc
  rcases hc with rfl | rfl | rfl | rfl | rfl
  · exact rt_d35_0
  · exact rt_d35_1
  · exact rt_d35_2
  · exact rt_d35_3
  · exact rt_d35_4
set_option maxRecDepth 100000 in
theorem rt_d36_0 : rt_dk prog_9_method_2_code rt_i36_0 = true := by decide +kernel
theorem rt_D36 : ∀ c ∈ rt_m36.2.2.2.2.2.2.1, rt_dk rt_m36.2.2.2.1 c.2 = true := by
  intro c hc
  have hc : c ∈ [(0, rt_i36_0)] := hc
  simp only [List.mem_cons, List.not_mem_nil, or_false] at hc
  rcases hc with rfl
  · exact rt_d36_0
set_option maxRecDepth 100000 in
theorem rt_d37_0 : rt_dk prog_9_method_3_code rt_i37_0 = true := by decide +kernel
theorem rt_D37 : ∀ c ∈ rt_m37.2.2.2.2.2.2.1, rt_dk rt_m37.2.2.2.1 c.2 = true := by
  intro c hc
  have hc : c ∈ [(0, rt_i37_0)] := hc
  simp only [List.mem_cons, List.not_mem_nil, or_false] at hc
  rcases hc with rfl
  · exact rt_d37_0
set_option maxRecDepth 100000 in
theorem rt_d38_0 : rt_dk prog_9_method_4_code rt_i38_0 = true := by decide +kernel
set_option maxRecDepth 100000 in
theorem rt_d38_1 : rt_dk prog_9_method_4_code rt_i38_1 = true := by decide +kernel
theorem rt_D38 : ∀ c ∈ rt_m38.2.2.2.2.2.2.1, rt_dk rt_m38.2.2.2.1 c.2 = true := by
  intro c hc
  have hc : c ∈ [(0, rt_i38_0), (1, rt_i38_1)] := hc
  simp only [List.mem_cons, List.not_mem_nil, or_false] at hc
  rcases hc with rfl | rfl
  · exact rt_d38_0
  · exact rt_d38_1
set_option maxRecDepth 100000 in
theorem rt_d39_0 : rt_dk prog_10_method_1_code rt_i39_0 = true := by decide +kernel
theorem rt_D39 : ∀ c ∈ rt_m39.2.2.2.2.2.2.1, rt_dk rt_m39.2.2.2.1 c.2 = true := by
  intro c hc
  have hc : c ∈ [(0, rt_i39_0)] := hc
  simp only [List.mem_cons, List.not_mem_nil, or_false] at hc
  rcases hc with rfl
  · exact rt_d39_0
set_option maxRecDepth 100000 in
theorem rt_d40_0 : rt_dk prog_10_method_2_code rt_i40_0 = true := by decide +kernel
set_option maxRecDepth 100000 in
theorem rt_d40_1 : rt_dk prog_10_method_2_code rt_i40_1 = true := by decide +kernel
theorem rt_D40 : ∀ c ∈ rt_m40.2.2.2.2.2.2.1, rt_dk rt_m40.2.2.2.1 c.2 = true := by
  intro c hc
  have hc : c ∈ [(0, rt_i40_0), (1, rt_i40_1)] := hc
  simp only [List.mem_cons, List.not_mem_nil, or_false] at hc
  rcases hc with rfl | rfl
  · exact rt_d40_0
  · exact rt_d40_1
set_option maxRecDepth 100000 in
theorem rt_d41_0 : rt_dk prog_10_method_3_code rt_i41_0 = true := by decide +kernel
theorem rt_D41 : ∀ c ∈ rt_m41.2.2.2.2.2.2.1, rt_dk rt_m41.2.2.2.1 c.2 = true := by
  intro c hc
  have hc : c ∈ [(0, rt_i41_0)] := hc
  simp only [List.mem_cons, List.not_mem_nil, or_false] at hc
  rcases hc with rfl
  · exact rt_d41_0
set_option maxRecDepth 100000 in
theorem rt_d42_0 : rt_dk prog_10_method_4_code rt_i42_0 = true := by decide +kernel
theorem rt_D42 : ∀ c ∈ rt_m42.2.2.2.2.2.2.1, rt_dk rt_m42.2.2.2.1 c.2 = true := by
  intro c hc
  have hc : c ∈ [(0, rt_i42_0)] := hc
  simp only [List.mem_cons, List.not_mem_nil, or_false] at hc
  rcases hc with rfl
  · exact rt_d42_0
set_option maxRecDepth 100000 in
theorem rt_d43_0 : rt_dk prog_10_method_5_code rt_i43_0 = true := by decide +kernel
theorem rt_D43 : ∀ c ∈ rt_m43.2.2.2.2.2.2.1, rt_dk rt_m43.2.2.2.1 c.2 = true := by
  intro c hc
  have hc : c ∈ [(0, rt_i43_0)] := hc
  simp only [List.mem_cons, List.not_mem_nil, or_false] at hc
  rcases hc with rfl
  · exact rt_d43_0
set_option maxRecDepth 100000 in
theorem rt_d44_0 : rt_dk prog_10_method_10_code rt_i44_0 = true := by decide +kernel
set_option maxRecDepth 100000 in
theorem rt_d44_1 : rt_dk prog_10_method_10_code rt_i44_1 = true := by decide +kernel
set_option maxRecDepth 100000 in
theorem rt_d44_2 : rt_dk prog_10_method_10_code rt_i44_2 = true := by decide +kernel
theorem rt_D44 : ∀ c ∈ rt_m44.2.2.2.2.2.2.1, rt_dk rt_m44.2.2.2.1 c.2 = true := by
  intro c hc
  have hc : c ∈ [(0, rt_i44_0), (1, rt_i44_1), (2, rt_i44_2)] := hc
  simp only [List.mem_cons, List.not_mem_nil, or_false] at hc
  rcases hc with rfl | rfl | rfl
  · exact rt_d44_0
  · exact rt_d44_1
  · exact rt_d44_2
set_option maxRecDepth 100000 in
theorem rt_d45_0 : rt_dk prog_10_method_11_code rt_i45_0 = true := by decide +kernel
set_option maxRecDepth 100000 in
theorem rt_d45_1 : rt_dk prog_10_method_11_code rt_i45_1 = true := by decide +kernel
set_option maxRecDepth 100000 in
theorem rt_d45_2 : rt_dk prog_10_method_11_code rt_i45_2 = true := by decide +kernel
set_option maxRecDepth 100000 in
theorem rt_d45_3 : rt_dk prog_10_method_11_code rt_i45_3 = true := by decide +kernel
set_option maxRecDepth 100000 in
theorem rt_d45_4 : rt_dk prog_10_method_11_code rt_i45_4 = true := by decide +kernel
theorem rt_D45 : ∀ c ∈ rt_m45.2.2.2.2.2.2.1, rt_dk rt_m45.2.2.2.1 c.2 = true := by
  intro c hc
  have hc : c ∈ [(0, rt_i45_0), (1, rt_i45_1), (2, rt_i45_2), (3, rt_i45_3), (4, rt_i45_4)] := hc
  simp only [List.mem_cons, List.not_mem_nil, or_false] at hc
  rcases hc with rfl | rfl | rfl | rfl | rfl
  · exact rt_d45_0
  · exact rt_d45_1
  · exact rt_d45_2
  · exact rt_d45_3
  · exact rt_d45_4
set_option maxRecDepth 100000 in
theorem rt_d46_0 : rt_dk prog_11_method_1_code rt_i46_0 = true := by decide +kernel
set_option maxRecDepth 100000 in
theorem rt_d46_1 : rt_dk prog_11_method_1_code rt_i46_1 = true := by decide +kernel
set_option maxRecDepth 100000 in
theorem rt_d46_2 : rt_dk prog_11_method_1_code rt_i46_2 = true := by decide +kernel
set_option maxRecDepth 100000 in
theorem rt_d46_3 : rt_dk prog_11_method_1_code rt_i46_3 = true := by decide +kernel
theorem rt_D46 : ∀ c ∈ rt_m46.2.2.2.2.2.2.1, rt_dk rt_m46.2.2.2.1 c.2 = true := by
  intro c hc
  have hc : c ∈ [(0, rt_i46_0), (1, rt_i46_1), (2, rt_i46_2), (3, rt_i46_3)] := hc
  simp only [List.mem_cons, List.not_mem_nil, or_false] at hc
  rcases hc with rfl | rfl | rfl | rfl
  · exact rt_d46_0
  · exact rt_d46_1
  · exact rt_d46_2
  · exact rt_d46_3
set_option maxRecDepth 100000 in
theorem rt_d47_0 : rt_dk prog_11_method_2_code rt_i47_0 = true := by decide +kernel
set_option maxRecDepth 100000 in
theorem rt_d47_1 : rt_dk prog_11_method_2_code rt_i47_1 = true := by decide +kernel
theorem rt_D47 : ∀ c ∈ rt_m47.2.2.2.2.2.2.1, rt_dk rt_m47.2.2.2.1 c.2 = true := by
  intro c hc
  have hc : c ∈ [(0, rt_i47_0), (1, rt_i47_1)] := hc
  simp only [List.mem_cons, List.not_mem_nil, or_false] at hc
  rcases hc with rfl | rfl
  · exact rt_d47_0
  · exact rt_d47_1
set_option maxRecDepth 100000 in
theorem rt_d48_0 : rt_dk prog_11_method_4_code rt_i48_0 = true := by decide +kernel
theorem rt_D48 : ∀ c ∈ rt_m48.2.2.2.2.2.2.1, rt_dk rt_m48.2.2.2.1 c.2 = true := by
  intro c hc
  have hc : c ∈ [(0, rt_i48_0)] := hc
  simp only [List.mem_cons, List.not_mem_nil, or_false] at hc
  rcases hc with rfl
  · exact rt_d48_0
set_option maxRecDepth 100000 in
theorem rt_d49_0 : rt_dk prog_11_method_5_code rt_i49_0 = true := by decide +kernel
theorem rt_D49 : ∀ c ∈ rt_m49.2.2.2.2.2.2.1, rt_dk rt_m49.2.2.2.1 c.2 = true := by
  intro c hc
  have hc : c ∈ [(0, rt_i49_0)] := hc
  simp only [List.mem_cons, List.not_mem_nil, or_false] at hc
  rcases hc with rfl
  · exact rt_d49_0
set_option maxRecDepth 100000 in
theorem rt_d50_0 : rt_dk prog_11_method_23_code rt_i50_0 = true := by decide +kernel
set_option maxRecDepth 100000 in
theorem rt_d50_1 : rt_dk prog_11_method_23_code rt_i50_1 = true := by decide +kernel
set_option maxRecDepth 100000 in
theorem rt_d50_2 : rt_dk prog_11_method_23_code rt_i50_2 = true := by decide +kernel
set_option maxRecDepth 100000 in
theorem rt_d50_3 : rt_dk prog_11_method_23_code rt_i50_3 = true := by decide +kernel
theorem rt_D50 : ∀ c ∈ rt_m50.2.2.2.2.2.2.1, rt_dk rt_m50.2.2.2.1 c.2 = true := by
  intro c hc
  have hc : c ∈ [(0, rt_i50_0), (1, rt_i50_1), (2, rt_i50_2), (3, rt_i50_3)] := hc
  simp only [List.mem_cons, List.not_mem_nil, or_false] at hc
  rcases hc with rfl | rfl | rfl | rfl
  · exact rt_d50_0
  · exact rt_d50_1
  · exact rt_d50_2
  · exact rt_d50_3
set_option maxRecDepth 100000 in
theorem rt_d51_0 : rt_dk prog_12_method_1_code rt_i51_0 = true := by decide +kernel
set_option maxRecDepth 100000 in
theorem rt_d51_1 : rt_dk prog_12_method_1_code rt_i51_1 = true := by decide +kernel
theorem rt_D51 : ∀ c ∈ rt_m51.2.2.2.2.2.2.1, rt_dk rt_m51.2.2.2.1 c.2 = true := by
  intro c hc
  have hc : c ∈ [(0, rt_i51_0), (1, rt_i51_1)] := hc
  simp only [List.mem_cons, List.not_mem_nil, or_false] at hc
  rcases hc with rfl | rfl
  · exact rt_d51_0
  · exact rt_d51_1
set_option maxRecDepth 100000 in
theorem rt_d52_0 : rt_dk prog_13_method_1_code rt_i52_0 = true := by decide +kernel
set_option maxRecDepth 100000 in
theorem rt_d52_1 : rt_dk prog_13_method_1_code rt_i52_1 = true := by decide +kernel
theorem rt_D52 : ∀ c ∈ rt_m52.2.2.2.2.2.2.1, rt_dk rt_m52.2.2.2.1 c.2 = true := by
  intro c hc
  have hc : c ∈ [(0, rt_i52_0), (1, rt_i52_1)] := hc
  simp only [List.mem_cons, List.not_mem_nil, or_false] at hc
  rcases hc with rfl | rfl
  · exact rt_d52_0
  · exact rt_d52_1
set_option maxRecDepth 100000 in
theorem rt_d53_0 : rt_dk prog_13_method_2_code rt_i53_0 = true := by decide +kernel
theorem rt_D53 : ∀ c ∈ rt_m53.2.2.2.2.2.2.1, rt_dk rt_m53.2.2.2.1 c.2 = true := by
  intro c hc
  have hc : c ∈ [(0, rt_i53_0)] := hc
  simp only [List.mem_cons, List.not_mem_nil, or_false] at hc
  rcases hc with rfl
  · exact rt_d53_0
set_option maxRecDepth 100000 in
theorem rt_d54_0 : rt_dk prog_13_method_3_code rt_i54_0 = true := by decide +kernel
set_option maxRecDepth 100000 in
theorem rt_d54_1 : rt_dk prog_13_method_3_code rt_i54_1 = true := by decide +kernel
theorem rt_D54 : ∀ c ∈ rt_m54.2.2.2.2.2.2.1, rt_dk rt_m54.2.2.2.1 c.2 = true := by
  intro c hc
  have hc : c ∈ [(0, rt_i54_0), (1, rt_i54_1)] := hc
  simp only [List.mem_cons, List.not_mem_nil, or_false] at hc
  rcases hc with rfl | rfl
  · exact rt_d54_0
  · exact rt_d54_1
set_option maxRecDepth 100000 in
theorem rt_d55_0 : rt_dk prog_1_method_1_code rt_i55_0 = true := by decide +kernel
set_option maxRecDepth 100000 in
theorem rt_d55_1 : rt_dk prog_1_method_1_code rt_i55_1 = true := by decide +kernel
set_option maxRecDepth 100000 in
theorem rt_d55_2 : rt_dk prog_1_method_1_code rt_i55_2 = true := by decide +kernel
set_option maxRecDepth 100000 in
theorem rt_d55_3 : rt_dk prog_1_method_1_code rt_i55_3 = true := by decide +kernel
set_option maxRecDepth 100000 in
theorem rt_d55_4 : rt_dk prog_1_method_1_code rt_i55_4 = true := by decide +kernel
set_option maxRecDepth 100000 in
theorem rt_d55_5 : rt_dk prog_1_method_1_code rt_i55_5 = true := by decide +kernel
set_option maxRecDepth 100000 in
theorem rt_d55_6 : rt_dk prog_1_method_1_code rt_i55_6 = true := by decide +kernel
theorem rt_D55 : ∀ c ∈ rt_m55.2.2.2.2.2.2.1, rt_dk rt_m55.2.2.2.1 c.2 = true := by
  intro c hc
  have hc : c ∈ [(0, rt_i55_0), (1, rt_i55_1), (2, rt_i55_2), (3, rt_i55_3), (4, rt_i55_4), (5, rt_i55_5), (6, rt_i55_6)] := hc
  simp only [List.mem_cons, List.not_mem_nil, or_false] at hc
  rcases hc with rfl | rfl | rfl | rfl | rfl | rfl | rfl
  · exact rt_d55_0
  · exact rt_d55_1
  · exact rt_d55_2
  · exact rt_d55_3
  · exact rt_d55_4
  · exact rt_d55_5
  · exact rt_d55_6
set_option maxRecDepth 100000 in
theorem rt_d56_0 : rt_dk prog_1_method_2_code rt_i56_0 = true := by decide +kernel
set_option maxRecDepth 100000 in
theorem rt_d56_1 : rt_dk prog_1_method_2_code rt_i56_1 = true := by decide +kernel
set_option maxRecDepth 100000 in
theorem rt_d56_2 : rt_dk prog_1_method_2_code rt_i56_2 = true := by decide +kernel
theorem rt_D56 : ∀ c ∈ rt_m56.2.2.2.2.2.2.1, rt_dk rt_m56.2.2.2.1 c.2 = true := by
  intro c hc
  have hc : c ∈ [(0, rt_i56_0), (1, rt_i56_1), (2, rt_i56_2)] := hc
  simp only [List.mem_cons, List.not_mem_nil, or_false] at hc
  rcases hc with rfl | rfl | rfl
  · exact rt_d56_0
  · exact rt_d56_1
  · exact rt_d56_2
set_option maxRecDepth 100000 in
theorem rt_d57_0 : rt_dk prog_1_method_3_code rt_i57_0 = true := by decide +kernel
theorem rt_D57 : ∀ c ∈ rt_m57.2.2.2.2.2.2.1, rt_dk rt_m57.2.2.2.1 c.2 = true := by
  intro c hc
  have hc : c ∈ [(0, rt_i57_0)] := hc
  simp only [List.mem_cons, List.not_mem_nil, or_false] at hc
  rcases hc with rfl
  · exact rt_d57_0
set_option maxRecDepth 100000 in
theorem rt_d58_0 : rt_dk prog_1_method_4_code rt_i58_0 = true := by decide +kernel
theorem rt_D58 : ∀ c ∈ rt_m58.2.2.2.2.2.2.1, rt_dk rt_m58.2.2.2.1 c.2 = true := by
  intro c hc
  have hc : c ∈ [(0, rt_i58_0)] := hc
  simp only [List.mem_cons, List.not_mem_nil, or_false] at hc
  rcases hc with rfl
  · exact rt_d58_0
set_option maxRecDepth 100000 in
theorem rt_d59_0 : rt_dk prog_1_method_5_code rt_i59_0 = true := by decide +kernel
set_option maxRecDepth 100000 in
theorem rt_d59_1 : rt_dk prog_1_method_5_code rt_i59_1 = true := by decide +kernel
theorem rt_D59 : ∀ c ∈ rt_m59.2.2.2.2.2.2.1, rt_dk rt_m59.2.2.2.1 c.2 = true := by
  intro c hc
  have hc : c ∈ [(0, rt_i59_0), (1, rt_i59_1)] := hc
  simp only [List.mem_cons, List.not_mem_nil, or_false] at hc
  rcases hc with rfl | rfl
  · exact rt_d59_0
  · exact rt_d59_1
set_option maxRecDepth 100000 in
theorem rt_d60_0 : rt_dk prog_1_method_6_code rt_i60_0 = true := by decide +kernel
theorem rt_D60 : ∀ c ∈ rt_m60.2.2.2.2.2.2.1, rt_dk rt_m60.2.2.2.1 c.2 = true := by
  intro c hc
  have hc : c ∈ [(0, rt_i60_0)] := hc
  simp only [List.mem_cons, List.not_mem_nil, or_false] at hc
  rcases hc with rfl
  · exact rt_d60_0
set_option maxRecDepth 100000 in
theorem rt_d61_0 : rt_dk prog_1_method_7_code rt_i61_0 = true := by decide +kernel
theorem rt_D61 : ∀ c ∈ rt_m61.2.2.2.2.2.2.1, rt_dk rt_m61.2.2.2.1 c.2 = true := by
  intro c hc
  have hc : c ∈ [(0, rt_i61_0)] := hc
  simp only [List.mem_cons, List.not_mem_nil, or_false] at hc
  rcases hc with rfl
  · exact rt_d61_0
set_option maxRecDepth 100000 in
theorem rt_d62_0 : rt_dk prog_1_method_8_code rt_i62_0 = true := by decide +kernel
set_option maxRecDepth 100000 in
theorem rt_d62_1 : rt_dk prog_1_method_8_code rt_i62_1 = true := by decide +kernel
set_option maxRecDepth 100000 in
theorem rt_d62_2 : rt_dk prog_1_method_8_code rt_i62_2 = true := by decide +kernel
theorem rt_D62 : ∀ c ∈ rt_m62.2.2.2.2.2.2.1, rt_dk rt_m62.2.2.2.1 c.2 = true := by
  intro c hc
  have hc : c ∈ [(0, rt_i62_0), (1, rt_i62_1), (2, rt_i62_2)] := hc
  simp only [List.mem_cons, List.not_mem_nil, or_false] at hc
  rcases hc with rfl | rfl | rfl
  · exact rt_d62_0
  · exact rt_d62_1
  · exact rt_d62_2
set_option maxRecDepth 100000 in
theorem rt_d63_0 : rt_dk prog_1_method_10_code rt_i63_0 = true := by decide +kernel
set_option maxRecDepth 100000 in
theorem rt_d63_1 : rt_dk prog_1_method_10_code rt_i63_1 = true := by decide +kernel
set_option maxRecDepth 100000 in
theorem rt_d63_2 : rt_dk prog_1_method_10_code rt_i63_2 = true := by decide +kernel
set_option maxRecDepth 100000 in
theorem rt_d63_3 : rt_dk prog_1_method_10_code rt_i63_3 = true := by decide +kernel
theorem rt_D63 : ∀ c ∈ rt_m63.2.2.2.2.2.2.1, rt_dk rt_m63.2.2.2.1 c.2 = true := by
  intro c hc
  have hc : c ∈ [(0, rt_i63_0), (1, rt_i63_1), (2, rt_i63_2), (3, rt_i63_3)] := hc
  simp only [List.mem_cons, List.not_mem_nil, or_false] at hc
  rcases hc with rfl | rfl | rfl | rfl
  · exact rt_d63_0
  · exact rt_d63_1
  · exact rt_d63_2
  · exact rt_d63_3
set_option maxRecDepth 100000 in
theorem rt_d64_0 : rt_dk prog_1_method_11_code rt_i64_0 = true := by decide +kernel
set_option maxRecDepth 100000 in
theorem rt_d64_1 : rt_dk prog_1_method_11_code rt_i64_1 = true := by decide +kernel
set_option maxRecDepth 100000 in
theorem rt_d64_2 : rt_dk prog_1_method_11_code rt_i64_2 = true := by decide +kernel
set_option maxRecDepth 100000 in
theorem rt_d64_3 : rt_dk prog_1_method_11_code rt_i64_3 = true := by decide +kernel
set_option maxRecDepth 100000 in
theorem rt_d64_4 : rt_dk prog_1_method_11_code rt_i64_4 = true := by decide +kernel
theorem rt_D64 : ∀ c ∈ rt_m64.2.2.2.2.2.2.1, rt_dk rt_m64.2.2.2.1 c.2 = true := by
  intro c hc
  have hc : c ∈ [(0, rt_i64_0), (1, rt_i64_1), (2, rt_i64_2), (3, rt_i64_3), (4, rt_i64_4)] := hc
  simp only [List.mem_cons, List.not_mem_nil, or_false] at hc
  rcases hc with rfl | rfl | rfl | rfl | rfl
  · exact rt_d64_0
  · exact rt_d64_1
  · exact rt_d64_2
  · exact rt_d64_3
  · exact rt_d64_4
set_option maxRecDepth 100000 in
theorem rt_d65_0 : rt_dk prog_1_method_12_code rt_i65_0 = true := by decide +kernel
set_option maxRecDepth 100000 in
theorem rt_d65_1 : rt_dk prog_1_method_12_code rt_i65_1 = true := by decide +kernel
set_option maxRecDepth 100000 in
theorem rt_d65_2 : rt_dk prog_1_method_12_code rt_i65_2 = true := by decide +kernel
set_option maxRecDepth 100000 in
theorem rt_d65_3 : rt_dk prog_1_method_12_code rt_i65_3 = true := by decide +kernel
theorem rt_D65 : ∀ c ∈ rt_m65.2.2.2.2.2.2.1, rt_dk rt_m65.2.2.2.1 c.2 = true := by
  intro c hc
  have hc : c ∈ [(0, rt_i65_0), (1, rt_i65_1), (2, rt_i65_2), (3, rt_i65_3)] := hc
  simp only [List.mem_cons, List.not_mem_nil, or_false] at hc
  rcases hc with rfl | rfl | rfl | rfl
  · exact rt_d65_0
  · exact rt_d65_1
  · exact rt_d65_2
  · exact rt_d65_3
set_option maxRecDepth 100000 in
theorem rt_d66_0 : rt_dk prog_1_method_13_code rt_i66_0 = true := by decide +kernel
theorem rt_D66 : ∀ c ∈ rt_m66.2.2.2.2.2.2.1, rt_dk rt_m66.2.2.2.1 c.2 = true := by
  intro c hc
  have hc : c ∈ [(0, rt_i66_0)] := hc
  simp only [List.mem_cons, List.not_mem_nil, or_false] at hc
  rcases hc with rfl
  · exact rt_d66_0
set_option maxRecDepth 100000 in
theorem rt_d67_0 : rt_dk prog_1_method_14_code rt_i67_0 = true := by decide +kernel
theorem rt_D67 : ∀ c ∈ rt_m67.2.2.2.2.2.2.1, rt_dk rt_m67.2.2.2.1 c.2 = true := by
  intro c hc
  have hc : c ∈ [(0, rt_i67_0)] := hc
  simp only [List.mem_cons, List.not_mem_nil, or_false] at hc
  rcases hc with rfl
  · exact rt_d67_0
set_option maxRecDepth 100000 in
theorem rt_d68_0 : rt_dk prog_1_method_15_code rt_i68_0 = true := by decide +kernel
set_option maxRecDepth 100000 in
theorem rt_d68_1 : rt_dk prog_1_method_15_code rt_i68_1 = true := by decide +kernel
set_option maxRecDepth 100000 in
theorem rt_d68_2 : rt_dk prog_1_method_15_code rt_i68_2 = true := by decide +kernel
set_option maxRecDepth 100000 in
theorem rt_d68_3 : rt_dk prog_1_method_15_code rt_i68_3 = true := by decide +kernel
theorem rt_D68 : ∀ c ∈ rt_m68.2.2.2.2.2.2.1, rt_dk rt_m68.2.2.2.1 c.2 = true := by
  intro c hc
  have hc : c ∈ [(0, rt_i68_0), (1, rt_i68_1), (2, rt_i68_2), (3, rt_i68_3)] := hc
  simp only [List.mem_cons, List.not_mem_nil, or_false] at hc
  rcases hc with rfl | rfl | rfl | rfl
  · exact rt_d68_0
  · exact rt_d68_1
  · exact rt_d68_2
  · exact rt_d68_3
set_option maxRecDepth 100000 in
theorem rt_d69_0 : rt_dk prog_1_method_16_code rt_i69_0 = true := by decide +kernel
set_option maxRecDepth 100000 in
theorem rt_d69_1 : rt_dk prog_1_method_16_code rt_i69_1 = true := by decide +kernel
set_option maxRecDepth 100000 in
theorem rt_d69_2 : rt_dk prog_1_method_16_code rt_i69_2 = true := by decide +kernel
set_option maxRecDepth 100000 in
theorem rt_d69_3 : rt_dk prog_1_method_16_code rt_i69_3 = true := by decide +kernel
theorem rt_D69 : ∀ c ∈ rt_m69.2.2.2.2.2.2.1, rt_dk rt_m69.2.2.2.1 c.2 = true := by
  intro c hc
  have hc : c ∈ [(0, rt_i69_0), (1, rt_i69_1), (2, rt_i69_2), (3, rt_i69_3)] := hc
  simp only [List.mem_cons, List.not_mem_nil, or_false] at hc
  rcases hc with rfl | rfl | rfl | rfl
  · exact rt_d69_0
  · exact rt_d69_1
  · exact rt_d69_2
  · exact rt_d69_3
set_option maxRecDepth 100000 in
theorem rt_d70_0 : rt_dk prog_1_method_17_code rt_i70_0 = true := by decide +kernel
theorem rt_D70 : ∀ c ∈ rt_m70.2.2.2.2.2.2.1, rt_dk rt_m70.2.2.2.1 c.2 = true := by
  intro c hc
  have hc : c ∈ [(0, rt_i70_0)] := hc
  simp only [List.mem_cons, List.not_mem_nil, or_false] at hc
  rcases hc with rfl
  · exact rt_d70_0
set_option maxRecDepth 100000 in
theorem rt_d71_0 : rt_dk prog_1_method_18_code rt_i71_0 = true := by decide +kernel
set_option maxRecDepth 100000 in
theorem rt_d71_1 : rt_dk prog_1_method_18_code rt_i71_1 = true := by decide +kernel
theorem rt_D71 : ∀ c ∈ rt_m71.2.2.2.2.2.2.1, rt_dk rt_m71.2.2.2.1 c.2 = true := by
  intro c hc
  have hc : c ∈ [(0, rt_i71_0), (1, rt_i71_1)] := hc
  simp only [List.mem_cons, List.not_mem_nil, or_false] at hc
  rcases hc with rfl | rfl
  · exact rt_d71_0
  · exact rt_d71_1
set_option maxRecDepth 100000 in
theorem rt_d72_0 : rt_dk prog_1_method_19_code rt_i72_0 = true := by decide +kernel
theorem rt_D72 : ∀ c ∈ rt_m72.2.2.2.2.2.2.1, rt_dk rt_m72.2.2.2.1 c.2 = true := by
  intro c hc
  have hc : c ∈ [(0, rt_i72_0)] := hc
  simp only [List.mem_cons, List.not_mem_nil, or_false] at hc
  rcases hc with rfl
  · exact rt_d72_0
set_option maxRecDepth 100000 in
theorem rt_d73_0 : rt_dk prog_1_method_20_code rt_i73_0 = true := by decide +kernel
set_option maxRecDepth 100000 in
theorem rt_d73_1 : rt_dk prog_1_method_20_code rt_i73_1 = true := by decide +kernel
theorem rt_D73 : ∀ c ∈ rt_m73.2.2.2.2.2.2.1, rt_dk rt_m73.2.2.2.1 c.2 = true := by
  intro c hc
  have hc : c ∈ [(0, rt_i73_0), (1, rt_i73_1)] := hc
  simp only [List.mem_cons, List.not_mem_nil, or_false] at hc
  rcases hc with rfl | rfl
  · exact rt_d73_0
  · exact rt_d73_1
set_option maxRecDepth 100000 in
theorem rt_d74_0 : rt_dk prog_1_method_21_code rt_i74_0 = true := by decide +kernel
theorem rt_D74 : ∀ c ∈ rt_m74.2.2.2.2.2.2.1, rt_dk rt_m74.2.2.2.1 c.2 = true := by
  intro c hc
  have hc : c ∈ [(0, rt_i74_0)] := hc
  simp only [List.mem_cons, List.not_mem_nil, or_false] at hc
  rcases hc with rfl
  · exact rt_d74_0
set_option maxRecDepth 100000 in
theorem rt_d75_0 : rt_dk prog_1_method_22_code rt_i75_0 = true := by decide +kernel
theorem rt_D75 : ∀ c ∈ rt_m75.2.2.2.2.2.2.1, rt_dk rt_m75.2.2.2.1 c.2 = true := by
  intro c hc
  have hc : c ∈ [(0, rt_i75_0)] := hc
  simp only [List.mem_cons, List.not_mem_nil, or_false] at hc
  rcases hc with rfl
  · exact rt_d75_0
set_option maxRecDepth 100000 in
theorem rt_d76_0 : rt_dk prog_1_method_23_code rt_i76_0 = true := by decide +kernel
theorem rt_D76 : ∀ c ∈ rt_m76.2.2.2.2.2.2.1, rt_dk rt_m76.2.2.2.1 c.2 = true := by
  intro c hc
  have hc : c ∈ [(0, rt_i76_0)] := hc
  simp only [List.mem_cons, List.not_mem_nil, or_false] at hc
  rcases hc with rfl
  · exact rt_d76_0
set_option maxRecDepth 100000 in
theorem rt_d77_0 : rt_dk prog_1_method_24_code rt_i77_0 = true := by decide +kernel
set_option maxRecDepth 100000 in
theorem rt_d77_1 : rt_dk prog_1_method_24_code rt_i77_1 = true := by decide +kernel
theorem rt_D77 : ∀ c ∈ rt_m77.2.2.2.2.2.2.1, rt_dk rt_m77.2.2.2.1 c.2 = true := by
  intro c hc
  have hc : c ∈ [(0, rt_i77_0), (1, rt_i77_1)] := hc
  simp only [List.mem_cons, List.not_mem_nil, or_false] at hc
  rcases hc with rfl | rfl
  · exact rt_d77_0
  · exact rt_d77_1
set_option maxRecDepth 100000 in
theorem rt_d78_0 : rt_dk prog_1_method_25_code rt_i78_0 = true := by decide +kernel
set_option maxRecDepth 100000 in
theorem rt_d78_1 : rt_dk prog_1_method_25_code rt_i78_1 = true := by decide +kernel
theorem rt_D78 : ∀ c ∈ rt_m78.2.2.2.2.2.2.1, rt_dk rt_m78.2.2.2.1 c.2 = true := by
  intro c hc
  have hc : c ∈ [(0, rt_i78_0), (1, rt_i78_1)] := hc
  simp only [List.mem_cons, List.not_mem_nil, or_false] at hc
  rcases hc with rfl | rfl
  · exact rt_d78_0
  · exact rt_d78_1
set_option maxRecDepth 100000 in
theorem rt_d79_0 : rt_dk prog_1_method_26_code rt_i79_0 = true := by decide +kernel
set_option maxRecDepth 100000 in
theorem rt_d79_1 : rt_dk prog_1_method_26_code rt_i79_1 = true := by decide +kernel
theorem rt_D79 : ∀ c ∈ rt_m79.2.2.2.2.2.2.1, rt_dk rt_m79.2.2.2.1 c.2 = true := by
  intro c hc
  have hc : c ∈ [(0, rt_i79_0), (1, rt_i79_1)] := hc
  simp only [List.mem_cons, List.not_mem_nil, or_false] at hc
  rcases hc with rfl | rfl
  · exact rt_d79_0
  · exact rt_d79_1
set_option maxRecDepth 100000 in
theorem rt_d80_0 : rt_dk prog_1_method_27_code rt_i80_0 = true := by decide +kernel
set_option maxRecDepth 100000 in
theorem rt_d80_1 : rt_dk prog_1_method_27_code rt_i80_1 = true := by decide +kernel
set_option maxRecDepth 100000 in
theorem rt_d80_2 : rt_dk prog_1_method_27_code rt_i80_2 = true := by decide +kernel
set_option maxRecDepth 100000 in
theorem rt_d80_3 : rt_dk prog_1_method_27_code rt_i80_3 = true := by decide +kernel
theorem rt_D80 : ∀ c ∈ rt_m80.2.2.2.2.2.2.1, rt_dk rt_m80.2.2.2.1 c.2 = true := by
  intro c hc
  have hc : c ∈ [(0, rt_i80_0), (1, rt_i80_1), (2, rt_i80_2), (3, rt_i80_3)] := hc
  simp only [List.mem_cons, List.not_mem_nil, or_false] at hc
  rcases hc with rfl | rfl | rfl | rfl
  · exact rt_d80_0
  · exact rt_d80_1
  · exact rt_d80_2
  · exact rt_d80_3
set_option maxRecDepth 100000 in
theorem rt_d81_0 : rt_dk prog_1_method_28_code rt_i81_0 = true := by decide +kernel
set_option maxRecDepth 100000 in
theorem rt_d81_1 : rt_dk prog_1_method_28_code rt_i81_1 = true := by decide +kernel
theorem rt_D81 : ∀ c ∈ rt_m81.2.2.2.2.2.2.1, rt_dk rt_m81.2.2.2.1 c.2 = true := by
  intro c hc
  have hc : c ∈ [(0, rt_i81_0), (1, rt_i81_1)] := hc
  simp only [List.mem_cons, List.not_mem_nil, or_false] at hc
  rcases hc with rfl | rfl
  · exact rt_d81_0
  · exact rt_d81_1
set_option maxRecDepth 100000 in
theorem rt_d82_0 : rt_dk prog_1_method_29_code rt_i82_0 = true := by decide +kernel
theorem rt_D82 : ∀ c ∈ rt_m82.2.2.2.2.2.2.1, rt_dk rt_m82.2.2.2.1 c.2 = true := by
  intro c hc
  have hc : c ∈ [(0, rt_i82_0)] := hc
  simp only [List.mem_cons, List.not_mem_nil, or_false] at hc
  rcases hc with rfl
  · exact rt_d82_0
set_option maxRecDepth 100000 in
theorem rt_d83_0 : rt_dk prog_1_method_30_code rt_i83_0 = true := by decide +kernel
theorem rt_D83 : ∀ c ∈ rt_m83.2.2.2.2.2.2.1, rt_dk rt_m83.2.2.2.1 c.2 = true := by
  intro c hc
  have hc : c ∈ [(0, rt_i83_0)] := hc
  simp only [List.mem_cons, List.not_mem_nil, or_false] at hc
  rcases hc with rfl
  · exact rt_d83_0
set_option maxRecDepth 100000 in
theorem rt_d84_0 : rt_dk prog_1_method_31_code rt_i84_0 = true := by decide +kernel
set_option maxRecDepth 100000 in
theorem rt_d84_1 : rt_dk prog_1_method_31_code rt_i84_1 = true := by decide +kernel
set_option maxRecDepth 100000 in
theorem rt_d84_2 : rt_dk prog_1_method_31_code rt_i84_2 = true := by decide +kernel
theorem rt_D84 : ∀ c ∈ rt_m84.2.2.2.2.2.2.1, rt_dk rt_m84.2.2.2.1 c.2 = true := by
  intro c hc
  have hc : c ∈ [(0, rt_i84_0), (1, rt_i84_1), (2, rt_i84_2)] := hc
  simp only [List.mem_cons, List.not_mem_nil, or_false] at hc
  rcases hc with rfl | rfl | rfl
  · exact rt_d84_0
  · exact rt_d84_1
  · exact rt_d84_2
set_option maxRecDepth 100000 in
theorem rt_d85_0 : rt_dk prog_1_method_32_code rt_i85_0 = true := by decide +kernel
set_option maxRecDepth 100000 in
theorem rt_d85_1 : rt_dk prog_1_method_32_code rt_i85_1 = true := by decide +kernel
theorem rt_D85 : ∀ c ∈ rt_m85.2.2.2.2.2.2.1, rt_dk rt_m85.2.2.2.1 c.2 = true := by
  intro c hc
  have hc : c ∈ [(0, rt_i85_0), (1, rt_i85_1)] := hc
  simp only [List.mem_cons, List.not_mem_nil, or_false] at hc
  rcases hc with rfl | rfl
  · exact rt_d85_0
  · exact rt_d85_1
set_option maxRecDepth 100000 in
theorem rt_d86_0 : rt_dk prog_1_method_33_code rt_i86_0 = true := by decide +kernel
theorem rt_D86 : ∀ c ∈ rt_m86.2.2.2.2.2.2.1, rt_dk rt_m86.2.2.2.1 c.2 = true := by
  intro c hc
  have hc : c ∈ [(0, rt_i86_0)] := hc
  simp only [List.mem_cons, List.not_mem_nil, or_false] at hc
  rcases hc with rfl
  · exact rt_d86_0
set_option maxRecDepth 100000 in
theorem rt_d87_0 : rt_dk prog_1_method_34_code rt_i87_0 = true := by decide +kernel
theorem rt_D87 : ∀ c ∈ rt_m87.2.2.2.2.2.2.1, rt_dk rt_m87.2.2.2.1 c.2 = true := by
  intro c hc
  have hc : c ∈ [(0, rt_i87_0)] := hc
  simp only [List.mem_cons, List.not_mem_nil, or_false] at hc
  rcases hc with rfl
  · exact rt_d87_0
set_option maxRecDepth 100000 in
theorem rt_d88_0 : rt_dk prog_1_method_35_code rt_i88_0 = true := by decide +kernel
theorem rt_D88 : ∀ c ∈ rt_m88.2.2.2.2.2.2.1, rt_dk rt_m88.2.2.2.1 c.2 = true := by
  intro c hc
  have hc : c ∈ [(0, rt_i88_0)] := hc
  simp only [List.mem_cons, List.not_mem_nil, or_false] at hc
  rcases hc with rfl
  · exact rt_d88_0
set_option maxRecDepth 100000 in
theorem rt_d89_0 : rt_dk prog_1_method_36_code rt_i89_0 = true := by decide +kernel
theorem rt_D89 : ∀ c ∈ rt_m89.2.2.2.2.2.2.1, rt_dk rt_m89.2.2.2.1 c.2 = true := by
  intro c hc
  have hc : c ∈ [(0, rt_i89_0)] := hc
  simp only [List.mem_cons, List.not_mem_nil, or_false] at hc
  rcases hc with rfl
  · exact rt_d89_0
set_option maxRecDepth 100000 in
theorem rt_d90_0 : rt_dk prog_1_method_37_code rt_i90_0 = true := by decide +kernel
theorem rt_D90 : ∀ c ∈ rt_m90.2.2.2.2.2.2.1, rt_dk rt_m90.2.2.2.1 c.2 = true := by
  intro c hc
  have hc : c ∈ [(0, rt_i90_0)] := hc
  simp only [List.mem_cons, List.not_mem_nil, or_false] at hc
  rcases hc with rfl
  · exact rt_d90_0
set_option maxRecDepth 100000 in
theorem rt_d91_0 : rt_dk prog_15_method_1_code rt_i91_0 = true := by decide +kernel
set_option maxRecDepth 100000 in
theorem rt_d91_1 : rt_dk prog_15_method_1_code rt_i91_1 = true := by decide +kernel
set_option maxRecDepth 100000 in
theorem rt_d91_2 : rt_dk prog_15_method_1_code rt_i91_2 = true := by decide +kernel
set_option maxRecDepth 100000 in
theorem rt_d91_3 : rt_dk prog_15_method_1_code rt_i91_3 = true := by decide +kernel
set_option maxRecDepth 100000 in
theorem rt_d91_4 : rt_dk prog_15_method_1_code rt_i91_4 = true := by decide +kernel
set_option maxRecDepth 100000 in
theorem rt_d91_5 : rt_dk prog_15_method_1_code rt_i91_5 = true := by decide +kernel
set_option maxRecDepth 100000 in
theorem rt_d91_6 : rt_dk prog_15_method_1_code rt_i91_6 = true := by decide +kernel
set_option maxRecDepth 100000 in
theorem rt_d91_7 : rt_dk prog_15_method_1_code rt_i91_7 = true := by decide +kernel
set_option maxRecDepth 100000 in
theorem rt_d91_8 : rt_dk prog_15_method_1_code rt_i91_8 = true := by decide +kernel
set_option maxRecDepth 100000 in
theorem rt_d91_9 : rt_dk prog_15_method_1_code rt_i91_9 = true := by decide +kernel
set_option maxRecDepth 100000 in
theorem rt_d91_10 : rt_dk prog_15_method_1_code rt_i91_10 = true := by decide +kernel
set_option maxRecDepth 100000 in
theorem rt_d91_11 : rt_dk prog_15_method_1_code rt_i91_11 = true := by decide +kernel
set_option maxRecDepth 100000 in
theorem rt_d91_12 : rt_dk prog_15_method_1_code rt_i91_12 = true := by decide +kernel
set_option maxRecDepth 100000 in
theorem rt_d91_13 : rt_dk prog_15_method_1_code rt_i91_13 = true := by decide +kernel
set_option maxRecDepth 100000 in
theorem rt_d91_14 : rt_dk prog_15_method_1_code rt_i91_14 = true := by decide +kernel
set_option maxRecDepth 100000 in
theorem rt_d91_15 : rt_dk prog_15_method_1_code rt_i91_15 = true := by decide +kernel
set_option maxRecDepth 100000 in
theorem rt_d91_16 : rt_dk prog_15_method_1_code rt_i91_16 = true := by decide +kernel
set_option maxRecDepth 100000 in
theorem rt_d91_17 : rt_dk prog_15_method_1_code rt_i91_17 = true := by decide +kernel
set_option maxRecDepth 100000 in
theorem rt_d91_18 : rt_dk prog_15_method_1_code rt_i91_18 = true := by decide +kernel
set_option maxRecDepth 100000 in
theorem rt_d91_19 : rt_dk prog_15_method_1_code rt_i91_19 = true := by decide +kernel
set_option maxRecDepth 100000 in
theorem rt_d91_20 : rt_dk prog_15_method_1_code rt_i91_20 = true := by decide +kernel
set_option maxRecDepth 100000 in
theorem rt_d91_21 : rt_dk prog_15_method_1_code rt_i91_21 = true := by decide +kernel
set_option maxRecDepth 100000 in
theorem rt_d91_22 : rt_dk prog_15_method_1_code rt_i91_22 = true := by decide +kernel
set_option maxRecDepth 100000 in
theorem rt_d91_23 : rt_dk prog_15_method_1_code rt_i91_23 = true := by decide +kernel
set_option maxRecDepth 100000 in
theorem rt_d91_24 : rt_dk prog_15_method_1_code rt_i91_24 = true := by decide +kernel
set_option maxRecDepth 100000 in
theorem rt_d91_25 : rt_dk prog_15_method_1_code rt_i91_25 = true := by decide +kernel
set_option maxRecDepth 100000 in
theorem rt_d91_26 : rt_dk prog_15_method_1_code rt_i91_26 = true := by decide +kernel
set_option maxRecDepth 100000 in
theorem rt_d91_27 : rt_dk prog_15_method_1_code rt_i91_27 = true := by decide +kernel
set_option maxRecDepth 100000 in
theorem rt_d91_28 : rt_dk prog_15_method_1_code rt_i91_28 = true := by decide +kernel
set_option maxRecDepth 100000 in
theorem rt_d91_29 : rt_dk prog_15_method_1_code rt_i91_29 = true := by decide +kernel
theorem rt_D91 : ∀ c ∈ rt_m91.2.2.2.2.2.2.1, rt_dk rt_m91.2.2.2.1 c.2 = true := by
  intro c hc
  have hc : c ∈ [(0, rt_i91_0), (1, rt_i91_1), (2, rt_i91_2), (3, rt_i91_3), (4, rt_i91_4), (5, rt_i91_5), (6, rt_i91_6), (7, rt_i91_7), (8, rt_i91_8), (9, rt_i91_9), (10, rt_i91_10), (11, rt_i91_11), (12, rt_i91_12), (13, rt_i91_13), (14, rt_i91_14), (15, rt_i91_15), (16, rt_i91_16), (17, rt_i91_17), (18, rt_i91_18), (19, rt_i91_19), (20, rt_i91_20), (21, rt_i91_21), (22, rt_i91_22), (23, rt_i91_23), (24, rt_i91_24), (25, rt_i91_25), (26, rt_i91_26), (27, rt_i91_27), (28, rt_i91_28), (29, rt_i91_29)] := hc
  simp only [List.mem_cons, List.not_mem_nil, or_false] at hc
  rcases hc with rfl | rfl | rfl | rfl | rfl | rfl | rfl | rfl | rfl | rfl | rfl | rfl | rfl | rfl | rfl | rfl | rfl | rfl | rfl | rfl | rfl | rfl | rfl | rfl | rfl | rfl | rfl | rfl | rfl | rfl
  · exact rt_d91_0
  · exact rt_d91_1
  · exact rt_d91_2
  · exact rt_d91_3
  · exact rt_d91_4
  · exact rt_d91_5
  · exact rt_d91_6
  · exact rt_d91_7
  · exact rt_d91_8
  · exact rt_d91_9
  · exact rt_d91_10
  · exact rt_d91_11
  · exact rt_d91_12
  · exact rt_d91_13
  · exact rt_d91_14
  · exact rt_d91_15
  · exact rt_d91_16
  · exact rt_d91_17
  · exact rt_d91_18
  · exact rt_d91_19
  · exact rt_d91_20
  · exact rt_d91_21
  · exact rt_d91_22
  · exact rt_d91_23
  · exact rt_d91_24
  · exact rt_d91_25
  · exact rt_d91_26
  · exact rt_d91_27
  · exact rt_d91_28
  · exact rt_d91_29
set_option maxRecDepth 100000 in
theorem rt_d92_0 : rt_dk prog_15_method_2_code rt_i92_0 = true := by decide +kernel
theorem rt_D92 : ∀ c ∈ rt_m92.2.2.2.2.2.2.1, rt_dk rt_m92.2.2.2.1 c.2 = true := by
  intro c hc
  have hc : c ∈ [(0, rt_i92_0)] := hc
  simp only [List.mem_cons, List.not_mem_nil, or_false] at hc
  rcases hc with rfl
  · exact rt_d92_0
set_option maxRecDepth 100000 in
theorem rt_d93_0 : rt_dk prog_15_method_3_code rt_i93_0 = true := by decide +kernel
set_option maxRecDepth 100000 in
theorem rt_d93_1 : rt_dk prog_15_method_3_code rt_i93_1 = true := by decide +kernel
theorem rt_D93 : ∀ c ∈ rt_m93.2.2.2.2.2.2.1, rt_dk rt_m93.2.2.2.1 c.2 = true := by
  intro c hc
  have hc : c ∈ [(0, rt_i93_0), (1, rt_i93_1)] := hc
  simp only [List.mem_cons, List.not_mem_nil, or_false] at hc
  rcases hc with rfl | rfl
  · exact rt_d93_0
  · exact rt_d93_1
set_option maxRecDepth 100000 in
theorem rt_d94_0 : rt_dk prog_15_method_4_code rt_i94_0 = true := by decide +kernel
set_option maxRecDepth 100000 in
theorem rt_d94_1 : rt_dk prog_15_method_4_code rt_i94_1 = true := by decide +kernel
theorem rt_D94 : ∀ c ∈ rt_m94.2.2.2.2.2.2.1, rt_dk rt_m94.2.2.2.1 c.2 = true := by
  intro c hc
  have hc : c ∈ [(0, rt_i94_0), (1, rt_i94_1)] := hc
  simp only [List.mem_cons, List.not_mem_nil, or_false] at hc
  rcases hc with rfl | rfl
  · exact rt_d94_0
  · exact rt_d94_1
set_option maxRecDepth 100000 in
theorem rt_d95_0 : rt_dk prog_15_method_5_code rt_i95_0 = true := by decide +kernel
theorem rt_D95 : ∀ c ∈ rt_m95.2.2.2.2.2.2.1, rt_dk rt_m95.2.2.2.1 c.2 = true := by
  intro c hc
  have hc : c ∈ [(0, rt_i95_0)] := hc
  simp only [List.mem_cons, List.not_mem_nil, or_false] at hc
  rcases hc with rfl
  · exact rt_d95_0
set_option maxRecDepth 100000 in
theorem rt_d96_0 : rt_dk prog_15_method_6_code rt_i96_0 = true := by decide +kernel
theorem rt_D96 : ∀ c ∈ rt_m96.2.2.2.2.2.2.1, rt_dk rt_m96.2.2.2.1 c.2 = true := by
  intro c hc
  have hc : c ∈ [(0, rt_i96_0)] := hc
  simp only [List.mem_cons, List.not_mem_nil, or_false] at hc
  rcases hc with rfl
  · exact rt_d96_0
set_option maxRecDepth 100000 in
theorem rt_d97_0 : rt_dk prog_15_method_20_code rt_i97_0 = true := by decide +kernel
theorem rt_D97 : ∀ c ∈ rt_m97.2.2.2.2.2.2.1, rt_dk rt_m97.2.2.2.1 c.2 = true := by
  intro c hc
  have hc : c ∈ [(0, rt_i97_0)] := hc
  simp only [List.mem_cons, List.not_mem_nil, or_false] at hc
  rcases hc with rfl
  · exact rt_d97_0
set_option maxRecDepth 100000 in
theorem rt_d98_0 : rt_dk prog_15_method_21_code rt_i98_0 = true := by decide +kernel
set_option maxRecDepth 100000 in
theorem rt_d98_1 : rt_dk prog_15_method_21_code rt_i98_1 = true := by decide +kernel
theorem rt_D98 : ∀ c ∈ rt_m98.2.2.2.2.2.2.1, rt_dk rt_m98.2.2.2.1 c.2 = true := by
  intro c hc
  have hc : c ∈ [(0, rt_i98_0), (1, rt_i98_1)] := hc
  simp only [List.mem_cons, List.not_mem_nil, or_false] at hc
  rcases hc with rfl | rfl
  · exact rt_d98_0
  · exact rt_d98_1
set_option maxRecDepth 100000 in
theorem rt_d99_0 : rt_dk prog_15_method_24_code rt_i99_0 = true := by decide +kernel
set_option maxRecDepth 100000 in
theorem rt_d99_1 : rt_dk prog_15_method_24_code rt_i99_1 = true := by decide +kernel
set_option maxRecDepth 100000 in
theorem rt_d99_2 : rt_dk prog_15_method_24_code rt_i99_2 = true := by decide +kernel
set_option maxRecDepth 100000 in
theorem rt_d99_3 : rt_dk prog_15_method_24_code rt_i99_3 = true := by decide +kernel
set_option maxRecDepth 100000 in
theorem rt_d99_4 : rt_dk prog_15_method_24_code rt_i99_4 = true := by decide +kernel
set_option maxRecDepth 100000 in
theorem rt_d99_5 : rt_dk prog_15_method_24_code rt_i99_5 = true := by decide +kernel
set_option maxRecDepth 100000 in
theorem rt_d99_6 : rt_dk prog_15_method_24_code rt_i99_6 = true := by decide +kernel
set_option maxRecDepth 100000 in
theorem rt_d99_7 : rt_dk prog_15_method_24_code rt_i99_7 = true := by decide +kernel
set_option maxRecDepth 100000 in
theorem rt_d99_8 : rt_dk prog_15_method_24_code rt_i99_8 = true := by decide +kernel
set_option maxRecDepth 100000 in
theorem rt_d99_9 : rt_dk prog_15_method_24_code rt_i99_9 = true := by decide +kernel
set_option maxRecDepth 100000 in
theorem rt_d99_10 : rt_dk prog_15_method_24_code rt_i99_10 = true := by decide +kernel
set_option maxRecDepth 100000 in
theorem rt_d99_11 : rt_dk prog_15_method_24_code rt_i99_11 = true := by decide +kernel
set_option maxRecDepth 100000 in
theorem rt_d99_12 : rt_dk prog_15_method_24_code rt_i99_12 = true := by decide +kernel
set_option maxRecDepth 100000 in
theorem rt_d99_13 : rt_dk prog_15_method_24_code rt_i99_13 = true := by decide +kernel
theorem rt_D99 : ∀ c ∈ rt_m99.2.2.2.2.2.2.1, rt_dk rt_m99.2.2.2.1 c.2 = true := by
  intro c hc
  have hc : c ∈ [(0, rt_i99_0), (1, rt_i99_1), (2, rt_i99_2), (3, rt_i99_3), (4, rt_i99_4), (5, rt_i99_5), (6, rt_i99_6), (7, rt_i99_7), (8, rt_i99_8), (9, rt_i99_9), (10, rt_i99_10), (11, rt_i99_11), (12, rt_i99_12), (13, rt_i99_13)] := hc
  simp only [List.mem_cons, List.not_mem_nil, or_false] at hc
  rcases hc with rfl | rfl | rfl | rfl | rfl | rfl | rfl | rfl | rfl | rfl | rfl | rfl | rfl | rfl
  · exact rt_d99_0
  · exact rt_d99_1
  · exact rt_d99_2
  · exact rt_d99_3
  · exact rt_d99_4
  · exact rt_d99_5
  · exact rt_d99_6
  · exact rt_d99_7
  · exact rt_d99_8
  · exact rt_d99_9
  · exact rt_d99_10
  · exact rt_d99_11
  · exact rt_d99_12
  · exact rt_d99_13
set_option maxRecDepth 100000 in
theorem rt_d100_0 : rt_dk prog_15_method_32_code rt_i100_0 = true := by decide +kernel
set_option maxRecDepth 100000 in
theorem rt_d100_1 : rt_dk prog_15_method_32_code rt_i100_1 = true := by decide +kernel
theorem rt_D100 : ∀ c ∈ rt_m100.2.2.2.2.2.2.1, rt_dk rt_m100.2.2.2.1 c.2 = true := by
  intro c hc
  have hc : c ∈ [(0, rt_i100_0), (1, rt_i100_1)] := hc
  simp only [List.mem_cons, List.not_mem_nil, or_false] at hc
  rcases hc with rfl | rfl
  · exact rt_d100_0
  · exact rt_d100_1
set_option maxRecDepth 100000 in
theorem rt_d101_0 : rt_dk prog_15_method_33_code rt_i101_0 = true := by decide +kernel
set_option maxRecDepth 100000 in
theorem rt_d101_1 : rt_dk prog_15_method_33_code rt_i101_1 = true := by decide +kernel
theorem rt_D101 : ∀ c ∈ rt_m101.2.2.2.2.2.2.1, rt_dk rt_m101.2.2.2.1 c.2 = true := by
  intro c hc
  have hc : c ∈ [(0, rt_i101_0), (1, rt_i101_1)] := hc
  simp only [List.mem_cons, List.not_mem_nil, or_false] at hc
  rcases hc with rfl | rfl
  · exact rt_d101_0
  · exact rt_d101_1
set_option maxRecDepth 100000 in
theorem rt_d102_0 : rt_dk prog_15_method_34_code rt_i102_0 = true := by decide +kernel
theorem rt_D102 : ∀ c ∈ rt_m102.2.2.2.2.2.2.1, rt_dk rt_m102.2.2.2.1 c.2 = true := by
  intro c hc
  have hc : c ∈ [(0, rt_i102_0)] := hc
  simp only [List.mem_cons, List.not_mem_nil, or_false] at hc
  rcases hc with rfl
  · exact rt_d102_0
set_option maxRecDepth 100000 in
theorem rt_d103_0 : rt_dk prog_15_method_36_code rt_i103_0 = true := by decide +kernel
theorem rt_D103 : ∀ c ∈ rt_m103.2.2.2.2.2.2.1, rt_dk rt_m103.2.2.2.1 c.2 = true := by
  intro c hc
  have hc : c ∈ [(0, rt_i103_0)] := hc
  simp only [List.mem_cons, List.not_mem_nil, or_false] at hc
  rcases hc with rfl
  · exact rt_d103_0
set_option maxRecDepth 100000 in
theorem rt_d104_0 : rt_dk prog_15_method_40_code rt_i104_0 = true := by decide +kernel
set_option maxRecDepth 100000 in
theorem rt_d104_1 : rt_dk prog_15_method_40_code rt_i104_1 = true := by decide +kernel
set_option maxRecDepth 100000 in
theorem rt_d104_2 : rt_dk prog_15_method_40_code rt_i104_2 = true := by decide +kernel
set_option maxRecDepth 100000 in
theorem rt_d104_3 : rt_dk prog_15_method_40_code rt_i104_3 = true := by decide +kernel
set_option maxRecDepth 100000 in
theorem rt_d104_4 : rt_dk prog_15_method_40_code rt_i104_4 = true := by decide +kernel
set_option maxRecDepth 100000 in
theorem rt_d104_5 : rt_dk prog_15_method_40_code rt_i104_5 = true := by decide +kernel
theorem rt_D104 : ∀ c ∈ rt_m104.2.2.2.2.2.2.1, rt_dk rt_m104.2.2.2.1 c.2 = true := by
  intro c hc
  have hc : c ∈ [(0, rt_i104_0), (1, rt_i104_1), (2, rt_i104_2), (3, rt_i104_3), (4, rt_i104_4), (5, rt_i104_5)] := hc
  simp only [List.mem_cons, List.not_mem_nil, or_false] at hc
  rcases hc with rfl | rfl | rfl | rfl | rfl | rfl
  · exact rt_d104_0
  · exact rt_d104_1
  · exact rt_d104_2
  · exact rt_d104_3
  · exact rt_d104_4
  · exact rt_d104_5
set_option maxRecDepth 100000 in
theorem rt_d105_0 : rt_dk prog_15_method_74_code rt_i105_0 = true := by decide +kernel
set_option maxRecDepth 100000 in
theorem rt_d105_1 : rt_dk prog_15_method_74_code rt_i105_1 = true := by decide +kernel
theorem rt_D105 : ∀ c ∈ rt_m105.2.2.2.2.2.2.1, rt_dk rt_m105.2.2.2.1 c.2 = true := by
  intro c hc
  have hc : c ∈ [(0, rt_i105_0), (1, rt_i105_1)] := hc
  simp only [List.mem_cons, List.not_mem_nil, or_false] at hc
  rcases hc with rfl | rfl
  · exact rt_d105_0
  · exact rt_d105_1
set_option maxRecDepth 100000 in
theorem rt_d106_0 : rt_dk prog_15_method_80_code rt_i106_0 = true := by decide +kernel
set_option maxRecDepth 100000 in
theorem rt_d106_1 : rt_dk prog_15_method_80_code rt_i106_1 = true := by decide +kernel
set_option maxRecDepth 100000 in
theorem rt_d106_2 : rt_dk prog_15_method_80_code rt_i106_2 = true := by decide +kernel
set_option maxRecDepth 100000 in
theorem rt_d106_3 : rt_dk prog_15_method_80_code rt_i106_3 = true := by decide +kernel
set_option maxRecDepth 100000 in
theorem rt_d106_4 : rt_dk prog_15_method_80_code rt_i106_4 = true := by decide +kernel
set_option maxRecDepth 100000 in
theorem rt_d106_5 : rt_dk prog_15_method_80_code rt_i106_5 = true := by decide +kernel
theorem rt_D106 : ∀ c ∈ rt_m106.2.2.2.2.2.2.1, rt_dk rt_m106.2.2.2.1 c.2 = true := by
  intro c hc
  have hc : c ∈ [(0, rt_i106_0), (1, rt_i106_1), (2, rt_i106_2), (3, rt_i106_3), (4, rt_i106_4), (5, rt_i106_5)] := hc
  simp only [List.mem_cons, List.not_mem_nil, or_false] at hc
  rcases hc with rfl | rfl | rfl | rfl | rfl | rfl
  · exact rt_d106_0
  · exact rt_d106_1
  · exact rt_d106_2
  · exact rt_d106_3
  · exact rt_d106_4
  · exact rt_d106_5
set_option maxRecDepth 100000 in
theorem rt_d107_0 : rt_dk prog_15_method_81_code rt_i107_0 = true := by decide +kernel
theorem rt_D107 : ∀ c ∈ rt_m107.2.2.2.2.2.2.1, rt_dk rt_m107.2.2.2.1 c.2 = true := by
  intro c hc
  have hc : c ∈ [(0, rt_i107_0)] := hc
  simp only [List.mem_cons, List.not_mem_nil, or_false] at hc
  rcases hc with rfl
  · exact rt_d107_0
set_option maxRecDepth 100000 in
theorem rt_d108_0 : rt_dk prog_15_method_82_code rt_i108_0 = true := by decide +kernel
theorem rt_D108 : ∀ c ∈ rt_m108.2.2.2.2.2.2.1, rt_dk rt_m108.2.2.2.1 c.2 = true := by
  intro c hc
  have hc : c ∈ [(0, rt_i108_0)] := hc
  simp only [List.mem_cons, List.not_mem_nil, or_false] at hc
  rcases hc with rfl
  · exact rt_d108_0
set_option maxRecDepth 100000 in
theorem rt_d109_0 : rt_dk prog_15_method_83_code rt_i109_0 = true := by decide +kernel
set_option maxRecDepth 100000 in
theorem rt_d109_1 : rt_dk prog_15_method_83_code rt_i109_1 = true := by decide +kernel
set_option maxRecDepth 100000 in
theorem rt_d109_2 : rt_dk prog_15_method_83_code rt_i109_2 = true := by decide +kernel
set_option maxRecDepth 100000 in
theorem rt_d109_3 : rt_dk prog_15_method_83_code rt_i109_3 = true := by decide +kernel
theorem rt_D109 : ∀ c ∈ rt_m109.2.2.2.2.2.2.1, rt_dk rt_m109.2.2.2.1 c.2 = true := by
  intro c hc
  have hc : c ∈ [(0, rt_i109_0), (1, rt_i109_1), (2, rt_i109_2), (3, rt_i109_3)] := hc
  simp only [List.mem_cons, List.not_mem_nil, or_false] at hc
  rcases hc with rfl | rfl | rfl | rfl
  · exact rt_d109_0
  · exact rt_d109_1
  · exact rt_d109_2
  · exact rt_d109_3
set_option maxRecDepth 100000 in
theorem rt_d110_0 : rt_dk prog_15_method_84_code rt_i110_0 = true := by decide +kernel
set_option maxRecDepth 100000 in
theorem rt_d110_1 : rt_dk prog_15_method_84_code rt_i110_1 = true := by decide +kernel
theorem rt_D110 : ∀ c ∈ rt_m110.2.2.2.2.2.2.1, rt_dk rt_m110.2.2.2.1 c.2 = true := by
  intro c hc
  have hc : c ∈ [(0, rt_i110_0), (1, rt_i110_1)] := hc
  simp only [List.mem_cons, List.not_mem_nil, or_false] at hc
  rcases hc with rfl | rfl
  · exact rt_d110_0
  · exact rt_d110_1
set_option maxRecDepth 100000 in
theorem rt_d111_0 : rt_dk prog_15_method_87_code rt_i111_0 = true := by decide +kernel
theorem rt_D111 : ∀ c ∈ rt_m111.2.2.2.2.2.2.1, rt_dk rt_m111.2.2.2.1 c.2 = true := by
  intro c hc
  have hc : c ∈ [(0, rt_i111_0)] := hc
  simp only [List.mem_cons, List.not_mem_nil, or_false] at hc
  rcases hc with rfl
  · exact rt_d111_0
set_option maxRecDepth 100000 in
theorem rt_d112_0 : rt_dk prog_15_method_88_code rt_i112_0 = true := by decide +kernel
theorem rt_D112 : ∀ c ∈ rt_m112.2.2.2.2.2.2.1, rt_dk rt_m112.2.2.2.1 c.2 = true := by
  intro c hc
  have hc : c ∈ [(0, rt_i112_0)] := hc
  simp only [List.mem_cons, List.not_mem_nil, or_false] at hc
  rcases hc with rfl
  · exact rt_d112_0
set_option maxRecDepth 100000 in
theorem rt_d113_0 : rt_dk prog_15_method_90_code rt_i113_0 = true := by decide +kernel
set_option maxRecDepth 100000 in
theorem rt_d113_1 : rt_dk prog_15_method_90_code rt_i113_1 = true := by decide +kernel
theorem rt_D113 : ∀ c ∈ rt_m113.2.2.2.2.2.2.1, rt_dk rt_m113.2.2.2.1 c.2 = true := by
  intro c hc
  have hc : c ∈ [(0, rt_i113_0), (1, rt_i113_1)] := hc
  simp only [List.mem_cons, List.not_mem_nil, or_false] at hc
  rcases hc with rfl | rfl
  · exact rt_d113_0
  · exact rt_d113_1
set_option maxRecDepth 100000 in
theorem rt_d114_0 : rt_dk prog_15_method_100_code rt_i114_0 = true := by decide +kernel
set_option maxRecDepth 100000 in
theorem rt_d114_1 : rt_dk prog_15_method_100_code rt_i114_1 = true := by decide +kernel
theorem rt_D114 : ∀ c ∈ rt_m114.2.2.2.2.2.2.1, rt_dk rt_m114.2.2.2.1 c.2 = true := by
  intro c hc
  have hc : c ∈ [(0, rt_i114_0), (1, rt_i114_1)] := hc
  simp only [List.mem_cons, List.not_mem_nil, or_false] at hc
  rcases hc with rfl | rfl
  · exact rt_d114_0
  · exact rt_d114_1
set_option maxRecDepth 100000 in
theorem rt_d115_0 : rt_dk prog_15_method_101_code rt_i115_0 = true := by decide +kernel
set_option maxRecDepth 100000 in
theorem rt_d115_1 : rt_dk prog_15_method_101_code rt_i115_1 = true := by decide +kernel
set_option maxRecDepth 100000 in
theorem rt_d115_2 : rt_dk prog_15_method_101_code rt_i115_2 = true := by decide +kernel
set_option maxRecDepth 100000 in
theorem rt_d115_3 : rt_dk prog_15_method_101_code rt_i115_3 = true := by decide +kernel
set_option maxRecDepth 100000 in
theorem rt_d115_4 : rt_dk prog_15_method_101_code rt_i115_4 = true := by decide +kernel
set_option maxRecDepth 100000 in
theorem rt_d115_5 : rt_dk prog_15_method_101_code rt_i115_5 = true := by decide +kernel
theorem rt_D115 : ∀ c ∈ rt_m115.2.2.2.2.2.2.1, rt_dk rt_m115.2.2.2.1 c.2 = true := by
  intro c hc
  have hc : c ∈ [(0, rt_i115_0), (1, rt_i115_1), (2, rt_i115_2), (3, rt_i115_3), (4, rt_i115_4), (5, rt_i115_5)] := hc
  simp only [List.mem_cons, List.not_mem_nil, or_false] at hc
  rcases hc with rfl | rfl | rfl | rfl | rfl | rfl
  · exact rt_d115_0
  · exact rt_d115_1
  · exact rt_d115_2
  · exact rt_d115_3
  · exact rt_d115_4
  · exact rt_d115_5
set_option maxRecDepth 100000 in
theorem rt_d116_0 : rt_dk prog_15_method_102_code rt_i116_0 = true := by decide +kernel
set_option maxRecDepth 100000 in
theorem rt_d116_1 : rt_dk prog_15_method_102_code rt_i116_1 = true := by decide +kernel
set_option maxRecDepth 100000 in
theorem rt_d116_2 : rt_dk prog_15_method_102_code rt_i116_2 = true := by decide +kernel
set_option maxRecDepth 100000 in
theorem rt_d116_3 : rt_dk prog_15_method_102_code rt_i116_3 = true := by decide +kernel
set_option maxRecDepth 100000 in
theorem rt_d116_4 : rt_dk prog_15_method_102_code rt_i116_4 = true := by decide +kernel
set_option maxRecDepth 100000 in
theorem rt_d116_5 : rt_dk prog_15_method_102_code rt_i116_5 = true := by decide +kernel
set_option maxRecDepth 100000 in
theorem rt_d116_6 : rt_dk prog_15_method_102_code rt_i116_6 = true := by decide +kernel
theorem rt_D116 : ∀ c ∈ rt_m116.2.2.2.2.2.2.1, rt_dk rt_m116.2.2.2.1 c.2 = true := by
  intro c hc
  have hc : c ∈ [(0, rt_i116_0), (1, rt_i116_1), (2, rt_i116_2), (3, rt_i116_3), (4, rt_i116_4), (5, rt_i116_5), (6, rt_i116_6)] := hc
  simp only [List.mem_cons, List.not_mem_nil, or_false] at hc
  rcases hc with rfl | rfl | rfl | rfl | rfl | rfl | rfl
  · exact rt_d116_0
  · exact rt_d116_1
  · exact rt_d116_2
  · exact rt_d116_3
  · exact rt_d116_4
  · exact rt_d116_5
  · exact rt_d116_6
set_option maxRecDepth 100000 in
theorem rt_d117_0 : rt_dk prog_15_method_103_code rt_i117_0 = true := by decide +kernel
set_option maxRecDepth 100000 in
theorem rt_d117_1 : rt_dk prog_15_method_103_code rt_i117_1 = true := by decide +kernel
set_option maxRecDepth 100000 in
theorem rt_d117_2 : rt_dk prog_15_method_103_code rt_i117_2 = true := by decide +kernel
set_option maxRecDepth 100000 in
theorem rt_d117_3 : rt_dk prog_15_method_103_code rt_i117_3 = true := by decide +kernel
set_option maxRecDepth 100000 in
theorem rt_d117_4 : rt_dk prog_15_method_103_code rt_i117_4 = true := by decide +kernel
theorem rt_D117 : ∀ c ∈ rt_m117.2.2.2.2.2.2.1, rt_dk rt_m117.2.2.2.1 c.2 = true := by
  intro c hc
  have hc : c ∈ [(0, rt_i117_0), (1, rt_i117_1), (2, rt_i117_2), (3, rt_i117_3), (4, rt_i117_4)] := hc
  simp only [List.mem_cons, List.not_mem_nil, or_false] at hc
  rcases hc with rfl | rfl | rfl | rfl | rfl
  · exact rt_d117_0
  · exact rt_d117_1
  · exact rt_d117_2
  · exact rt_d117_3
  · exact rt_d117_4
set_option maxRecDepth 100000 in
theorem rt_d118_0 : rt_dk prog_15_method_104_code rt_i118_0 = true := by decide +kernel
set_option maxRecDepth 100000 in
theorem rt_d118_2 : rt_dk prog_15_method_104_code rt_i118_2 = true := by decide +kernel
set_option maxRecDepth 100000 in
theorem rt_d118_3 : rt_dk prog_15_method_104_code rt_i118_3 = true := by decide +kernel
set_option maxRecDepth 100000 in
theorem rt_d118_4 : rt_dk prog_15_method_104_code rt_i118_4 = true := by decide +kernel
set_option maxRecDepth 100000 in
theorem rt_d118_5 : rt_dk prog_15_method_104_code rt_i118_5 = true := by decide +kernel
set_option maxRecDepth 100000 in
theorem rt_d118_6 : rt_dk prog_15_method_104_code rt_i118_6 = true := by decide +kernel
set_option maxRecDepth 100000 in
theorem rt_d118_7 : rt_dk prog_15_method_104_code rt_i118_7 = true := by decide +kernel
theorem rt_D118 : ∀ c ∈ rt_m118.2.2.2.2.2.2.1, rt_dk rt_m118.2.2.2.1 c.2 = true := by
  intro c hc
  have hc : c ∈ [(0, rt_i118_0), (2, rt_i118_2), (3, rt_i118_3), (4, rt_i118_4), (5, rt_i118_5), (6, rt_i118_6), (7, rt_i118_7)] := hc
  simp only [List.mem_cons, List.not_mem_nil, or_false] at hc
  rcases hc with rfl | rfl | rfl | rfl | rfl | rfl | rfl
  · exact rt_d118_0
  · exact rt_d118_2
  · exact rt_d118_3
  · exact rt_d118_4
  · exact rt_d118_5
  · exact rt_d118_6
  · exact rt_d118_7
set_option maxRecDepth 100000 in
theorem rt_d119_0 : rt_dk prog_15_method_105_code rt_i119_0 = true := by decide +kernel
theorem rt_D119 : ∀ c ∈ rt_m119.2.2.2.2.2.2.1, rt_dk rt_m119.2.2.2.1 c.2 = true := by
  intro c hc
  have hc : c ∈ [(0, rt_i119_0)] := hc
  simp only [List.mem_cons, List.not_mem_nil, or_false] at hc
  rcases hc with rfl
  · exact rt_d119_0
set_option maxRecDepth 100000 in
theorem rt_d120_0 : rt_dk prog_15_method_106_code rt_i120_0 = true := by decide +kernel
set_option maxRecDepth 100000 in
theorem rt_d120_1 : rt_dk prog_15_method_106_code rt_i120_1 = true := by decide +kernel
set_option maxRecDepth 100000 in
theorem rt_d120_2 : rt_dk prog_15_method_106_code rt_i120_2 = true := by decide +kernel
set_option maxRecDepth 100000 in
theorem rt_d120_3 : rt_dk prog_15_method_106_code rt_i120_3 = true := by decide +kernel
theorem rt_D120 : ∀ c ∈ rt_m120.2.2.2.2.2.2.1, rt_dk rt_m120.2.2.2.1 c.2 = true := by
  intro c hc
  have hc : c ∈ [(0, rt_i120_0), (1, rt_i120_1), (2, rt_i120_2), (3, rt_i120_3)] := hc
  simp only [List.mem_cons, List.not_mem_nil, or_false] at hc
  rcases hc with rfl | rfl | rfl | rfl
  · exact rt_d120_0
  · exact rt_d120_1
  · exact rt_d120_2
  · exact rt_d120_3
set_option maxRecDepth 100000 in
theorem rt_d121_0 : rt_dk prog_15_method_111_code rt_i121_0 = true := by decide +kernel
set_option maxRecDepth 100000 in
theorem rt_d121_1 : rt_dk prog_15_method_111_code rt_i121_1 = true := by decide +kernel
set_option maxRecDepth 100000 in
theorem rt_d121_2 : rt_dk prog_15_method_111_code rt_i121_2 = true := by decide +kernel
set_option maxRecDepth 100000 in
theorem rt_d121_3 : rt_dk prog_15_method_111_code rt_i121_3 = true := by decide +kernel
set_option maxRecDepth 100000 in
theorem rt_d121_4 : rt_dk prog_15_method_111_code rt_i121_4 = true := by decide +kernel
set_option maxRecDepth 100000 in
theorem rt_d121_5 : rt_dk prog_15_method_111_code rt_i121_5 = true := by decide +kernel
set_option maxRecDepth 100000 in
theorem rt_d121_6 : rt_dk prog_15_method_111_code rt_i121_6 = true := by decide +kernel
set_option maxRecDepth 100000 in
theorem rt_d121_7 : rt_dk prog_15_method_111_code rt_i121_7 = true := by decide +kernel
set_option maxRecDepth 100000 in
theorem rt_d121_8 : rt_dk prog_15_method_111_code rt_i121_8 = true := by decide +kernel
theorem rt_D121 : ∀ c ∈ rt_m121.2.2.2.2.2.2.1, rt_dk rt_m121.2.2.2.1 c.2 = true := by
  intro c hc
  have hc : c ∈ [(0, rt_i121_0), (1, rt_i121_1), (2, rt_i121_2), (3, rt_i121_3), (4, rt_i121_4), (5, rt_i121_5), (6, rt_i121_6), (7, rt_i121_7), (8, rt_i121_8)] := hc
  simp only [List.mem_cons, List.not_mem_nil, or_false] at hc
  rcases hc with rfl | rfl | rfl | rfl | rfl | rfl | rfl | rfl | rfl
  · exact rt_d121_0
  · exact rt_d121_1
  · exact rt_d121_2
  · exact rt_d121_3
  · exact rt_d121_4
  · exact rt_d121_5
  · exact rt_d121_6
  · exact rt_d121_7
  · exact rt_d121_8
set_option maxRecDepth 100000 in
theorem rt_d122_0 : rt_dk prog_15_method_114_code rt_i122_0 = true := by decide +kernel
set_option maxRecDepth 100000 in
theorem rt_d122_1 : rt_dk prog_15_method_114_code rt_i122_1 = true := by decide +kernel
set_option maxRecDepth 100000 in
theorem rt_d122_2 : rt_dk prog_15_method_114_code rt_i122_2 = true := by decide +kernel
set_option maxRecDepth 100000 in
theorem rt_d122_3 : rt_dk prog_15_method_114_code rt_i122_3 = true := by decide +kernel
set_option maxRecDepth 100000 in
theorem rt_d122_4 : rt_dk prog_15_method_114_code rt_i122_4 = true := by decide +kernel
set_option maxRecDepth 100000 in
theorem rt_d122_5 : rt_dk prog_15_method_114_code rt_i122_5 = true := by decide +kernel
set_option maxRecDepth 100000 in
theorem rt_d122_6 : rt_dk prog_15_method_114_code rt_i122_6 = true := by decide +kernel
theorem rt_D122 : ∀ c ∈ rt_m122.2.2.2.2.2.2.1, rt_dk rt_m122.2.2.2.1 c.2 = true := by
  intro c hc
  have hc : c ∈ [(0, rt_i122_0), (1, rt_i122_1), (2, rt_i122_2), (3, rt_i122_3), (4, rt_i122_4), (5, rt_i122_5), (6, rt_i122_6)] := hc
  simp only [List.mem_cons, List.not_mem_nil, or_false] at hc
  rcases hc with rfl | rfl | rfl | rfl | rfl | rfl | rfl
  · exact rt_d122_0
  · exact rt_d122_1
  · exact rt_d122_2
  · exact rt_d122_3
  · exact rt_d122_4
  · exact rt_d122_5
  · exact rt_d122_6
set_option maxRecDepth 100000 in
theorem rt_d123_0 : rt_dk prog_15_method_125_code rt_i123_0 = true := by decide +kernel
set_option maxRecDepth 100000 in
theorem rt_d123_1 : rt_dk prog_15_method_125_code rt_i123_1 = true := by decide +kernel
set_option maxRecDepth 100000 in
theorem rt_d123_2 : rt_dk prog_15_method_125_code rt_i123_2 = true := by decide +kernel
set_option maxRecDepth 100000 in
theorem rt_d123_3 : rt_dk prog_15_method_125_code rt_i123_3 = true := by decide +kernel
set_option maxRecDepth 100000 in
theorem rt_d123_4 : rt_dk prog_15_method_125_code rt_i123_4 = true := by decide +kernel
set_option maxRecDepth 100000 in
theorem rt_d123_5 : rt_dk prog_15_method_125_code rt_i123_5 = true := by decide +kernel
theorem rt_D123 : ∀ c ∈ rt_m123.2.2.2.2.2.2.1, rt_dk rt_m123.2.2.2.1 c.2 = true := by
  intro c hc
  have hc : c ∈ [(0, rt_i123_0), (1, rt_i123_1), (2, rt_i123_2), (3, rt_i123_3), (4, rt_i123_4), (5, rt_i123_5)] := hc
  simp only [List.mem_cons, List.not_mem_nil, or_false] at hc
  rcases hc with rfl | rfl | rfl | rfl | rfl | rfl
  · exact rt_d123_0
  · exact rt_d123_1
  · exact rt_d123_2
  · exact rt_d123_3
  · exact rt_d123_4
  · exact rt_d123_5
set_option maxRecDepth 100000 in
theorem rt_d124_0 : rt_dk prog_15_method_126_code rt_i124_0 = true := by decide +kernel
set_option maxRecDepth 100000 in
theorem rt_d124_1 : rt_dk prog_15_method_126_code rt_i124_1 = true := by decide +kernel
set_option maxRecDepth 100000 in
theorem rt_d124_2 : rt_dk prog_15_method_126_code rt_i124_2 = true := by decide +kernel
set_option maxRecDepth 100000 in
theorem rt_d124_3 : rt_dk prog_15_method_126_code rt_i124_3 = true := by decide +kernel
set_option maxRecDepth 100000 in
theorem rt_d124_4 : rt_dk prog_15_method_126_code rt_i124_4 = true := by decide +kernel
set_option maxRecDepth 100000 in
theorem rt_d124_5 : rt_dk prog_15_method_126_code rt_i124_5 = true := by decide +kernel
set_option maxRecDepth 100000 in
theorem rt_d124_6 : rt_dk prog_15_method_126_code rt_i124_6 = true := by decide +kernel
set_option maxRecDepth 100000 in
theorem rt_d124_7 : rt_dk prog_15_method_126_code rt_i124_7 = true := by decide +kernel
set_option maxRecDepth 100000 in
theorem rt_d124_8 : rt_dk prog_15_method_126_code rt_i124_8 = true := by decide +kernel
theorem rt_D124 : ∀ c ∈ rt_m124.2.2.2.2.2.2.1, rt_dk rt_m124.2.2.2.1 c.2 = true := by
  intro c hc
  have hc : c ∈ [(0, rt_i124_0), (1, rt_i124_1), (2, rt_i124_2), (3, rt_i124_3), (4, rt_i124_4), (5, rt_i124_5), (6, rt_i124_6), (7, rt_i124_7), (8, rt_i124_8)] := hc
  simp only [List.mem_cons, List.not_mem_nil, or_false] at hc
  rcases hc with rfl | rfl | rfl | rfl | rfl | rfl | rfl | rfl | rfl
  · exact rt_d124_0
  · exact rt_d124_1
  · exact rt_d124_2
  · exact rt_d124_3
  · exact rt_d124_4
  · exact rt_d124_5
  · exact rt_d124_6
  · exact rt_d124_7
  · exact rt_d124_8
set_option maxRecDepth 100000 in
theorem rt_d125_0 : rt_dk prog_15_method_128_code rt_i125_0 = true := by decide +kernel
theorem rt_D125 : ∀ c ∈ rt_m125.2.2.2.2.2.2.1, rt_dk rt_m125.2.2.2.1 c.2 = true := by
  intro c hc
  have hc : c ∈ [(0, rt_i125_0)] := hc
  simp only [List.mem_cons, List.not_mem_nil, or_false] at hc
  rcases hc with rfl
  · exact rt_d125_0
set_option maxRecDepth 100000 in
theorem rt_d126_0 : rt_dk prog_15_method_140_code rt_i126_0 = true := by decide +kernel
set_option maxRecDepth 100000 in
theorem rt_d126_1 : rt_dk prog_15_method_140_code rt_i126_1 = true := by decide +kernel
theorem rt_D126 : ∀ c ∈ rt_m126.2.2.2.2.2.2.1, rt_dk rt_m126.2.2.2.1 c.2 = true := by
  intro c hc
  have hc : c ∈ [(0, rt_i126_0), (1, rt_i126_1)] := hc
  simp only [List.mem_cons, List.not_mem_nil, or_false] at hc
  rcases hc with rfl | rfl
  · exact rt_d126_0
  · exact rt_d126_1
set_option maxRecDepth 100000 in
theorem rt_d127_0 : rt_dk prog_15_method_141_code rt_i127_0 = true := by decide +kernel
set_option maxRecDepth 100000 in
theorem rt_d127_1 : rt_dk prog_15_method_141_code rt_i127_1 = true := by decide +kernel
set_option maxRecDepth 100000 in
theorem rt_d127_2 : rt_dk prog_15_method_141_code rt_i127_2 = true := by decide +kernel
set_option maxRecDepth 100000 in
theorem rt_d127_3 : rt_dk prog_15_method_141_code rt_i127_3 = true := by decide +kernel
theorem rt_D127 : ∀ c ∈ rt_m127.2.2.2.2.2.2.1, rt_dk rt_m127.2.2.2.1 c.2 = true := by
  intro c hc
  have hc : c ∈ [(0, rt_i127_0), (1, rt_i127_1), (2, rt_i127_2), (3, rt_i127_3)] := hc
  simp only [List.mem_cons, List.not_mem_nil, or_false] at hc
  rcases hc with rfl | rfl | rfl | rfl
  · exact rt_d127_0
  · exact rt_d127_1
  · exact rt_d127_2
  · exact rt_d127_3
set_option maxRecDepth 100000 in
theorem rt_d128_0 : rt_dk prog_15_method_142_code rt_i128_0 = true := by decide +kernel
set_option maxRecDepth 100000 in
theorem rt_d128_1 : rt_dk prog_15_method_142_code rt_i128_1 = true := by decide +kernel
set_option maxRecDepth 100000 in
theorem rt_d128_2 : rt_dk prog_15_method_142_code rt_i128_2 = true := by decide +kernel
set_option maxRecDepth 100000 in
theorem rt_d128_3 : rt_dk prog_15_method_142_code rt_i128_3 = true := by decide +kernel
theorem rt_D128 : ∀ c ∈ rt_m128.2.2.2.2.2.2.1, rt_dk rt_m128.2.2.2.1 c.2 = true := by
  intro c hc
  have hc : c ∈ [(0, rt_i128_0), (1, rt_i128_1), (2, rt_i128_2), (3, rt_i128_3)] := hc
  simp only [List.mem_cons, List.not_mem_nil, or_false] at hc
  rcases hc with rfl | rfl | rfl | rfl
  · exact rt_d128_0
  · exact rt_d128_1
  · exact rt_d128_2
  · exact rt_d128_3
set_option maxRecDepth 100000 in
theorem rt_d129_0 : rt_dk prog_15_method_144_code rt_i129_0 = true := by decide +kernel
set_option maxRecDepth 100000 in
theorem rt_d129_1 : rt_dk prog_15_method_144_code rt_i129_1 = true := by decide +kernel
set_option maxRecDepth 100000 in
theorem rt_d129_2 : rt_dk prog_15_method_144_code rt_i129_2 = true := by decide +kernel
set_option maxRecDepth 100000 in
theorem rt_d129_3 : rt_dk prog_15_method_144_code rt_i129_3 = true := by decide +kernel
set_option maxRecDepth 100000 in
theorem rt_d129_4 : rt_dk prog_15_method_144_code rt_i129_4 = true := by decide +kernel
set_option maxRecDepth 100000 in
theorem rt_d129_5 : rt_dk prog_15_method_144_code rt_i129_5 = true := by decide +kernel
set_option maxRecDepth 100000 in
theorem rt_d129_6 : rt_dk prog_15_method_144_code rt_i129_6 = true := by decide +kernel
set_option maxRecDepth 100000 in
theorem rt_d129_7 : rt_dk prog_15_method_144_code rt_i129_7 = true := by decide +kernel
set_option maxRecDepth 100000 in
theorem rt_d129_8 : rt_dk prog_15_method_144_code rt_i129_8 = true := by decide +kernel
set_option maxRecDepth 100000 in
theorem rt_d129_9 : rt_dk prog_15_method_144_code rt_i129_9 = true := by decide +kernel
set_option maxRecDepth 100000 in
theorem rt_d129_10 : rt_dk prog_15_method_144_code rt_i129_10 = true := by decide +kernel
set_option maxRecDepth 100000 in
theorem rt_d129_11 : rt_dk prog_15_method_144_code rt_i129_11 = true := by decide +kernel
theorem rt_D129 : ∀ c ∈ rt_m129.2.2.2.2.2.2.1, rt_dk rt_m129.2.2.2.1 c.2 = true := by
  intro c hc
  have hc : c ∈ [(0, rt_i129_0), (1, rt_i129_1), (2, rt_i129_2), (3, rt_i129_3), (4, rt_i129_4), (5, rt_i129_5), (6, rt_i129_6), (7, rt_i129_7), (8, rt_i129_8), (9, rt_i129_9), (10, rt_i129_10), (11, rt_i129_11)] := hc
  simp only [List.mem_cons, List.not_mem_nil, or_false] at hc
  rcases hc with rfl | rfl | rfl | rfl | rfl | rfl | rfl | rfl | rfl | rfl | rfl | rfl
  · exact rt_d129_0
  · exact rt_d129_1
  · exact rt_d129_2
  · exact rt_d129_3
  · exact rt_d129_4
  · exact rt_d129_5
  · exact rt_d129_6
  · exact rt_d129_7
  · exact rt_d129_8
  · exact rt_d129_9
  · exact rt_d129_10
  · exact rt_d129_11
set_option maxRecDepth 100000 in
theorem rt_d130_0 : rt_dk prog_15_method_146_code rt_i130_0 = true := by decide +kernel
set_option maxRecDepth 100000 in
theorem rt_d130_1 : rt_dk prog_15_method_146_code rt_i130_1 = true := by decide +kernel
theorem rt_D130 : ∀ c ∈ rt_m130.2.2.2.2.2.2.1, rt_dk rt_m130.2.2.2.1 c.2 = true := by
  intro c hc
  have hc : c ∈ [(0, rt_i130_0), (1, rt_i130_1)] := hc
  simp only [List.mem_cons, List.not_mem_nil, or_false] at hc
  rcases hc with rfl | rfl
  · exact rt_d130_0
  · exact rt_d130_1
set_option maxRecDepth 100000 in
theorem rt_d131_0 : rt_dk prog_15_method_147_code rt_i131_0 = true := by decide +kernel
set_option maxRecDepth 100000 in
theorem rt_d131_1 : rt_dk prog_15_method_147_code rt_i131_1 = true := by decide +kernel
set_option maxRecDepth 100000 in
theorem rt_d131_2 : rt_dk prog_15_method_147_code rt_i131_2 = true := by decide +kernel
set_option maxRecDepth 100000 in
theorem rt_d131_3 : rt_dk prog_15_method_147_code rt_i131_3 = true := by decide +kernel
set_option maxRecDepth 100000 in
theorem rt_d131_4 : rt_dk prog_15_method_147_code rt_i131_4 = true := by decide +kernel
set_option maxRecDepth 100000 in
theorem rt_d131_5 : rt_dk prog_15_method_147_code rt_i131_5 = true := by decide +kernel
set_option maxRecDepth 100000 in
theorem rt_d131_6 : rt_dk prog_15_method_147_code rt_i131_6 = true := by decide +kernel
set_option maxRecDepth 100000 in
theorem rt_d131_7 : rt_dk prog_15_method_147_code rt_i131_7 = true := by decide +kernel
set_option maxRecDepth 100000 in
theorem rt_d131_8 : rt_dk prog_15_method_147_code rt_i131_8 = true := by decide +kernel
set_option maxRecDepth 100000 in
theorem rt_d131_9 : rt_dk prog_15_method_147_code rt_i131_9 = true := by decide +kernel
theorem rt_D131 : ∀ c ∈ rt_m131.2.2.2.2.2.2.1, rt_dk rt_m131.2.2.2.1 c.2 = true := by
  intro c hc
  have hc : c ∈ [(0, rt_i131_0), (1, rt_i131_1), (2, rt_i131_2), (3, rt_i131_3), (4, rt_i131_4), (5, rt_i131_5), (6, rt_i131_6), (7, rt_i131_7), (8, rt_i131_8), (9, rt_i131_9)] := hc
  simp only [List.mem_cons, List.not_mem_nil, or_false] at hc
  rcases hc with rfl | rfl | rfl | rfl | rfl | rfl | rfl | rfl | rfl | rfl
  · exact rt_d131_0
  · exact rt_d131_1
  · exact rt_d131_2
  · exact rt_d131_3
  · exact rt_d131_4
  · exact rt_d131_5
  · exact rt_d131_6
  · exact rt_d131_7
  · exact rt_d131_8
  · exact rt_d131_9
set_option maxRecDepth 100000 in
theorem rt_d132_0 : rt_dk prog_15_method_148_code rt_i132_0 = true := by decide +kernel
set_option maxRecDepth 100000 in
theorem rt_d132_1 : rt_dk prog_15_method_148_code rt_i132_1 = true := by decide +kernel
theorem rt_D132 : ∀ c ∈ rt_m132.2.2.2.2.2.2.1, rt_dk rt_m132.2.2.2.1 c.2 = true := by
  intro c hc
  have hc : c ∈ [(0, rt_i132_0), (1, rt_i132_1)] := hc
  simp only [List.mem_cons, List.not_mem_nil, or_false] at hc
  rcases hc with rfl | rfl
  · exact rt_d132_0
  · exact rt_d132_1
set_option maxRecDepth 100000 in
theorem rt_d133_0 : rt_dk prog_15_method_149_code rt_i133_0 = true := by decide +kernel
theorem rt_D133 : ∀ c ∈ rt_m133.2.2.2.2.2.2.1, rt_dk rt_m133.2.2.2.1 c.2 = true := by
  intro c hc
  have hc : c ∈ [(0, rt_i133_0)] := hc
  simp only [List.mem_cons, List.not_mem_nil, or_false] at hc
  rcases hc with rfl
  · exact rt_d133_0
set_option maxRecDepth 100000 in
theorem rt_d134_0 : rt_dk prog_15_method_151_code rt_i134_0 = true := by decide +kernel
set_option maxRecDepth 100000 in
theorem rt_d134_1 : rt_dk prog_15_method_151_code rt_i134_1 = true := by decide +kernel
set_option maxRecDepth 100000 in
theorem rt_d134_2 : rt_dk prog_15_method_151_code rt_i134_2 = true := by decide +kernel
set_option maxRecDepth 100000 in
theorem rt_d134_3 : rt_dk prog_15_method_151_code rt_i134_3 = true := by decide +kernel
set_option maxRecDepth 100000 in
theorem rt_d134_4 : rt_dk prog_15_method_151_code rt_i134_4 = true := by decide +kernel
theorem rt_D134 : ∀ c ∈ rt_m134.2.2.2.2.2.2.1, rt_dk rt_m134.2.2.2.1 c.2 = true := by
  intro c hc
  have hc : c ∈ [(0, rt_i134_0), (1, rt_i134_1), (2, rt_i134_2), (3, rt_i134_3), (4, rt_i134_4)] := hc
  simp only [List.mem_cons, List.not_mem_nil, or_false] at hc
  rcases hc with rfl | rfl | rfl | rfl | rfl
  · exact rt_d134_0
  · exact rt_d134_1
  · exact rt_d134_2
  · exact rt_d134_3
  · exact rt_d134_4
set_option maxRecDepth 100000 in
theorem rt_d135_0 : rt_dk prog_15_method_154_code rt_i135_0 = true := by decide +kernel
set_option maxRecDepth 100000 in
theorem rt_d135_1 : rt_dk prog_15_method_154_code rt_i135_1 = true := by decide +kernel
set_option maxRecDepth 100000 in
theorem rt_d135_2 : rt_dk prog_15_method_154_code rt_i135_2 = true := by decide +kernel
set_option maxRecDepth 100000 in
theorem rt_d135_3 : rt_dk prog_15_method_154_code rt_i135_3 = true := by decide +kernel
set_option maxRecDepth 100000 in
theorem rt_d135_4 : rt_dk prog_15_method_154_code rt_i135_4 = true := by decide +kernel
set_option maxRecDepth 100000 in
theorem rt_d135_5 : rt_dk prog_15_method_154_code rt_i135_5 = true := by decide +kernel
theorem rt_D135 : ∀ c ∈ rt_m135.2.2.2.2.2.2.1, rt_dk rt_m135.2.2.2.1 c.2 = true := by
  intro c hc
  have hc : c ∈ [(0, rt_i135_0), (1, rt_i135_1), (2, rt_i135_2), (3, rt_i135_3), (4, rt_i135_4), (5, rt_i135_5)] := hc
  simp only [List.mem_cons, List.not_mem_nil, or_false] at hc
  rcases hc with rfl | rfl | rfl | rfl | rfl | rfl
  · exact rt_d135_0
  · exact rt_d135_1
  · exact rt_d135_2
  · exact rt_d135_3
  · exact rt_d135_4
  · exact rt_d135_5
set_option maxRecDepth 100000 in
theorem rt_d136_0 : rt_dk prog_15_method_155_code rt_i136_0 = true := by decide +kernel
theorem rt_D136 : ∀ c ∈ rt_m136.2.2.2.2.2.2.1, rt_dk rt_m136.2.2.2.1 c.2 = true := by
  intro c hc
  have hc : c ∈ [(0, rt_i136_0)] := hc
  simp only [List.mem_cons, List.not_mem_nil, or_false] at hc
  rcases hc with rfl
  · exact rt_d136_0
set_option maxRecDepth 100000 in
theorem rt_d137_0 : rt_dk prog_15_method_156_code rt_i137_0 = true := by decide +kernel
set_option maxRecDepth 100000 in
theorem rt_d137_1 : rt_dk prog_15_method_156_code rt_i137_1 = true := by decide +kernel
theorem rt_D137 : ∀ c ∈ rt_m137.2.2.2.2.2.2.1, rt_dk rt_m137.2.2.2.1 c.2 = true := by
  intro c hc
  have hc : c ∈ [(0, rt_i137_0), (1, rt_i137_1)] := hc
  simp only [List.mem_cons, List.not_mem_nil, or_false] at hc
  rcases hc with rfl | rfl
  · exact rt_d137_0
  · exact rt_d137_1
set_option maxRecDepth 100000 in
theorem rt_d138_0 : rt_dk prog_15_method_158_code rt_i138_0 = true := by decide +kernel
set_option maxRecDepth 100000 in
theorem rt_d138_1 : rt_dk prog_15_method_158_code rt_i138_1 = true := by decide +kernel
theorem rt_D138 : ∀ c ∈ rt_m138.2.2.2.2.2.2.1, rt_dk rt_m138.2.2.2.1 c.2 = true := by
  intro c hc
  have hc : c ∈ [(0, rt_i138_0), (1, rt_i138_1)] := hc
  simp only [List.mem_cons, List.not_mem_nil, or_false] at hc
  rcases hc with rfl | rfl
  · exact rt_d138_0
  · exact rt_d138_1
set_option maxRecDepth 100000 in
theorem rt_d139_0 : rt_dk prog_15_method_160_code rt_i139_0 = true := by decide +kernel
set_option maxRecDepth 100000 in
theorem rt_d139_1 : rt_dk prog_15_method_160_code rt_i139_1 = true := by decide +kernel
set_option maxRecDepth 100000 in
theorem rt_d139_2 : rt_dk prog_15_method_160_code rt_i139_2 = true := by decide +kernel
set_option maxRecDepth 100000 in
theorem rt_d139_3 : rt_dk prog_15_method_160_code rt_i139_3 = true := by decide +kernel
set_option maxRecDepth 100000 in
theorem rt_d139_4 : rt_dk prog_15_method_160_code rt_i139_4 = true := by decide +kernel
set_option maxRecDepth 100000 in
theorem rt_d139_5 : rt_dk prog_15_method_160_code rt_i139_5 = true := by decide +kernel
set_option maxRecDepth 100000 in
theorem rt_d139_6 : rt_dk prog_15_method_160_code rt_i139_6 = true := by decide +kernel
theorem rt_D139 : ∀ c ∈ rt_m139.2.2.2.2.2.2.1, rt_dk rt_m139.2.2.2.1 c.2 = true := by
  intro c hc
  have hc : c ∈ [(0, rt_i139_0), (1, rt_i139_1), (2, rt_i139_2), (3, rt_i139_3), (4, rt_i139_4), (5, rt_i139_5), (6, rt_i139_6)] := hc
  simp only [List.mem_cons, List.not_mem_nil, or_false] at hc
  rcases hc with rfl | rfl | rfl | rfl | rfl | rfl | rfl
  · exact rt_d139_0
  · exact rt_d139_1
  · exact rt_d139_2
  · exact rt_d139_3
  · exact rt_d139_4
  · exact rt_d139_5
  · exact rt_d139_6
set_option maxRecDepth 100000 in
theorem rt_d140_0 : rt_dk prog_15_method_161_code rt_i140_0 = true := by decide +kernel
set_option maxRecDepth 100000 in
theorem rt_d140_1 : rt_dk prog_15_method_161_code rt_i140_1 = true := by decide +kernel
set_option maxRecDepth 100000 in
theorem rt_d140_2 : rt_dk prog_15_method_161_code rt_i140_2 = true := by decide +kernel
set_option maxRecDepth 100000 in
theorem rt_d140_3 : rt_dk prog_15_method_161_code rt_i140_3 = true := by decide +kernel
set_option maxRecDepth 100000 in
theorem rt_d140_4 : rt_dk prog_15_method_161_code rt_i140_4 = true := by decide +kernel
set_option maxRecDepth 100000 in
theorem rt_d140_5 : rt_dk prog_15_method_161_code rt_i140_5 = true := by decide +kernel
theorem rt_D140 : ∀ c ∈ rt_m140.2.2.2.2.2.2.1, rt_dk rt_m140.2.2.2.1 c.2 = true := by
  intro c hc
  have hc : c ∈ [(0, rt_i140_0), (1, rt_i140_1), (2, rt_i140_2), (3, rt_i140_3), (4, rt_i140_4), (5, rt_i140_5)] := hc
  simp only [List.mem_cons, List.not_mem_nil, or_false] at hc
  rcases hc with rfl | rfl | rfl | rfl | rfl | rfl
  · exact rt_d140_0
  · exact rt_d140_1
  · exact rt_d140_2
  · exact rt_d140_3
  · exact rt_d140_4
  · exact rt_d140_5
set_option maxRecDepth 100000 in
theorem rt_d141_0 : rt_dk prog_15_method_168_code rt_i141_0 = true := by decide +kernel
set_option maxRecDepth 100000 in
theorem rt_d141_1 : rt_dk prog_15_method_168_code rt_i141_1 = true := by decide +kernel
set_option maxRecDepth 100000 in
theorem rt_d141_2 : rt_dk prog_15_method_168_code rt_i141_2 = true := by decide +kernel
set_option maxRecDepth 100000 in
theorem rt_d141_4 : rt_dk prog_15_method_168_code rt_i141_4 = true := by decide +kernel
set_option maxRecDepth 100000 in
theorem rt_d141_5 : rt_dk prog_15_method_168_code rt_i141_5 = true := by decide +kernel
set_option maxRecDepth 100000 in
theorem rt_d141_6 : rt_dk prog_15_method_168_code rt_i141_6 = true := by decide +kernel
set_option maxRecDepth 100000 in
theorem rt_d141_7 : rt_dk prog_15_method_168_code rt_i141_7 = true := by decide +kernel
theorem rt_D141 : ∀ c ∈ rt_m141.2.2.2.2.2.2.1, rt_dk rt_m141.2.2.2.1 c.2 = true := by
  intro c hc
  have hc : c ∈ [(0, rt_i141_0), (1, rt_i141_1), (2, rt_i141_2), (4, rt_i141_4), (5, rt_i141_5), (6, rt_i141_6), (7, rt_i141_7)] := hc
  simp only [List.mem_cons, List.not_mem_nil, or_false] at hc
  rcases hc with rfl | rfl | rfl | rfl | rfl | rfl | rfl
  · exact rt_d141_0
  · exact rt_d141_1
  · exact rt_d141_2
  · exact rt_d141_4
  · exact rt_d141_5
  · exact rt_d141_6
  · exact rt_d141_7
set_option maxRecDepth 100000 in
theorem rt_d142_0 : rt_dk prog_15_method_169_code rt_i142_0 = true := by decide +kernel
theorem rt_D142 : ∀ c ∈ rt_m142.2.2.2.2.2.2.1, rt_dk rt_m142.2.2.2.1 c.2 = true := by
  intro c hc
  have hc : c ∈ [(0, rt_i142_0)] := hc
  simp only [List.mem_cons, List.not_mem_nil, or_false] at hc
  rcases hc with rfl
  · exact rt_d142_0
set_option maxRecDepth 100000 in
theorem rt_d143_0 : rt_dk prog_15_method_174_code rt_i143_0 = true := by decide +kernel
set_option maxRecDepth 100000 in
theorem rt_d143_1 : rt_dk prog_15_method_174_code rt_i143_1 = true := by decide +kernel
set_option maxRecDepth 100000 in
theorem rt_d143_2 : rt_dk prog_15_method_174_code rt_i143_2 = true := by decide +kernel
set_option maxRecDepth 100000 in
theorem rt_d143_3 : rt_dk prog_15_method_174_code rt_i143_3 = true := by decide +kernel
set_option maxRecDepth 100000 in
theorem rt_d143_4 : rt_dk prog_15_method_174_code rt_i143_4 = true := by decide +kernel
set_option maxRecDepth 100000 in
theorem rt_d143_5 : rt_dk prog_15_method_174_code rt_i143_5 = true := by decide +kernel
set_option maxRecDepth 100000 in
theorem rt_d143_6 : rt_dk prog_15_method_174_code rt_i143_6 = true := by decide +kernel
theorem rt_D143 : ∀ c ∈ rt_m143.2.2.2.2.2.2.1, rt_dk rt_m143.2.2.2.1 c.2 = true := by
  intro c hc
  have hc : c ∈ [(0, rt_i143_0), (1, rt_i143_1), (2, rt_i143_2), (3, rt_i143_3), (4, rt_i143_4), (5, rt_i143_5), (6, rt_i143_6)] := hc
  simp only [List.mem_cons, List.not_mem_nil, or_false] at hc
  rcases hc with rfl | rfl | rfl | rfl | rfl | rfl | rfl
  · exact rt_d143_0
  · exact rt_d143_1
  · exact rt_d143_2
  · exact rt_d143_3
  · exact rt_d143_4
  · exact rt_d143_5
  · exact rt_d143_6
set_option maxRecDepth 100000 in
theorem rt_d144_0 : rt_dk prog_15_method_178_code rt_i144_0 = true := by decide +kernel
set_option maxRecDepth 100000 in
theorem rt_d144_1 : rt_dk prog_15_method_178_code rt_i144_1 = true := by decide +kernel
set_option maxRecDepth 100000 in
theorem rt_d144_2 : rt_dk prog_15_method_178_code rt_i144_2 = true := by decide +kernel
theorem rt_D144 : ∀ c ∈ rt_m144.2.2.2.2.2.2.1, rt_dk rt_m144.2.2.2.1 c.2 = true := by
  intro c hc
  have hc : c ∈ [(0, rt_i144_0), (1, rt_i144_1), (2, rt_i144_2)] := hc
  simp only [List.mem_cons, List.not_mem_nil, or_false] at hc
  rcases hc with rfl | rfl | rfl
  · exact rt_d144_0
  · exact rt_d144_1
  · exact rt_d144_2
set_option maxRecDepth 100000 in
theorem rt_d145_0 : rt_dk prog_26_method_54_code rt_i145_0 = true := by decide +kernel
theorem rt_D145 : ∀ c ∈ rt_m145.2.2.2.2.2.2.1, rt_dk rt_m145.2.2.2.1 c.2 = true := by
  intro c hc
  have hc : c ∈ [(0, rt_i145_0)] := hc
  simp only [List.mem_cons, List.not_mem_nil, or_false] at hc
  rcases hc with rfl
  · exact rt_d145_0
set_option maxRecDepth 100000 in
theorem rt_d146_0 : rt_dk prog_26_method_56_code rt_i146_0 = true := by decide +kernel
theorem rt_D146 : ∀ c ∈ rt_m146.2.2.2.2.2.2.1, rt_dk rt_m146.2.2.2.1 c.2 = true := by
  intro c hc
  have hc : c ∈ [(0, rt_i146_0)] := hc
  simp only [List.mem_cons, List.not_mem_nil, or_false] at hc
  rcases hc with rfl
  · exact rt_d146_0
set_option maxRecDepth 100000 in
theorem rt_d147_0 : rt_dk prog_26_method_152_code rt_i147_0 = true := by decide +kernel
theorem rt_D147 : ∀ c ∈ rt_m147.2.2.2.2.2.2.1, rt_dk rt_m147.2.2.2.1 c.2 = true := by
  intro c hc
  have hc : c ∈ [(0, rt_i147_0)] := hc
  simp only [List.mem_cons, List.not_mem_nil, or_false] at hc
  rcases hc with rfl
  · exact rt_d147_0
set_option maxRecDepth 100000 in
theorem rt_d148_0 : rt_dk prog_26_method_154_code rt_i148_0 = true := by decide +kernel
theorem rt_D148 : ∀ c ∈ rt_m148.2.2.2.2.2.2.1, rt_dk rt_m148.2.2.2.1 c.2 = true := by
  intro c hc
  have hc : c ∈ [(0, rt_i148_0)] := hc
  simp only [List.mem_cons, List.not_mem_nil, or_false] at hc
  rcases hc with rfl
  · exact rt_d148_0
set_option maxRecDepth 100000 in
theorem rt_d149_0 : rt_dk prog_26_method_155_code rt_i149_0 = true := by decide +kernel
theorem rt_D149 : ∀ c ∈ rt_m149.2.2.2.2.2.2.1, rt_dk rt_m149.2.2.2.1 c.2 = true := by
  intro c hc
  have hc : c ∈ [(0, rt_i149_0)] := hc
  simp only [List.mem_cons, List.not_mem_nil, or_false] at hc
  rcases hc with rfl
  · exact rt_d149_0
set_option maxRecDepth 100000 in
theorem rt_d150_0 : rt_dk prog_28_method_2_code rt_i150_0 = true := by decide +kernel
theorem rt_D150 : ∀ c ∈ rt_m150.2.2.2.2.2.2.1, rt_dk rt_m150.2.2.2.1 c.2 = true := by
  intro c hc
  have hc : c ∈ [(0, rt_i150_0)] := hc
  simp only [List.mem_cons, List.not_mem_nil, or_false] at hc
  rcases hc with rfl
  · exact rt_d150_0
set_option maxRecDepth 100000 in
theorem rt_d151_0 : rt_dk prog_32_method_30_code rt_i151_0 = true := by decide +kernel
set_option maxRecDepth 100000 in
theorem rt_d151_1 : rt_dk prog_32_method_30_code rt_i151_1 = true := by decide +kernel
set_option maxRecDepth 100000 in
theorem rt_d151_2 : rt_dk prog_32_method_30_code rt_i151_2 = true := by decide +kernel
theorem rt_D151 : ∀ c ∈ rt_m151.2.2.2.2.2.2.1, rt_dk rt_m151.2.2.2.1 c.2 = true := by
  intro c hc
  have hc : c ∈ [(0, rt_i151_0), (1, rt_i151_1), (2, rt_i151_2)] := hc
  simp only [List.mem_cons, List.not_mem_nil, or_false] at hc
  rcases hc with rfl | rfl | rfl
  · exact rt_d151_0
  · exact rt_d151_1
  · exact rt_d151_2
set_option maxRecDepth 100000 in
theorem rt_d152_0 : rt_dk prog_32_method_102_code rt_i152_0 = true := by decide +kernel
theorem rt_D152 : ∀ c ∈ rt_m152.2.2.2.2.2.2.1, rt_dk rt_m152.2.2.2.1 c.2 = true := by
  intro c hc
  have hc : c ∈ [(0, rt_i152_0)] := hc
  simp only [List.mem_cons, List.not_mem_nil, or_false] at hc
  rcases hc with rfl
  · exact rt_d152_0
set_option maxRecDepth 100000 in
theorem rt_d153_0 : rt_dk prog_32_method_103_code rt_i153_0 = true := by decide +kernel
theorem rt_D153 : ∀ c ∈ rt_m153.2.2.2.2.2.2.1, rt_dk rt_m153.2.2.2.1 c.2 = true := by
  intro c hc
  have hc : c ∈ [(0, rt_i153_0)] := hc
  simp only [List.mem_cons, List.not_mem_nil, or_false] at hc
  rcases hc with rfl
  · exact rt_d153_0
set_option maxRecDepth 100000 in
theorem rt_d154_0 : rt_dk prog_32_method_104_code rt_i154_0 = true := by decide +kernel
theorem rt_D154 : ∀ c ∈ rt_m154.2.2.2.2.2.2.1, rt_dk rt_m154.2.2.2.1 c.2 = true := by
  intro c hc
  have hc : c ∈ [(0, rt_i154_0)] := hc
  simp only [List.mem_cons, List.not_mem_nil, or_false] at hc
  rcases hc with rfl
  · exact rt_d154_0
set_option maxRecDepth 100000 in
theorem rt_d155_0 : rt_dk prog_35_method_11_code rt_i155_0 = true := by decide +kernel
theorem rt_D155 : ∀ c ∈ rt_m155.2.2.2.2.2.2.1, rt_dk rt_m155.2.2.2.1 c.2 = true := by
  intro c hc
  have hc : c ∈ [(0, rt_i155_0)] := hc
  simp only [List.mem_cons, List.not_mem_nil, or_false] at hc
  rcases hc with rfl
  · exact rt_d155_0
theorem rt_E0 : ∀ M ∈ rt_r0, ∀ c ∈ M.2.2.2.2.2.2.1, rt_dk M.2.2.2.1 c.2 = true := by
  intro M hM
  simp only [rt_r0, List.mem_cons, List.not_mem_nil, or_false] at hM
  rcases hM with rfl
  · exact rt_D0
theorem rt_E1 : ∀ M ∈ rt_r1, ∀ c ∈ M.2.2.2.2.2.2.1, rt_dk M.2.2.2.1 c.2 = true := by
  intro M hM
  simp only [rt_r1, List.mem_cons, List.not_mem_nil, or_false] at hM
  rcases hM with rfl | rfl | rfl | rfl | rfl | rfl | rfl | rfl | rfl | rfl | rfl | rfl | rfl | rfl | rfl | rfl
  · exact rt_D16
  · exact rt_D17
  · exact rt_D18
  · exact rt_D19
  · exact rt_D20
  · exact rt_D21
  · exact rt_D22
  · exact rt_D23
  · exact rt_D24
  · exact rt_D25
  · exact rt_D26
  · exact rt_D27
  · exact rt_D28
  · exact rt_D29
  · exact rt_D30
  · exact rt_D31
theorem rt_E2 : ∀ M ∈ rt_r2, ∀ c ∈ M.2.2.2.2.2.2.1, rt_dk M.2.2.2.1 c.2 = true := by
  intro M hM
  simp only [rt_r2, List.mem_cons, List.not_mem_nil, or_false] at hM
  rcases hM with rfl | rfl | rfl | rfl | rfl | rfl | rfl | rfl | rfl | rfl | rfl | rfl | rfl | rfl | rfl | rfl
  · exact rt_D32
  · exact rt_D33
  · exact rt_D34
  · exact rt_D35
  · exact rt_D36
  · exact rt_D37
  · exact rt_D38
  · exact rt_D39
  · exact rt_D40
  · exact rt_D41
  · exact rt_D42
  · exact rt_D43
  · exact rt_D44
  · exact rt_D45
  · exact rt_D46
  · exact rt_D47
theorem rt_E3 : ∀ M ∈ rt_r3, ∀ c ∈ M.2.2.2.2.2.2.1, rt_dk M.2.2.2.1 c.2 = true := by
  intro M hM
  simp only [rt_r3, List.mem_cons, List.not_mem_nil, or_false] at hM
  rcases hM with rfl | rfl | rfl | rfl | rfl | rfl | rfl | rfl | rfl | rfl | rfl | rfl | rfl | rfl | rfl | rfl
  · exact rt_D48
  · exact rt_D49
  · exact rt_D50
  · exact rt_D51
  · exact rt_D52
  · exact rt_D53
  · exact rt_D54
  · exact rt_D55
  · exact rt_D56
  · exact rt_D57
  · exact rt_D58
  · exact rt_D59
  · exact rt_D60
  · exact rt_D61
  · exact rt_D62
  · exact rt_D63
theorem rt_E4 : ∀ M ∈ rt_r4, ∀ c ∈ M.2.2.2.2.2.2.1, rt_dk M.2.2.2.1 c.2 = true := by
  intro M hM
  simp only [rt_r4, List.mem_cons, List.not_mem_nil, or_false] at hM
  rcases hM with rfl | rfl | rfl | rfl | rfl | rfl | rfl | rfl | rfl | rfl | rfl | rfl | rfl | rfl | rfl | rfl
  · exact rt_D64
  · exact rt_D65
  · exact rt_D66
  · exact rt_D67
  · exact rt_D68
  · exact rt_D69
  · exact rt_D70
  · exact rt_D71
  · exact rt_D72
  · exact rt_D73
  · exact rt_D74
  · exact rt_D75
  · exact rt_D76
  · exact rt_D77
  · exact rt_D78
  · exact rt_D79
theorem rt_E5 : ∀ M ∈ rt_r5, ∀ c ∈ M.2.2.2.2.2.2.1, rt_dk M.2.2.2.1 c.2 = true := by
  intro M hM
  simp only [rt_r5, List.mem_cons, List.not_mem_nil, or_false] at hM
  rcases hM with rfl | rfl | rfl | rfl | rfl | rfl | rfl | rfl | rfl | rfl | rfl | rfl | rfl | rfl | rfl | rfl
  · exact rt_D80
  · exact rt_D81
  · exact rt_D82
  · exact rt_D83
  · exact rt_D84
  · exact rt_D85
  · exact rt_D86
  · exact rt_D87
  · exact rt_D88
  · exact rt_D89
  · exact rt_D90
  · exact rt_D91
  · exact rt_D92
  · exact rt_D93
  · exact rt_D94
  · exact rt_D95
theorem rt_E6 : ∀ M ∈ rt_r6, ∀ c ∈ M.2.2.2.2.2.2.1, rt_dk M.2.2.2.1 c.2 = true := by
  intro M hM
  simp only [rt_r6, List.mem_cons, List.not_mem_nil, or_false] at hM
  rcases hM with rfl | rfl | rfl | rfl | rfl | rfl | rfl | rfl | rfl | rfl | rfl | rfl | rfl | rfl | rfl | rfl
  · exact rt_D96
  · exact rt_D97
  · exact rt_D98
  · exact rt_D99
  · exact rt_D100
  · exact rt_D101
  · exact rt_D102
  · exact rt_D103
  · exact rt_D104
  · exact rt_D105
  · exact rt_D106
  · exact rt_D107
  · exact rt_D108
  · exact rt_D109
  · exact rt_D110
  · exact rt_D111
theorem rt_E7 : ∀ M ∈ rt_r7, ∀ c ∈ M.2.2.2.2.2.2.1, rt_dk M.2.2.2.1 c.2 = true := by
  intro M hM
  simp only [rt_r7, List.mem_cons, List.not_mem_nil, or_false] at hM
  rcases hM with rfl | rfl | rfl | rfl | rfl | rfl | rfl | rfl | rfl | rfl | rfl | rfl | rfl | rfl | rfl | rfl
  · exact rt_D112
  · exact rt_D113
  · exact rt_D114
  · exact rt_D115
  · exact rt_D116
  · exact rt_D117
  · exact rt_D118
  · exact rt_D119
  · exact rt_D120
  · exact rt_D121
  · exact rt_D122
  · exact rt_D123
  · exact rt_D124
  · exact rt_D125
  · exact rt_D126
  · exact rt_D127
theorem rt_E8 : ∀ M ∈ rt_r8, ∀ c ∈ M.2.2.2.2.2.2.1, rt_dk M.2.2.2.1 c.2 = true := by
  intro M hM
  simp only [rt_r8, List.mem_cons, List.not_mem_nil, or_false] at hM
  rcases hM with rfl | rfl | rfl | rfl | rfl | rfl | rfl | rfl | rfl | rfl | rfl | rfl | rfl | rfl | rfl | rfl
  · exact rt_D128
  · exact rt_D129
  · exact rt_D130
  · exact rt_D131
  · exact rt_D132
  · exact rt_D133
  · exact rt_D134
  · exact rt_D135
  · exact rt_D136
  · exact rt_D137
  · exact rt_D138
  · exact rt_D139
  · exact rt_D140
  · exact rt_D141
  · exact rt_D142
  · exact rt_D143
theorem rt_E9 : ∀ M ∈ rt_r9, ∀ c ∈ M.2.2.2.2.2.2.1, rt_dk M.2.2.2.1 c.2 = true := by
  intro M hM
  simp only [rt_r9, List.mem_cons, List.not_mem_nil, or_false] at hM
  rcases hM with rfl | rfl | rfl | rfl | rfl | rfl | rfl | rfl | rfl | rfl | rfl | rfl
  · exact rt_D144
  · exact rt_D145
  · exact rt_D146
  · exact rt_D147
  · exact rt_D148
  · exact rt_D149
  · exact rt_D150
  · exact rt_D151
  · exact rt_D152
  · exact rt_D153
  · exact rt_D154
  · exact rt_D155
theorem rt_E : ∀ r ∈ rt_MT, ∀ M ∈ r, ∀ c ∈ M.2.2.2.2.2.2.1, rt_dk M.2.2.2.1 c.2 = true := by
  intro r hr
  simp only [rt_MT, rt_MS, List.mem_cons, List.not_mem_nil, or_false] at hr
  rcases hr with rfl | rfl | rfl | rfl | rfl | rfl | rfl | rfl | rfl | rfl
  · exact rt_E0
  · exact rt_E1
  · exact rt_E2
  · exact rt_E3
  · exact rt_E4
  · exact rt_E5
  · exact rt_E6
  · exact rt_E7
  · exact rt_E8
  · exact rt_E9
