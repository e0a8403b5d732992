/-! THE TABLES: layouts: by wip/whole/gentab.py -/
theorem rt_okC : rx_OkC := by
  intro ci q h
  match ci, h with
  | 0, h =>
    obtain rfl : (RJ0, TJ0, 4) = q := Option.some.inj h
    exact ⟨tyJ0, fun w hw => rx_TT_3 hw, tyJ0_ok, nmJ0⟩
  | 1, h =>
    obtain rfl : (RJ4, TJ4, 4) = q := Option.some.inj h
    exact ⟨tyJ4, fun w hw => rx_TT_4 hw, tyJ4_ok, nmJ4⟩
  | 2, h =>
    obtain rfl : (RX0, TX0, 20) = q := Option.some.inj h
    exact ⟨tyX0, fun w hw => rx_TT_5 hw, tyX0_ok, nmX0⟩
  | 3, h =>
    obtain rfl : (RX1, TX1, 8) = q := Option.some.inj h
    exact ⟨tyX1, fun w hw => rx_TT_6 hw, tyX1_ok, nmX1⟩
  | 4, h =>
    obtain rfl : (RX2, TX2, 10) = q := Option.some.inj h
    exact ⟨tyX2, fun w hw => rx_TT_7 hw, tyX2_ok, nmX2⟩
  | 5, h =>
    obtain rfl : (RX3, TX3, 17) = q := Option.some.inj h
    exact ⟨tyX3, fun w hw => rx_TT_8 hw, tyX3_ok, nmX3⟩
  | 6, h =>
    obtain rfl : (RX4, TX4, 10) = q := Option.some.inj h
    exact ⟨tyX4, fun w hw => rx_TT_9 hw, tyX4_ok, nmX4⟩
  | 7, h =>
    obtain rfl : (RX5, TX5, 14) = q := Option.some.inj h
    exact ⟨tyX5, fun w hw => rx_TT_10 hw, tyX5_ok, nmX5⟩
  | 8, h =>
    obtain rfl : (RX6, TX6, 9) = q := Option.some.inj h
    exact ⟨tyX6, fun w hw => rx_TT_11 hw, tyX6_ok, nmX6⟩
  | 9, h =>
    obtain rfl : (RX7, TX7, 15) = q := Option.some.inj h
    exact ⟨tyX7, fun w hw => rx_TT_12 hw, tyX7_ok, nmX7⟩
  | 10, h =>
    obtain rfl : (RX8, TX8, 12) = q := Option.some.inj h
    exact ⟨tyX8, fun w hw => rx_TT_13 hw, tyX8_ok, nmX8⟩
  | 11, h =>
    obtain rfl : (RX9, TX9, 15) = q := Option.some.inj h
    exact ⟨tyX9, fun w hw => rx_TT_14 hw, tyX9_ok, nmX9⟩
  | 12, h =>
    obtain rfl : (RX10, TX10, 7) = q := Option.some.inj h
    exact ⟨tyX10, fun w hw => rx_TT_15 hw, tyX10_ok, nmX10⟩
  | 13, h =>
    obtain rfl : (RX11, TX11, 10) = q := Option.some.inj h
    exact ⟨tyX11, fun w hw => rx_TT_16 hw, tyX11_ok, nmX11⟩
  | 14, h =>
    obtain rfl : (RX12, TX12, 10) = q := Option.some.inj h
    exact ⟨tyX12, fun w hw => rx_TT_17 hw, tyX12_ok, nmX12⟩
  | 15, h =>
    obtain rfl : (RX13, TX13, 140) = q := Option.some.inj h
    exact ⟨tyX13, fun w hw => rx_TT_18 hw, tyX13_ok, nmX13⟩
  | k + 16, h => exact absurd h (by simp [vwCl])
