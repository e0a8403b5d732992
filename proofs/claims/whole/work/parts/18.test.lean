def rz_ok (r : Option rx_R) : Bool := match r with
  | some (.inl (some (.int v)), _, c, s) => decide (v = 1) && (Nat.ble c 601024 && Nat.ble s 7293034)
  | _ => false
set_option maxRecDepth 100000 in
theorem rz_t1 : rz_ok (rx_run (rt_P (0, fun _ => 0) .null) 8000 0 2048 84000 0 [(0, .ref rx_S)] [] []) = true := by decide +kernel
