/-! THE SAME with the other formatter -/
theorem rz_allF : rz_all (.ref rx_Fm) = true := by decide +kernel
