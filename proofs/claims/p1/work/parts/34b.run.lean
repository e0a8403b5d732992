/-! THE SAME with the other formatter: by wip/whole/glue.py -/
theorem rz_allF : rz_all (.ref rx_Fm) = true := by decide +kernel
