/-! the start: the model's cells, the own words -/
set_option maxRecDepth 1000000 in
theorem m2_M : chkZ zonesM (mI (m2 D9)) = true := by decide +kernel
set_option maxRecDepth 1000000 in
theorem m2_W : chkW (mJ (m2 D9)) = true := by decide +kernel
