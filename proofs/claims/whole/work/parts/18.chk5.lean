set_option maxRecDepth 100000 in
theorem ck305_1200 : ∀ j, j < 100 → chkE 305 (1200 + j) = true := by decide +kernel
set_option maxRecDepth 100000 in
theorem ck305_1300 : ∀ j, j < 100 → chkE 305 (1300 + j) = true := by decide +kernel
set_option maxRecDepth 100000 in
theorem ck305_1400 : ∀ j, j < 100 → chkE 305 (1400 + j) = true := by decide +kernel
set_option maxRecDepth 100000 in
theorem ck305_1500 : ∀ j, j < 59 → chkE 305 (1500 + j) = true := by decide +kernel
