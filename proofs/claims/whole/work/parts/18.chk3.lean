set_option maxRecDepth 100000 in
theorem ck305_0 : ∀ j, j < 100 → chkE 305 (0 + j) = true := by decide +kernel
set_option maxRecDepth 100000 in
theorem ck305_100 : ∀ j, j < 100 → chkE 305 (100 + j) = true := by decide +kernel
set_option maxRecDepth 100000 in
theorem ck305_200 : ∀ j, j < 100 → chkE 305 (200 + j) = true := by decide +kernel
set_option maxRecDepth 100000 in
theorem ck305_300 : ∀ j, j < 100 → chkE 305 (300 + j) = true := by decide +kernel
set_option maxRecDepth 100000 in
theorem ck305_400 : ∀ j, j < 100 → chkE 305 (400 + j) = true := by decide +kernel
set_option maxRecDepth 100000 in
theorem ck305_500 : ∀ j, j < 100 → chkE 305 (500 + j) = true := by decide +kernel
