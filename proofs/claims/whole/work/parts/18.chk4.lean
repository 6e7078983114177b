set_option maxRecDepth 100000 in
theorem ck305_600 : ∀ j, j < 100 → chkE 305 (600 + j) = true := by decide +kernel
set_option maxRecDepth 100000 in
theorem ck305_700 : ∀ j, j < 100 → chkE 305 (700 + j) = true := by decide +kernel
set_option maxRecDepth 100000 in
theorem ck305_800 : ∀ j, j < 100 → chkE 305 (800 + j) = true := by decide +kernel
set_option maxRecDepth 100000 in
theorem ck305_900 : ∀ j, j < 100 → chkE 305 (900 + j) = true := by decide +kernel
set_option maxRecDepth 100000 in
theorem ck305_1000 : ∀ j, j < 100 → chkE 305 (1000 + j) = true := by decide +kernel
set_option maxRecDepth 100000 in
theorem ck305_1100 : ∀ j, j < 100 → chkE 305 (1100 + j) = true := by decide +kernel
