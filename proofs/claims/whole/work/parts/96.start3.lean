/-! the start: the letters of both tapes -/
set_option maxRecDepth 1000000 in
theorem m2_t2_0 : zI (mI (m2 D9)) 2 0 235 0 = true := by decide +kernel
set_option maxRecDepth 1000000 in
theorem m2_t2_1 : zI (mI (m2 D9)) 2 235 235 0 = true := by decide +kernel
set_option maxRecDepth 1000000 in
theorem m2_t2_2 : zI (mI (m2 D9)) 2 470 235 0 = true := by decide +kernel
set_option maxRecDepth 1000000 in
theorem m2_t2_3 : zI (mI (m2 D9)) 2 705 235 0 = true := by decide +kernel
theorem m2_t2 (k : Nat) (hk : k < 940) : mI (m2 D9) 2 k = 0 := by
  rcases Nat.lt_or_ge k 235 with h | h
  · have := zI_e m2_t2_0 k h
    rwa [show 0 + k = k by omega] at this
  rcases Nat.lt_or_ge k 470 with h2 | h2
  · have := zI_e m2_t2_1 (k - 235) (by omega)
    rwa [show 235 + (k - 235) = k by omega] at this
  rcases Nat.lt_or_ge k 705 with h3 | h3
  · have := zI_e m2_t2_2 (k - 470) (by omega)
    rwa [show 470 + (k - 470) = k by omega] at this
  · have := zI_e m2_t2_3 (k - 705) (by omega)
    rwa [show 705 + (k - 705) = k by omega] at this
set_option maxRecDepth 1000000 in
theorem m2_t205_0 : zI (mI (m2 D9)) 205 0 235 0 = true := by decide +kernel
set_option maxRecDepth 1000000 in
theorem m2_t205_1 : zI (mI (m2 D9)) 205 235 235 0 = true := by decide +kernel
set_option maxRecDepth 1000000 in
theorem m2_t205_2 : zI (mI (m2 D9)) 205 470 235 0 = true := by decide +kernel
set_option maxRecDepth 1000000 in
theorem m2_t205_3 : zI (mI (m2 D9)) 205 705 235 0 = true := by decide +kernel
theorem m2_t205 (k : Nat) (hk : k < 940) : mI (m2 D9) 205 k = 0 := by
  rcases Nat.lt_or_ge k 235 with h | h
  · have := zI_e m2_t205_0 k h
    rwa [show 0 + k = k by omega] at this
  rcases Nat.lt_or_ge k 470 with h2 | h2
  · have := zI_e m2_t205_1 (k - 235) (by omega)
    rwa [show 235 + (k - 235) = k by omega] at this
  rcases Nat.lt_or_ge k 705 with h3 | h3
  · have := zI_e m2_t205_2 (k - 470) (by omega)
    rwa [show 470 + (k - 470) = k by omega] at this
  · have := zI_e m2_t205_3 (k - 705) (by omega)
    rwa [show 705 + (k - 705) = k by omega] at this
