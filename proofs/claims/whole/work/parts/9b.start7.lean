/-! the start: the objects, with the law's own cell -/
set_option maxRecDepth 1000000 in
theorem m3_OH : OH (mSh (m3 D9)) (mP (m3 D9)) 7 16 45 50 := @of_decide_eq_true _ (dOH _ _ _ _ _ _) (by decide +kernel)
set_option maxRecDepth 1000000 in
theorem m3_OM : OM (mSh (m3 D9)) (mP (m3 D9)) := @of_decide_eq_true _ (dOM _ _) (by decide +kernel)
theorem sh_new {μ : Mem} {kd : Nat × Nat} {n a : Nat} (h : a = mHp μ) : mSh (mNew μ kd n) a = kd := if_pos h
theorem m3_out : mSh (m3 D9) 225 = (4, 1) := sh_new m2_hp.1.symm
theorem m3_hp : mHp (m3 D9) = 226 ∧ mSl (m3 D9) = 10648 := by
  constructor
  · show mHp (m2 D9) + 1 = _
    rw [m2_hp.1]
  · show mSl (m2 D9) + 1 = _
    rw [m2_hp.2]
