/-! the start: the invariant holds there -/
theorem m2_B : chkZ zonesB (mI (m2 D9)) = true := by
  have h := m2_ok
  rw [Bool.and_eq_true, Bool.and_eq_true, Bool.and_eq_true, Bool.and_eq_true] at h
  exact h.2.2.2.2
theorem zB {a o n : Nat} {v : Int32} (hm : (a, o, n, v) ∈ zonesB) (j : Nat) (h : o ≤ j ∧ j < o + n) : mI (m2 D9) a j = v := by
  have := chkZ_e m2_B hm (j - o) (by omega)
  rwa [show o + (j - o) = j by omega] at this
theorem zM {a o n : Nat} {v : Int32} (hm : (a, o, n, v) ∈ zonesM) (j : Nat) (h : o ≤ j ∧ j < o + n) : mI (m2 D9) a j = v := by
  have := chkZ_e m2_M hm (j - o) (by omega)
  rwa [show o + (j - o) = j by omega] at this
theorem s_LW : LW (mI (m2 D9) 206) 0 0 0 4 4 3 := by
  refine ⟨⟨zM (a := 206) (o := 0) (n := 3) (v := 0) (by decide) _ (by omega), by omega⟩, ⟨zM (a := 206) (o := 0) (n := 3) (v := 0) (by decide) _ (by omega), by omega⟩, ⟨zM (a := 206) (o := 0) (n := 3) (v := 0) (by decide) _ (by omega), by omega⟩, ⟨zM (a := 206) (o := 3) (n := 2) (v := 4) (by decide) _ (by omega), by omega, by omega⟩, ⟨zM (a := 206) (o := 3) (n := 2) (v := 4) (by decide) _ (by omega), by omega, by omega⟩, ⟨zM (a := 206) (o := 5) (n := 1) (v := 3) (by decide) _ (by omega), by omega⟩, fun k hk => ⟨6, by omega, zM (a := 206) (o := 6) (n := 12) (v := 6) (by decide) _ (by omega)⟩, fun k hk => ⟨1, by omega, by omega, zM (a := 206) (o := 18) (n := 3) (v := 1) (by decide) _ (by omega)⟩, fun k hk => ⟨4, by omega, zM (a := 206) (o := 21) (n := 9) (v := 4) (by decide) _ (by omega)⟩, fun f hf => ?_, fun k hk => ?_⟩
  · refine ⟨⟨0, by omega, ?_⟩, ⟨0, by omega, ?_⟩, ⟨0, by omega, ?_⟩, ⟨0, by omega, ?_⟩, ⟨0, by omega, ?_⟩, ⟨0, by omega, ?_⟩⟩ <;> exact zM (a := 206) (o := 30) (n := 115) (v := 0) (by decide) _ (by omega)
  · refine ⟨⟨0, by omega, ?_⟩, ⟨0, by omega, ?_⟩⟩ <;> exact zM (a := 206) (o := 30) (n := 115) (v := 0) (by decide) _ (by omega)
theorem s_LdR : LdR 7 0 0 (mI (m2 D9)) (mI (m2 D9) 206) := by
  have a : ∀ j, 0 ≤ j ∧ j < 0 + 3 → mI (m2 D9) 206 j = 0 := zM (by decide)
  have b : ∀ j, 3 ≤ j ∧ j < 3 + 2 → mI (m2 D9) 206 j = 4 := zM (by decide)
  have c : ∀ j, 5 ≤ j ∧ j < 5 + 1 → mI (m2 D9) 206 j = 3 := zM (by decide)
  have a2 : ∀ j, 11 ≤ j ∧ j < 11 + 3 → mI (m2 D9) 7 j = 0 := zB (by decide)
  have b2 : ∀ j, 8 ≤ j ∧ j < 8 + 2 → mI (m2 D9) 7 j = 4 := zB (by decide)
  have c2 : ∀ j, 10 ≤ j ∧ j < 10 + 1 → mI (m2 D9) 7 j = 3 := zB (by decide)
  have e1 : ∀ j, 6 ≤ j ∧ j < 6 + 12 → mI (m2 D9) 206 j = 6 := zM (by decide)
  have e2 : ∀ j, 18 ≤ j ∧ j < 18 + 3 → mI (m2 D9) 206 j = 1 := zM (by decide)
  have e3 : ∀ j, 21 ≤ j ∧ j < 21 + 9 → mI (m2 D9) 206 j = 4 := zM (by decide)
  have f1 : ∀ j, 0 ≤ j ∧ j < 0 + 12 → mI (m2 D9) 13 j = 6 := zB (by decide)
  have f2 : ∀ j, 0 ≤ j ∧ j < 0 + 3 → mI (m2 D9) 14 j = 1 := zB (by decide)
  have f3 : ∀ j, 0 ≤ j ∧ j < 0 + 9 → mI (m2 D9) 15 j = 4 := zB (by decide)
  refine ⟨⟨?_, ?_, ?_, ?_, ?_, ?_⟩, fun k hk => ?_, fun k hk => ?_, fun k hk => ?_, fun f hf => absurd hf (Nat.not_lt_zero _), fun f hf => absurd hf (Nat.not_lt_zero _)⟩
  · rw [a2 _ (by omega), a _ (by omega)]
  · rw [a2 _ (by omega), a _ (by omega)]
  · rw [a2 _ (by omega), a _ (by omega)]
  · rw [b2 _ (by omega), b _ (by omega)]
  · rw [b2 _ (by omega), b _ (by omega)]
  · rw [c2 _ (by omega), c _ (by omega)]
  · rw [f1 _ (by omega), e1 _ (by omega)]
  · rw [f2 _ (by omega), e2 _ (by omega)]
  · rw [f3 _ (by omega), e3 _ (by omega)]
theorem s_StR : StR 25 0 (mI (m2 D9)) (mI (m2 D9) 206) := by
  have a : ∀ j, 30 ≤ j ∧ j < 30 + 115 → mI (m2 D9) 206 j = 0 := zM (by decide)
  have b : ∀ j, 155 ≤ j ∧ j < 155 + 55 → mI (m2 D9) 206 j = 0 := zM (by decide)
  have c1 : ∀ j, 0 ≤ j ∧ j < 0 + 6 → mI (m2 D9) 31 j = 0 := zB (by decide)
  have c2 : ∀ j, 0 ≤ j ∧ j < 0 + 6 → mI (m2 D9) 32 j = 0 := zB (by decide)
  have c3 : ∀ j, 0 ≤ j ∧ j < 0 + 6 → mI (m2 D9) 33 j = 0 := zB (by decide)
  have c4 : ∀ j, 0 ≤ j ∧ j < 0 + 36 → mI (m2 D9) 34 j = 0 := zB (by decide)
  have c5 : ∀ j, 9 ≤ j ∧ j < 9 + 2 → mI (m2 D9) 25 j = 0 := zB (by decide)
  refine ⟨fun f hf => absurd hf (Nat.not_lt_zero _), fun f hf => absurd hf (Nat.not_lt_zero _), fun f hf => absurd hf (Nat.not_lt_zero _), fun f hf => absurd hf (Nat.not_lt_zero _), fun f hf => absurd hf (Nat.not_lt_zero _), fun f hf => ?_, fun f hf => ?_, fun f hf => ?_, fun f hf => ?_, ?_, ?_⟩
  · rw [c1 _ (by omega), b _ (by omega)]
  · rw [c2 _ (by omega), b _ (by omega)]
  · rw [c3 _ (by omega), b _ (by omega)]
  · rw [c4 _ (by omega), b _ (by omega)]
  · rw [c5 _ (by omega), a _ (by omega)]
  · rw [c5 _ (by omega), a _ (by omega)]
theorem s_SW : SW (mI (m2 D9) 206) 0 0 4 4 := by
  have a : ∀ j, 30 ≤ j ∧ j < 30 + 115 → mI (m2 D9) 206 j = 0 := zM (by decide)
  have b : ∀ j, 155 ≤ j ∧ j < 155 + 55 → mI (m2 D9) 206 j = 0 := zM (by decide)
  refine ⟨fun f hf => ⟨0, by omega, a _ (by omega)⟩, fun f hf h => ?_, fun f hf => absurd hf (Nat.not_lt_zero _), fun c hc => ⟨0, by omega, b _ (by omega)⟩, ⟨0, by omega, a _ (by omega)⟩, ?_⟩
  · rw [a _ (by omega)] at h
    exact absurd h (by decide)
  · rw [a _ (by omega), b _ (by omega), b _ (by omega), b _ (by omega), b _ (by omega), b _ (by omega), b _ (by omega)]
    decide
theorem s_QR : QR 2000 25 7 0 0 0 4 4 3 (mI (m2 D9)) (mI (m2 D9)) := ⟨by omega, s_LW, s_LdR, s_StR, s_SW, by omega, by omega⟩
