theorem blt_no {n m : Nat} (h : m ≤ n) : Nat.blt n m = false := by
  cases hb : Nat.blt n m with
  | false => rfl
  | true => exact absurd (Nat.le_of_ble_eq_true hb) (by omega)
theorem cc0 (pc : Nat) : chkE 0 pc = true := by
  by_cases h17 : pc < 17
  · exact (show 0 + (pc - 0) = pc by omega) ▸ ck0_0 (pc - 0) (by omega)
  show (match code9 0 pc with
    | some (_, i, q, v, sw) => decide (decode (mB9 0) pc = .ok (i, q.headD 0)) && ((len9 i == 0 || q.headD 0 == len9 i) && chkI 0 pc i q v sw)
    | none => true) = true
  have hz : code9 0 pc = none := by
    show (bif Nat.blt pc 17 then _ else none) = none
    rw [show Nat.blt pc 17 = false from blt_no (by omega)]
    rfl
  rw [hz]
theorem cc1 (pc : Nat) : chkE 1 pc = true := by
  by_cases h133 : pc < 133
  · exact (show 0 + (pc - 0) = pc by omega) ▸ ck1_0 (pc - 0) (by omega)
  show (match code9 1 pc with
    | some (_, i, q, v, sw) => decide (decode (mB9 1) pc = .ok (i, q.headD 0)) && ((len9 i == 0 || q.headD 0 == len9 i) && chkI 1 pc i q v sw)
    | none => true) = true
  have hz : code9 1 pc = none := by
    show (bif Nat.blt pc 133 then _ else none) = none
    rw [show Nat.blt pc 133 = false from blt_no (by omega)]
    rfl
  rw [hz]
theorem cc2 (pc : Nat) : chkE 2 pc = true := by
  by_cases h35 : pc < 35
  · exact (show 0 + (pc - 0) = pc by omega) ▸ ck2_0 (pc - 0) (by omega)
  show (match code9 2 pc with
    | some (_, i, q, v, sw) => decide (decode (mB9 2) pc = .ok (i, q.headD 0)) && ((len9 i == 0 || q.headD 0 == len9 i) && chkI 2 pc i q v sw)
    | none => true) = true
  have hz : code9 2 pc = none := by
    show (bif Nat.blt pc 35 then _ else none) = none
    rw [show Nat.blt pc 35 = false from blt_no (by omega)]
    rfl
  rw [hz]
theorem cc3 (pc : Nat) : chkE 3 pc = true := by
  by_cases h35 : pc < 35
  · exact (show 0 + (pc - 0) = pc by omega) ▸ ck3_0 (pc - 0) (by omega)
  show (match code9 3 pc with
    | some (_, i, q, v, sw) => decide (decode (mB9 3) pc = .ok (i, q.headD 0)) && ((len9 i == 0 || q.headD 0 == len9 i) && chkI 3 pc i q v sw)
    | none => true) = true
  have hz : code9 3 pc = none := by
    show (bif Nat.blt pc 35 then _ else none) = none
    rw [show Nat.blt pc 35 = false from blt_no (by omega)]
    rfl
  rw [hz]
theorem cc4 (pc : Nat) : chkE 4 pc = true := by
  by_cases h75 : pc < 75
  · exact (show 0 + (pc - 0) = pc by omega) ▸ ck4_0 (pc - 0) (by omega)
  show (match code9 4 pc with
    | some (_, i, q, v, sw) => decide (decode (mB9 4) pc = .ok (i, q.headD 0)) && ((len9 i == 0 || q.headD 0 == len9 i) && chkI 4 pc i q v sw)
    | none => true) = true
  have hz : code9 4 pc = none := by
    show (bif Nat.blt pc 75 then _ else none) = none
    rw [show Nat.blt pc 75 = false from blt_no (by omega)]
    rfl
  rw [hz]
theorem cc5 (pc : Nat) : chkE 5 pc = true := by
  by_cases h48 : pc < 48
  · exact (show 0 + (pc - 0) = pc by omega) ▸ ck5_0 (pc - 0) (by omega)
  show (match code9 5 pc with
    | some (_, i, q, v, sw) => decide (decode (mB9 5) pc = .ok (i, q.headD 0)) && ((len9 i == 0 || q.headD 0 == len9 i) && chkI 5 pc i q v sw)
    | none => true) = true
  have hz : code9 5 pc = none := by
    show (bif Nat.blt pc 48 then _ else none) = none
    rw [show Nat.blt pc 48 = false from blt_no (by omega)]
    rfl
  rw [hz]
theorem cc6 (pc : Nat) : chkE 6 pc = true := by
  by_cases h42 : pc < 42
  · exact (show 0 + (pc - 0) = pc by omega) ▸ ck6_0 (pc - 0) (by omega)
  show (match code9 6 pc with
    | some (_, i, q, v, sw) => decide (decode (mB9 6) pc = .ok (i, q.headD 0)) && ((len9 i == 0 || q.headD 0 == len9 i) && chkI 6 pc i q v sw)
    | none => true) = true
  have hz : code9 6 pc = none := by
    show (bif Nat.blt pc 42 then _ else none) = none
    rw [show Nat.blt pc 42 = false from blt_no (by omega)]
    rfl
  rw [hz]
theorem cc7 (pc : Nat) : chkE 7 pc = true := by
  by_cases h33 : pc < 33
  · exact (show 0 + (pc - 0) = pc by omega) ▸ ck7_0 (pc - 0) (by omega)
  show (match code9 7 pc with
    | some (_, i, q, v, sw) => decide (decode (mB9 7) pc = .ok (i, q.headD 0)) && ((len9 i == 0 || q.headD 0 == len9 i) && chkI 7 pc i q v sw)
    | none => true) = true
  have hz : code9 7 pc = none := by
    show (bif Nat.blt pc 33 then _ else none) = none
    rw [show Nat.blt pc 33 = false from blt_no (by omega)]
    rfl
  rw [hz]
theorem cc8 (pc : Nat) : chkE 8 pc = true := by
  by_cases h48 : pc < 48
  · exact (show 0 + (pc - 0) = pc by omega) ▸ ck8_0 (pc - 0) (by omega)
  show (match code9 8 pc with
    | some (_, i, q, v, sw) => decide (decode (mB9 8) pc = .ok (i, q.headD 0)) && ((len9 i == 0 || q.headD 0 == len9 i) && chkI 8 pc i q v sw)
    | none => true) = true
  have hz : code9 8 pc = none := by
    show (bif Nat.blt pc 48 then _ else none) = none
    rw [show Nat.blt pc 48 = false from blt_no (by omega)]
    rfl
  rw [hz]
theorem cc9 (pc : Nat) : chkE 9 pc = true := by
  by_cases h47 : pc < 47
  · exact (show 0 + (pc - 0) = pc by omega) ▸ ck9_0 (pc - 0) (by omega)
  show (match code9 9 pc with
    | some (_, i, q, v, sw) => decide (decode (mB9 9) pc = .ok (i, q.headD 0)) && ((len9 i == 0 || q.headD 0 == len9 i) && chkI 9 pc i q v sw)
    | none => true) = true
  have hz : code9 9 pc = none := by
    show (bif Nat.blt pc 47 then _ else none) = none
    rw [show Nat.blt pc 47 = false from blt_no (by omega)]
    rfl
  rw [hz]
theorem cc10 (pc : Nat) : chkE 10 pc = true := by
  by_cases h66 : pc < 66
  · exact (show 0 + (pc - 0) = pc by omega) ▸ ck10_0 (pc - 0) (by omega)
  show (match code9 10 pc with
    | some (_, i, q, v, sw) => decide (decode (mB9 10) pc = .ok (i, q.headD 0)) && ((len9 i == 0 || q.headD 0 == len9 i) && chkI 10 pc i q v sw)
    | none => true) = true
  have hz : code9 10 pc = none := by
    show (bif Nat.blt pc 66 then _ else none) = none
    rw [show Nat.blt pc 66 = false from blt_no (by omega)]
    rfl
  rw [hz]
theorem cc11 (pc : Nat) : chkE 11 pc = true := by
  by_cases h167 : pc < 167
  · exact (show 0 + (pc - 0) = pc by omega) ▸ ck11_0 (pc - 0) (by omega)
  show (match code9 11 pc with
    | some (_, i, q, v, sw) => decide (decode (mB9 11) pc = .ok (i, q.headD 0)) && ((len9 i == 0 || q.headD 0 == len9 i) && chkI 11 pc i q v sw)
    | none => true) = true
  have hz : code9 11 pc = none := by
    show (bif Nat.blt pc 167 then _ else none) = none
    rw [show Nat.blt pc 167 = false from blt_no (by omega)]
    rfl
  rw [hz]
theorem cc12 (pc : Nat) : chkE 12 pc = true := by
  by_cases h77 : pc < 77
  · exact (show 0 + (pc - 0) = pc by omega) ▸ ck12_0 (pc - 0) (by omega)
  show (match code9 12 pc with
    | some (_, i, q, v, sw) => decide (decode (mB9 12) pc = .ok (i, q.headD 0)) && ((len9 i == 0 || q.headD 0 == len9 i) && chkI 12 pc i q v sw)
    | none => true) = true
  have hz : code9 12 pc = none := by
    show (bif Nat.blt pc 77 then _ else none) = none
    rw [show Nat.blt pc 77 = false from blt_no (by omega)]
    rfl
  rw [hz]
theorem cc13 (pc : Nat) : chkE 13 pc = true := by
  by_cases h35 : pc < 35
  · exact (show 0 + (pc - 0) = pc by omega) ▸ ck13_0 (pc - 0) (by omega)
  show (match code9 13 pc with
    | some (_, i, q, v, sw) => decide (decode (mB9 13) pc = .ok (i, q.headD 0)) && ((len9 i == 0 || q.headD 0 == len9 i) && chkI 13 pc i q v sw)
    | none => true) = true
  have hz : code9 13 pc = none := by
    show (bif Nat.blt pc 35 then _ else none) = none
    rw [show Nat.blt pc 35 = false from blt_no (by omega)]
    rfl
  rw [hz]
theorem cc14 (pc : Nat) : chkE 14 pc = true := by
  by_cases h50 : pc < 50
  · exact (show 0 + (pc - 0) = pc by omega) ▸ ck14_0 (pc - 0) (by omega)
  show (match code9 14 pc with
    | some (_, i, q, v, sw) => decide (decode (mB9 14) pc = .ok (i, q.headD 0)) && ((len9 i == 0 || q.headD 0 == len9 i) && chkI 14 pc i q v sw)
    | none => true) = true
  have hz : code9 14 pc = none := by
    show (bif Nat.blt pc 50 then _ else none) = none
    rw [show Nat.blt pc 50 = false from blt_no (by omega)]
    rfl
  rw [hz]
theorem cc15 (pc : Nat) : chkE 15 pc = true := by
  by_cases h75 : pc < 75
  · exact (show 0 + (pc - 0) = pc by omega) ▸ ck15_0 (pc - 0) (by omega)
  show (match code9 15 pc with
    | some (_, i, q, v, sw) => decide (decode (mB9 15) pc = .ok (i, q.headD 0)) && ((len9 i == 0 || q.headD 0 == len9 i) && chkI 15 pc i q v sw)
    | none => true) = true
  have hz : code9 15 pc = none := by
    show (bif Nat.blt pc 75 then _ else none) = none
    rw [show Nat.blt pc 75 = false from blt_no (by omega)]
    rfl
  rw [hz]
theorem cc16 (pc : Nat) : chkE 16 pc = true := by
  by_cases h54 : pc < 54
  · exact (show 0 + (pc - 0) = pc by omega) ▸ ck16_0 (pc - 0) (by omega)
  show (match code9 16 pc with
    | some (_, i, q, v, sw) => decide (decode (mB9 16) pc = .ok (i, q.headD 0)) && ((len9 i == 0 || q.headD 0 == len9 i) && chkI 16 pc i q v sw)
    | none => true) = true
  have hz : code9 16 pc = none := by
    show (bif Nat.blt pc 54 then _ else none) = none
    rw [show Nat.blt pc 54 = false from blt_no (by omega)]
    rfl
  rw [hz]
theorem cc17 (pc : Nat) : chkE 17 pc = true := by
  by_cases h66 : pc < 66
  · exact (show 0 + (pc - 0) = pc by omega) ▸ ck17_0 (pc - 0) (by omega)
  show (match code9 17 pc with
    | some (_, i, q, v, sw) => decide (decode (mB9 17) pc = .ok (i, q.headD 0)) && ((len9 i == 0 || q.headD 0 == len9 i) && chkI 17 pc i q v sw)
    | none => true) = true
  have hz : code9 17 pc = none := by
    show (bif Nat.blt pc 66 then _ else none) = none
    rw [show Nat.blt pc 66 = false from blt_no (by omega)]
    rfl
  rw [hz]
theorem cc18 (pc : Nat) : chkE 18 pc = true := by
  by_cases h209 : pc < 209
  · exact (show 0 + (pc - 0) = pc by omega) ▸ ck18_0 (pc - 0) (by omega)
  show (match code9 18 pc with
    | some (_, i, q, v, sw) => decide (decode (mB9 18) pc = .ok (i, q.headD 0)) && ((len9 i == 0 || q.headD 0 == len9 i) && chkI 18 pc i q v sw)
    | none => true) = true
  have hz : code9 18 pc = none := by
    show (bif Nat.blt pc 209 then _ else none) = none
    rw [show Nat.blt pc 209 = false from blt_no (by omega)]
    rfl
  rw [hz]
theorem cc19 (pc : Nat) : chkE 19 pc = true := by
  by_cases h12 : pc < 12
  · exact (show 0 + (pc - 0) = pc by omega) ▸ ck19_0 (pc - 0) (by omega)
  show (match code9 19 pc with
    | some (_, i, q, v, sw) => decide (decode (mB9 19) pc = .ok (i, q.headD 0)) && ((len9 i == 0 || q.headD 0 == len9 i) && chkI 19 pc i q v sw)
    | none => true) = true
  have hz : code9 19 pc = none := by
    show (bif Nat.blt pc 12 then _ else none) = none
    rw [show Nat.blt pc 12 = false from blt_no (by omega)]
    rfl
  rw [hz]
theorem cc20 (pc : Nat) : chkE 20 pc = true := by
  by_cases h166 : pc < 166
  · exact (show 0 + (pc - 0) = pc by omega) ▸ ck20_0 (pc - 0) (by omega)
  show (match code9 20 pc with
    | some (_, i, q, v, sw) => decide (decode (mB9 20) pc = .ok (i, q.headD 0)) && ((len9 i == 0 || q.headD 0 == len9 i) && chkI 20 pc i q v sw)
    | none => true) = true
  have hz : code9 20 pc = none := by
    show (bif Nat.blt pc 166 then _ else none) = none
    rw [show Nat.blt pc 166 = false from blt_no (by omega)]
    rfl
  rw [hz]
theorem cc21 (pc : Nat) : chkE 21 pc = true := by
  by_cases h10 : pc < 10
  · exact (show 0 + (pc - 0) = pc by omega) ▸ ck21_0 (pc - 0) (by omega)
  show (match code9 21 pc with
    | some (_, i, q, v, sw) => decide (decode (mB9 21) pc = .ok (i, q.headD 0)) && ((len9 i == 0 || q.headD 0 == len9 i) && chkI 21 pc i q v sw)
    | none => true) = true
  have hz : code9 21 pc = none := by
    show (bif Nat.blt pc 10 then _ else none) = none
    rw [show Nat.blt pc 10 = false from blt_no (by omega)]
    rfl
  rw [hz]
theorem cc22 (pc : Nat) : chkE 22 pc = true := by
  by_cases h33 : pc < 33
  · exact (show 0 + (pc - 0) = pc by omega) ▸ ck22_0 (pc - 0) (by omega)
  show (match code9 22 pc with
    | some (_, i, q, v, sw) => decide (decode (mB9 22) pc = .ok (i, q.headD 0)) && ((len9 i == 0 || q.headD 0 == len9 i) && chkI 22 pc i q v sw)
    | none => true) = true
  have hz : code9 22 pc = none := by
    show (bif Nat.blt pc 33 then _ else none) = none
    rw [show Nat.blt pc 33 = false from blt_no (by omega)]
    rfl
  rw [hz]
theorem cc23 (pc : Nat) : chkE 23 pc = true := by
  by_cases h51 : pc < 51
  · exact (show 0 + (pc - 0) = pc by omega) ▸ ck23_0 (pc - 0) (by omega)
  show (match code9 23 pc with
    | some (_, i, q, v, sw) => decide (decode (mB9 23) pc = .ok (i, q.headD 0)) && ((len9 i == 0 || q.headD 0 == len9 i) && chkI 23 pc i q v sw)
    | none => true) = true
  have hz : code9 23 pc = none := by
    show (bif Nat.blt pc 51 then _ else none) = none
    rw [show Nat.blt pc 51 = false from blt_no (by omega)]
    rfl
  rw [hz]
theorem cc24 (pc : Nat) : chkE 24 pc = true := by
  by_cases h6 : pc < 6
  · exact (show 0 + (pc - 0) = pc by omega) ▸ ck24_0 (pc - 0) (by omega)
  show (match code9 24 pc with
    | some (_, i, q, v, sw) => decide (decode (mB9 24) pc = .ok (i, q.headD 0)) && ((len9 i == 0 || q.headD 0 == len9 i) && chkI 24 pc i q v sw)
    | none => true) = true
  have hz : code9 24 pc = none := by
    show (bif Nat.blt pc 6 then _ else none) = none
    rw [show Nat.blt pc 6 = false from blt_no (by omega)]
    rfl
  rw [hz]
theorem cc25 (pc : Nat) : chkE 25 pc = true := by
  by_cases h70 : pc < 70
  · exact (show 0 + (pc - 0) = pc by omega) ▸ ck25_0 (pc - 0) (by omega)
  show (match code9 25 pc with
    | some (_, i, q, v, sw) => decide (decode (mB9 25) pc = .ok (i, q.headD 0)) && ((len9 i == 0 || q.headD 0 == len9 i) && chkI 25 pc i q v sw)
    | none => true) = true
  have hz : code9 25 pc = none := by
    show (bif Nat.blt pc 70 then _ else none) = none
    rw [show Nat.blt pc 70 = false from blt_no (by omega)]
    rfl
  rw [hz]
theorem cc26 (pc : Nat) : chkE 26 pc = true := by
  by_cases h48 : pc < 48
  · exact (show 0 + (pc - 0) = pc by omega) ▸ ck26_0 (pc - 0) (by omega)
  show (match code9 26 pc with
    | some (_, i, q, v, sw) => decide (decode (mB9 26) pc = .ok (i, q.headD 0)) && ((len9 i == 0 || q.headD 0 == len9 i) && chkI 26 pc i q v sw)
    | none => true) = true
  have hz : code9 26 pc = none := by
    show (bif Nat.blt pc 48 then _ else none) = none
    rw [show Nat.blt pc 48 = false from blt_no (by omega)]
    rfl
  rw [hz]
theorem cc27 (pc : Nat) : chkE 27 pc = true := by
  by_cases h43 : pc < 43
  · exact (show 0 + (pc - 0) = pc by omega) ▸ ck27_0 (pc - 0) (by omega)
  show (match code9 27 pc with
    | some (_, i, q, v, sw) => decide (decode (mB9 27) pc = .ok (i, q.headD 0)) && ((len9 i == 0 || q.headD 0 == len9 i) && chkI 27 pc i q v sw)
    | none => true) = true
  have hz : code9 27 pc = none := by
    show (bif Nat.blt pc 43 then _ else none) = none
    rw [show Nat.blt pc 43 = false from blt_no (by omega)]
    rfl
  rw [hz]
theorem cc28 (pc : Nat) : chkE 28 pc = true := by
  by_cases h18 : pc < 18
  · exact (show 0 + (pc - 0) = pc by omega) ▸ ck28_0 (pc - 0) (by omega)
  show (match code9 28 pc with
    | some (_, i, q, v, sw) => decide (decode (mB9 28) pc = .ok (i, q.headD 0)) && ((len9 i == 0 || q.headD 0 == len9 i) && chkI 28 pc i q v sw)
    | none => true) = true
  have hz : code9 28 pc = none := by
    show (bif Nat.blt pc 18 then _ else none) = none
    rw [show Nat.blt pc 18 = false from blt_no (by omega)]
    rfl
  rw [hz]
theorem cc29 (pc : Nat) : chkE 29 pc = true := by
  by_cases h126 : pc < 126
  · exact (show 0 + (pc - 0) = pc by omega) ▸ ck29_0 (pc - 0) (by omega)
  show (match code9 29 pc with
    | some (_, i, q, v, sw) => decide (decode (mB9 29) pc = .ok (i, q.headD 0)) && ((len9 i == 0 || q.headD 0 == len9 i) && chkI 29 pc i q v sw)
    | none => true) = true
  have hz : code9 29 pc = none := by
    show (bif Nat.blt pc 126 then _ else none) = none
    rw [show Nat.blt pc 126 = false from blt_no (by omega)]
    rfl
  rw [hz]
theorem cc30 (pc : Nat) : chkE 30 pc = true := by
  by_cases h40 : pc < 40
  · exact (show 0 + (pc - 0) = pc by omega) ▸ ck30_0 (pc - 0) (by omega)
  show (match code9 30 pc with
    | some (_, i, q, v, sw) => decide (decode (mB9 30) pc = .ok (i, q.headD 0)) && ((len9 i == 0 || q.headD 0 == len9 i) && chkI 30 pc i q v sw)
    | none => true) = true
  have hz : code9 30 pc = none := by
    show (bif Nat.blt pc 40 then _ else none) = none
    rw [show Nat.blt pc 40 = false from blt_no (by omega)]
    rfl
  rw [hz]
theorem cc31 (pc : Nat) : chkE 31 pc = true := by
  by_cases h34 : pc < 34
  · exact (show 0 + (pc - 0) = pc by omega) ▸ ck31_0 (pc - 0) (by omega)
  show (match code9 31 pc with
    | some (_, i, q, v, sw) => decide (decode (mB9 31) pc = .ok (i, q.headD 0)) && ((len9 i == 0 || q.headD 0 == len9 i) && chkI 31 pc i q v sw)
    | none => true) = true
  have hz : code9 31 pc = none := by
    show (bif Nat.blt pc 34 then _ else none) = none
    rw [show Nat.blt pc 34 = false from blt_no (by omega)]
    rfl
  rw [hz]
theorem cc32 (pc : Nat) : chkE 32 pc = true := by
  by_cases h49 : pc < 49
  · exact (show 0 + (pc - 0) = pc by omega) ▸ ck32_0 (pc - 0) (by omega)
  show (match code9 32 pc with
    | some (_, i, q, v, sw) => decide (decode (mB9 32) pc = .ok (i, q.headD 0)) && ((len9 i == 0 || q.headD 0 == len9 i) && chkI 32 pc i q v sw)
    | none => true) = true
  have hz : code9 32 pc = none := by
    show (bif Nat.blt pc 49 then _ else none) = none
    rw [show Nat.blt pc 49 = false from blt_no (by omega)]
    rfl
  rw [hz]
theorem cc33 (pc : Nat) : chkE 33 pc = true := by
  by_cases h26 : pc < 26
  · exact (show 0 + (pc - 0) = pc by omega) ▸ ck33_0 (pc - 0) (by omega)
  show (match code9 33 pc with
    | some (_, i, q, v, sw) => decide (decode (mB9 33) pc = .ok (i, q.headD 0)) && ((len9 i == 0 || q.headD 0 == len9 i) && chkI 33 pc i q v sw)
    | none => true) = true
  have hz : code9 33 pc = none := by
    show (bif Nat.blt pc 26 then _ else none) = none
    rw [show Nat.blt pc 26 = false from blt_no (by omega)]
    rfl
  rw [hz]
theorem cc34 (pc : Nat) : chkE 34 pc = true := by
  by_cases h112 : pc < 112
  · exact (show 0 + (pc - 0) = pc by omega) ▸ ck34_0 (pc - 0) (by omega)
  show (match code9 34 pc with
    | some (_, i, q, v, sw) => decide (decode (mB9 34) pc = .ok (i, q.headD 0)) && ((len9 i == 0 || q.headD 0 == len9 i) && chkI 34 pc i q v sw)
    | none => true) = true
  have hz : code9 34 pc = none := by
    show (bif Nat.blt pc 112 then _ else none) = none
    rw [show Nat.blt pc 112 = false from blt_no (by omega)]
    rfl
  rw [hz]
theorem cc35 (pc : Nat) : chkE 35 pc = true := by
  by_cases h66 : pc < 66
  · exact (show 0 + (pc - 0) = pc by omega) ▸ ck35_0 (pc - 0) (by omega)
  show (match code9 35 pc with
    | some (_, i, q, v, sw) => decide (decode (mB9 35) pc = .ok (i, q.headD 0)) && ((len9 i == 0 || q.headD 0 == len9 i) && chkI 35 pc i q v sw)
    | none => true) = true
  have hz : code9 35 pc = none := by
    show (bif Nat.blt pc 66 then _ else none) = none
    rw [show Nat.blt pc 66 = false from blt_no (by omega)]
    rfl
  rw [hz]
theorem cc36 (pc : Nat) : chkE 36 pc = true := by
  by_cases h64 : pc < 64
  · exact (show 0 + (pc - 0) = pc by omega) ▸ ck36_0 (pc - 0) (by omega)
  show (match code9 36 pc with
    | some (_, i, q, v, sw) => decide (decode (mB9 36) pc = .ok (i, q.headD 0)) && ((len9 i == 0 || q.headD 0 == len9 i) && chkI 36 pc i q v sw)
    | none => true) = true
  have hz : code9 36 pc = none := by
    show (bif Nat.blt pc 64 then _ else none) = none
    rw [show Nat.blt pc 64 = false from blt_no (by omega)]
    rfl
  rw [hz]
theorem cc37 (pc : Nat) : chkE 37 pc = true := by
  by_cases h129 : pc < 129
  · exact (show 0 + (pc - 0) = pc by omega) ▸ ck37_0 (pc - 0) (by omega)
  show (match code9 37 pc with
    | some (_, i, q, v, sw) => decide (decode (mB9 37) pc = .ok (i, q.headD 0)) && ((len9 i == 0 || q.headD 0 == len9 i) && chkI 37 pc i q v sw)
    | none => true) = true
  have hz : code9 37 pc = none := by
    show (bif Nat.blt pc 129 then _ else none) = none
    rw [show Nat.blt pc 129 = false from blt_no (by omega)]
    rfl
  rw [hz]
theorem cc38 (pc : Nat) : chkE 38 pc = true := by
  by_cases h64 : pc < 64
  · exact (show 0 + (pc - 0) = pc by omega) ▸ ck38_0 (pc - 0) (by omega)
  show (match code9 38 pc with
    | some (_, i, q, v, sw) => decide (decode (mB9 38) pc = .ok (i, q.headD 0)) && ((len9 i == 0 || q.headD 0 == len9 i) && chkI 38 pc i q v sw)
    | none => true) = true
  have hz : code9 38 pc = none := by
    show (bif Nat.blt pc 64 then _ else none) = none
    rw [show Nat.blt pc 64 = false from blt_no (by omega)]
    rfl
  rw [hz]
theorem cc39 (pc : Nat) : chkE 39 pc = true := by
  by_cases h36 : pc < 36
  · exact (show 0 + (pc - 0) = pc by omega) ▸ ck39_0 (pc - 0) (by omega)
  show (match code9 39 pc with
    | some (_, i, q, v, sw) => decide (decode (mB9 39) pc = .ok (i, q.headD 0)) && ((len9 i == 0 || q.headD 0 == len9 i) && chkI 39 pc i q v sw)
    | none => true) = true
  have hz : code9 39 pc = none := by
    show (bif Nat.blt pc 36 then _ else none) = none
    rw [show Nat.blt pc 36 = false from blt_no (by omega)]
    rfl
  rw [hz]
theorem cc40 (pc : Nat) : chkE 40 pc = true := by
  by_cases h53 : pc < 53
  · exact (show 0 + (pc - 0) = pc by omega) ▸ ck40_0 (pc - 0) (by omega)
  show (match code9 40 pc with
    | some (_, i, q, v, sw) => decide (decode (mB9 40) pc = .ok (i, q.headD 0)) && ((len9 i == 0 || q.headD 0 == len9 i) && chkI 40 pc i q v sw)
    | none => true) = true
  have hz : code9 40 pc = none := by
    show (bif Nat.blt pc 53 then _ else none) = none
    rw [show Nat.blt pc 53 = false from blt_no (by omega)]
    rfl
  rw [hz]
theorem cc41 (pc : Nat) : chkE 41 pc = true := by
  by_cases h91 : pc < 91
  · exact (show 0 + (pc - 0) = pc by omega) ▸ ck41_0 (pc - 0) (by omega)
  show (match code9 41 pc with
    | some (_, i, q, v, sw) => decide (decode (mB9 41) pc = .ok (i, q.headD 0)) && ((len9 i == 0 || q.headD 0 == len9 i) && chkI 41 pc i q v sw)
    | none => true) = true
  have hz : code9 41 pc = none := by
    show (bif Nat.blt pc 91 then _ else none) = none
    rw [show Nat.blt pc 91 = false from blt_no (by omega)]
    rfl
  rw [hz]
theorem cc42 (pc : Nat) : chkE 42 pc = true := by
  by_cases h13 : pc < 13
  · exact (show 0 + (pc - 0) = pc by omega) ▸ ck42_0 (pc - 0) (by omega)
  show (match code9 42 pc with
    | some (_, i, q, v, sw) => decide (decode (mB9 42) pc = .ok (i, q.headD 0)) && ((len9 i == 0 || q.headD 0 == len9 i) && chkI 42 pc i q v sw)
    | none => true) = true
  have hz : code9 42 pc = none := by
    show (bif Nat.blt pc 13 then _ else none) = none
    rw [show Nat.blt pc 13 = false from blt_no (by omega)]
    rfl
  rw [hz]
theorem cc43 (pc : Nat) : chkE 43 pc = true := by
  by_cases h36 : pc < 36
  · exact (show 0 + (pc - 0) = pc by omega) ▸ ck43_0 (pc - 0) (by omega)
  show (match code9 43 pc with
    | some (_, i, q, v, sw) => decide (decode (mB9 43) pc = .ok (i, q.headD 0)) && ((len9 i == 0 || q.headD 0 == len9 i) && chkI 43 pc i q v sw)
    | none => true) = true
  have hz : code9 43 pc = none := by
    show (bif Nat.blt pc 36 then _ else none) = none
    rw [show Nat.blt pc 36 = false from blt_no (by omega)]
    rfl
  rw [hz]
theorem cc44 (pc : Nat) : chkE 44 pc = true := by
  by_cases h13 : pc < 13
  · exact (show 0 + (pc - 0) = pc by omega) ▸ ck44_0 (pc - 0) (by omega)
  show (match code9 44 pc with
    | some (_, i, q, v, sw) => decide (decode (mB9 44) pc = .ok (i, q.headD 0)) && ((len9 i == 0 || q.headD 0 == len9 i) && chkI 44 pc i q v sw)
    | none => true) = true
  have hz : code9 44 pc = none := by
    show (bif Nat.blt pc 13 then _ else none) = none
    rw [show Nat.blt pc 13 = false from blt_no (by omega)]
    rfl
  rw [hz]
theorem cc45 (pc : Nat) : chkE 45 pc = true := by
  by_cases h124 : pc < 124
  · exact (show 0 + (pc - 0) = pc by omega) ▸ ck45_0 (pc - 0) (by omega)
  show (match code9 45 pc with
    | some (_, i, q, v, sw) => decide (decode (mB9 45) pc = .ok (i, q.headD 0)) && ((len9 i == 0 || q.headD 0 == len9 i) && chkI 45 pc i q v sw)
    | none => true) = true
  have hz : code9 45 pc = none := by
    show (bif Nat.blt pc 124 then _ else none) = none
    rw [show Nat.blt pc 124 = false from blt_no (by omega)]
    rfl
  rw [hz]
theorem cc46 (pc : Nat) : chkE 46 pc = true := by
  by_cases h56 : pc < 56
  · exact (show 0 + (pc - 0) = pc by omega) ▸ ck46_0 (pc - 0) (by omega)
  show (match code9 46 pc with
    | some (_, i, q, v, sw) => decide (decode (mB9 46) pc = .ok (i, q.headD 0)) && ((len9 i == 0 || q.headD 0 == len9 i) && chkI 46 pc i q v sw)
    | none => true) = true
  have hz : code9 46 pc = none := by
    show (bif Nat.blt pc 56 then _ else none) = none
    rw [show Nat.blt pc 56 = false from blt_no (by omega)]
    rfl
  rw [hz]
theorem cc47 (pc : Nat) : chkE 47 pc = true := by
  by_cases h113 : pc < 113
  · exact (show 0 + (pc - 0) = pc by omega) ▸ ck47_0 (pc - 0) (by omega)
  show (match code9 47 pc with
    | some (_, i, q, v, sw) => decide (decode (mB9 47) pc = .ok (i, q.headD 0)) && ((len9 i == 0 || q.headD 0 == len9 i) && chkI 47 pc i q v sw)
    | none => true) = true
  have hz : code9 47 pc = none := by
    show (bif Nat.blt pc 113 then _ else none) = none
    rw [show Nat.blt pc 113 = false from blt_no (by omega)]
    rfl
  rw [hz]
theorem cc48 (pc : Nat) : chkE 48 pc = true := by
  by_cases h99 : pc < 99
  · exact (show 0 + (pc - 0) = pc by omega) ▸ ck48_0 (pc - 0) (by omega)
  show (match code9 48 pc with
    | some (_, i, q, v, sw) => decide (decode (mB9 48) pc = .ok (i, q.headD 0)) && ((len9 i == 0 || q.headD 0 == len9 i) && chkI 48 pc i q v sw)
    | none => true) = true
  have hz : code9 48 pc = none := by
    show (bif Nat.blt pc 99 then _ else none) = none
    rw [show Nat.blt pc 99 = false from blt_no (by omega)]
    rfl
  rw [hz]
theorem cc49 (pc : Nat) : chkE 49 pc = true := by
  by_cases h63 : pc < 63
  · exact (show 0 + (pc - 0) = pc by omega) ▸ ck49_0 (pc - 0) (by omega)
  show (match code9 49 pc with
    | some (_, i, q, v, sw) => decide (decode (mB9 49) pc = .ok (i, q.headD 0)) && ((len9 i == 0 || q.headD 0 == len9 i) && chkI 49 pc i q v sw)
    | none => true) = true
  have hz : code9 49 pc = none := by
    show (bif Nat.blt pc 63 then _ else none) = none
    rw [show Nat.blt pc 63 = false from blt_no (by omega)]
    rfl
  rw [hz]
theorem cc50 (pc : Nat) : chkE 50 pc = true := by
  by_cases h31 : pc < 31
  · exact (show 0 + (pc - 0) = pc by omega) ▸ ck50_0 (pc - 0) (by omega)
  show (match code9 50 pc with
    | some (_, i, q, v, sw) => decide (decode (mB9 50) pc = .ok (i, q.headD 0)) && ((len9 i == 0 || q.headD 0 == len9 i) && chkI 50 pc i q v sw)
    | none => true) = true
  have hz : code9 50 pc = none := by
    show (bif Nat.blt pc 31 then _ else none) = none
    rw [show Nat.blt pc 31 = false from blt_no (by omega)]
    rfl
  rw [hz]
theorem cc51 (pc : Nat) : chkE 51 pc = true := by
  by_cases h38 : pc < 38
  · exact (show 0 + (pc - 0) = pc by omega) ▸ ck51_0 (pc - 0) (by omega)
  show (match code9 51 pc with
    | some (_, i, q, v, sw) => decide (decode (mB9 51) pc = .ok (i, q.headD 0)) && ((len9 i == 0 || q.headD 0 == len9 i) && chkI 51 pc i q v sw)
    | none => true) = true
  have hz : code9 51 pc = none := by
    show (bif Nat.blt pc 38 then _ else none) = none
    rw [show Nat.blt pc 38 = false from blt_no (by omega)]
    rfl
  rw [hz]
theorem cc52 (pc : Nat) : chkE 52 pc = true := by
  by_cases h18 : pc < 18
  · exact (show 0 + (pc - 0) = pc by omega) ▸ ck52_0 (pc - 0) (by omega)
  show (match code9 52 pc with
    | some (_, i, q, v, sw) => decide (decode (mB9 52) pc = .ok (i, q.headD 0)) && ((len9 i == 0 || q.headD 0 == len9 i) && chkI 52 pc i q v sw)
    | none => true) = true
  have hz : code9 52 pc = none := by
    show (bif Nat.blt pc 18 then _ else none) = none
    rw [show Nat.blt pc 18 = false from blt_no (by omega)]
    rfl
  rw [hz]
theorem cc53 (pc : Nat) : chkE 53 pc = true := by
  by_cases h30 : pc < 30
  · exact (show 0 + (pc - 0) = pc by omega) ▸ ck53_0 (pc - 0) (by omega)
  show (match code9 53 pc with
    | some (_, i, q, v, sw) => decide (decode (mB9 53) pc = .ok (i, q.headD 0)) && ((len9 i == 0 || q.headD 0 == len9 i) && chkI 53 pc i q v sw)
    | none => true) = true
  have hz : code9 53 pc = none := by
    show (bif Nat.blt pc 30 then _ else none) = none
    rw [show Nat.blt pc 30 = false from blt_no (by omega)]
    rfl
  rw [hz]
theorem cc54 (pc : Nat) : chkE 54 pc = true := by
  by_cases h38 : pc < 38
  · exact (show 0 + (pc - 0) = pc by omega) ▸ ck54_0 (pc - 0) (by omega)
  show (match code9 54 pc with
    | some (_, i, q, v, sw) => decide (decode (mB9 54) pc = .ok (i, q.headD 0)) && ((len9 i == 0 || q.headD 0 == len9 i) && chkI 54 pc i q v sw)
    | none => true) = true
  have hz : code9 54 pc = none := by
    show (bif Nat.blt pc 38 then _ else none) = none
    rw [show Nat.blt pc 38 = false from blt_no (by omega)]
    rfl
  rw [hz]
theorem cc55 (pc : Nat) : chkE 55 pc = true := by
  by_cases h18 : pc < 18
  · exact (show 0 + (pc - 0) = pc by omega) ▸ ck55_0 (pc - 0) (by omega)
  show (match code9 55 pc with
    | some (_, i, q, v, sw) => decide (decode (mB9 55) pc = .ok (i, q.headD 0)) && ((len9 i == 0 || q.headD 0 == len9 i) && chkI 55 pc i q v sw)
    | none => true) = true
  have hz : code9 55 pc = none := by
    show (bif Nat.blt pc 18 then _ else none) = none
    rw [show Nat.blt pc 18 = false from blt_no (by omega)]
    rfl
  rw [hz]
theorem cc56 (pc : Nat) : chkE 56 pc = true := by
  by_cases h18 : pc < 18
  · exact (show 0 + (pc - 0) = pc by omega) ▸ ck56_0 (pc - 0) (by omega)
  show (match code9 56 pc with
    | some (_, i, q, v, sw) => decide (decode (mB9 56) pc = .ok (i, q.headD 0)) && ((len9 i == 0 || q.headD 0 == len9 i) && chkI 56 pc i q v sw)
    | none => true) = true
  have hz : code9 56 pc = none := by
    show (bif Nat.blt pc 18 then _ else none) = none
    rw [show Nat.blt pc 18 = false from blt_no (by omega)]
    rfl
  rw [hz]
theorem cc57 (pc : Nat) : chkE 57 pc = true := by
  by_cases h18 : pc < 18
  · exact (show 0 + (pc - 0) = pc by omega) ▸ ck57_0 (pc - 0) (by omega)
  show (match code9 57 pc with
    | some (_, i, q, v, sw) => decide (decode (mB9 57) pc = .ok (i, q.headD 0)) && ((len9 i == 0 || q.headD 0 == len9 i) && chkI 57 pc i q v sw)
    | none => true) = true
  have hz : code9 57 pc = none := by
    show (bif Nat.blt pc 18 then _ else none) = none
    rw [show Nat.blt pc 18 = false from blt_no (by omega)]
    rfl
  rw [hz]
theorem cc58 (pc : Nat) : chkE 58 pc = true := by
  by_cases h9 : pc < 9
  · exact (show 0 + (pc - 0) = pc by omega) ▸ ck58_0 (pc - 0) (by omega)
  show (match code9 58 pc with
    | some (_, i, q, v, sw) => decide (decode (mB9 58) pc = .ok (i, q.headD 0)) && ((len9 i == 0 || q.headD 0 == len9 i) && chkI 58 pc i q v sw)
    | none => true) = true
  have hz : code9 58 pc = none := by
    show (bif Nat.blt pc 9 then _ else none) = none
    rw [show Nat.blt pc 9 = false from blt_no (by omega)]
    rfl
  rw [hz]
theorem cc59 (pc : Nat) : chkE 59 pc = true := by
  by_cases h11 : pc < 11
  · exact (show 0 + (pc - 0) = pc by omega) ▸ ck59_0 (pc - 0) (by omega)
  show (match code9 59 pc with
    | some (_, i, q, v, sw) => decide (decode (mB9 59) pc = .ok (i, q.headD 0)) && ((len9 i == 0 || q.headD 0 == len9 i) && chkI 59 pc i q v sw)
    | none => true) = true
  have hz : code9 59 pc = none := by
    show (bif Nat.blt pc 11 then _ else none) = none
    rw [show Nat.blt pc 11 = false from blt_no (by omega)]
    rfl
  rw [hz]
theorem cc60 (pc : Nat) : chkE 60 pc = true := by
  by_cases h209 : pc < 209
  · exact (show 0 + (pc - 0) = pc by omega) ▸ ck60_0 (pc - 0) (by omega)
  show (match code9 60 pc with
    | some (_, i, q, v, sw) => decide (decode (mB9 60) pc = .ok (i, q.headD 0)) && ((len9 i == 0 || q.headD 0 == len9 i) && chkI 60 pc i q v sw)
    | none => true) = true
  have hz : code9 60 pc = none := by
    show (bif Nat.blt pc 209 then _ else none) = none
    rw [show Nat.blt pc 209 = false from blt_no (by omega)]
    rfl
  rw [hz]
theorem cc61 (pc : Nat) : chkE 61 pc = true := by
  by_cases h52 : pc < 52
  · exact (show 0 + (pc - 0) = pc by omega) ▸ ck61_0 (pc - 0) (by omega)
  show (match code9 61 pc with
    | some (_, i, q, v, sw) => decide (decode (mB9 61) pc = .ok (i, q.headD 0)) && ((len9 i == 0 || q.headD 0 == len9 i) && chkI 61 pc i q v sw)
    | none => true) = true
  have hz : code9 61 pc = none := by
    show (bif Nat.blt pc 52 then _ else none) = none
    rw [show Nat.blt pc 52 = false from blt_no (by omega)]
    rfl
  rw [hz]
theorem cc62 (pc : Nat) : chkE 62 pc = true := by
  by_cases h108 : pc < 108
  · exact (show 0 + (pc - 0) = pc by omega) ▸ ck62_0 (pc - 0) (by omega)
  show (match code9 62 pc with
    | some (_, i, q, v, sw) => decide (decode (mB9 62) pc = .ok (i, q.headD 0)) && ((len9 i == 0 || q.headD 0 == len9 i) && chkI 62 pc i q v sw)
    | none => true) = true
  have hz : code9 62 pc = none := by
    show (bif Nat.blt pc 108 then _ else none) = none
    rw [show Nat.blt pc 108 = false from blt_no (by omega)]
    rfl
  rw [hz]
theorem cc63 (pc : Nat) : chkE 63 pc = true := by
  by_cases h210 : pc < 210
  · exact (show 0 + (pc - 0) = pc by omega) ▸ ck63_0 (pc - 0) (by omega)
  show (match code9 63 pc with
    | some (_, i, q, v, sw) => decide (decode (mB9 63) pc = .ok (i, q.headD 0)) && ((len9 i == 0 || q.headD 0 == len9 i) && chkI 63 pc i q v sw)
    | none => true) = true
  have hz : code9 63 pc = none := by
    show (bif Nat.blt pc 210 then _ else none) = none
    rw [show Nat.blt pc 210 = false from blt_no (by omega)]
    rfl
  rw [hz]
theorem cc64 (pc : Nat) : chkE 64 pc = true := by
  by_cases h31 : pc < 31
  · exact (show 0 + (pc - 0) = pc by omega) ▸ ck64_0 (pc - 0) (by omega)
  show (match code9 64 pc with
    | some (_, i, q, v, sw) => decide (decode (mB9 64) pc = .ok (i, q.headD 0)) && ((len9 i == 0 || q.headD 0 == len9 i) && chkI 64 pc i q v sw)
    | none => true) = true
  have hz : code9 64 pc = none := by
    show (bif Nat.blt pc 31 then _ else none) = none
    rw [show Nat.blt pc 31 = false from blt_no (by omega)]
    rfl
  rw [hz]
theorem cc65 (pc : Nat) : chkE 65 pc = true := by
  by_cases h47 : pc < 47
  · exact (show 0 + (pc - 0) = pc by omega) ▸ ck65_0 (pc - 0) (by omega)
  show (match code9 65 pc with
    | some (_, i, q, v, sw) => decide (decode (mB9 65) pc = .ok (i, q.headD 0)) && ((len9 i == 0 || q.headD 0 == len9 i) && chkI 65 pc i q v sw)
    | none => true) = true
  have hz : code9 65 pc = none := by
    show (bif Nat.blt pc 47 then _ else none) = none
    rw [show Nat.blt pc 47 = false from blt_no (by omega)]
    rfl
  rw [hz]
theorem cc66 (pc : Nat) : chkE 66 pc = true := by
  by_cases h11 : pc < 11
  · exact (show 0 + (pc - 0) = pc by omega) ▸ ck66_0 (pc - 0) (by omega)
  show (match code9 66 pc with
    | some (_, i, q, v, sw) => decide (decode (mB9 66) pc = .ok (i, q.headD 0)) && ((len9 i == 0 || q.headD 0 == len9 i) && chkI 66 pc i q v sw)
    | none => true) = true
  have hz : code9 66 pc = none := by
    show (bif Nat.blt pc 11 then _ else none) = none
    rw [show Nat.blt pc 11 = false from blt_no (by omega)]
    rfl
  rw [hz]
theorem cc67 (pc : Nat) : chkE 67 pc = true := by
  by_cases h44 : pc < 44
  · exact (show 0 + (pc - 0) = pc by omega) ▸ ck67_0 (pc - 0) (by omega)
  show (match code9 67 pc with
    | some (_, i, q, v, sw) => decide (decode (mB9 67) pc = .ok (i, q.headD 0)) && ((len9 i == 0 || q.headD 0 == len9 i) && chkI 67 pc i q v sw)
    | none => true) = true
  have hz : code9 67 pc = none := by
    show (bif Nat.blt pc 44 then _ else none) = none
    rw [show Nat.blt pc 44 = false from blt_no (by omega)]
    rfl
  rw [hz]
theorem cc68 (pc : Nat) : chkE 68 pc = true := by
  by_cases h64 : pc < 64
  · exact (show 0 + (pc - 0) = pc by omega) ▸ ck68_0 (pc - 0) (by omega)
  show (match code9 68 pc with
    | some (_, i, q, v, sw) => decide (decode (mB9 68) pc = .ok (i, q.headD 0)) && ((len9 i == 0 || q.headD 0 == len9 i) && chkI 68 pc i q v sw)
    | none => true) = true
  have hz : code9 68 pc = none := by
    show (bif Nat.blt pc 64 then _ else none) = none
    rw [show Nat.blt pc 64 = false from blt_no (by omega)]
    rfl
  rw [hz]
theorem cc69 (pc : Nat) : chkE 69 pc = true := by
  by_cases h64 : pc < 64
  · exact (show 0 + (pc - 0) = pc by omega) ▸ ck69_0 (pc - 0) (by omega)
  show (match code9 69 pc with
    | some (_, i, q, v, sw) => decide (decode (mB9 69) pc = .ok (i, q.headD 0)) && ((len9 i == 0 || q.headD 0 == len9 i) && chkI 69 pc i q v sw)
    | none => true) = true
  have hz : code9 69 pc = none := by
    show (bif Nat.blt pc 64 then _ else none) = none
    rw [show Nat.blt pc 64 = false from blt_no (by omega)]
    rfl
  rw [hz]
theorem cc70 (pc : Nat) : chkE 70 pc = true := by
  by_cases h157 : pc < 157
  · exact (show 0 + (pc - 0) = pc by omega) ▸ ck70_0 (pc - 0) (by omega)
  show (match code9 70 pc with
    | some (_, i, q, v, sw) => decide (decode (mB9 70) pc = .ok (i, q.headD 0)) && ((len9 i == 0 || q.headD 0 == len9 i) && chkI 70 pc i q v sw)
    | none => true) = true
  have hz : code9 70 pc = none := by
    show (bif Nat.blt pc 157 then _ else none) = none
    rw [show Nat.blt pc 157 = false from blt_no (by omega)]
    rfl
  rw [hz]
theorem cc71 (pc : Nat) : chkE 71 pc = true := by
  by_cases h46 : pc < 46
  · exact (show 0 + (pc - 0) = pc by omega) ▸ ck71_0 (pc - 0) (by omega)
  show (match code9 71 pc with
    | some (_, i, q, v, sw) => decide (decode (mB9 71) pc = .ok (i, q.headD 0)) && ((len9 i == 0 || q.headD 0 == len9 i) && chkI 71 pc i q v sw)
    | none => true) = true
  have hz : code9 71 pc = none := by
    show (bif Nat.blt pc 46 then _ else none) = none
    rw [show Nat.blt pc 46 = false from blt_no (by omega)]
    rfl
  rw [hz]
theorem cc72 (pc : Nat) : chkE 72 pc = true := by
  by_cases h50 : pc < 50
  · exact (show 0 + (pc - 0) = pc by omega) ▸ ck72_0 (pc - 0) (by omega)
  show (match code9 72 pc with
    | some (_, i, q, v, sw) => decide (decode (mB9 72) pc = .ok (i, q.headD 0)) && ((len9 i == 0 || q.headD 0 == len9 i) && chkI 72 pc i q v sw)
    | none => true) = true
  have hz : code9 72 pc = none := by
    show (bif Nat.blt pc 50 then _ else none) = none
    rw [show Nat.blt pc 50 = false from blt_no (by omega)]
    rfl
  rw [hz]
theorem cc73 (pc : Nat) : chkE 73 pc = true := by
  by_cases h46 : pc < 46
  · exact (show 0 + (pc - 0) = pc by omega) ▸ ck73_0 (pc - 0) (by omega)
  show (match code9 73 pc with
    | some (_, i, q, v, sw) => decide (decode (mB9 73) pc = .ok (i, q.headD 0)) && ((len9 i == 0 || q.headD 0 == len9 i) && chkI 73 pc i q v sw)
    | none => true) = true
  have hz : code9 73 pc = none := by
    show (bif Nat.blt pc 46 then _ else none) = none
    rw [show Nat.blt pc 46 = false from blt_no (by omega)]
    rfl
  rw [hz]
theorem cc74 (pc : Nat) : chkE 74 pc = true := by
  by_cases h47 : pc < 47
  · exact (show 0 + (pc - 0) = pc by omega) ▸ ck74_0 (pc - 0) (by omega)
  show (match code9 74 pc with
    | some (_, i, q, v, sw) => decide (decode (mB9 74) pc = .ok (i, q.headD 0)) && ((len9 i == 0 || q.headD 0 == len9 i) && chkI 74 pc i q v sw)
    | none => true) = true
  have hz : code9 74 pc = none := by
    show (bif Nat.blt pc 47 then _ else none) = none
    rw [show Nat.blt pc 47 = false from blt_no (by omega)]
    rfl
  rw [hz]
theorem cc75 (pc : Nat) : chkE 75 pc = true := by
  by_cases h194 : pc < 194
  · exact (show 0 + (pc - 0) = pc by omega) ▸ ck75_0 (pc - 0) (by omega)
  show (match code9 75 pc with
    | some (_, i, q, v, sw) => decide (decode (mB9 75) pc = .ok (i, q.headD 0)) && ((len9 i == 0 || q.headD 0 == len9 i) && chkI 75 pc i q v sw)
    | none => true) = true
  have hz : code9 75 pc = none := by
    show (bif Nat.blt pc 194 then _ else none) = none
    rw [show Nat.blt pc 194 = false from blt_no (by omega)]
    rfl
  rw [hz]
theorem cc76 (pc : Nat) : chkE 76 pc = true := by
  by_cases h45 : pc < 45
  · exact (show 0 + (pc - 0) = pc by omega) ▸ ck76_0 (pc - 0) (by omega)
  show (match code9 76 pc with
    | some (_, i, q, v, sw) => decide (decode (mB9 76) pc = .ok (i, q.headD 0)) && ((len9 i == 0 || q.headD 0 == len9 i) && chkI 76 pc i q v sw)
    | none => true) = true
  have hz : code9 76 pc = none := by
    show (bif Nat.blt pc 45 then _ else none) = none
    rw [show Nat.blt pc 45 = false from blt_no (by omega)]
    rfl
  rw [hz]
theorem cc77 (pc : Nat) : chkE 77 pc = true := by
  by_cases h270 : pc < 270
  · exact (show 0 + (pc - 0) = pc by omega) ▸ ck77_0 (pc - 0) (by omega)
  show (match code9 77 pc with
    | some (_, i, q, v, sw) => decide (decode (mB9 77) pc = .ok (i, q.headD 0)) && ((len9 i == 0 || q.headD 0 == len9 i) && chkI 77 pc i q v sw)
    | none => true) = true
  have hz : code9 77 pc = none := by
    show (bif Nat.blt pc 270 then _ else none) = none
    rw [show Nat.blt pc 270 = false from blt_no (by omega)]
    rfl
  rw [hz]
theorem cc78 (pc : Nat) : chkE 78 pc = true := by
  by_cases h72 : pc < 72
  · exact (show 0 + (pc - 0) = pc by omega) ▸ ck78_0 (pc - 0) (by omega)
  show (match code9 78 pc with
    | some (_, i, q, v, sw) => decide (decode (mB9 78) pc = .ok (i, q.headD 0)) && ((len9 i == 0 || q.headD 0 == len9 i) && chkI 78 pc i q v sw)
    | none => true) = true
  have hz : code9 78 pc = none := by
    show (bif Nat.blt pc 72 then _ else none) = none
    rw [show Nat.blt pc 72 = false from blt_no (by omega)]
    rfl
  rw [hz]
theorem cc79 (pc : Nat) : chkE 79 pc = true := by
  by_cases h71 : pc < 71
  · exact (show 0 + (pc - 0) = pc by omega) ▸ ck79_0 (pc - 0) (by omega)
  show (match code9 79 pc with
    | some (_, i, q, v, sw) => decide (decode (mB9 79) pc = .ok (i, q.headD 0)) && ((len9 i == 0 || q.headD 0 == len9 i) && chkI 79 pc i q v sw)
    | none => true) = true
  have hz : code9 79 pc = none := by
    show (bif Nat.blt pc 71 then _ else none) = none
    rw [show Nat.blt pc 71 = false from blt_no (by omega)]
    rfl
  rw [hz]
theorem cc80 (pc : Nat) : chkE 80 pc = true := by
  by_cases h87 : pc < 87
  · exact (show 0 + (pc - 0) = pc by omega) ▸ ck80_0 (pc - 0) (by omega)
  show (match code9 80 pc with
    | some (_, i, q, v, sw) => decide (decode (mB9 80) pc = .ok (i, q.headD 0)) && ((len9 i == 0 || q.headD 0 == len9 i) && chkI 80 pc i q v sw)
    | none => true) = true
  have hz : code9 80 pc = none := by
    show (bif Nat.blt pc 87 then _ else none) = none
    rw [show Nat.blt pc 87 = false from blt_no (by omega)]
    rfl
  rw [hz]
theorem cc81 (pc : Nat) : chkE 81 pc = true := by
  by_cases h111 : pc < 111
  · exact (show 0 + (pc - 0) = pc by omega) ▸ ck81_0 (pc - 0) (by omega)
  show (match code9 81 pc with
    | some (_, i, q, v, sw) => decide (decode (mB9 81) pc = .ok (i, q.headD 0)) && ((len9 i == 0 || q.headD 0 == len9 i) && chkI 81 pc i q v sw)
    | none => true) = true
  have hz : code9 81 pc = none := by
    show (bif Nat.blt pc 111 then _ else none) = none
    rw [show Nat.blt pc 111 = false from blt_no (by omega)]
    rfl
  rw [hz]
theorem cc82 (pc : Nat) : chkE 82 pc = true := by
  by_cases h51 : pc < 51
  · exact (show 0 + (pc - 0) = pc by omega) ▸ ck82_0 (pc - 0) (by omega)
  show (match code9 82 pc with
    | some (_, i, q, v, sw) => decide (decode (mB9 82) pc = .ok (i, q.headD 0)) && ((len9 i == 0 || q.headD 0 == len9 i) && chkI 82 pc i q v sw)
    | none => true) = true
  have hz : code9 82 pc = none := by
    show (bif Nat.blt pc 51 then _ else none) = none
    rw [show Nat.blt pc 51 = false from blt_no (by omega)]
    rfl
  rw [hz]
theorem cc83 (pc : Nat) : chkE 83 pc = true := by
  by_cases h65 : pc < 65
  · exact (show 0 + (pc - 0) = pc by omega) ▸ ck83_0 (pc - 0) (by omega)
  show (match code9 83 pc with
    | some (_, i, q, v, sw) => decide (decode (mB9 83) pc = .ok (i, q.headD 0)) && ((len9 i == 0 || q.headD 0 == len9 i) && chkI 83 pc i q v sw)
    | none => true) = true
  have hz : code9 83 pc = none := by
    show (bif Nat.blt pc 65 then _ else none) = none
    rw [show Nat.blt pc 65 = false from blt_no (by omega)]
    rfl
  rw [hz]
theorem cc84 (pc : Nat) : chkE 84 pc = true := by
  by_cases h102 : pc < 102
  · exact (show 0 + (pc - 0) = pc by omega) ▸ ck84_0 (pc - 0) (by omega)
  show (match code9 84 pc with
    | some (_, i, q, v, sw) => decide (decode (mB9 84) pc = .ok (i, q.headD 0)) && ((len9 i == 0 || q.headD 0 == len9 i) && chkI 84 pc i q v sw)
    | none => true) = true
  have hz : code9 84 pc = none := by
    show (bif Nat.blt pc 102 then _ else none) = none
    rw [show Nat.blt pc 102 = false from blt_no (by omega)]
    rfl
  rw [hz]
theorem cc85 (pc : Nat) : chkE 85 pc = true := by
  by_cases h34 : pc < 34
  · exact (show 0 + (pc - 0) = pc by omega) ▸ ck85_0 (pc - 0) (by omega)
  show (match code9 85 pc with
    | some (_, i, q, v, sw) => decide (decode (mB9 85) pc = .ok (i, q.headD 0)) && ((len9 i == 0 || q.headD 0 == len9 i) && chkI 85 pc i q v sw)
    | none => true) = true
  have hz : code9 85 pc = none := by
    show (bif Nat.blt pc 34 then _ else none) = none
    rw [show Nat.blt pc 34 = false from blt_no (by omega)]
    rfl
  rw [hz]
theorem cc86 (pc : Nat) : chkE 86 pc = true := by
  by_cases h40 : pc < 40
  · exact (show 0 + (pc - 0) = pc by omega) ▸ ck86_0 (pc - 0) (by omega)
  show (match code9 86 pc with
    | some (_, i, q, v, sw) => decide (decode (mB9 86) pc = .ok (i, q.headD 0)) && ((len9 i == 0 || q.headD 0 == len9 i) && chkI 86 pc i q v sw)
    | none => true) = true
  have hz : code9 86 pc = none := by
    show (bif Nat.blt pc 40 then _ else none) = none
    rw [show Nat.blt pc 40 = false from blt_no (by omega)]
    rfl
  rw [hz]
theorem cc87 (pc : Nat) : chkE 87 pc = true := by
  by_cases h24 : pc < 24
  · exact (show 0 + (pc - 0) = pc by omega) ▸ ck87_0 (pc - 0) (by omega)
  show (match code9 87 pc with
    | some (_, i, q, v, sw) => decide (decode (mB9 87) pc = .ok (i, q.headD 0)) && ((len9 i == 0 || q.headD 0 == len9 i) && chkI 87 pc i q v sw)
    | none => true) = true
  have hz : code9 87 pc = none := by
    show (bif Nat.blt pc 24 then _ else none) = none
    rw [show Nat.blt pc 24 = false from blt_no (by omega)]
    rfl
  rw [hz]
theorem cc88 (pc : Nat) : chkE 88 pc = true := by
  by_cases h11 : pc < 11
  · exact (show 0 + (pc - 0) = pc by omega) ▸ ck88_0 (pc - 0) (by omega)
  show (match code9 88 pc with
    | some (_, i, q, v, sw) => decide (decode (mB9 88) pc = .ok (i, q.headD 0)) && ((len9 i == 0 || q.headD 0 == len9 i) && chkI 88 pc i q v sw)
    | none => true) = true
  have hz : code9 88 pc = none := by
    show (bif Nat.blt pc 11 then _ else none) = none
    rw [show Nat.blt pc 11 = false from blt_no (by omega)]
    rfl
  rw [hz]
theorem cc89 (pc : Nat) : chkE 89 pc = true := by
  by_cases h179 : pc < 179
  · exact (show 0 + (pc - 0) = pc by omega) ▸ ck89_0 (pc - 0) (by omega)
  show (match code9 89 pc with
    | some (_, i, q, v, sw) => decide (decode (mB9 89) pc = .ok (i, q.headD 0)) && ((len9 i == 0 || q.headD 0 == len9 i) && chkI 89 pc i q v sw)
    | none => true) = true
  have hz : code9 89 pc = none := by
    show (bif Nat.blt pc 179 then _ else none) = none
    rw [show Nat.blt pc 179 = false from blt_no (by omega)]
    rfl
  rw [hz]
theorem cc90 (pc : Nat) : chkE 90 pc = true := by
  by_cases h166 : pc < 166
  · exact (show 0 + (pc - 0) = pc by omega) ▸ ck90_0 (pc - 0) (by omega)
  show (match code9 90 pc with
    | some (_, i, q, v, sw) => decide (decode (mB9 90) pc = .ok (i, q.headD 0)) && ((len9 i == 0 || q.headD 0 == len9 i) && chkI 90 pc i q v sw)
    | none => true) = true
  have hz : code9 90 pc = none := by
    show (bif Nat.blt pc 166 then _ else none) = none
    rw [show Nat.blt pc 166 = false from blt_no (by omega)]
    rfl
  rw [hz]
theorem cc91 (pc : Nat) : chkE 91 pc = true := by
  by_cases h16 : pc < 16
  · exact (show 0 + (pc - 0) = pc by omega) ▸ ck91_0 (pc - 0) (by omega)
  show (match code9 91 pc with
    | some (_, i, q, v, sw) => decide (decode (mB9 91) pc = .ok (i, q.headD 0)) && ((len9 i == 0 || q.headD 0 == len9 i) && chkI 91 pc i q v sw)
    | none => true) = true
  have hz : code9 91 pc = none := by
    show (bif Nat.blt pc 16 then _ else none) = none
    rw [show Nat.blt pc 16 = false from blt_no (by omega)]
    rfl
  rw [hz]
theorem cc92 (pc : Nat) : chkE 92 pc = true := by
  by_cases h40 : pc < 40
  · exact (show 0 + (pc - 0) = pc by omega) ▸ ck92_0 (pc - 0) (by omega)
  show (match code9 92 pc with
    | some (_, i, q, v, sw) => decide (decode (mB9 92) pc = .ok (i, q.headD 0)) && ((len9 i == 0 || q.headD 0 == len9 i) && chkI 92 pc i q v sw)
    | none => true) = true
  have hz : code9 92 pc = none := by
    show (bif Nat.blt pc 40 then _ else none) = none
    rw [show Nat.blt pc 40 = false from blt_no (by omega)]
    rfl
  rw [hz]
theorem cc93 (pc : Nat) : chkE 93 pc = true := by
  by_cases h29 : pc < 29
  · exact (show 0 + (pc - 0) = pc by omega) ▸ ck93_0 (pc - 0) (by omega)
  show (match code9 93 pc with
    | some (_, i, q, v, sw) => decide (decode (mB9 93) pc = .ok (i, q.headD 0)) && ((len9 i == 0 || q.headD 0 == len9 i) && chkI 93 pc i q v sw)
    | none => true) = true
  have hz : code9 93 pc = none := by
    show (bif Nat.blt pc 29 then _ else none) = none
    rw [show Nat.blt pc 29 = false from blt_no (by omega)]
    rfl
  rw [hz]
theorem cc94 (pc : Nat) : chkE 94 pc = true := by
  by_cases h28 : pc < 28
  · exact (show 0 + (pc - 0) = pc by omega) ▸ ck94_0 (pc - 0) (by omega)
  show (match code9 94 pc with
    | some (_, i, q, v, sw) => decide (decode (mB9 94) pc = .ok (i, q.headD 0)) && ((len9 i == 0 || q.headD 0 == len9 i) && chkI 94 pc i q v sw)
    | none => true) = true
  have hz : code9 94 pc = none := by
    show (bif Nat.blt pc 28 then _ else none) = none
    rw [show Nat.blt pc 28 = false from blt_no (by omega)]
    rfl
  rw [hz]
theorem cc95 (pc : Nat) : chkE 95 pc = true := by
  by_cases h91 : pc < 91
  · exact (show 0 + (pc - 0) = pc by omega) ▸ ck95_0 (pc - 0) (by omega)
  show (match code9 95 pc with
    | some (_, i, q, v, sw) => decide (decode (mB9 95) pc = .ok (i, q.headD 0)) && ((len9 i == 0 || q.headD 0 == len9 i) && chkI 95 pc i q v sw)
    | none => true) = true
  have hz : code9 95 pc = none := by
    show (bif Nat.blt pc 91 then _ else none) = none
    rw [show Nat.blt pc 91 = false from blt_no (by omega)]
    rfl
  rw [hz]
theorem cc96 (pc : Nat) : chkE 96 pc = true := by
  by_cases h105 : pc < 105
  · exact (show 0 + (pc - 0) = pc by omega) ▸ ck96_0 (pc - 0) (by omega)
  show (match code9 96 pc with
    | some (_, i, q, v, sw) => decide (decode (mB9 96) pc = .ok (i, q.headD 0)) && ((len9 i == 0 || q.headD 0 == len9 i) && chkI 96 pc i q v sw)
    | none => true) = true
  have hz : code9 96 pc = none := by
    show (bif Nat.blt pc 105 then _ else none) = none
    rw [show Nat.blt pc 105 = false from blt_no (by omega)]
    rfl
  rw [hz]
theorem cc97 (pc : Nat) : chkE 97 pc = true := by
  by_cases h39 : pc < 39
  · exact (show 0 + (pc - 0) = pc by omega) ▸ ck97_0 (pc - 0) (by omega)
  show (match code9 97 pc with
    | some (_, i, q, v, sw) => decide (decode (mB9 97) pc = .ok (i, q.headD 0)) && ((len9 i == 0 || q.headD 0 == len9 i) && chkI 97 pc i q v sw)
    | none => true) = true
  have hz : code9 97 pc = none := by
    show (bif Nat.blt pc 39 then _ else none) = none
    rw [show Nat.blt pc 39 = false from blt_no (by omega)]
    rfl
  rw [hz]
theorem cc98 (pc : Nat) : chkE 98 pc = true := by
  by_cases h119 : pc < 119
  · exact (show 0 + (pc - 0) = pc by omega) ▸ ck98_0 (pc - 0) (by omega)
  show (match code9 98 pc with
    | some (_, i, q, v, sw) => decide (decode (mB9 98) pc = .ok (i, q.headD 0)) && ((len9 i == 0 || q.headD 0 == len9 i) && chkI 98 pc i q v sw)
    | none => true) = true
  have hz : code9 98 pc = none := by
    show (bif Nat.blt pc 119 then _ else none) = none
    rw [show Nat.blt pc 119 = false from blt_no (by omega)]
    rfl
  rw [hz]
theorem cc99 (pc : Nat) : chkE 99 pc = true := by
  by_cases h100 : pc < 100
  · exact (show 0 + (pc - 0) = pc by omega) ▸ ck99_0 (pc - 0) (by omega)
  show (match code9 99 pc with
    | some (_, i, q, v, sw) => decide (decode (mB9 99) pc = .ok (i, q.headD 0)) && ((len9 i == 0 || q.headD 0 == len9 i) && chkI 99 pc i q v sw)
    | none => true) = true
  have hz : code9 99 pc = none := by
    show (bif Nat.blt pc 100 then _ else none) = none
    rw [show Nat.blt pc 100 = false from blt_no (by omega)]
    rfl
  rw [hz]
theorem cc100 (pc : Nat) : chkE 100 pc = true := by
  by_cases h49 : pc < 49
  · exact (show 0 + (pc - 0) = pc by omega) ▸ ck100_0 (pc - 0) (by omega)
  show (match code9 100 pc with
    | some (_, i, q, v, sw) => decide (decode (mB9 100) pc = .ok (i, q.headD 0)) && ((len9 i == 0 || q.headD 0 == len9 i) && chkI 100 pc i q v sw)
    | none => true) = true
  have hz : code9 100 pc = none := by
    show (bif Nat.blt pc 49 then _ else none) = none
    rw [show Nat.blt pc 49 = false from blt_no (by omega)]
    rfl
  rw [hz]
theorem cc101 (pc : Nat) : chkE 101 pc = true := by
  by_cases h41 : pc < 41
  · exact (show 0 + (pc - 0) = pc by omega) ▸ ck101_0 (pc - 0) (by omega)
  show (match code9 101 pc with
    | some (_, i, q, v, sw) => decide (decode (mB9 101) pc = .ok (i, q.headD 0)) && ((len9 i == 0 || q.headD 0 == len9 i) && chkI 101 pc i q v sw)
    | none => true) = true
  have hz : code9 101 pc = none := by
    show (bif Nat.blt pc 41 then _ else none) = none
    rw [show Nat.blt pc 41 = false from blt_no (by omega)]
    rfl
  rw [hz]
theorem cc102 (pc : Nat) : chkE 102 pc = true := by
  by_cases h171 : pc < 171
  · exact (show 0 + (pc - 0) = pc by omega) ▸ ck102_0 (pc - 0) (by omega)
  show (match code9 102 pc with
    | some (_, i, q, v, sw) => decide (decode (mB9 102) pc = .ok (i, q.headD 0)) && ((len9 i == 0 || q.headD 0 == len9 i) && chkI 102 pc i q v sw)
    | none => true) = true
  have hz : code9 102 pc = none := by
    show (bif Nat.blt pc 171 then _ else none) = none
    rw [show Nat.blt pc 171 = false from blt_no (by omega)]
    rfl
  rw [hz]
theorem cc103 (pc : Nat) : chkE 103 pc = true := by
  by_cases h14 : pc < 14
  · exact (show 0 + (pc - 0) = pc by omega) ▸ ck103_0 (pc - 0) (by omega)
  show (match code9 103 pc with
    | some (_, i, q, v, sw) => decide (decode (mB9 103) pc = .ok (i, q.headD 0)) && ((len9 i == 0 || q.headD 0 == len9 i) && chkI 103 pc i q v sw)
    | none => true) = true
  have hz : code9 103 pc = none := by
    show (bif Nat.blt pc 14 then _ else none) = none
    rw [show Nat.blt pc 14 = false from blt_no (by omega)]
    rfl
  rw [hz]
theorem cc104 (pc : Nat) : chkE 104 pc = true := by
  by_cases h49 : pc < 49
  · exact (show 0 + (pc - 0) = pc by omega) ▸ ck104_0 (pc - 0) (by omega)
  show (match code9 104 pc with
    | some (_, i, q, v, sw) => decide (decode (mB9 104) pc = .ok (i, q.headD 0)) && ((len9 i == 0 || q.headD 0 == len9 i) && chkI 104 pc i q v sw)
    | none => true) = true
  have hz : code9 104 pc = none := by
    show (bif Nat.blt pc 49 then _ else none) = none
    rw [show Nat.blt pc 49 = false from blt_no (by omega)]
    rfl
  rw [hz]
theorem cc105 (pc : Nat) : chkE 105 pc = true := by
  by_cases h120 : pc < 120
  · exact (show 0 + (pc - 0) = pc by omega) ▸ ck105_0 (pc - 0) (by omega)
  show (match code9 105 pc with
    | some (_, i, q, v, sw) => decide (decode (mB9 105) pc = .ok (i, q.headD 0)) && ((len9 i == 0 || q.headD 0 == len9 i) && chkI 105 pc i q v sw)
    | none => true) = true
  have hz : code9 105 pc = none := by
    show (bif Nat.blt pc 120 then _ else none) = none
    rw [show Nat.blt pc 120 = false from blt_no (by omega)]
    rfl
  rw [hz]
theorem cc106 (pc : Nat) : chkE 106 pc = true := by
  by_cases h53 : pc < 53
  · exact (show 0 + (pc - 0) = pc by omega) ▸ ck106_0 (pc - 0) (by omega)
  show (match code9 106 pc with
    | some (_, i, q, v, sw) => decide (decode (mB9 106) pc = .ok (i, q.headD 0)) && ((len9 i == 0 || q.headD 0 == len9 i) && chkI 106 pc i q v sw)
    | none => true) = true
  have hz : code9 106 pc = none := by
    show (bif Nat.blt pc 53 then _ else none) = none
    rw [show Nat.blt pc 53 = false from blt_no (by omega)]
    rfl
  rw [hz]
theorem cc107 (pc : Nat) : chkE 107 pc = true := by
  by_cases h54 : pc < 54
  · exact (show 0 + (pc - 0) = pc by omega) ▸ ck107_0 (pc - 0) (by omega)
  show (match code9 107 pc with
    | some (_, i, q, v, sw) => decide (decode (mB9 107) pc = .ok (i, q.headD 0)) && ((len9 i == 0 || q.headD 0 == len9 i) && chkI 107 pc i q v sw)
    | none => true) = true
  have hz : code9 107 pc = none := by
    show (bif Nat.blt pc 54 then _ else none) = none
    rw [show Nat.blt pc 54 = false from blt_no (by omega)]
    rfl
  rw [hz]
theorem cc108 (pc : Nat) : chkE 108 pc = true := by
  by_cases h25 : pc < 25
  · exact (show 0 + (pc - 0) = pc by omega) ▸ ck108_0 (pc - 0) (by omega)
  show (match code9 108 pc with
    | some (_, i, q, v, sw) => decide (decode (mB9 108) pc = .ok (i, q.headD 0)) && ((len9 i == 0 || q.headD 0 == len9 i) && chkI 108 pc i q v sw)
    | none => true) = true
  have hz : code9 108 pc = none := by
    show (bif Nat.blt pc 25 then _ else none) = none
    rw [show Nat.blt pc 25 = false from blt_no (by omega)]
    rfl
  rw [hz]
theorem cc109 (pc : Nat) : chkE 109 pc = true := by
  by_cases h18 : pc < 18
  · exact (show 0 + (pc - 0) = pc by omega) ▸ ck109_0 (pc - 0) (by omega)
  show (match code9 109 pc with
    | some (_, i, q, v, sw) => decide (decode (mB9 109) pc = .ok (i, q.headD 0)) && ((len9 i == 0 || q.headD 0 == len9 i) && chkI 109 pc i q v sw)
    | none => true) = true
  have hz : code9 109 pc = none := by
    show (bif Nat.blt pc 18 then _ else none) = none
    rw [show Nat.blt pc 18 = false from blt_no (by omega)]
    rfl
  rw [hz]
theorem cc110 (pc : Nat) : chkE 110 pc = true := by
  by_cases h206 : pc < 206
  · exact (show 0 + (pc - 0) = pc by omega) ▸ ck110_0 (pc - 0) (by omega)
  show (match code9 110 pc with
    | some (_, i, q, v, sw) => decide (decode (mB9 110) pc = .ok (i, q.headD 0)) && ((len9 i == 0 || q.headD 0 == len9 i) && chkI 110 pc i q v sw)
    | none => true) = true
  have hz : code9 110 pc = none := by
    show (bif Nat.blt pc 206 then _ else none) = none
    rw [show Nat.blt pc 206 = false from blt_no (by omega)]
    rfl
  rw [hz]
theorem cc111 (pc : Nat) : chkE 111 pc = true := by
  by_cases h29 : pc < 29
  · exact (show 0 + (pc - 0) = pc by omega) ▸ ck111_0 (pc - 0) (by omega)
  show (match code9 111 pc with
    | some (_, i, q, v, sw) => decide (decode (mB9 111) pc = .ok (i, q.headD 0)) && ((len9 i == 0 || q.headD 0 == len9 i) && chkI 111 pc i q v sw)
    | none => true) = true
  have hz : code9 111 pc = none := by
    show (bif Nat.blt pc 29 then _ else none) = none
    rw [show Nat.blt pc 29 = false from blt_no (by omega)]
    rfl
  rw [hz]
theorem cc112 (pc : Nat) : chkE 112 pc = true := by
  by_cases h31 : pc < 31
  · exact (show 0 + (pc - 0) = pc by omega) ▸ ck112_0 (pc - 0) (by omega)
  show (match code9 112 pc with
    | some (_, i, q, v, sw) => decide (decode (mB9 112) pc = .ok (i, q.headD 0)) && ((len9 i == 0 || q.headD 0 == len9 i) && chkI 112 pc i q v sw)
    | none => true) = true
  have hz : code9 112 pc = none := by
    show (bif Nat.blt pc 31 then _ else none) = none
    rw [show Nat.blt pc 31 = false from blt_no (by omega)]
    rfl
  rw [hz]
theorem cc113 (pc : Nat) : chkE 113 pc = true := by
  by_cases h24 : pc < 24
  · exact (show 0 + (pc - 0) = pc by omega) ▸ ck113_0 (pc - 0) (by omega)
  show (match code9 113 pc with
    | some (_, i, q, v, sw) => decide (decode (mB9 113) pc = .ok (i, q.headD 0)) && ((len9 i == 0 || q.headD 0 == len9 i) && chkI 113 pc i q v sw)
    | none => true) = true
  have hz : code9 113 pc = none := by
    show (bif Nat.blt pc 24 then _ else none) = none
    rw [show Nat.blt pc 24 = false from blt_no (by omega)]
    rfl
  rw [hz]
theorem cc114 (pc : Nat) : chkE 114 pc = true := by
  by_cases h82 : pc < 82
  · exact (show 0 + (pc - 0) = pc by omega) ▸ ck114_0 (pc - 0) (by omega)
  show (match code9 114 pc with
    | some (_, i, q, v, sw) => decide (decode (mB9 114) pc = .ok (i, q.headD 0)) && ((len9 i == 0 || q.headD 0 == len9 i) && chkI 114 pc i q v sw)
    | none => true) = true
  have hz : code9 114 pc = none := by
    show (bif Nat.blt pc 82 then _ else none) = none
    rw [show Nat.blt pc 82 = false from blt_no (by omega)]
    rfl
  rw [hz]
theorem cc115 (pc : Nat) : chkE 115 pc = true := by
  by_cases h24 : pc < 24
  · exact (show 0 + (pc - 0) = pc by omega) ▸ ck115_0 (pc - 0) (by omega)
  show (match code9 115 pc with
    | some (_, i, q, v, sw) => decide (decode (mB9 115) pc = .ok (i, q.headD 0)) && ((len9 i == 0 || q.headD 0 == len9 i) && chkI 115 pc i q v sw)
    | none => true) = true
  have hz : code9 115 pc = none := by
    show (bif Nat.blt pc 24 then _ else none) = none
    rw [show Nat.blt pc 24 = false from blt_no (by omega)]
    rfl
  rw [hz]
theorem cc116 (pc : Nat) : chkE 116 pc = true := by
  by_cases h15 : pc < 15
  · exact (show 0 + (pc - 0) = pc by omega) ▸ ck116_0 (pc - 0) (by omega)
  show (match code9 116 pc with
    | some (_, i, q, v, sw) => decide (decode (mB9 116) pc = .ok (i, q.headD 0)) && ((len9 i == 0 || q.headD 0 == len9 i) && chkI 116 pc i q v sw)
    | none => true) = true
  have hz : code9 116 pc = none := by
    show (bif Nat.blt pc 15 then _ else none) = none
    rw [show Nat.blt pc 15 = false from blt_no (by omega)]
    rfl
  rw [hz]
theorem cc117 (pc : Nat) : chkE 117 pc = true := by
  by_cases h55 : pc < 55
  · exact (show 0 + (pc - 0) = pc by omega) ▸ ck117_0 (pc - 0) (by omega)
  show (match code9 117 pc with
    | some (_, i, q, v, sw) => decide (decode (mB9 117) pc = .ok (i, q.headD 0)) && ((len9 i == 0 || q.headD 0 == len9 i) && chkI 117 pc i q v sw)
    | none => true) = true
  have hz : code9 117 pc = none := by
    show (bif Nat.blt pc 55 then _ else none) = none
    rw [show Nat.blt pc 55 = false from blt_no (by omega)]
    rfl
  rw [hz]
theorem cc118 (pc : Nat) : chkE 118 pc = true := by
  by_cases h14 : pc < 14
  · exact (show 0 + (pc - 0) = pc by omega) ▸ ck118_0 (pc - 0) (by omega)
  show (match code9 118 pc with
    | some (_, i, q, v, sw) => decide (decode (mB9 118) pc = .ok (i, q.headD 0)) && ((len9 i == 0 || q.headD 0 == len9 i) && chkI 118 pc i q v sw)
    | none => true) = true
  have hz : code9 118 pc = none := by
    show (bif Nat.blt pc 14 then _ else none) = none
    rw [show Nat.blt pc 14 = false from blt_no (by omega)]
    rfl
  rw [hz]
theorem cc119 (pc : Nat) : chkE 119 pc = true := by
  by_cases h31 : pc < 31
  · exact (show 0 + (pc - 0) = pc by omega) ▸ ck119_0 (pc - 0) (by omega)
  show (match code9 119 pc with
    | some (_, i, q, v, sw) => decide (decode (mB9 119) pc = .ok (i, q.headD 0)) && ((len9 i == 0 || q.headD 0 == len9 i) && chkI 119 pc i q v sw)
    | none => true) = true
  have hz : code9 119 pc = none := by
    show (bif Nat.blt pc 31 then _ else none) = none
    rw [show Nat.blt pc 31 = false from blt_no (by omega)]
    rfl
  rw [hz]
theorem cc120 (pc : Nat) : chkE 120 pc = true := by
  by_cases h20 : pc < 20
  · exact (show 0 + (pc - 0) = pc by omega) ▸ ck120_0 (pc - 0) (by omega)
  show (match code9 120 pc with
    | some (_, i, q, v, sw) => decide (decode (mB9 120) pc = .ok (i, q.headD 0)) && ((len9 i == 0 || q.headD 0 == len9 i) && chkI 120 pc i q v sw)
    | none => true) = true
  have hz : code9 120 pc = none := by
    show (bif Nat.blt pc 20 then _ else none) = none
    rw [show Nat.blt pc 20 = false from blt_no (by omega)]
    rfl
  rw [hz]
theorem cc121 (pc : Nat) : chkE 121 pc = true := by
  by_cases h14 : pc < 14
  · exact (show 0 + (pc - 0) = pc by omega) ▸ ck121_0 (pc - 0) (by omega)
  show (match code9 121 pc with
    | some (_, i, q, v, sw) => decide (decode (mB9 121) pc = .ok (i, q.headD 0)) && ((len9 i == 0 || q.headD 0 == len9 i) && chkI 121 pc i q v sw)
    | none => true) = true
  have hz : code9 121 pc = none := by
    show (bif Nat.blt pc 14 then _ else none) = none
    rw [show Nat.blt pc 14 = false from blt_no (by omega)]
    rfl
  rw [hz]
theorem cc122 (pc : Nat) : chkE 122 pc = true := by
  by_cases h216 : pc < 216
  · exact (show 0 + (pc - 0) = pc by omega) ▸ ck122_0 (pc - 0) (by omega)
  show (match code9 122 pc with
    | some (_, i, q, v, sw) => decide (decode (mB9 122) pc = .ok (i, q.headD 0)) && ((len9 i == 0 || q.headD 0 == len9 i) && chkI 122 pc i q v sw)
    | none => true) = true
  have hz : code9 122 pc = none := by
    show (bif Nat.blt pc 216 then _ else none) = none
    rw [show Nat.blt pc 216 = false from blt_no (by omega)]
    rfl
  rw [hz]
theorem cc123 (pc : Nat) : chkE 123 pc = true := by
  by_cases h68 : pc < 68
  · exact (show 0 + (pc - 0) = pc by omega) ▸ ck123_0 (pc - 0) (by omega)
  show (match code9 123 pc with
    | some (_, i, q, v, sw) => decide (decode (mB9 123) pc = .ok (i, q.headD 0)) && ((len9 i == 0 || q.headD 0 == len9 i) && chkI 123 pc i q v sw)
    | none => true) = true
  have hz : code9 123 pc = none := by
    show (bif Nat.blt pc 68 then _ else none) = none
    rw [show Nat.blt pc 68 = false from blt_no (by omega)]
    rfl
  rw [hz]
theorem cc124 (pc : Nat) : chkE 124 pc = true := by
  by_cases h27 : pc < 27
  · exact (show 0 + (pc - 0) = pc by omega) ▸ ck124_0 (pc - 0) (by omega)
  show (match code9 124 pc with
    | some (_, i, q, v, sw) => decide (decode (mB9 124) pc = .ok (i, q.headD 0)) && ((len9 i == 0 || q.headD 0 == len9 i) && chkI 124 pc i q v sw)
    | none => true) = true
  have hz : code9 124 pc = none := by
    show (bif Nat.blt pc 27 then _ else none) = none
    rw [show Nat.blt pc 27 = false from blt_no (by omega)]
    rfl
  rw [hz]
theorem cc125 (pc : Nat) : chkE 125 pc = true := by
  by_cases h96 : pc < 96
  · exact (show 0 + (pc - 0) = pc by omega) ▸ ck125_0 (pc - 0) (by omega)
  show (match code9 125 pc with
    | some (_, i, q, v, sw) => decide (decode (mB9 125) pc = .ok (i, q.headD 0)) && ((len9 i == 0 || q.headD 0 == len9 i) && chkI 125 pc i q v sw)
    | none => true) = true
  have hz : code9 125 pc = none := by
    show (bif Nat.blt pc 96 then _ else none) = none
    rw [show Nat.blt pc 96 = false from blt_no (by omega)]
    rfl
  rw [hz]
theorem cc126 (pc : Nat) : chkE 126 pc = true := by
  by_cases h5 : pc < 5
  · exact (show 0 + (pc - 0) = pc by omega) ▸ ck126_0 (pc - 0) (by omega)
  show (match code9 126 pc with
    | some (_, i, q, v, sw) => decide (decode (mB9 126) pc = .ok (i, q.headD 0)) && ((len9 i == 0 || q.headD 0 == len9 i) && chkI 126 pc i q v sw)
    | none => true) = true
  have hz : code9 126 pc = none := by
    show (bif Nat.blt pc 5 then _ else none) = none
    rw [show Nat.blt pc 5 = false from blt_no (by omega)]
    rfl
  rw [hz]
theorem cc127 (pc : Nat) : chkE 127 pc = true := by
  by_cases h89 : pc < 89
  · exact (show 0 + (pc - 0) = pc by omega) ▸ ck127_0 (pc - 0) (by omega)
  show (match code9 127 pc with
    | some (_, i, q, v, sw) => decide (decode (mB9 127) pc = .ok (i, q.headD 0)) && ((len9 i == 0 || q.headD 0 == len9 i) && chkI 127 pc i q v sw)
    | none => true) = true
  have hz : code9 127 pc = none := by
    show (bif Nat.blt pc 89 then _ else none) = none
    rw [show Nat.blt pc 89 = false from blt_no (by omega)]
    rfl
  rw [hz]
theorem cc128 (pc : Nat) : chkE 128 pc = true := by
  by_cases h85 : pc < 85
  · exact (show 0 + (pc - 0) = pc by omega) ▸ ck128_0 (pc - 0) (by omega)
  show (match code9 128 pc with
    | some (_, i, q, v, sw) => decide (decode (mB9 128) pc = .ok (i, q.headD 0)) && ((len9 i == 0 || q.headD 0 == len9 i) && chkI 128 pc i q v sw)
    | none => true) = true
  have hz : code9 128 pc = none := by
    show (bif Nat.blt pc 85 then _ else none) = none
    rw [show Nat.blt pc 85 = false from blt_no (by omega)]
    rfl
  rw [hz]
theorem cc129 (pc : Nat) : chkE 129 pc = true := by
  by_cases h127 : pc < 127
  · exact (show 0 + (pc - 0) = pc by omega) ▸ ck129_0 (pc - 0) (by omega)
  show (match code9 129 pc with
    | some (_, i, q, v, sw) => decide (decode (mB9 129) pc = .ok (i, q.headD 0)) && ((len9 i == 0 || q.headD 0 == len9 i) && chkI 129 pc i q v sw)
    | none => true) = true
  have hz : code9 129 pc = none := by
    show (bif Nat.blt pc 127 then _ else none) = none
    rw [show Nat.blt pc 127 = false from blt_no (by omega)]
    rfl
  rw [hz]
theorem cc130 (pc : Nat) : chkE 130 pc = true := by
  by_cases h66 : pc < 66
  · exact (show 0 + (pc - 0) = pc by omega) ▸ ck130_0 (pc - 0) (by omega)
  show (match code9 130 pc with
    | some (_, i, q, v, sw) => decide (decode (mB9 130) pc = .ok (i, q.headD 0)) && ((len9 i == 0 || q.headD 0 == len9 i) && chkI 130 pc i q v sw)
    | none => true) = true
  have hz : code9 130 pc = none := by
    show (bif Nat.blt pc 66 then _ else none) = none
    rw [show Nat.blt pc 66 = false from blt_no (by omega)]
    rfl
  rw [hz]
theorem cc131 (pc : Nat) : chkE 131 pc = true := by
  by_cases h49 : pc < 49
  · exact (show 0 + (pc - 0) = pc by omega) ▸ ck131_0 (pc - 0) (by omega)
  show (match code9 131 pc with
    | some (_, i, q, v, sw) => decide (decode (mB9 131) pc = .ok (i, q.headD 0)) && ((len9 i == 0 || q.headD 0 == len9 i) && chkI 131 pc i q v sw)
    | none => true) = true
  have hz : code9 131 pc = none := by
    show (bif Nat.blt pc 49 then _ else none) = none
    rw [show Nat.blt pc 49 = false from blt_no (by omega)]
    rfl
  rw [hz]
theorem cc132 (pc : Nat) : chkE 132 pc = true := by
  by_cases h51 : pc < 51
  · exact (show 0 + (pc - 0) = pc by omega) ▸ ck132_0 (pc - 0) (by omega)
  show (match code9 132 pc with
    | some (_, i, q, v, sw) => decide (decode (mB9 132) pc = .ok (i, q.headD 0)) && ((len9 i == 0 || q.headD 0 == len9 i) && chkI 132 pc i q v sw)
    | none => true) = true
  have hz : code9 132 pc = none := by
    show (bif Nat.blt pc 51 then _ else none) = none
    rw [show Nat.blt pc 51 = false from blt_no (by omega)]
    rfl
  rw [hz]
theorem cc133 (pc : Nat) : chkE 133 pc = true := by
  by_cases h64 : pc < 64
  · exact (show 0 + (pc - 0) = pc by omega) ▸ ck133_0 (pc - 0) (by omega)
  show (match code9 133 pc with
    | some (_, i, q, v, sw) => decide (decode (mB9 133) pc = .ok (i, q.headD 0)) && ((len9 i == 0 || q.headD 0 == len9 i) && chkI 133 pc i q v sw)
    | none => true) = true
  have hz : code9 133 pc = none := by
    show (bif Nat.blt pc 64 then _ else none) = none
    rw [show Nat.blt pc 64 = false from blt_no (by omega)]
    rfl
  rw [hz]
theorem cc134 (pc : Nat) : chkE 134 pc = true := by
  by_cases h61 : pc < 61
  · exact (show 0 + (pc - 0) = pc by omega) ▸ ck134_0 (pc - 0) (by omega)
  show (match code9 134 pc with
    | some (_, i, q, v, sw) => decide (decode (mB9 134) pc = .ok (i, q.headD 0)) && ((len9 i == 0 || q.headD 0 == len9 i) && chkI 134 pc i q v sw)
    | none => true) = true
  have hz : code9 134 pc = none := by
    show (bif Nat.blt pc 61 then _ else none) = none
    rw [show Nat.blt pc 61 = false from blt_no (by omega)]
    rfl
  rw [hz]
theorem cc135 (pc : Nat) : chkE 135 pc = true := by
  by_cases h35 : pc < 35
  · exact (show 0 + (pc - 0) = pc by omega) ▸ ck135_0 (pc - 0) (by omega)
  show (match code9 135 pc with
    | some (_, i, q, v, sw) => decide (decode (mB9 135) pc = .ok (i, q.headD 0)) && ((len9 i == 0 || q.headD 0 == len9 i) && chkI 135 pc i q v sw)
    | none => true) = true
  have hz : code9 135 pc = none := by
    show (bif Nat.blt pc 35 then _ else none) = none
    rw [show Nat.blt pc 35 = false from blt_no (by omega)]
    rfl
  rw [hz]
theorem cc136 (pc : Nat) : chkE 136 pc = true := by
  by_cases h74 : pc < 74
  · exact (show 0 + (pc - 0) = pc by omega) ▸ ck136_0 (pc - 0) (by omega)
  show (match code9 136 pc with
    | some (_, i, q, v, sw) => decide (decode (mB9 136) pc = .ok (i, q.headD 0)) && ((len9 i == 0 || q.headD 0 == len9 i) && chkI 136 pc i q v sw)
    | none => true) = true
  have hz : code9 136 pc = none := by
    show (bif Nat.blt pc 74 then _ else none) = none
    rw [show Nat.blt pc 74 = false from blt_no (by omega)]
    rfl
  rw [hz]
theorem cc137 (pc : Nat) : chkE 137 pc = true := by
  by_cases h24 : pc < 24
  · exact (show 0 + (pc - 0) = pc by omega) ▸ ck137_0 (pc - 0) (by omega)
  show (match code9 137 pc with
    | some (_, i, q, v, sw) => decide (decode (mB9 137) pc = .ok (i, q.headD 0)) && ((len9 i == 0 || q.headD 0 == len9 i) && chkI 137 pc i q v sw)
    | none => true) = true
  have hz : code9 137 pc = none := by
    show (bif Nat.blt pc 24 then _ else none) = none
    rw [show Nat.blt pc 24 = false from blt_no (by omega)]
    rfl
  rw [hz]
theorem cc138 (pc : Nat) : chkE 138 pc = true := by
  by_cases h24 : pc < 24
  · exact (show 0 + (pc - 0) = pc by omega) ▸ ck138_0 (pc - 0) (by omega)
  show (match code9 138 pc with
    | some (_, i, q, v, sw) => decide (decode (mB9 138) pc = .ok (i, q.headD 0)) && ((len9 i == 0 || q.headD 0 == len9 i) && chkI 138 pc i q v sw)
    | none => true) = true
  have hz : code9 138 pc = none := by
    show (bif Nat.blt pc 24 then _ else none) = none
    rw [show Nat.blt pc 24 = false from blt_no (by omega)]
    rfl
  rw [hz]
theorem cc139 (pc : Nat) : chkE 139 pc = true := by
  by_cases h28 : pc < 28
  · exact (show 0 + (pc - 0) = pc by omega) ▸ ck139_0 (pc - 0) (by omega)
  show (match code9 139 pc with
    | some (_, i, q, v, sw) => decide (decode (mB9 139) pc = .ok (i, q.headD 0)) && ((len9 i == 0 || q.headD 0 == len9 i) && chkI 139 pc i q v sw)
    | none => true) = true
  have hz : code9 139 pc = none := by
    show (bif Nat.blt pc 28 then _ else none) = none
    rw [show Nat.blt pc 28 = false from blt_no (by omega)]
    rfl
  rw [hz]
theorem cc140 (pc : Nat) : chkE 140 pc = true := by
  by_cases h71 : pc < 71
  · exact (show 0 + (pc - 0) = pc by omega) ▸ ck140_0 (pc - 0) (by omega)
  show (match code9 140 pc with
    | some (_, i, q, v, sw) => decide (decode (mB9 140) pc = .ok (i, q.headD 0)) && ((len9 i == 0 || q.headD 0 == len9 i) && chkI 140 pc i q v sw)
    | none => true) = true
  have hz : code9 140 pc = none := by
    show (bif Nat.blt pc 71 then _ else none) = none
    rw [show Nat.blt pc 71 = false from blt_no (by omega)]
    rfl
  rw [hz]
theorem cc141 (pc : Nat) : chkE 141 pc = true := by
  by_cases h55 : pc < 55
  · exact (show 0 + (pc - 0) = pc by omega) ▸ ck141_0 (pc - 0) (by omega)
  show (match code9 141 pc with
    | some (_, i, q, v, sw) => decide (decode (mB9 141) pc = .ok (i, q.headD 0)) && ((len9 i == 0 || q.headD 0 == len9 i) && chkI 141 pc i q v sw)
    | none => true) = true
  have hz : code9 141 pc = none := by
    show (bif Nat.blt pc 55 then _ else none) = none
    rw [show Nat.blt pc 55 = false from blt_no (by omega)]
    rfl
  rw [hz]
theorem cc142 (pc : Nat) : chkE 142 pc = true := by
  by_cases h29 : pc < 29
  · exact (show 0 + (pc - 0) = pc by omega) ▸ ck142_0 (pc - 0) (by omega)
  show (match code9 142 pc with
    | some (_, i, q, v, sw) => decide (decode (mB9 142) pc = .ok (i, q.headD 0)) && ((len9 i == 0 || q.headD 0 == len9 i) && chkI 142 pc i q v sw)
    | none => true) = true
  have hz : code9 142 pc = none := by
    show (bif Nat.blt pc 29 then _ else none) = none
    rw [show Nat.blt pc 29 = false from blt_no (by omega)]
    rfl
  rw [hz]
theorem cc143 (pc : Nat) : chkE 143 pc = true := by
  by_cases h13 : pc < 13
  · exact (show 0 + (pc - 0) = pc by omega) ▸ ck143_0 (pc - 0) (by omega)
  show (match code9 143 pc with
    | some (_, i, q, v, sw) => decide (decode (mB9 143) pc = .ok (i, q.headD 0)) && ((len9 i == 0 || q.headD 0 == len9 i) && chkI 143 pc i q v sw)
    | none => true) = true
  have hz : code9 143 pc = none := by
    show (bif Nat.blt pc 13 then _ else none) = none
    rw [show Nat.blt pc 13 = false from blt_no (by omega)]
    rfl
  rw [hz]
theorem cc144 (pc : Nat) : chkE 144 pc = true := by
  by_cases h79 : pc < 79
  · exact (show 0 + (pc - 0) = pc by omega) ▸ ck144_0 (pc - 0) (by omega)
  show (match code9 144 pc with
    | some (_, i, q, v, sw) => decide (decode (mB9 144) pc = .ok (i, q.headD 0)) && ((len9 i == 0 || q.headD 0 == len9 i) && chkI 144 pc i q v sw)
    | none => true) = true
  have hz : code9 144 pc = none := by
    show (bif Nat.blt pc 79 then _ else none) = none
    rw [show Nat.blt pc 79 = false from blt_no (by omega)]
    rfl
  rw [hz]
theorem cc145 (pc : Nat) : chkE 145 pc = true := by
  by_cases h76 : pc < 76
  · exact (show 0 + (pc - 0) = pc by omega) ▸ ck145_0 (pc - 0) (by omega)
  show (match code9 145 pc with
    | some (_, i, q, v, sw) => decide (decode (mB9 145) pc = .ok (i, q.headD 0)) && ((len9 i == 0 || q.headD 0 == len9 i) && chkI 145 pc i q v sw)
    | none => true) = true
  have hz : code9 145 pc = none := by
    show (bif Nat.blt pc 76 then _ else none) = none
    rw [show Nat.blt pc 76 = false from blt_no (by omega)]
    rfl
  rw [hz]
theorem cc146 (pc : Nat) : chkE 146 pc = true := by
  by_cases h84 : pc < 84
  · exact (show 0 + (pc - 0) = pc by omega) ▸ ck146_0 (pc - 0) (by omega)
  show (match code9 146 pc with
    | some (_, i, q, v, sw) => decide (decode (mB9 146) pc = .ok (i, q.headD 0)) && ((len9 i == 0 || q.headD 0 == len9 i) && chkI 146 pc i q v sw)
    | none => true) = true
  have hz : code9 146 pc = none := by
    show (bif Nat.blt pc 84 then _ else none) = none
    rw [show Nat.blt pc 84 = false from blt_no (by omega)]
    rfl
  rw [hz]
theorem cc147 (pc : Nat) : chkE 147 pc = true := by
  by_cases h50 : pc < 50
  · exact (show 0 + (pc - 0) = pc by omega) ▸ ck147_0 (pc - 0) (by omega)
  show (match code9 147 pc with
    | some (_, i, q, v, sw) => decide (decode (mB9 147) pc = .ok (i, q.headD 0)) && ((len9 i == 0 || q.headD 0 == len9 i) && chkI 147 pc i q v sw)
    | none => true) = true
  have hz : code9 147 pc = none := by
    show (bif Nat.blt pc 50 then _ else none) = none
    rw [show Nat.blt pc 50 = false from blt_no (by omega)]
    rfl
  rw [hz]
theorem cc148 (pc : Nat) : chkE 148 pc = true := by
  by_cases h86 : pc < 86
  · exact (show 0 + (pc - 0) = pc by omega) ▸ ck148_0 (pc - 0) (by omega)
  show (match code9 148 pc with
    | some (_, i, q, v, sw) => decide (decode (mB9 148) pc = .ok (i, q.headD 0)) && ((len9 i == 0 || q.headD 0 == len9 i) && chkI 148 pc i q v sw)
    | none => true) = true
  have hz : code9 148 pc = none := by
    show (bif Nat.blt pc 86 then _ else none) = none
    rw [show Nat.blt pc 86 = false from blt_no (by omega)]
    rfl
  rw [hz]
theorem cc149 (pc : Nat) : chkE 149 pc = true := by
  by_cases h103 : pc < 103
  · exact (show 0 + (pc - 0) = pc by omega) ▸ ck149_0 (pc - 0) (by omega)
  show (match code9 149 pc with
    | some (_, i, q, v, sw) => decide (decode (mB9 149) pc = .ok (i, q.headD 0)) && ((len9 i == 0 || q.headD 0 == len9 i) && chkI 149 pc i q v sw)
    | none => true) = true
  have hz : code9 149 pc = none := by
    show (bif Nat.blt pc 103 then _ else none) = none
    rw [show Nat.blt pc 103 = false from blt_no (by omega)]
    rfl
  rw [hz]
theorem cc150 (pc : Nat) : chkE 150 pc = true := by
  by_cases h15 : pc < 15
  · exact (show 0 + (pc - 0) = pc by omega) ▸ ck150_0 (pc - 0) (by omega)
  show (match code9 150 pc with
    | some (_, i, q, v, sw) => decide (decode (mB9 150) pc = .ok (i, q.headD 0)) && ((len9 i == 0 || q.headD 0 == len9 i) && chkI 150 pc i q v sw)
    | none => true) = true
  have hz : code9 150 pc = none := by
    show (bif Nat.blt pc 15 then _ else none) = none
    rw [show Nat.blt pc 15 = false from blt_no (by omega)]
    rfl
  rw [hz]
theorem cc151 (pc : Nat) : chkE 151 pc = true := by
  by_cases h28 : pc < 28
  · exact (show 0 + (pc - 0) = pc by omega) ▸ ck151_0 (pc - 0) (by omega)
  show (match code9 151 pc with
    | some (_, i, q, v, sw) => decide (decode (mB9 151) pc = .ok (i, q.headD 0)) && ((len9 i == 0 || q.headD 0 == len9 i) && chkI 151 pc i q v sw)
    | none => true) = true
  have hz : code9 151 pc = none := by
    show (bif Nat.blt pc 28 then _ else none) = none
    rw [show Nat.blt pc 28 = false from blt_no (by omega)]
    rfl
  rw [hz]
theorem cc152 (pc : Nat) : chkE 152 pc = true := by
  by_cases h5 : pc < 5
  · exact (show 0 + (pc - 0) = pc by omega) ▸ ck152_0 (pc - 0) (by omega)
  show (match code9 152 pc with
    | some (_, i, q, v, sw) => decide (decode (mB9 152) pc = .ok (i, q.headD 0)) && ((len9 i == 0 || q.headD 0 == len9 i) && chkI 152 pc i q v sw)
    | none => true) = true
  have hz : code9 152 pc = none := by
    show (bif Nat.blt pc 5 then _ else none) = none
    rw [show Nat.blt pc 5 = false from blt_no (by omega)]
    rfl
  rw [hz]
theorem cc153 (pc : Nat) : chkE 153 pc = true := by
  by_cases h91 : pc < 91
  · exact (show 0 + (pc - 0) = pc by omega) ▸ ck153_0 (pc - 0) (by omega)
  show (match code9 153 pc with
    | some (_, i, q, v, sw) => decide (decode (mB9 153) pc = .ok (i, q.headD 0)) && ((len9 i == 0 || q.headD 0 == len9 i) && chkI 153 pc i q v sw)
    | none => true) = true
  have hz : code9 153 pc = none := by
    show (bif Nat.blt pc 91 then _ else none) = none
    rw [show Nat.blt pc 91 = false from blt_no (by omega)]
    rfl
  rw [hz]
theorem cc154 (pc : Nat) : chkE 154 pc = true := by
  by_cases h5 : pc < 5
  · exact (show 0 + (pc - 0) = pc by omega) ▸ ck154_0 (pc - 0) (by omega)
  show (match code9 154 pc with
    | some (_, i, q, v, sw) => decide (decode (mB9 154) pc = .ok (i, q.headD 0)) && ((len9 i == 0 || q.headD 0 == len9 i) && chkI 154 pc i q v sw)
    | none => true) = true
  have hz : code9 154 pc = none := by
    show (bif Nat.blt pc 5 then _ else none) = none
    rw [show Nat.blt pc 5 = false from blt_no (by omega)]
    rfl
  rw [hz]
theorem cc155 (pc : Nat) : chkE 155 pc = true := by
  by_cases h37 : pc < 37
  · exact (show 0 + (pc - 0) = pc by omega) ▸ ck155_0 (pc - 0) (by omega)
  show (match code9 155 pc with
    | some (_, i, q, v, sw) => decide (decode (mB9 155) pc = .ok (i, q.headD 0)) && ((len9 i == 0 || q.headD 0 == len9 i) && chkI 155 pc i q v sw)
    | none => true) = true
  have hz : code9 155 pc = none := by
    show (bif Nat.blt pc 37 then _ else none) = none
    rw [show Nat.blt pc 37 = false from blt_no (by omega)]
    rfl
  rw [hz]
theorem cc156 (pc : Nat) : chkE 156 pc = true := by
  by_cases h29 : pc < 29
  · exact (show 0 + (pc - 0) = pc by omega) ▸ ck156_0 (pc - 0) (by omega)
  show (match code9 156 pc with
    | some (_, i, q, v, sw) => decide (decode (mB9 156) pc = .ok (i, q.headD 0)) && ((len9 i == 0 || q.headD 0 == len9 i) && chkI 156 pc i q v sw)
    | none => true) = true
  have hz : code9 156 pc = none := by
    show (bif Nat.blt pc 29 then _ else none) = none
    rw [show Nat.blt pc 29 = false from blt_no (by omega)]
    rfl
  rw [hz]
theorem cc157 (pc : Nat) : chkE 157 pc = true := by
  by_cases h111 : pc < 111
  · exact (show 0 + (pc - 0) = pc by omega) ▸ ck157_0 (pc - 0) (by omega)
  show (match code9 157 pc with
    | some (_, i, q, v, sw) => decide (decode (mB9 157) pc = .ok (i, q.headD 0)) && ((len9 i == 0 || q.headD 0 == len9 i) && chkI 157 pc i q v sw)
    | none => true) = true
  have hz : code9 157 pc = none := by
    show (bif Nat.blt pc 111 then _ else none) = none
    rw [show Nat.blt pc 111 = false from blt_no (by omega)]
    rfl
  rw [hz]
theorem cc158 (pc : Nat) : chkE 158 pc = true := by
  by_cases h192 : pc < 192
  · exact (show 0 + (pc - 0) = pc by omega) ▸ ck158_0 (pc - 0) (by omega)
  show (match code9 158 pc with
    | some (_, i, q, v, sw) => decide (decode (mB9 158) pc = .ok (i, q.headD 0)) && ((len9 i == 0 || q.headD 0 == len9 i) && chkI 158 pc i q v sw)
    | none => true) = true
  have hz : code9 158 pc = none := by
    show (bif Nat.blt pc 192 then _ else none) = none
    rw [show Nat.blt pc 192 = false from blt_no (by omega)]
    rfl
  rw [hz]
theorem cc159 (pc : Nat) : chkE 159 pc = true := by
  by_cases h24 : pc < 24
  · exact (show 0 + (pc - 0) = pc by omega) ▸ ck159_0 (pc - 0) (by omega)
  show (match code9 159 pc with
    | some (_, i, q, v, sw) => decide (decode (mB9 159) pc = .ok (i, q.headD 0)) && ((len9 i == 0 || q.headD 0 == len9 i) && chkI 159 pc i q v sw)
    | none => true) = true
  have hz : code9 159 pc = none := by
    show (bif Nat.blt pc 24 then _ else none) = none
    rw [show Nat.blt pc 24 = false from blt_no (by omega)]
    rfl
  rw [hz]
theorem cc160 (pc : Nat) : chkE 160 pc = true := by
  by_cases h75 : pc < 75
  · exact (show 0 + (pc - 0) = pc by omega) ▸ ck160_0 (pc - 0) (by omega)
  show (match code9 160 pc with
    | some (_, i, q, v, sw) => decide (decode (mB9 160) pc = .ok (i, q.headD 0)) && ((len9 i == 0 || q.headD 0 == len9 i) && chkI 160 pc i q v sw)
    | none => true) = true
  have hz : code9 160 pc = none := by
    show (bif Nat.blt pc 75 then _ else none) = none
    rw [show Nat.blt pc 75 = false from blt_no (by omega)]
    rfl
  rw [hz]
theorem cc161 (pc : Nat) : chkE 161 pc = true := by
  by_cases h89 : pc < 89
  · exact (show 0 + (pc - 0) = pc by omega) ▸ ck161_0 (pc - 0) (by omega)
  show (match code9 161 pc with
    | some (_, i, q, v, sw) => decide (decode (mB9 161) pc = .ok (i, q.headD 0)) && ((len9 i == 0 || q.headD 0 == len9 i) && chkI 161 pc i q v sw)
    | none => true) = true
  have hz : code9 161 pc = none := by
    show (bif Nat.blt pc 89 then _ else none) = none
    rw [show Nat.blt pc 89 = false from blt_no (by omega)]
    rfl
  rw [hz]
theorem cc162 (pc : Nat) : chkE 162 pc = true := by
  by_cases h67 : pc < 67
  · exact (show 0 + (pc - 0) = pc by omega) ▸ ck162_0 (pc - 0) (by omega)
  show (match code9 162 pc with
    | some (_, i, q, v, sw) => decide (decode (mB9 162) pc = .ok (i, q.headD 0)) && ((len9 i == 0 || q.headD 0 == len9 i) && chkI 162 pc i q v sw)
    | none => true) = true
  have hz : code9 162 pc = none := by
    show (bif Nat.blt pc 67 then _ else none) = none
    rw [show Nat.blt pc 67 = false from blt_no (by omega)]
    rfl
  rw [hz]
theorem cc163 (pc : Nat) : chkE 163 pc = true := by
  by_cases h78 : pc < 78
  · exact (show 0 + (pc - 0) = pc by omega) ▸ ck163_0 (pc - 0) (by omega)
  show (match code9 163 pc with
    | some (_, i, q, v, sw) => decide (decode (mB9 163) pc = .ok (i, q.headD 0)) && ((len9 i == 0 || q.headD 0 == len9 i) && chkI 163 pc i q v sw)
    | none => true) = true
  have hz : code9 163 pc = none := by
    show (bif Nat.blt pc 78 then _ else none) = none
    rw [show Nat.blt pc 78 = false from blt_no (by omega)]
    rfl
  rw [hz]
theorem cc164 (pc : Nat) : chkE 164 pc = true := by
  by_cases h102 : pc < 102
  · exact (show 0 + (pc - 0) = pc by omega) ▸ ck164_0 (pc - 0) (by omega)
  show (match code9 164 pc with
    | some (_, i, q, v, sw) => decide (decode (mB9 164) pc = .ok (i, q.headD 0)) && ((len9 i == 0 || q.headD 0 == len9 i) && chkI 164 pc i q v sw)
    | none => true) = true
  have hz : code9 164 pc = none := by
    show (bif Nat.blt pc 102 then _ else none) = none
    rw [show Nat.blt pc 102 = false from blt_no (by omega)]
    rfl
  rw [hz]
theorem cc165 (pc : Nat) : chkE 165 pc = true := by
  by_cases h132 : pc < 132
  · exact (show 0 + (pc - 0) = pc by omega) ▸ ck165_0 (pc - 0) (by omega)
  show (match code9 165 pc with
    | some (_, i, q, v, sw) => decide (decode (mB9 165) pc = .ok (i, q.headD 0)) && ((len9 i == 0 || q.headD 0 == len9 i) && chkI 165 pc i q v sw)
    | none => true) = true
  have hz : code9 165 pc = none := by
    show (bif Nat.blt pc 132 then _ else none) = none
    rw [show Nat.blt pc 132 = false from blt_no (by omega)]
    rfl
  rw [hz]
theorem cc166 (pc : Nat) : chkE 166 pc = true := by
  by_cases h63 : pc < 63
  · exact (show 0 + (pc - 0) = pc by omega) ▸ ck166_0 (pc - 0) (by omega)
  show (match code9 166 pc with
    | some (_, i, q, v, sw) => decide (decode (mB9 166) pc = .ok (i, q.headD 0)) && ((len9 i == 0 || q.headD 0 == len9 i) && chkI 166 pc i q v sw)
    | none => true) = true
  have hz : code9 166 pc = none := by
    show (bif Nat.blt pc 63 then _ else none) = none
    rw [show Nat.blt pc 63 = false from blt_no (by omega)]
    rfl
  rw [hz]
theorem cc167 (pc : Nat) : chkE 167 pc = true := by
  by_cases h70 : pc < 70
  · exact (show 0 + (pc - 0) = pc by omega) ▸ ck167_0 (pc - 0) (by omega)
  show (match code9 167 pc with
    | some (_, i, q, v, sw) => decide (decode (mB9 167) pc = .ok (i, q.headD 0)) && ((len9 i == 0 || q.headD 0 == len9 i) && chkI 167 pc i q v sw)
    | none => true) = true
  have hz : code9 167 pc = none := by
    show (bif Nat.blt pc 70 then _ else none) = none
    rw [show Nat.blt pc 70 = false from blt_no (by omega)]
    rfl
  rw [hz]
theorem cc168 (pc : Nat) : chkE 168 pc = true := by
  by_cases h85 : pc < 85
  · exact (show 0 + (pc - 0) = pc by omega) ▸ ck168_0 (pc - 0) (by omega)
  show (match code9 168 pc with
    | some (_, i, q, v, sw) => decide (decode (mB9 168) pc = .ok (i, q.headD 0)) && ((len9 i == 0 || q.headD 0 == len9 i) && chkI 168 pc i q v sw)
    | none => true) = true
  have hz : code9 168 pc = none := by
    show (bif Nat.blt pc 85 then _ else none) = none
    rw [show Nat.blt pc 85 = false from blt_no (by omega)]
    rfl
  rw [hz]
theorem cc169 (pc : Nat) : chkE 169 pc = true := by
  by_cases h5 : pc < 5
  · exact (show 0 + (pc - 0) = pc by omega) ▸ ck169_0 (pc - 0) (by omega)
  show (match code9 169 pc with
    | some (_, i, q, v, sw) => decide (decode (mB9 169) pc = .ok (i, q.headD 0)) && ((len9 i == 0 || q.headD 0 == len9 i) && chkI 169 pc i q v sw)
    | none => true) = true
  have hz : code9 169 pc = none := by
    show (bif Nat.blt pc 5 then _ else none) = none
    rw [show Nat.blt pc 5 = false from blt_no (by omega)]
    rfl
  rw [hz]
theorem cc170 (pc : Nat) : chkE 170 pc = true := by
  by_cases h52 : pc < 52
  · exact (show 0 + (pc - 0) = pc by omega) ▸ ck170_0 (pc - 0) (by omega)
  show (match code9 170 pc with
    | some (_, i, q, v, sw) => decide (decode (mB9 170) pc = .ok (i, q.headD 0)) && ((len9 i == 0 || q.headD 0 == len9 i) && chkI 170 pc i q v sw)
    | none => true) = true
  have hz : code9 170 pc = none := by
    show (bif Nat.blt pc 52 then _ else none) = none
    rw [show Nat.blt pc 52 = false from blt_no (by omega)]
    rfl
  rw [hz]
theorem cc171 (pc : Nat) : chkE 171 pc = true := by
  by_cases h40 : pc < 40
  · exact (show 0 + (pc - 0) = pc by omega) ▸ ck171_0 (pc - 0) (by omega)
  show (match code9 171 pc with
    | some (_, i, q, v, sw) => decide (decode (mB9 171) pc = .ok (i, q.headD 0)) && ((len9 i == 0 || q.headD 0 == len9 i) && chkI 171 pc i q v sw)
    | none => true) = true
  have hz : code9 171 pc = none := by
    show (bif Nat.blt pc 40 then _ else none) = none
    rw [show Nat.blt pc 40 = false from blt_no (by omega)]
    rfl
  rw [hz]
theorem cc172 (pc : Nat) : chkE 172 pc = true := by
  by_cases h26 : pc < 26
  · exact (show 0 + (pc - 0) = pc by omega) ▸ ck172_0 (pc - 0) (by omega)
  show (match code9 172 pc with
    | some (_, i, q, v, sw) => decide (decode (mB9 172) pc = .ok (i, q.headD 0)) && ((len9 i == 0 || q.headD 0 == len9 i) && chkI 172 pc i q v sw)
    | none => true) = true
  have hz : code9 172 pc = none := by
    show (bif Nat.blt pc 26 then _ else none) = none
    rw [show Nat.blt pc 26 = false from blt_no (by omega)]
    rfl
  rw [hz]
theorem cc173 (pc : Nat) : chkE 173 pc = true := by
  by_cases h212 : pc < 212
  · exact (show 0 + (pc - 0) = pc by omega) ▸ ck173_0 (pc - 0) (by omega)
  show (match code9 173 pc with
    | some (_, i, q, v, sw) => decide (decode (mB9 173) pc = .ok (i, q.headD 0)) && ((len9 i == 0 || q.headD 0 == len9 i) && chkI 173 pc i q v sw)
    | none => true) = true
  have hz : code9 173 pc = none := by
    show (bif Nat.blt pc 212 then _ else none) = none
    rw [show Nat.blt pc 212 = false from blt_no (by omega)]
    rfl
  rw [hz]
theorem cc174 (pc : Nat) : chkE 174 pc = true := by
  by_cases h136 : pc < 136
  · exact (show 0 + (pc - 0) = pc by omega) ▸ ck174_0 (pc - 0) (by omega)
  show (match code9 174 pc with
    | some (_, i, q, v, sw) => decide (decode (mB9 174) pc = .ok (i, q.headD 0)) && ((len9 i == 0 || q.headD 0 == len9 i) && chkI 174 pc i q v sw)
    | none => true) = true
  have hz : code9 174 pc = none := by
    show (bif Nat.blt pc 136 then _ else none) = none
    rw [show Nat.blt pc 136 = false from blt_no (by omega)]
    rfl
  rw [hz]
theorem cc175 (pc : Nat) : chkE 175 pc = true := by
  by_cases h103 : pc < 103
  · exact (show 0 + (pc - 0) = pc by omega) ▸ ck175_0 (pc - 0) (by omega)
  show (match code9 175 pc with
    | some (_, i, q, v, sw) => decide (decode (mB9 175) pc = .ok (i, q.headD 0)) && ((len9 i == 0 || q.headD 0 == len9 i) && chkI 175 pc i q v sw)
    | none => true) = true
  have hz : code9 175 pc = none := by
    show (bif Nat.blt pc 103 then _ else none) = none
    rw [show Nat.blt pc 103 = false from blt_no (by omega)]
    rfl
  rw [hz]
theorem cc176 (pc : Nat) : chkE 176 pc = true := by
  by_cases h110 : pc < 110
  · exact (show 0 + (pc - 0) = pc by omega) ▸ ck176_0 (pc - 0) (by omega)
  show (match code9 176 pc with
    | some (_, i, q, v, sw) => decide (decode (mB9 176) pc = .ok (i, q.headD 0)) && ((len9 i == 0 || q.headD 0 == len9 i) && chkI 176 pc i q v sw)
    | none => true) = true
  have hz : code9 176 pc = none := by
    show (bif Nat.blt pc 110 then _ else none) = none
    rw [show Nat.blt pc 110 = false from blt_no (by omega)]
    rfl
  rw [hz]
theorem cc177 (pc : Nat) : chkE 177 pc = true := by
  by_cases h33 : pc < 33
  · exact (show 0 + (pc - 0) = pc by omega) ▸ ck177_0 (pc - 0) (by omega)
  show (match code9 177 pc with
    | some (_, i, q, v, sw) => decide (decode (mB9 177) pc = .ok (i, q.headD 0)) && ((len9 i == 0 || q.headD 0 == len9 i) && chkI 177 pc i q v sw)
    | none => true) = true
  have hz : code9 177 pc = none := by
    show (bif Nat.blt pc 33 then _ else none) = none
    rw [show Nat.blt pc 33 = false from blt_no (by omega)]
    rfl
  rw [hz]
theorem cc178 (pc : Nat) : chkE 178 pc = true := by
  by_cases h12 : pc < 12
  · exact (show 0 + (pc - 0) = pc by omega) ▸ ck178_0 (pc - 0) (by omega)
  show (match code9 178 pc with
    | some (_, i, q, v, sw) => decide (decode (mB9 178) pc = .ok (i, q.headD 0)) && ((len9 i == 0 || q.headD 0 == len9 i) && chkI 178 pc i q v sw)
    | none => true) = true
  have hz : code9 178 pc = none := by
    show (bif Nat.blt pc 12 then _ else none) = none
    rw [show Nat.blt pc 12 = false from blt_no (by omega)]
    rfl
  rw [hz]
theorem cc179 (pc : Nat) : chkE 179 pc = true := by
  by_cases h300 : pc < 300
  · exact (show 0 + (pc - 0) = pc by omega) ▸ ck179_0 (pc - 0) (by omega)
  by_cases h394 : pc < 394
  · exact (show 300 + (pc - 300) = pc by omega) ▸ ck179_300 (pc - 300) (by omega)
  show (match code9 179 pc with
    | some (_, i, q, v, sw) => decide (decode (mB9 179) pc = .ok (i, q.headD 0)) && ((len9 i == 0 || q.headD 0 == len9 i) && chkI 179 pc i q v sw)
    | none => true) = true
  have hz : code9 179 pc = none := by
    show (bif Nat.blt pc 394 then _ else none) = none
    rw [show Nat.blt pc 394 = false from blt_no (by omega)]
    rfl
  rw [hz]
theorem cc180 (pc : Nat) : chkE 180 pc = true := by
  by_cases h18 : pc < 18
  · exact (show 0 + (pc - 0) = pc by omega) ▸ ck180_0 (pc - 0) (by omega)
  show (match code9 180 pc with
    | some (_, i, q, v, sw) => decide (decode (mB9 180) pc = .ok (i, q.headD 0)) && ((len9 i == 0 || q.headD 0 == len9 i) && chkI 180 pc i q v sw)
    | none => true) = true
  have hz : code9 180 pc = none := by
    show (bif Nat.blt pc 18 then _ else none) = none
    rw [show Nat.blt pc 18 = false from blt_no (by omega)]
    rfl
  rw [hz]
theorem cc181 (pc : Nat) : chkE 181 pc = true := by
  by_cases h18 : pc < 18
  · exact (show 0 + (pc - 0) = pc by omega) ▸ ck181_0 (pc - 0) (by omega)
  show (match code9 181 pc with
    | some (_, i, q, v, sw) => decide (decode (mB9 181) pc = .ok (i, q.headD 0)) && ((len9 i == 0 || q.headD 0 == len9 i) && chkI 181 pc i q v sw)
    | none => true) = true
  have hz : code9 181 pc = none := by
    show (bif Nat.blt pc 18 then _ else none) = none
    rw [show Nat.blt pc 18 = false from blt_no (by omega)]
    rfl
  rw [hz]
theorem cc182 (pc : Nat) : chkE 182 pc = true := by
  by_cases h19 : pc < 19
  · exact (show 0 + (pc - 0) = pc by omega) ▸ ck182_0 (pc - 0) (by omega)
  show (match code9 182 pc with
    | some (_, i, q, v, sw) => decide (decode (mB9 182) pc = .ok (i, q.headD 0)) && ((len9 i == 0 || q.headD 0 == len9 i) && chkI 182 pc i q v sw)
    | none => true) = true
  have hz : code9 182 pc = none := by
    show (bif Nat.blt pc 19 then _ else none) = none
    rw [show Nat.blt pc 19 = false from blt_no (by omega)]
    rfl
  rw [hz]
theorem cc183 (pc : Nat) : chkE 183 pc = true := by
  by_cases h140 : pc < 140
  · exact (show 0 + (pc - 0) = pc by omega) ▸ ck183_0 (pc - 0) (by omega)
  show (match code9 183 pc with
    | some (_, i, q, v, sw) => decide (decode (mB9 183) pc = .ok (i, q.headD 0)) && ((len9 i == 0 || q.headD 0 == len9 i) && chkI 183 pc i q v sw)
    | none => true) = true
  have hz : code9 183 pc = none := by
    show (bif Nat.blt pc 140 then _ else none) = none
    rw [show Nat.blt pc 140 = false from blt_no (by omega)]
    rfl
  rw [hz]
theorem cc184 (pc : Nat) : chkE 184 pc = true := by
  by_cases h26 : pc < 26
  · exact (show 0 + (pc - 0) = pc by omega) ▸ ck184_0 (pc - 0) (by omega)
  show (match code9 184 pc with
    | some (_, i, q, v, sw) => decide (decode (mB9 184) pc = .ok (i, q.headD 0)) && ((len9 i == 0 || q.headD 0 == len9 i) && chkI 184 pc i q v sw)
    | none => true) = true
  have hz : code9 184 pc = none := by
    show (bif Nat.blt pc 26 then _ else none) = none
    rw [show Nat.blt pc 26 = false from blt_no (by omega)]
    rfl
  rw [hz]
theorem cc185 (pc : Nat) : chkE 185 pc = true := by
  by_cases h300 : pc < 300
  · exact (show 0 + (pc - 0) = pc by omega) ▸ ck185_0 (pc - 0) (by omega)
  by_cases h600 : pc < 600
  · exact (show 300 + (pc - 300) = pc by omega) ▸ ck185_300 (pc - 300) (by omega)
  by_cases h655 : pc < 655
  · exact (show 600 + (pc - 600) = pc by omega) ▸ ck185_600 (pc - 600) (by omega)
  show (match code9 185 pc with
    | some (_, i, q, v, sw) => decide (decode (mB9 185) pc = .ok (i, q.headD 0)) && ((len9 i == 0 || q.headD 0 == len9 i) && chkI 185 pc i q v sw)
    | none => true) = true
  have hz : code9 185 pc = none := by
    show (bif Nat.blt pc 655 then _ else none) = none
    rw [show Nat.blt pc 655 = false from blt_no (by omega)]
    rfl
  rw [hz]
theorem cc186 (pc : Nat) : chkE 186 pc = true := by
  by_cases h102 : pc < 102
  · exact (show 0 + (pc - 0) = pc by omega) ▸ ck186_0 (pc - 0) (by omega)
  show (match code9 186 pc with
    | some (_, i, q, v, sw) => decide (decode (mB9 186) pc = .ok (i, q.headD 0)) && ((len9 i == 0 || q.headD 0 == len9 i) && chkI 186 pc i q v sw)
    | none => true) = true
  have hz : code9 186 pc = none := by
    show (bif Nat.blt pc 102 then _ else none) = none
    rw [show Nat.blt pc 102 = false from blt_no (by omega)]
    rfl
  rw [hz]
theorem cc187 (pc : Nat) : chkE 187 pc = true := by
  by_cases h59 : pc < 59
  · exact (show 0 + (pc - 0) = pc by omega) ▸ ck187_0 (pc - 0) (by omega)
  show (match code9 187 pc with
    | some (_, i, q, v, sw) => decide (decode (mB9 187) pc = .ok (i, q.headD 0)) && ((len9 i == 0 || q.headD 0 == len9 i) && chkI 187 pc i q v sw)
    | none => true) = true
  have hz : code9 187 pc = none := by
    show (bif Nat.blt pc 59 then _ else none) = none
    rw [show Nat.blt pc 59 = false from blt_no (by omega)]
    rfl
  rw [hz]
theorem cc188 (pc : Nat) : chkE 188 pc = true := by
  by_cases h27 : pc < 27
  · exact (show 0 + (pc - 0) = pc by omega) ▸ ck188_0 (pc - 0) (by omega)
  show (match code9 188 pc with
    | some (_, i, q, v, sw) => decide (decode (mB9 188) pc = .ok (i, q.headD 0)) && ((len9 i == 0 || q.headD 0 == len9 i) && chkI 188 pc i q v sw)
    | none => true) = true
  have hz : code9 188 pc = none := by
    show (bif Nat.blt pc 27 then _ else none) = none
    rw [show Nat.blt pc 27 = false from blt_no (by omega)]
    rfl
  rw [hz]
theorem cc189 (pc : Nat) : chkE 189 pc = true := by
  by_cases h28 : pc < 28
  · exact (show 0 + (pc - 0) = pc by omega) ▸ ck189_0 (pc - 0) (by omega)
  show (match code9 189 pc with
    | some (_, i, q, v, sw) => decide (decode (mB9 189) pc = .ok (i, q.headD 0)) && ((len9 i == 0 || q.headD 0 == len9 i) && chkI 189 pc i q v sw)
    | none => true) = true
  have hz : code9 189 pc = none := by
    show (bif Nat.blt pc 28 then _ else none) = none
    rw [show Nat.blt pc 28 = false from blt_no (by omega)]
    rfl
  rw [hz]
theorem cc190 (pc : Nat) : chkE 190 pc = true := by
  by_cases h46 : pc < 46
  · exact (show 0 + (pc - 0) = pc by omega) ▸ ck190_0 (pc - 0) (by omega)
  show (match code9 190 pc with
    | some (_, i, q, v, sw) => decide (decode (mB9 190) pc = .ok (i, q.headD 0)) && ((len9 i == 0 || q.headD 0 == len9 i) && chkI 190 pc i q v sw)
    | none => true) = true
  have hz : code9 190 pc = none := by
    show (bif Nat.blt pc 46 then _ else none) = none
    rw [show Nat.blt pc 46 = false from blt_no (by omega)]
    rfl
  rw [hz]
theorem cc191 (pc : Nat) : chkE 191 pc = true := by
  by_cases h16 : pc < 16
  · exact (show 0 + (pc - 0) = pc by omega) ▸ ck191_0 (pc - 0) (by omega)
  show (match code9 191 pc with
    | some (_, i, q, v, sw) => decide (decode (mB9 191) pc = .ok (i, q.headD 0)) && ((len9 i == 0 || q.headD 0 == len9 i) && chkI 191 pc i q v sw)
    | none => true) = true
  have hz : code9 191 pc = none := by
    show (bif Nat.blt pc 16 then _ else none) = none
    rw [show Nat.blt pc 16 = false from blt_no (by omega)]
    rfl
  rw [hz]
theorem cc192 (pc : Nat) : chkE 192 pc = true := by
  by_cases h16 : pc < 16
  · exact (show 0 + (pc - 0) = pc by omega) ▸ ck192_0 (pc - 0) (by omega)
  show (match code9 192 pc with
    | some (_, i, q, v, sw) => decide (decode (mB9 192) pc = .ok (i, q.headD 0)) && ((len9 i == 0 || q.headD 0 == len9 i) && chkI 192 pc i q v sw)
    | none => true) = true
  have hz : code9 192 pc = none := by
    show (bif Nat.blt pc 16 then _ else none) = none
    rw [show Nat.blt pc 16 = false from blt_no (by omega)]
    rfl
  rw [hz]
theorem cc193 (pc : Nat) : chkE 193 pc = true := by
  by_cases h37 : pc < 37
  · exact (show 0 + (pc - 0) = pc by omega) ▸ ck193_0 (pc - 0) (by omega)
  show (match code9 193 pc with
    | some (_, i, q, v, sw) => decide (decode (mB9 193) pc = .ok (i, q.headD 0)) && ((len9 i == 0 || q.headD 0 == len9 i) && chkI 193 pc i q v sw)
    | none => true) = true
  have hz : code9 193 pc = none := by
    show (bif Nat.blt pc 37 then _ else none) = none
    rw [show Nat.blt pc 37 = false from blt_no (by omega)]
    rfl
  rw [hz]
theorem cc194 (pc : Nat) : chkE 194 pc = true := by
  by_cases h22 : pc < 22
  · exact (show 0 + (pc - 0) = pc by omega) ▸ ck194_0 (pc - 0) (by omega)
  show (match code9 194 pc with
    | some (_, i, q, v, sw) => decide (decode (mB9 194) pc = .ok (i, q.headD 0)) && ((len9 i == 0 || q.headD 0 == len9 i) && chkI 194 pc i q v sw)
    | none => true) = true
  have hz : code9 194 pc = none := by
    show (bif Nat.blt pc 22 then _ else none) = none
    rw [show Nat.blt pc 22 = false from blt_no (by omega)]
    rfl
  rw [hz]
theorem cc195 (pc : Nat) : chkE 195 pc = true := by
  by_cases h103 : pc < 103
  · exact (show 0 + (pc - 0) = pc by omega) ▸ ck195_0 (pc - 0) (by omega)
  show (match code9 195 pc with
    | some (_, i, q, v, sw) => decide (decode (mB9 195) pc = .ok (i, q.headD 0)) && ((len9 i == 0 || q.headD 0 == len9 i) && chkI 195 pc i q v sw)
    | none => true) = true
  have hz : code9 195 pc = none := by
    show (bif Nat.blt pc 103 then _ else none) = none
    rw [show Nat.blt pc 103 = false from blt_no (by omega)]
    rfl
  rw [hz]
theorem cc196 (pc : Nat) : chkE 196 pc = true := by
  by_cases h40 : pc < 40
  · exact (show 0 + (pc - 0) = pc by omega) ▸ ck196_0 (pc - 0) (by omega)
  show (match code9 196 pc with
    | some (_, i, q, v, sw) => decide (decode (mB9 196) pc = .ok (i, q.headD 0)) && ((len9 i == 0 || q.headD 0 == len9 i) && chkI 196 pc i q v sw)
    | none => true) = true
  have hz : code9 196 pc = none := by
    show (bif Nat.blt pc 40 then _ else none) = none
    rw [show Nat.blt pc 40 = false from blt_no (by omega)]
    rfl
  rw [hz]
theorem cc197 (pc : Nat) : chkE 197 pc = true := by
  by_cases h31 : pc < 31
  · exact (show 0 + (pc - 0) = pc by omega) ▸ ck197_0 (pc - 0) (by omega)
  show (match code9 197 pc with
    | some (_, i, q, v, sw) => decide (decode (mB9 197) pc = .ok (i, q.headD 0)) && ((len9 i == 0 || q.headD 0 == len9 i) && chkI 197 pc i q v sw)
    | none => true) = true
  have hz : code9 197 pc = none := by
    show (bif Nat.blt pc 31 then _ else none) = none
    rw [show Nat.blt pc 31 = false from blt_no (by omega)]
    rfl
  rw [hz]
theorem cc198 (pc : Nat) : chkE 198 pc = true := by
  by_cases h174 : pc < 174
  · exact (show 0 + (pc - 0) = pc by omega) ▸ ck198_0 (pc - 0) (by omega)
  show (match code9 198 pc with
    | some (_, i, q, v, sw) => decide (decode (mB9 198) pc = .ok (i, q.headD 0)) && ((len9 i == 0 || q.headD 0 == len9 i) && chkI 198 pc i q v sw)
    | none => true) = true
  have hz : code9 198 pc = none := by
    show (bif Nat.blt pc 174 then _ else none) = none
    rw [show Nat.blt pc 174 = false from blt_no (by omega)]
    rfl
  rw [hz]
theorem cc199 (pc : Nat) : chkE 199 pc = true := by
  by_cases h41 : pc < 41
  · exact (show 0 + (pc - 0) = pc by omega) ▸ ck199_0 (pc - 0) (by omega)
  show (match code9 199 pc with
    | some (_, i, q, v, sw) => decide (decode (mB9 199) pc = .ok (i, q.headD 0)) && ((len9 i == 0 || q.headD 0 == len9 i) && chkI 199 pc i q v sw)
    | none => true) = true
  have hz : code9 199 pc = none := by
    show (bif Nat.blt pc 41 then _ else none) = none
    rw [show Nat.blt pc 41 = false from blt_no (by omega)]
    rfl
  rw [hz]
theorem cc200 (pc : Nat) : chkE 200 pc = true := by
  by_cases h90 : pc < 90
  · exact (show 0 + (pc - 0) = pc by omega) ▸ ck200_0 (pc - 0) (by omega)
  show (match code9 200 pc with
    | some (_, i, q, v, sw) => decide (decode (mB9 200) pc = .ok (i, q.headD 0)) && ((len9 i == 0 || q.headD 0 == len9 i) && chkI 200 pc i q v sw)
    | none => true) = true
  have hz : code9 200 pc = none := by
    show (bif Nat.blt pc 90 then _ else none) = none
    rw [show Nat.blt pc 90 = false from blt_no (by omega)]
    rfl
  rw [hz]
theorem cc201 (pc : Nat) : chkE 201 pc = true := by
  by_cases h74 : pc < 74
  · exact (show 0 + (pc - 0) = pc by omega) ▸ ck201_0 (pc - 0) (by omega)
  show (match code9 201 pc with
    | some (_, i, q, v, sw) => decide (decode (mB9 201) pc = .ok (i, q.headD 0)) && ((len9 i == 0 || q.headD 0 == len9 i) && chkI 201 pc i q v sw)
    | none => true) = true
  have hz : code9 201 pc = none := by
    show (bif Nat.blt pc 74 then _ else none) = none
    rw [show Nat.blt pc 74 = false from blt_no (by omega)]
    rfl
  rw [hz]
theorem cc202 (pc : Nat) : chkE 202 pc = true := by
  by_cases h12 : pc < 12
  · exact (show 0 + (pc - 0) = pc by omega) ▸ ck202_0 (pc - 0) (by omega)
  show (match code9 202 pc with
    | some (_, i, q, v, sw) => decide (decode (mB9 202) pc = .ok (i, q.headD 0)) && ((len9 i == 0 || q.headD 0 == len9 i) && chkI 202 pc i q v sw)
    | none => true) = true
  have hz : code9 202 pc = none := by
    show (bif Nat.blt pc 12 then _ else none) = none
    rw [show Nat.blt pc 12 = false from blt_no (by omega)]
    rfl
  rw [hz]
theorem cc203 (pc : Nat) : chkE 203 pc = true := by
  by_cases h49 : pc < 49
  · exact (show 0 + (pc - 0) = pc by omega) ▸ ck203_0 (pc - 0) (by omega)
  show (match code9 203 pc with
    | some (_, i, q, v, sw) => decide (decode (mB9 203) pc = .ok (i, q.headD 0)) && ((len9 i == 0 || q.headD 0 == len9 i) && chkI 203 pc i q v sw)
    | none => true) = true
  have hz : code9 203 pc = none := by
    show (bif Nat.blt pc 49 then _ else none) = none
    rw [show Nat.blt pc 49 = false from blt_no (by omega)]
    rfl
  rw [hz]
theorem cc204 (pc : Nat) : chkE 204 pc = true := by
  by_cases h75 : pc < 75
  · exact (show 0 + (pc - 0) = pc by omega) ▸ ck204_0 (pc - 0) (by omega)
  show (match code9 204 pc with
    | some (_, i, q, v, sw) => decide (decode (mB9 204) pc = .ok (i, q.headD 0)) && ((len9 i == 0 || q.headD 0 == len9 i) && chkI 204 pc i q v sw)
    | none => true) = true
  have hz : code9 204 pc = none := by
    show (bif Nat.blt pc 75 then _ else none) = none
    rw [show Nat.blt pc 75 = false from blt_no (by omega)]
    rfl
  rw [hz]
theorem cc205 (pc : Nat) : chkE 205 pc = true := by
  by_cases h21 : pc < 21
  · exact (show 0 + (pc - 0) = pc by omega) ▸ ck205_0 (pc - 0) (by omega)
  show (match code9 205 pc with
    | some (_, i, q, v, sw) => decide (decode (mB9 205) pc = .ok (i, q.headD 0)) && ((len9 i == 0 || q.headD 0 == len9 i) && chkI 205 pc i q v sw)
    | none => true) = true
  have hz : code9 205 pc = none := by
    show (bif Nat.blt pc 21 then _ else none) = none
    rw [show Nat.blt pc 21 = false from blt_no (by omega)]
    rfl
  rw [hz]
theorem cc206 (pc : Nat) : chkE 206 pc = true := by
  by_cases h22 : pc < 22
  · exact (show 0 + (pc - 0) = pc by omega) ▸ ck206_0 (pc - 0) (by omega)
  show (match code9 206 pc with
    | some (_, i, q, v, sw) => decide (decode (mB9 206) pc = .ok (i, q.headD 0)) && ((len9 i == 0 || q.headD 0 == len9 i) && chkI 206 pc i q v sw)
    | none => true) = true
  have hz : code9 206 pc = none := by
    show (bif Nat.blt pc 22 then _ else none) = none
    rw [show Nat.blt pc 22 = false from blt_no (by omega)]
    rfl
  rw [hz]
theorem cc207 (pc : Nat) : chkE 207 pc = true := by
  by_cases h10 : pc < 10
  · exact (show 0 + (pc - 0) = pc by omega) ▸ ck207_0 (pc - 0) (by omega)
  show (match code9 207 pc with
    | some (_, i, q, v, sw) => decide (decode (mB9 207) pc = .ok (i, q.headD 0)) && ((len9 i == 0 || q.headD 0 == len9 i) && chkI 207 pc i q v sw)
    | none => true) = true
  have hz : code9 207 pc = none := by
    show (bif Nat.blt pc 10 then _ else none) = none
    rw [show Nat.blt pc 10 = false from blt_no (by omega)]
    rfl
  rw [hz]
theorem cc208 (pc : Nat) : chkE 208 pc = true := by
  by_cases h151 : pc < 151
  · exact (show 0 + (pc - 0) = pc by omega) ▸ ck208_0 (pc - 0) (by omega)
  show (match code9 208 pc with
    | some (_, i, q, v, sw) => decide (decode (mB9 208) pc = .ok (i, q.headD 0)) && ((len9 i == 0 || q.headD 0 == len9 i) && chkI 208 pc i q v sw)
    | none => true) = true
  have hz : code9 208 pc = none := by
    show (bif Nat.blt pc 151 then _ else none) = none
    rw [show Nat.blt pc 151 = false from blt_no (by omega)]
    rfl
  rw [hz]
theorem cc209 (pc : Nat) : chkE 209 pc = true := by
  by_cases h14 : pc < 14
  · exact (show 0 + (pc - 0) = pc by omega) ▸ ck209_0 (pc - 0) (by omega)
  show (match code9 209 pc with
    | some (_, i, q, v, sw) => decide (decode (mB9 209) pc = .ok (i, q.headD 0)) && ((len9 i == 0 || q.headD 0 == len9 i) && chkI 209 pc i q v sw)
    | none => true) = true
  have hz : code9 209 pc = none := by
    show (bif Nat.blt pc 14 then _ else none) = none
    rw [show Nat.blt pc 14 = false from blt_no (by omega)]
    rfl
  rw [hz]
theorem cc210 (pc : Nat) : chkE 210 pc = true := by
  by_cases h7 : pc < 7
  · exact (show 0 + (pc - 0) = pc by omega) ▸ ck210_0 (pc - 0) (by omega)
  show (match code9 210 pc with
    | some (_, i, q, v, sw) => decide (decode (mB9 210) pc = .ok (i, q.headD 0)) && ((len9 i == 0 || q.headD 0 == len9 i) && chkI 210 pc i q v sw)
    | none => true) = true
  have hz : code9 210 pc = none := by
    show (bif Nat.blt pc 7 then _ else none) = none
    rw [show Nat.blt pc 7 = false from blt_no (by omega)]
    rfl
  rw [hz]
theorem cc211 (pc : Nat) : chkE 211 pc = true := by
  by_cases h142 : pc < 142
  · exact (show 0 + (pc - 0) = pc by omega) ▸ ck211_0 (pc - 0) (by omega)
  show (match code9 211 pc with
    | some (_, i, q, v, sw) => decide (decode (mB9 211) pc = .ok (i, q.headD 0)) && ((len9 i == 0 || q.headD 0 == len9 i) && chkI 211 pc i q v sw)
    | none => true) = true
  have hz : code9 211 pc = none := by
    show (bif Nat.blt pc 142 then _ else none) = none
    rw [show Nat.blt pc 142 = false from blt_no (by omega)]
    rfl
  rw [hz]
theorem cc212 (pc : Nat) : chkE 212 pc = true := by
  by_cases h14 : pc < 14
  · exact (show 0 + (pc - 0) = pc by omega) ▸ ck212_0 (pc - 0) (by omega)
  show (match code9 212 pc with
    | some (_, i, q, v, sw) => decide (decode (mB9 212) pc = .ok (i, q.headD 0)) && ((len9 i == 0 || q.headD 0 == len9 i) && chkI 212 pc i q v sw)
    | none => true) = true
  have hz : code9 212 pc = none := by
    show (bif Nat.blt pc 14 then _ else none) = none
    rw [show Nat.blt pc 14 = false from blt_no (by omega)]
    rfl
  rw [hz]
theorem cc213 (pc : Nat) : chkE 213 pc = true := by
  by_cases h147 : pc < 147
  · exact (show 0 + (pc - 0) = pc by omega) ▸ ck213_0 (pc - 0) (by omega)
  show (match code9 213 pc with
    | some (_, i, q, v, sw) => decide (decode (mB9 213) pc = .ok (i, q.headD 0)) && ((len9 i == 0 || q.headD 0 == len9 i) && chkI 213 pc i q v sw)
    | none => true) = true
  have hz : code9 213 pc = none := by
    show (bif Nat.blt pc 147 then _ else none) = none
    rw [show Nat.blt pc 147 = false from blt_no (by omega)]
    rfl
  rw [hz]
theorem cc214 (pc : Nat) : chkE 214 pc = true := by
  by_cases h38 : pc < 38
  · exact (show 0 + (pc - 0) = pc by omega) ▸ ck214_0 (pc - 0) (by omega)
  show (match code9 214 pc with
    | some (_, i, q, v, sw) => decide (decode (mB9 214) pc = .ok (i, q.headD 0)) && ((len9 i == 0 || q.headD 0 == len9 i) && chkI 214 pc i q v sw)
    | none => true) = true
  have hz : code9 214 pc = none := by
    show (bif Nat.blt pc 38 then _ else none) = none
    rw [show Nat.blt pc 38 = false from blt_no (by omega)]
    rfl
  rw [hz]
theorem cc215 (pc : Nat) : chkE 215 pc = true := by
  by_cases h118 : pc < 118
  · exact (show 0 + (pc - 0) = pc by omega) ▸ ck215_0 (pc - 0) (by omega)
  show (match code9 215 pc with
    | some (_, i, q, v, sw) => decide (decode (mB9 215) pc = .ok (i, q.headD 0)) && ((len9 i == 0 || q.headD 0 == len9 i) && chkI 215 pc i q v sw)
    | none => true) = true
  have hz : code9 215 pc = none := by
    show (bif Nat.blt pc 118 then _ else none) = none
    rw [show Nat.blt pc 118 = false from blt_no (by omega)]
    rfl
  rw [hz]
theorem cc216 (pc : Nat) : chkE 216 pc = true := by
  by_cases h14 : pc < 14
  · exact (show 0 + (pc - 0) = pc by omega) ▸ ck216_0 (pc - 0) (by omega)
  show (match code9 216 pc with
    | some (_, i, q, v, sw) => decide (decode (mB9 216) pc = .ok (i, q.headD 0)) && ((len9 i == 0 || q.headD 0 == len9 i) && chkI 216 pc i q v sw)
    | none => true) = true
  have hz : code9 216 pc = none := by
    show (bif Nat.blt pc 14 then _ else none) = none
    rw [show Nat.blt pc 14 = false from blt_no (by omega)]
    rfl
  rw [hz]
theorem cc217 (pc : Nat) : chkE 217 pc = true := by
  by_cases h11 : pc < 11
  · exact (show 0 + (pc - 0) = pc by omega) ▸ ck217_0 (pc - 0) (by omega)
  show (match code9 217 pc with
    | some (_, i, q, v, sw) => decide (decode (mB9 217) pc = .ok (i, q.headD 0)) && ((len9 i == 0 || q.headD 0 == len9 i) && chkI 217 pc i q v sw)
    | none => true) = true
  have hz : code9 217 pc = none := by
    show (bif Nat.blt pc 11 then _ else none) = none
    rw [show Nat.blt pc 11 = false from blt_no (by omega)]
    rfl
  rw [hz]
theorem cc218 (pc : Nat) : chkE 218 pc = true := by
  by_cases h133 : pc < 133
  · exact (show 0 + (pc - 0) = pc by omega) ▸ ck218_0 (pc - 0) (by omega)
  show (match code9 218 pc with
    | some (_, i, q, v, sw) => decide (decode (mB9 218) pc = .ok (i, q.headD 0)) && ((len9 i == 0 || q.headD 0 == len9 i) && chkI 218 pc i q v sw)
    | none => true) = true
  have hz : code9 218 pc = none := by
    show (bif Nat.blt pc 133 then _ else none) = none
    rw [show Nat.blt pc 133 = false from blt_no (by omega)]
    rfl
  rw [hz]
theorem cc219 (pc : Nat) : chkE 219 pc = true := by
  by_cases h42 : pc < 42
  · exact (show 0 + (pc - 0) = pc by omega) ▸ ck219_0 (pc - 0) (by omega)
  show (match code9 219 pc with
    | some (_, i, q, v, sw) => decide (decode (mB9 219) pc = .ok (i, q.headD 0)) && ((len9 i == 0 || q.headD 0 == len9 i) && chkI 219 pc i q v sw)
    | none => true) = true
  have hz : code9 219 pc = none := by
    show (bif Nat.blt pc 42 then _ else none) = none
    rw [show Nat.blt pc 42 = false from blt_no (by omega)]
    rfl
  rw [hz]
theorem cc220 (pc : Nat) : chkE 220 pc = true := by
  by_cases h38 : pc < 38
  · exact (show 0 + (pc - 0) = pc by omega) ▸ ck220_0 (pc - 0) (by omega)
  show (match code9 220 pc with
    | some (_, i, q, v, sw) => decide (decode (mB9 220) pc = .ok (i, q.headD 0)) && ((len9 i == 0 || q.headD 0 == len9 i) && chkI 220 pc i q v sw)
    | none => true) = true
  have hz : code9 220 pc = none := by
    show (bif Nat.blt pc 38 then _ else none) = none
    rw [show Nat.blt pc 38 = false from blt_no (by omega)]
    rfl
  rw [hz]
theorem cc221 (pc : Nat) : chkE 221 pc = true := by
  by_cases h15 : pc < 15
  · exact (show 0 + (pc - 0) = pc by omega) ▸ ck221_0 (pc - 0) (by omega)
  show (match code9 221 pc with
    | some (_, i, q, v, sw) => decide (decode (mB9 221) pc = .ok (i, q.headD 0)) && ((len9 i == 0 || q.headD 0 == len9 i) && chkI 221 pc i q v sw)
    | none => true) = true
  have hz : code9 221 pc = none := by
    show (bif Nat.blt pc 15 then _ else none) = none
    rw [show Nat.blt pc 15 = false from blt_no (by omega)]
    rfl
  rw [hz]
theorem cc222 (pc : Nat) : chkE 222 pc = true := by
  by_cases h48 : pc < 48
  · exact (show 0 + (pc - 0) = pc by omega) ▸ ck222_0 (pc - 0) (by omega)
  show (match code9 222 pc with
    | some (_, i, q, v, sw) => decide (decode (mB9 222) pc = .ok (i, q.headD 0)) && ((len9 i == 0 || q.headD 0 == len9 i) && chkI 222 pc i q v sw)
    | none => true) = true
  have hz : code9 222 pc = none := by
    show (bif Nat.blt pc 48 then _ else none) = none
    rw [show Nat.blt pc 48 = false from blt_no (by omega)]
    rfl
  rw [hz]
theorem cc223 (pc : Nat) : chkE 223 pc = true := by
  by_cases h26 : pc < 26
  · exact (show 0 + (pc - 0) = pc by omega) ▸ ck223_0 (pc - 0) (by omega)
  show (match code9 223 pc with
    | some (_, i, q, v, sw) => decide (decode (mB9 223) pc = .ok (i, q.headD 0)) && ((len9 i == 0 || q.headD 0 == len9 i) && chkI 223 pc i q v sw)
    | none => true) = true
  have hz : code9 223 pc = none := by
    show (bif Nat.blt pc 26 then _ else none) = none
    rw [show Nat.blt pc 26 = false from blt_no (by omega)]
    rfl
  rw [hz]
theorem cc224 (pc : Nat) : chkE 224 pc = true := by
  by_cases h97 : pc < 97
  · exact (show 0 + (pc - 0) = pc by omega) ▸ ck224_0 (pc - 0) (by omega)
  show (match code9 224 pc with
    | some (_, i, q, v, sw) => decide (decode (mB9 224) pc = .ok (i, q.headD 0)) && ((len9 i == 0 || q.headD 0 == len9 i) && chkI 224 pc i q v sw)
    | none => true) = true
  have hz : code9 224 pc = none := by
    show (bif Nat.blt pc 97 then _ else none) = none
    rw [show Nat.blt pc 97 = false from blt_no (by omega)]
    rfl
  rw [hz]
theorem cc225 (pc : Nat) : chkE 225 pc = true := by
  by_cases h181 : pc < 181
  · exact (show 0 + (pc - 0) = pc by omega) ▸ ck225_0 (pc - 0) (by omega)
  show (match code9 225 pc with
    | some (_, i, q, v, sw) => decide (decode (mB9 225) pc = .ok (i, q.headD 0)) && ((len9 i == 0 || q.headD 0 == len9 i) && chkI 225 pc i q v sw)
    | none => true) = true
  have hz : code9 225 pc = none := by
    show (bif Nat.blt pc 181 then _ else none) = none
    rw [show Nat.blt pc 181 = false from blt_no (by omega)]
    rfl
  rw [hz]
theorem cc226 (pc : Nat) : chkE 226 pc = true := by
  by_cases h42 : pc < 42
  · exact (show 0 + (pc - 0) = pc by omega) ▸ ck226_0 (pc - 0) (by omega)
  show (match code9 226 pc with
    | some (_, i, q, v, sw) => decide (decode (mB9 226) pc = .ok (i, q.headD 0)) && ((len9 i == 0 || q.headD 0 == len9 i) && chkI 226 pc i q v sw)
    | none => true) = true
  have hz : code9 226 pc = none := by
    show (bif Nat.blt pc 42 then _ else none) = none
    rw [show Nat.blt pc 42 = false from blt_no (by omega)]
    rfl
  rw [hz]
theorem cc227 (pc : Nat) : chkE 227 pc = true := by
  by_cases h20 : pc < 20
  · exact (show 0 + (pc - 0) = pc by omega) ▸ ck227_0 (pc - 0) (by omega)
  show (match code9 227 pc with
    | some (_, i, q, v, sw) => decide (decode (mB9 227) pc = .ok (i, q.headD 0)) && ((len9 i == 0 || q.headD 0 == len9 i) && chkI 227 pc i q v sw)
    | none => true) = true
  have hz : code9 227 pc = none := by
    show (bif Nat.blt pc 20 then _ else none) = none
    rw [show Nat.blt pc 20 = false from blt_no (by omega)]
    rfl
  rw [hz]
theorem cc228 (pc : Nat) : chkE 228 pc = true := by
  by_cases h36 : pc < 36
  · exact (show 0 + (pc - 0) = pc by omega) ▸ ck228_0 (pc - 0) (by omega)
  show (match code9 228 pc with
    | some (_, i, q, v, sw) => decide (decode (mB9 228) pc = .ok (i, q.headD 0)) && ((len9 i == 0 || q.headD 0 == len9 i) && chkI 228 pc i q v sw)
    | none => true) = true
  have hz : code9 228 pc = none := by
    show (bif Nat.blt pc 36 then _ else none) = none
    rw [show Nat.blt pc 36 = false from blt_no (by omega)]
    rfl
  rw [hz]
theorem cc229 (pc : Nat) : chkE 229 pc = true := by
  by_cases h45 : pc < 45
  · exact (show 0 + (pc - 0) = pc by omega) ▸ ck229_0 (pc - 0) (by omega)
  show (match code9 229 pc with
    | some (_, i, q, v, sw) => decide (decode (mB9 229) pc = .ok (i, q.headD 0)) && ((len9 i == 0 || q.headD 0 == len9 i) && chkI 229 pc i q v sw)
    | none => true) = true
  have hz : code9 229 pc = none := by
    show (bif Nat.blt pc 45 then _ else none) = none
    rw [show Nat.blt pc 45 = false from blt_no (by omega)]
    rfl
  rw [hz]
theorem cc230 (pc : Nat) : chkE 230 pc = true := by
  by_cases h47 : pc < 47
  · exact (show 0 + (pc - 0) = pc by omega) ▸ ck230_0 (pc - 0) (by omega)
  show (match code9 230 pc with
    | some (_, i, q, v, sw) => decide (decode (mB9 230) pc = .ok (i, q.headD 0)) && ((len9 i == 0 || q.headD 0 == len9 i) && chkI 230 pc i q v sw)
    | none => true) = true
  have hz : code9 230 pc = none := by
    show (bif Nat.blt pc 47 then _ else none) = none
    rw [show Nat.blt pc 47 = false from blt_no (by omega)]
    rfl
  rw [hz]
theorem cc231 (pc : Nat) : chkE 231 pc = true := by
  by_cases h42 : pc < 42
  · exact (show 0 + (pc - 0) = pc by omega) ▸ ck231_0 (pc - 0) (by omega)
  show (match code9 231 pc with
    | some (_, i, q, v, sw) => decide (decode (mB9 231) pc = .ok (i, q.headD 0)) && ((len9 i == 0 || q.headD 0 == len9 i) && chkI 231 pc i q v sw)
    | none => true) = true
  have hz : code9 231 pc = none := by
    show (bif Nat.blt pc 42 then _ else none) = none
    rw [show Nat.blt pc 42 = false from blt_no (by omega)]
    rfl
  rw [hz]
theorem cc232 (pc : Nat) : chkE 232 pc = true := by
  by_cases h66 : pc < 66
  · exact (show 0 + (pc - 0) = pc by omega) ▸ ck232_0 (pc - 0) (by omega)
  show (match code9 232 pc with
    | some (_, i, q, v, sw) => decide (decode (mB9 232) pc = .ok (i, q.headD 0)) && ((len9 i == 0 || q.headD 0 == len9 i) && chkI 232 pc i q v sw)
    | none => true) = true
  have hz : code9 232 pc = none := by
    show (bif Nat.blt pc 66 then _ else none) = none
    rw [show Nat.blt pc 66 = false from blt_no (by omega)]
    rfl
  rw [hz]
theorem cc233 (pc : Nat) : chkE 233 pc = true := by
  by_cases h19 : pc < 19
  · exact (show 0 + (pc - 0) = pc by omega) ▸ ck233_0 (pc - 0) (by omega)
  show (match code9 233 pc with
    | some (_, i, q, v, sw) => decide (decode (mB9 233) pc = .ok (i, q.headD 0)) && ((len9 i == 0 || q.headD 0 == len9 i) && chkI 233 pc i q v sw)
    | none => true) = true
  have hz : code9 233 pc = none := by
    show (bif Nat.blt pc 19 then _ else none) = none
    rw [show Nat.blt pc 19 = false from blt_no (by omega)]
    rfl
  rw [hz]
theorem cc234 (pc : Nat) : chkE 234 pc = true := by
  by_cases h209 : pc < 209
  · exact (show 0 + (pc - 0) = pc by omega) ▸ ck234_0 (pc - 0) (by omega)
  show (match code9 234 pc with
    | some (_, i, q, v, sw) => decide (decode (mB9 234) pc = .ok (i, q.headD 0)) && ((len9 i == 0 || q.headD 0 == len9 i) && chkI 234 pc i q v sw)
    | none => true) = true
  have hz : code9 234 pc = none := by
    show (bif Nat.blt pc 209 then _ else none) = none
    rw [show Nat.blt pc 209 = false from blt_no (by omega)]
    rfl
  rw [hz]
theorem cc235 (pc : Nat) : chkE 235 pc = true := by
  by_cases h26 : pc < 26
  · exact (show 0 + (pc - 0) = pc by omega) ▸ ck235_0 (pc - 0) (by omega)
  show (match code9 235 pc with
    | some (_, i, q, v, sw) => decide (decode (mB9 235) pc = .ok (i, q.headD 0)) && ((len9 i == 0 || q.headD 0 == len9 i) && chkI 235 pc i q v sw)
    | none => true) = true
  have hz : code9 235 pc = none := by
    show (bif Nat.blt pc 26 then _ else none) = none
    rw [show Nat.blt pc 26 = false from blt_no (by omega)]
    rfl
  rw [hz]
theorem cc236 (pc : Nat) : chkE 236 pc = true := by
  by_cases h66 : pc < 66
  · exact (show 0 + (pc - 0) = pc by omega) ▸ ck236_0 (pc - 0) (by omega)
  show (match code9 236 pc with
    | some (_, i, q, v, sw) => decide (decode (mB9 236) pc = .ok (i, q.headD 0)) && ((len9 i == 0 || q.headD 0 == len9 i) && chkI 236 pc i q v sw)
    | none => true) = true
  have hz : code9 236 pc = none := by
    show (bif Nat.blt pc 66 then _ else none) = none
    rw [show Nat.blt pc 66 = false from blt_no (by omega)]
    rfl
  rw [hz]
theorem cc237 (pc : Nat) : chkE 237 pc = true := by
  by_cases h52 : pc < 52
  · exact (show 0 + (pc - 0) = pc by omega) ▸ ck237_0 (pc - 0) (by omega)
  show (match code9 237 pc with
    | some (_, i, q, v, sw) => decide (decode (mB9 237) pc = .ok (i, q.headD 0)) && ((len9 i == 0 || q.headD 0 == len9 i) && chkI 237 pc i q v sw)
    | none => true) = true
  have hz : code9 237 pc = none := by
    show (bif Nat.blt pc 52 then _ else none) = none
    rw [show Nat.blt pc 52 = false from blt_no (by omega)]
    rfl
  rw [hz]
theorem cc238 (pc : Nat) : chkE 238 pc = true := by
  by_cases h42 : pc < 42
  · exact (show 0 + (pc - 0) = pc by omega) ▸ ck238_0 (pc - 0) (by omega)
  show (match code9 238 pc with
    | some (_, i, q, v, sw) => decide (decode (mB9 238) pc = .ok (i, q.headD 0)) && ((len9 i == 0 || q.headD 0 == len9 i) && chkI 238 pc i q v sw)
    | none => true) = true
  have hz : code9 238 pc = none := by
    show (bif Nat.blt pc 42 then _ else none) = none
    rw [show Nat.blt pc 42 = false from blt_no (by omega)]
    rfl
  rw [hz]
theorem cc239 (pc : Nat) : chkE 239 pc = true := by
  by_cases h11 : pc < 11
  · exact (show 0 + (pc - 0) = pc by omega) ▸ ck239_0 (pc - 0) (by omega)
  show (match code9 239 pc with
    | some (_, i, q, v, sw) => decide (decode (mB9 239) pc = .ok (i, q.headD 0)) && ((len9 i == 0 || q.headD 0 == len9 i) && chkI 239 pc i q v sw)
    | none => true) = true
  have hz : code9 239 pc = none := by
    show (bif Nat.blt pc 11 then _ else none) = none
    rw [show Nat.blt pc 11 = false from blt_no (by omega)]
    rfl
  rw [hz]
theorem cc240 (pc : Nat) : chkE 240 pc = true := by
  by_cases h150 : pc < 150
  · exact (show 0 + (pc - 0) = pc by omega) ▸ ck240_0 (pc - 0) (by omega)
  show (match code9 240 pc with
    | some (_, i, q, v, sw) => decide (decode (mB9 240) pc = .ok (i, q.headD 0)) && ((len9 i == 0 || q.headD 0 == len9 i) && chkI 240 pc i q v sw)
    | none => true) = true
  have hz : code9 240 pc = none := by
    show (bif Nat.blt pc 150 then _ else none) = none
    rw [show Nat.blt pc 150 = false from blt_no (by omega)]
    rfl
  rw [hz]
theorem cc241 (pc : Nat) : chkE 241 pc = true := by
  by_cases h53 : pc < 53
  · exact (show 0 + (pc - 0) = pc by omega) ▸ ck241_0 (pc - 0) (by omega)
  show (match code9 241 pc with
    | some (_, i, q, v, sw) => decide (decode (mB9 241) pc = .ok (i, q.headD 0)) && ((len9 i == 0 || q.headD 0 == len9 i) && chkI 241 pc i q v sw)
    | none => true) = true
  have hz : code9 241 pc = none := by
    show (bif Nat.blt pc 53 then _ else none) = none
    rw [show Nat.blt pc 53 = false from blt_no (by omega)]
    rfl
  rw [hz]
theorem cc242 (pc : Nat) : chkE 242 pc = true := by
  by_cases h113 : pc < 113
  · exact (show 0 + (pc - 0) = pc by omega) ▸ ck242_0 (pc - 0) (by omega)
  show (match code9 242 pc with
    | some (_, i, q, v, sw) => decide (decode (mB9 242) pc = .ok (i, q.headD 0)) && ((len9 i == 0 || q.headD 0 == len9 i) && chkI 242 pc i q v sw)
    | none => true) = true
  have hz : code9 242 pc = none := by
    show (bif Nat.blt pc 113 then _ else none) = none
    rw [show Nat.blt pc 113 = false from blt_no (by omega)]
    rfl
  rw [hz]
theorem cc243 (pc : Nat) : chkE 243 pc = true := by
  by_cases h21 : pc < 21
  · exact (show 0 + (pc - 0) = pc by omega) ▸ ck243_0 (pc - 0) (by omega)
  show (match code9 243 pc with
    | some (_, i, q, v, sw) => decide (decode (mB9 243) pc = .ok (i, q.headD 0)) && ((len9 i == 0 || q.headD 0 == len9 i) && chkI 243 pc i q v sw)
    | none => true) = true
  have hz : code9 243 pc = none := by
    show (bif Nat.blt pc 21 then _ else none) = none
    rw [show Nat.blt pc 21 = false from blt_no (by omega)]
    rfl
  rw [hz]
theorem cc244 (pc : Nat) : chkE 244 pc = true := by
  by_cases h21 : pc < 21
  · exact (show 0 + (pc - 0) = pc by omega) ▸ ck244_0 (pc - 0) (by omega)
  show (match code9 244 pc with
    | some (_, i, q, v, sw) => decide (decode (mB9 244) pc = .ok (i, q.headD 0)) && ((len9 i == 0 || q.headD 0 == len9 i) && chkI 244 pc i q v sw)
    | none => true) = true
  have hz : code9 244 pc = none := by
    show (bif Nat.blt pc 21 then _ else none) = none
    rw [show Nat.blt pc 21 = false from blt_no (by omega)]
    rfl
  rw [hz]
theorem cc245 (pc : Nat) : chkE 245 pc = true := by
  by_cases h34 : pc < 34
  · exact (show 0 + (pc - 0) = pc by omega) ▸ ck245_0 (pc - 0) (by omega)
  show (match code9 245 pc with
    | some (_, i, q, v, sw) => decide (decode (mB9 245) pc = .ok (i, q.headD 0)) && ((len9 i == 0 || q.headD 0 == len9 i) && chkI 245 pc i q v sw)
    | none => true) = true
  have hz : code9 245 pc = none := by
    show (bif Nat.blt pc 34 then _ else none) = none
    rw [show Nat.blt pc 34 = false from blt_no (by omega)]
    rfl
  rw [hz]
theorem cc246 (pc : Nat) : chkE 246 pc = true := by
  by_cases h49 : pc < 49
  · exact (show 0 + (pc - 0) = pc by omega) ▸ ck246_0 (pc - 0) (by omega)
  show (match code9 246 pc with
    | some (_, i, q, v, sw) => decide (decode (mB9 246) pc = .ok (i, q.headD 0)) && ((len9 i == 0 || q.headD 0 == len9 i) && chkI 246 pc i q v sw)
    | none => true) = true
  have hz : code9 246 pc = none := by
    show (bif Nat.blt pc 49 then _ else none) = none
    rw [show Nat.blt pc 49 = false from blt_no (by omega)]
    rfl
  rw [hz]
theorem cc247 (pc : Nat) : chkE 247 pc = true := by
  by_cases h56 : pc < 56
  · exact (show 0 + (pc - 0) = pc by omega) ▸ ck247_0 (pc - 0) (by omega)
  show (match code9 247 pc with
    | some (_, i, q, v, sw) => decide (decode (mB9 247) pc = .ok (i, q.headD 0)) && ((len9 i == 0 || q.headD 0 == len9 i) && chkI 247 pc i q v sw)
    | none => true) = true
  have hz : code9 247 pc = none := by
    show (bif Nat.blt pc 56 then _ else none) = none
    rw [show Nat.blt pc 56 = false from blt_no (by omega)]
    rfl
  rw [hz]
theorem cc248 (pc : Nat) : chkE 248 pc = true := by
  by_cases h105 : pc < 105
  · exact (show 0 + (pc - 0) = pc by omega) ▸ ck248_0 (pc - 0) (by omega)
  show (match code9 248 pc with
    | some (_, i, q, v, sw) => decide (decode (mB9 248) pc = .ok (i, q.headD 0)) && ((len9 i == 0 || q.headD 0 == len9 i) && chkI 248 pc i q v sw)
    | none => true) = true
  have hz : code9 248 pc = none := by
    show (bif Nat.blt pc 105 then _ else none) = none
    rw [show Nat.blt pc 105 = false from blt_no (by omega)]
    rfl
  rw [hz]
theorem cc249 (pc : Nat) : chkE 249 pc = true := by
  by_cases h47 : pc < 47
  · exact (show 0 + (pc - 0) = pc by omega) ▸ ck249_0 (pc - 0) (by omega)
  show (match code9 249 pc with
    | some (_, i, q, v, sw) => decide (decode (mB9 249) pc = .ok (i, q.headD 0)) && ((len9 i == 0 || q.headD 0 == len9 i) && chkI 249 pc i q v sw)
    | none => true) = true
  have hz : code9 249 pc = none := by
    show (bif Nat.blt pc 47 then _ else none) = none
    rw [show Nat.blt pc 47 = false from blt_no (by omega)]
    rfl
  rw [hz]
theorem cc250 (pc : Nat) : chkE 250 pc = true := by
  by_cases h67 : pc < 67
  · exact (show 0 + (pc - 0) = pc by omega) ▸ ck250_0 (pc - 0) (by omega)
  show (match code9 250 pc with
    | some (_, i, q, v, sw) => decide (decode (mB9 250) pc = .ok (i, q.headD 0)) && ((len9 i == 0 || q.headD 0 == len9 i) && chkI 250 pc i q v sw)
    | none => true) = true
  have hz : code9 250 pc = none := by
    show (bif Nat.blt pc 67 then _ else none) = none
    rw [show Nat.blt pc 67 = false from blt_no (by omega)]
    rfl
  rw [hz]
theorem cc251 (pc : Nat) : chkE 251 pc = true := by
  by_cases h45 : pc < 45
  · exact (show 0 + (pc - 0) = pc by omega) ▸ ck251_0 (pc - 0) (by omega)
  show (match code9 251 pc with
    | some (_, i, q, v, sw) => decide (decode (mB9 251) pc = .ok (i, q.headD 0)) && ((len9 i == 0 || q.headD 0 == len9 i) && chkI 251 pc i q v sw)
    | none => true) = true
  have hz : code9 251 pc = none := by
    show (bif Nat.blt pc 45 then _ else none) = none
    rw [show Nat.blt pc 45 = false from blt_no (by omega)]
    rfl
  rw [hz]
theorem cc252 (pc : Nat) : chkE 252 pc = true := by
  by_cases h88 : pc < 88
  · exact (show 0 + (pc - 0) = pc by omega) ▸ ck252_0 (pc - 0) (by omega)
  show (match code9 252 pc with
    | some (_, i, q, v, sw) => decide (decode (mB9 252) pc = .ok (i, q.headD 0)) && ((len9 i == 0 || q.headD 0 == len9 i) && chkI 252 pc i q v sw)
    | none => true) = true
  have hz : code9 252 pc = none := by
    show (bif Nat.blt pc 88 then _ else none) = none
    rw [show Nat.blt pc 88 = false from blt_no (by omega)]
    rfl
  rw [hz]
theorem cc253 (pc : Nat) : chkE 253 pc = true := by
  by_cases h60 : pc < 60
  · exact (show 0 + (pc - 0) = pc by omega) ▸ ck253_0 (pc - 0) (by omega)
  show (match code9 253 pc with
    | some (_, i, q, v, sw) => decide (decode (mB9 253) pc = .ok (i, q.headD 0)) && ((len9 i == 0 || q.headD 0 == len9 i) && chkI 253 pc i q v sw)
    | none => true) = true
  have hz : code9 253 pc = none := by
    show (bif Nat.blt pc 60 then _ else none) = none
    rw [show Nat.blt pc 60 = false from blt_no (by omega)]
    rfl
  rw [hz]
theorem cc254 (pc : Nat) : chkE 254 pc = true := by
  by_cases h228 : pc < 228
  · exact (show 0 + (pc - 0) = pc by omega) ▸ ck254_0 (pc - 0) (by omega)
  show (match code9 254 pc with
    | some (_, i, q, v, sw) => decide (decode (mB9 254) pc = .ok (i, q.headD 0)) && ((len9 i == 0 || q.headD 0 == len9 i) && chkI 254 pc i q v sw)
    | none => true) = true
  have hz : code9 254 pc = none := by
    show (bif Nat.blt pc 228 then _ else none) = none
    rw [show Nat.blt pc 228 = false from blt_no (by omega)]
    rfl
  rw [hz]
theorem cc255 (pc : Nat) : chkE 255 pc = true := by
  by_cases h30 : pc < 30
  · exact (show 0 + (pc - 0) = pc by omega) ▸ ck255_0 (pc - 0) (by omega)
  show (match code9 255 pc with
    | some (_, i, q, v, sw) => decide (decode (mB9 255) pc = .ok (i, q.headD 0)) && ((len9 i == 0 || q.headD 0 == len9 i) && chkI 255 pc i q v sw)
    | none => true) = true
  have hz : code9 255 pc = none := by
    show (bif Nat.blt pc 30 then _ else none) = none
    rw [show Nat.blt pc 30 = false from blt_no (by omega)]
    rfl
  rw [hz]
theorem cc256 (pc : Nat) : chkE 256 pc = true := by
  by_cases h15 : pc < 15
  · exact (show 0 + (pc - 0) = pc by omega) ▸ ck256_0 (pc - 0) (by omega)
  show (match code9 256 pc with
    | some (_, i, q, v, sw) => decide (decode (mB9 256) pc = .ok (i, q.headD 0)) && ((len9 i == 0 || q.headD 0 == len9 i) && chkI 256 pc i q v sw)
    | none => true) = true
  have hz : code9 256 pc = none := by
    show (bif Nat.blt pc 15 then _ else none) = none
    rw [show Nat.blt pc 15 = false from blt_no (by omega)]
    rfl
  rw [hz]
theorem cc257 (pc : Nat) : chkE 257 pc = true := by
  by_cases h94 : pc < 94
  · exact (show 0 + (pc - 0) = pc by omega) ▸ ck257_0 (pc - 0) (by omega)
  show (match code9 257 pc with
    | some (_, i, q, v, sw) => decide (decode (mB9 257) pc = .ok (i, q.headD 0)) && ((len9 i == 0 || q.headD 0 == len9 i) && chkI 257 pc i q v sw)
    | none => true) = true
  have hz : code9 257 pc = none := by
    show (bif Nat.blt pc 94 then _ else none) = none
    rw [show Nat.blt pc 94 = false from blt_no (by omega)]
    rfl
  rw [hz]
theorem cc258 (pc : Nat) : chkE 258 pc = true := by
  by_cases h159 : pc < 159
  · exact (show 0 + (pc - 0) = pc by omega) ▸ ck258_0 (pc - 0) (by omega)
  show (match code9 258 pc with
    | some (_, i, q, v, sw) => decide (decode (mB9 258) pc = .ok (i, q.headD 0)) && ((len9 i == 0 || q.headD 0 == len9 i) && chkI 258 pc i q v sw)
    | none => true) = true
  have hz : code9 258 pc = none := by
    show (bif Nat.blt pc 159 then _ else none) = none
    rw [show Nat.blt pc 159 = false from blt_no (by omega)]
    rfl
  rw [hz]
theorem cc259 (pc : Nat) : chkE 259 pc = true := by
  by_cases h30 : pc < 30
  · exact (show 0 + (pc - 0) = pc by omega) ▸ ck259_0 (pc - 0) (by omega)
  show (match code9 259 pc with
    | some (_, i, q, v, sw) => decide (decode (mB9 259) pc = .ok (i, q.headD 0)) && ((len9 i == 0 || q.headD 0 == len9 i) && chkI 259 pc i q v sw)
    | none => true) = true
  have hz : code9 259 pc = none := by
    show (bif Nat.blt pc 30 then _ else none) = none
    rw [show Nat.blt pc 30 = false from blt_no (by omega)]
    rfl
  rw [hz]
theorem cc260 (pc : Nat) : chkE 260 pc = true := by
  by_cases h30 : pc < 30
  · exact (show 0 + (pc - 0) = pc by omega) ▸ ck260_0 (pc - 0) (by omega)
  show (match code9 260 pc with
    | some (_, i, q, v, sw) => decide (decode (mB9 260) pc = .ok (i, q.headD 0)) && ((len9 i == 0 || q.headD 0 == len9 i) && chkI 260 pc i q v sw)
    | none => true) = true
  have hz : code9 260 pc = none := by
    show (bif Nat.blt pc 30 then _ else none) = none
    rw [show Nat.blt pc 30 = false from blt_no (by omega)]
    rfl
  rw [hz]
theorem cc261 (pc : Nat) : chkE 261 pc = true := by
  by_cases h124 : pc < 124
  · exact (show 0 + (pc - 0) = pc by omega) ▸ ck261_0 (pc - 0) (by omega)
  show (match code9 261 pc with
    | some (_, i, q, v, sw) => decide (decode (mB9 261) pc = .ok (i, q.headD 0)) && ((len9 i == 0 || q.headD 0 == len9 i) && chkI 261 pc i q v sw)
    | none => true) = true
  have hz : code9 261 pc = none := by
    show (bif Nat.blt pc 124 then _ else none) = none
    rw [show Nat.blt pc 124 = false from blt_no (by omega)]
    rfl
  rw [hz]
theorem cc262 (pc : Nat) : chkE 262 pc = true := by
  by_cases h58 : pc < 58
  · exact (show 0 + (pc - 0) = pc by omega) ▸ ck262_0 (pc - 0) (by omega)
  show (match code9 262 pc with
    | some (_, i, q, v, sw) => decide (decode (mB9 262) pc = .ok (i, q.headD 0)) && ((len9 i == 0 || q.headD 0 == len9 i) && chkI 262 pc i q v sw)
    | none => true) = true
  have hz : code9 262 pc = none := by
    show (bif Nat.blt pc 58 then _ else none) = none
    rw [show Nat.blt pc 58 = false from blt_no (by omega)]
    rfl
  rw [hz]
theorem cc263 (pc : Nat) : chkE 263 pc = true := by
  by_cases h271 : pc < 271
  · exact (show 0 + (pc - 0) = pc by omega) ▸ ck263_0 (pc - 0) (by omega)
  show (match code9 263 pc with
    | some (_, i, q, v, sw) => decide (decode (mB9 263) pc = .ok (i, q.headD 0)) && ((len9 i == 0 || q.headD 0 == len9 i) && chkI 263 pc i q v sw)
    | none => true) = true
  have hz : code9 263 pc = none := by
    show (bif Nat.blt pc 271 then _ else none) = none
    rw [show Nat.blt pc 271 = false from blt_no (by omega)]
    rfl
  rw [hz]
theorem cc264 (pc : Nat) : chkE 264 pc = true := by
  by_cases h10 : pc < 10
  · exact (show 0 + (pc - 0) = pc by omega) ▸ ck264_0 (pc - 0) (by omega)
  show (match code9 264 pc with
    | some (_, i, q, v, sw) => decide (decode (mB9 264) pc = .ok (i, q.headD 0)) && ((len9 i == 0 || q.headD 0 == len9 i) && chkI 264 pc i q v sw)
    | none => true) = true
  have hz : code9 264 pc = none := by
    show (bif Nat.blt pc 10 then _ else none) = none
    rw [show Nat.blt pc 10 = false from blt_no (by omega)]
    rfl
  rw [hz]
theorem cc265 (pc : Nat) : chkE 265 pc = true := by
  by_cases h86 : pc < 86
  · exact (show 0 + (pc - 0) = pc by omega) ▸ ck265_0 (pc - 0) (by omega)
  show (match code9 265 pc with
    | some (_, i, q, v, sw) => decide (decode (mB9 265) pc = .ok (i, q.headD 0)) && ((len9 i == 0 || q.headD 0 == len9 i) && chkI 265 pc i q v sw)
    | none => true) = true
  have hz : code9 265 pc = none := by
    show (bif Nat.blt pc 86 then _ else none) = none
    rw [show Nat.blt pc 86 = false from blt_no (by omega)]
    rfl
  rw [hz]
theorem cc266 (pc : Nat) : chkE 266 pc = true := by
  by_cases h10 : pc < 10
  · exact (show 0 + (pc - 0) = pc by omega) ▸ ck266_0 (pc - 0) (by omega)
  show (match code9 266 pc with
    | some (_, i, q, v, sw) => decide (decode (mB9 266) pc = .ok (i, q.headD 0)) && ((len9 i == 0 || q.headD 0 == len9 i) && chkI 266 pc i q v sw)
    | none => true) = true
  have hz : code9 266 pc = none := by
    show (bif Nat.blt pc 10 then _ else none) = none
    rw [show Nat.blt pc 10 = false from blt_no (by omega)]
    rfl
  rw [hz]
theorem cc267 (pc : Nat) : chkE 267 pc = true := by
  by_cases h208 : pc < 208
  · exact (show 0 + (pc - 0) = pc by omega) ▸ ck267_0 (pc - 0) (by omega)
  show (match code9 267 pc with
    | some (_, i, q, v, sw) => decide (decode (mB9 267) pc = .ok (i, q.headD 0)) && ((len9 i == 0 || q.headD 0 == len9 i) && chkI 267 pc i q v sw)
    | none => true) = true
  have hz : code9 267 pc = none := by
    show (bif Nat.blt pc 208 then _ else none) = none
    rw [show Nat.blt pc 208 = false from blt_no (by omega)]
    rfl
  rw [hz]
theorem cc268 (pc : Nat) : chkE 268 pc = true := by
  by_cases h31 : pc < 31
  · exact (show 0 + (pc - 0) = pc by omega) ▸ ck268_0 (pc - 0) (by omega)
  show (match code9 268 pc with
    | some (_, i, q, v, sw) => decide (decode (mB9 268) pc = .ok (i, q.headD 0)) && ((len9 i == 0 || q.headD 0 == len9 i) && chkI 268 pc i q v sw)
    | none => true) = true
  have hz : code9 268 pc = none := by
    show (bif Nat.blt pc 31 then _ else none) = none
    rw [show Nat.blt pc 31 = false from blt_no (by omega)]
    rfl
  rw [hz]
theorem cc269 (pc : Nat) : chkE 269 pc = true := by
  by_cases h21 : pc < 21
  · exact (show 0 + (pc - 0) = pc by omega) ▸ ck269_0 (pc - 0) (by omega)
  show (match code9 269 pc with
    | some (_, i, q, v, sw) => decide (decode (mB9 269) pc = .ok (i, q.headD 0)) && ((len9 i == 0 || q.headD 0 == len9 i) && chkI 269 pc i q v sw)
    | none => true) = true
  have hz : code9 269 pc = none := by
    show (bif Nat.blt pc 21 then _ else none) = none
    rw [show Nat.blt pc 21 = false from blt_no (by omega)]
    rfl
  rw [hz]
theorem cc270 (pc : Nat) : chkE 270 pc = true := by
  by_cases h26 : pc < 26
  · exact (show 0 + (pc - 0) = pc by omega) ▸ ck270_0 (pc - 0) (by omega)
  show (match code9 270 pc with
    | some (_, i, q, v, sw) => decide (decode (mB9 270) pc = .ok (i, q.headD 0)) && ((len9 i == 0 || q.headD 0 == len9 i) && chkI 270 pc i q v sw)
    | none => true) = true
  have hz : code9 270 pc = none := by
    show (bif Nat.blt pc 26 then _ else none) = none
    rw [show Nat.blt pc 26 = false from blt_no (by omega)]
    rfl
  rw [hz]
theorem cc271 (pc : Nat) : chkE 271 pc = true := by
  by_cases h12 : pc < 12
  · exact (show 0 + (pc - 0) = pc by omega) ▸ ck271_0 (pc - 0) (by omega)
  show (match code9 271 pc with
    | some (_, i, q, v, sw) => decide (decode (mB9 271) pc = .ok (i, q.headD 0)) && ((len9 i == 0 || q.headD 0 == len9 i) && chkI 271 pc i q v sw)
    | none => true) = true
  have hz : code9 271 pc = none := by
    show (bif Nat.blt pc 12 then _ else none) = none
    rw [show Nat.blt pc 12 = false from blt_no (by omega)]
    rfl
  rw [hz]
theorem cc272 (pc : Nat) : chkE 272 pc = true := by
  by_cases h30 : pc < 30
  · exact (show 0 + (pc - 0) = pc by omega) ▸ ck272_0 (pc - 0) (by omega)
  show (match code9 272 pc with
    | some (_, i, q, v, sw) => decide (decode (mB9 272) pc = .ok (i, q.headD 0)) && ((len9 i == 0 || q.headD 0 == len9 i) && chkI 272 pc i q v sw)
    | none => true) = true
  have hz : code9 272 pc = none := by
    show (bif Nat.blt pc 30 then _ else none) = none
    rw [show Nat.blt pc 30 = false from blt_no (by omega)]
    rfl
  rw [hz]
theorem cc273 (pc : Nat) : chkE 273 pc = true := by
  by_cases h91 : pc < 91
  · exact (show 0 + (pc - 0) = pc by omega) ▸ ck273_0 (pc - 0) (by omega)
  show (match code9 273 pc with
    | some (_, i, q, v, sw) => decide (decode (mB9 273) pc = .ok (i, q.headD 0)) && ((len9 i == 0 || q.headD 0 == len9 i) && chkI 273 pc i q v sw)
    | none => true) = true
  have hz : code9 273 pc = none := by
    show (bif Nat.blt pc 91 then _ else none) = none
    rw [show Nat.blt pc 91 = false from blt_no (by omega)]
    rfl
  rw [hz]
theorem cc274 (pc : Nat) : chkE 274 pc = true := by
  by_cases h198 : pc < 198
  · exact (show 0 + (pc - 0) = pc by omega) ▸ ck274_0 (pc - 0) (by omega)
  show (match code9 274 pc with
    | some (_, i, q, v, sw) => decide (decode (mB9 274) pc = .ok (i, q.headD 0)) && ((len9 i == 0 || q.headD 0 == len9 i) && chkI 274 pc i q v sw)
    | none => true) = true
  have hz : code9 274 pc = none := by
    show (bif Nat.blt pc 198 then _ else none) = none
    rw [show Nat.blt pc 198 = false from blt_no (by omega)]
    rfl
  rw [hz]
theorem cc275 (pc : Nat) : chkE 275 pc = true := by
  by_cases h123 : pc < 123
  · exact (show 0 + (pc - 0) = pc by omega) ▸ ck275_0 (pc - 0) (by omega)
  show (match code9 275 pc with
    | some (_, i, q, v, sw) => decide (decode (mB9 275) pc = .ok (i, q.headD 0)) && ((len9 i == 0 || q.headD 0 == len9 i) && chkI 275 pc i q v sw)
    | none => true) = true
  have hz : code9 275 pc = none := by
    show (bif Nat.blt pc 123 then _ else none) = none
    rw [show Nat.blt pc 123 = false from blt_no (by omega)]
    rfl
  rw [hz]
theorem cc276 (pc : Nat) : chkE 276 pc = true := by
  by_cases h293 : pc < 293
  · exact (show 0 + (pc - 0) = pc by omega) ▸ ck276_0 (pc - 0) (by omega)
  show (match code9 276 pc with
    | some (_, i, q, v, sw) => decide (decode (mB9 276) pc = .ok (i, q.headD 0)) && ((len9 i == 0 || q.headD 0 == len9 i) && chkI 276 pc i q v sw)
    | none => true) = true
  have hz : code9 276 pc = none := by
    show (bif Nat.blt pc 293 then _ else none) = none
    rw [show Nat.blt pc 293 = false from blt_no (by omega)]
    rfl
  rw [hz]
theorem cc277 (pc : Nat) : chkE 277 pc = true := by
  by_cases h37 : pc < 37
  · exact (show 0 + (pc - 0) = pc by omega) ▸ ck277_0 (pc - 0) (by omega)
  show (match code9 277 pc with
    | some (_, i, q, v, sw) => decide (decode (mB9 277) pc = .ok (i, q.headD 0)) && ((len9 i == 0 || q.headD 0 == len9 i) && chkI 277 pc i q v sw)
    | none => true) = true
  have hz : code9 277 pc = none := by
    show (bif Nat.blt pc 37 then _ else none) = none
    rw [show Nat.blt pc 37 = false from blt_no (by omega)]
    rfl
  rw [hz]
theorem cc278 (pc : Nat) : chkE 278 pc = true := by
  by_cases h48 : pc < 48
  · exact (show 0 + (pc - 0) = pc by omega) ▸ ck278_0 (pc - 0) (by omega)
  show (match code9 278 pc with
    | some (_, i, q, v, sw) => decide (decode (mB9 278) pc = .ok (i, q.headD 0)) && ((len9 i == 0 || q.headD 0 == len9 i) && chkI 278 pc i q v sw)
    | none => true) = true
  have hz : code9 278 pc = none := by
    show (bif Nat.blt pc 48 then _ else none) = none
    rw [show Nat.blt pc 48 = false from blt_no (by omega)]
    rfl
  rw [hz]
theorem cc279 (pc : Nat) : chkE 279 pc = true := by
  by_cases h225 : pc < 225
  · exact (show 0 + (pc - 0) = pc by omega) ▸ ck279_0 (pc - 0) (by omega)
  show (match code9 279 pc with
    | some (_, i, q, v, sw) => decide (decode (mB9 279) pc = .ok (i, q.headD 0)) && ((len9 i == 0 || q.headD 0 == len9 i) && chkI 279 pc i q v sw)
    | none => true) = true
  have hz : code9 279 pc = none := by
    show (bif Nat.blt pc 225 then _ else none) = none
    rw [show Nat.blt pc 225 = false from blt_no (by omega)]
    rfl
  rw [hz]
theorem cc280 (pc : Nat) : chkE 280 pc = true := by
  by_cases h140 : pc < 140
  · exact (show 0 + (pc - 0) = pc by omega) ▸ ck280_0 (pc - 0) (by omega)
  show (match code9 280 pc with
    | some (_, i, q, v, sw) => decide (decode (mB9 280) pc = .ok (i, q.headD 0)) && ((len9 i == 0 || q.headD 0 == len9 i) && chkI 280 pc i q v sw)
    | none => true) = true
  have hz : code9 280 pc = none := by
    show (bif Nat.blt pc 140 then _ else none) = none
    rw [show Nat.blt pc 140 = false from blt_no (by omega)]
    rfl
  rw [hz]
theorem cc281 (pc : Nat) : chkE 281 pc = true := by
  by_cases h60 : pc < 60
  · exact (show 0 + (pc - 0) = pc by omega) ▸ ck281_0 (pc - 0) (by omega)
  show (match code9 281 pc with
    | some (_, i, q, v, sw) => decide (decode (mB9 281) pc = .ok (i, q.headD 0)) && ((len9 i == 0 || q.headD 0 == len9 i) && chkI 281 pc i q v sw)
    | none => true) = true
  have hz : code9 281 pc = none := by
    show (bif Nat.blt pc 60 then _ else none) = none
    rw [show Nat.blt pc 60 = false from blt_no (by omega)]
    rfl
  rw [hz]
theorem cc282 (pc : Nat) : chkE 282 pc = true := by
  by_cases h32 : pc < 32
  · exact (show 0 + (pc - 0) = pc by omega) ▸ ck282_0 (pc - 0) (by omega)
  show (match code9 282 pc with
    | some (_, i, q, v, sw) => decide (decode (mB9 282) pc = .ok (i, q.headD 0)) && ((len9 i == 0 || q.headD 0 == len9 i) && chkI 282 pc i q v sw)
    | none => true) = true
  have hz : code9 282 pc = none := by
    show (bif Nat.blt pc 32 then _ else none) = none
    rw [show Nat.blt pc 32 = false from blt_no (by omega)]
    rfl
  rw [hz]
theorem cc283 (pc : Nat) : chkE 283 pc = true := by
  by_cases h113 : pc < 113
  · exact (show 0 + (pc - 0) = pc by omega) ▸ ck283_0 (pc - 0) (by omega)
  show (match code9 283 pc with
    | some (_, i, q, v, sw) => decide (decode (mB9 283) pc = .ok (i, q.headD 0)) && ((len9 i == 0 || q.headD 0 == len9 i) && chkI 283 pc i q v sw)
    | none => true) = true
  have hz : code9 283 pc = none := by
    show (bif Nat.blt pc 113 then _ else none) = none
    rw [show Nat.blt pc 113 = false from blt_no (by omega)]
    rfl
  rw [hz]
theorem cc284 (pc : Nat) : chkE 284 pc = true := by
  by_cases h58 : pc < 58
  · exact (show 0 + (pc - 0) = pc by omega) ▸ ck284_0 (pc - 0) (by omega)
  show (match code9 284 pc with
    | some (_, i, q, v, sw) => decide (decode (mB9 284) pc = .ok (i, q.headD 0)) && ((len9 i == 0 || q.headD 0 == len9 i) && chkI 284 pc i q v sw)
    | none => true) = true
  have hz : code9 284 pc = none := by
    show (bif Nat.blt pc 58 then _ else none) = none
    rw [show Nat.blt pc 58 = false from blt_no (by omega)]
    rfl
  rw [hz]
theorem cc285 (pc : Nat) : chkE 285 pc = true := by
  by_cases h58 : pc < 58
  · exact (show 0 + (pc - 0) = pc by omega) ▸ ck285_0 (pc - 0) (by omega)
  show (match code9 285 pc with
    | some (_, i, q, v, sw) => decide (decode (mB9 285) pc = .ok (i, q.headD 0)) && ((len9 i == 0 || q.headD 0 == len9 i) && chkI 285 pc i q v sw)
    | none => true) = true
  have hz : code9 285 pc = none := by
    show (bif Nat.blt pc 58 then _ else none) = none
    rw [show Nat.blt pc 58 = false from blt_no (by omega)]
    rfl
  rw [hz]
theorem cc286 (pc : Nat) : chkE 286 pc = true := by
  by_cases h178 : pc < 178
  · exact (show 0 + (pc - 0) = pc by omega) ▸ ck286_0 (pc - 0) (by omega)
  show (match code9 286 pc with
    | some (_, i, q, v, sw) => decide (decode (mB9 286) pc = .ok (i, q.headD 0)) && ((len9 i == 0 || q.headD 0 == len9 i) && chkI 286 pc i q v sw)
    | none => true) = true
  have hz : code9 286 pc = none := by
    show (bif Nat.blt pc 178 then _ else none) = none
    rw [show Nat.blt pc 178 = false from blt_no (by omega)]
    rfl
  rw [hz]
theorem cc287 (pc : Nat) : chkE 287 pc = true := by
  by_cases h30 : pc < 30
  · exact (show 0 + (pc - 0) = pc by omega) ▸ ck287_0 (pc - 0) (by omega)
  show (match code9 287 pc with
    | some (_, i, q, v, sw) => decide (decode (mB9 287) pc = .ok (i, q.headD 0)) && ((len9 i == 0 || q.headD 0 == len9 i) && chkI 287 pc i q v sw)
    | none => true) = true
  have hz : code9 287 pc = none := by
    show (bif Nat.blt pc 30 then _ else none) = none
    rw [show Nat.blt pc 30 = false from blt_no (by omega)]
    rfl
  rw [hz]
theorem cc288 (pc : Nat) : chkE 288 pc = true := by
  by_cases h26 : pc < 26
  · exact (show 0 + (pc - 0) = pc by omega) ▸ ck288_0 (pc - 0) (by omega)
  show (match code9 288 pc with
    | some (_, i, q, v, sw) => decide (decode (mB9 288) pc = .ok (i, q.headD 0)) && ((len9 i == 0 || q.headD 0 == len9 i) && chkI 288 pc i q v sw)
    | none => true) = true
  have hz : code9 288 pc = none := by
    show (bif Nat.blt pc 26 then _ else none) = none
    rw [show Nat.blt pc 26 = false from blt_no (by omega)]
    rfl
  rw [hz]
theorem cc289 (pc : Nat) : chkE 289 pc = true := by
  by_cases h64 : pc < 64
  · exact (show 0 + (pc - 0) = pc by omega) ▸ ck289_0 (pc - 0) (by omega)
  show (match code9 289 pc with
    | some (_, i, q, v, sw) => decide (decode (mB9 289) pc = .ok (i, q.headD 0)) && ((len9 i == 0 || q.headD 0 == len9 i) && chkI 289 pc i q v sw)
    | none => true) = true
  have hz : code9 289 pc = none := by
    show (bif Nat.blt pc 64 then _ else none) = none
    rw [show Nat.blt pc 64 = false from blt_no (by omega)]
    rfl
  rw [hz]
theorem cc290 (pc : Nat) : chkE 290 pc = true := by
  by_cases h29 : pc < 29
  · exact (show 0 + (pc - 0) = pc by omega) ▸ ck290_0 (pc - 0) (by omega)
  show (match code9 290 pc with
    | some (_, i, q, v, sw) => decide (decode (mB9 290) pc = .ok (i, q.headD 0)) && ((len9 i == 0 || q.headD 0 == len9 i) && chkI 290 pc i q v sw)
    | none => true) = true
  have hz : code9 290 pc = none := by
    show (bif Nat.blt pc 29 then _ else none) = none
    rw [show Nat.blt pc 29 = false from blt_no (by omega)]
    rfl
  rw [hz]
theorem cc291 (pc : Nat) : chkE 291 pc = true := by
  by_cases h55 : pc < 55
  · exact (show 0 + (pc - 0) = pc by omega) ▸ ck291_0 (pc - 0) (by omega)
  show (match code9 291 pc with
    | some (_, i, q, v, sw) => decide (decode (mB9 291) pc = .ok (i, q.headD 0)) && ((len9 i == 0 || q.headD 0 == len9 i) && chkI 291 pc i q v sw)
    | none => true) = true
  have hz : code9 291 pc = none := by
    show (bif Nat.blt pc 55 then _ else none) = none
    rw [show Nat.blt pc 55 = false from blt_no (by omega)]
    rfl
  rw [hz]
theorem cc292 (pc : Nat) : chkE 292 pc = true := by
  by_cases h75 : pc < 75
  · exact (show 0 + (pc - 0) = pc by omega) ▸ ck292_0 (pc - 0) (by omega)
  show (match code9 292 pc with
    | some (_, i, q, v, sw) => decide (decode (mB9 292) pc = .ok (i, q.headD 0)) && ((len9 i == 0 || q.headD 0 == len9 i) && chkI 292 pc i q v sw)
    | none => true) = true
  have hz : code9 292 pc = none := by
    show (bif Nat.blt pc 75 then _ else none) = none
    rw [show Nat.blt pc 75 = false from blt_no (by omega)]
    rfl
  rw [hz]
theorem cc293 (pc : Nat) : chkE 293 pc = true := by
  by_cases h78 : pc < 78
  · exact (show 0 + (pc - 0) = pc by omega) ▸ ck293_0 (pc - 0) (by omega)
  show (match code9 293 pc with
    | some (_, i, q, v, sw) => decide (decode (mB9 293) pc = .ok (i, q.headD 0)) && ((len9 i == 0 || q.headD 0 == len9 i) && chkI 293 pc i q v sw)
    | none => true) = true
  have hz : code9 293 pc = none := by
    show (bif Nat.blt pc 78 then _ else none) = none
    rw [show Nat.blt pc 78 = false from blt_no (by omega)]
    rfl
  rw [hz]
theorem cc294 (pc : Nat) : chkE 294 pc = true := by
  by_cases h300 : pc < 300
  · exact (show 0 + (pc - 0) = pc by omega) ▸ ck294_0 (pc - 0) (by omega)
  by_cases h472 : pc < 472
  · exact (show 300 + (pc - 300) = pc by omega) ▸ ck294_300 (pc - 300) (by omega)
  show (match code9 294 pc with
    | some (_, i, q, v, sw) => decide (decode (mB9 294) pc = .ok (i, q.headD 0)) && ((len9 i == 0 || q.headD 0 == len9 i) && chkI 294 pc i q v sw)
    | none => true) = true
  have hz : code9 294 pc = none := by
    show (bif Nat.blt pc 472 then _ else none) = none
    rw [show Nat.blt pc 472 = false from blt_no (by omega)]
    rfl
  rw [hz]
theorem cc295 (pc : Nat) : chkE 295 pc = true := by
  by_cases h89 : pc < 89
  · exact (show 0 + (pc - 0) = pc by omega) ▸ ck295_0 (pc - 0) (by omega)
  show (match code9 295 pc with
    | some (_, i, q, v, sw) => decide (decode (mB9 295) pc = .ok (i, q.headD 0)) && ((len9 i == 0 || q.headD 0 == len9 i) && chkI 295 pc i q v sw)
    | none => true) = true
  have hz : code9 295 pc = none := by
    show (bif Nat.blt pc 89 then _ else none) = none
    rw [show Nat.blt pc 89 = false from blt_no (by omega)]
    rfl
  rw [hz]
theorem cc296 (pc : Nat) : chkE 296 pc = true := by
  by_cases h96 : pc < 96
  · exact (show 0 + (pc - 0) = pc by omega) ▸ ck296_0 (pc - 0) (by omega)
  show (match code9 296 pc with
    | some (_, i, q, v, sw) => decide (decode (mB9 296) pc = .ok (i, q.headD 0)) && ((len9 i == 0 || q.headD 0 == len9 i) && chkI 296 pc i q v sw)
    | none => true) = true
  have hz : code9 296 pc = none := by
    show (bif Nat.blt pc 96 then _ else none) = none
    rw [show Nat.blt pc 96 = false from blt_no (by omega)]
    rfl
  rw [hz]
theorem cc297 (pc : Nat) : chkE 297 pc = true := by
  by_cases h97 : pc < 97
  · exact (show 0 + (pc - 0) = pc by omega) ▸ ck297_0 (pc - 0) (by omega)
  show (match code9 297 pc with
    | some (_, i, q, v, sw) => decide (decode (mB9 297) pc = .ok (i, q.headD 0)) && ((len9 i == 0 || q.headD 0 == len9 i) && chkI 297 pc i q v sw)
    | none => true) = true
  have hz : code9 297 pc = none := by
    show (bif Nat.blt pc 97 then _ else none) = none
    rw [show Nat.blt pc 97 = false from blt_no (by omega)]
    rfl
  rw [hz]
theorem cc298 (pc : Nat) : chkE 298 pc = true := by
  by_cases h53 : pc < 53
  · exact (show 0 + (pc - 0) = pc by omega) ▸ ck298_0 (pc - 0) (by omega)
  show (match code9 298 pc with
    | some (_, i, q, v, sw) => decide (decode (mB9 298) pc = .ok (i, q.headD 0)) && ((len9 i == 0 || q.headD 0 == len9 i) && chkI 298 pc i q v sw)
    | none => true) = true
  have hz : code9 298 pc = none := by
    show (bif Nat.blt pc 53 then _ else none) = none
    rw [show Nat.blt pc 53 = false from blt_no (by omega)]
    rfl
  rw [hz]
theorem cc299 (pc : Nat) : chkE 299 pc = true := by
  by_cases h21 : pc < 21
  · exact (show 0 + (pc - 0) = pc by omega) ▸ ck299_0 (pc - 0) (by omega)
  show (match code9 299 pc with
    | some (_, i, q, v, sw) => decide (decode (mB9 299) pc = .ok (i, q.headD 0)) && ((len9 i == 0 || q.headD 0 == len9 i) && chkI 299 pc i q v sw)
    | none => true) = true
  have hz : code9 299 pc = none := by
    show (bif Nat.blt pc 21 then _ else none) = none
    rw [show Nat.blt pc 21 = false from blt_no (by omega)]
    rfl
  rw [hz]
theorem cc300 (pc : Nat) : chkE 300 pc = true := by
  by_cases h23 : pc < 23
  · exact (show 0 + (pc - 0) = pc by omega) ▸ ck300_0 (pc - 0) (by omega)
  show (match code9 300 pc with
    | some (_, i, q, v, sw) => decide (decode (mB9 300) pc = .ok (i, q.headD 0)) && ((len9 i == 0 || q.headD 0 == len9 i) && chkI 300 pc i q v sw)
    | none => true) = true
  have hz : code9 300 pc = none := by
    show (bif Nat.blt pc 23 then _ else none) = none
    rw [show Nat.blt pc 23 = false from blt_no (by omega)]
    rfl
  rw [hz]
theorem cc301 (pc : Nat) : chkE 301 pc = true := by
  by_cases h19 : pc < 19
  · exact (show 0 + (pc - 0) = pc by omega) ▸ ck301_0 (pc - 0) (by omega)
  show (match code9 301 pc with
    | some (_, i, q, v, sw) => decide (decode (mB9 301) pc = .ok (i, q.headD 0)) && ((len9 i == 0 || q.headD 0 == len9 i) && chkI 301 pc i q v sw)
    | none => true) = true
  have hz : code9 301 pc = none := by
    show (bif Nat.blt pc 19 then _ else none) = none
    rw [show Nat.blt pc 19 = false from blt_no (by omega)]
    rfl
  rw [hz]
theorem cc302 (pc : Nat) : chkE 302 pc = true := by
  by_cases h18 : pc < 18
  · exact (show 0 + (pc - 0) = pc by omega) ▸ ck302_0 (pc - 0) (by omega)
  show (match code9 302 pc with
    | some (_, i, q, v, sw) => decide (decode (mB9 302) pc = .ok (i, q.headD 0)) && ((len9 i == 0 || q.headD 0 == len9 i) && chkI 302 pc i q v sw)
    | none => true) = true
  have hz : code9 302 pc = none := by
    show (bif Nat.blt pc 18 then _ else none) = none
    rw [show Nat.blt pc 18 = false from blt_no (by omega)]
    rfl
  rw [hz]
theorem cc303 (pc : Nat) : chkE 303 pc = true := by
  by_cases h18 : pc < 18
  · exact (show 0 + (pc - 0) = pc by omega) ▸ ck303_0 (pc - 0) (by omega)
  show (match code9 303 pc with
    | some (_, i, q, v, sw) => decide (decode (mB9 303) pc = .ok (i, q.headD 0)) && ((len9 i == 0 || q.headD 0 == len9 i) && chkI 303 pc i q v sw)
    | none => true) = true
  have hz : code9 303 pc = none := by
    show (bif Nat.blt pc 18 then _ else none) = none
    rw [show Nat.blt pc 18 = false from blt_no (by omega)]
    rfl
  rw [hz]
theorem cc304 (pc : Nat) : chkE 304 pc = true := by
  by_cases h18 : pc < 18
  · exact (show 0 + (pc - 0) = pc by omega) ▸ ck304_0 (pc - 0) (by omega)
  show (match code9 304 pc with
    | some (_, i, q, v, sw) => decide (decode (mB9 304) pc = .ok (i, q.headD 0)) && ((len9 i == 0 || q.headD 0 == len9 i) && chkI 304 pc i q v sw)
    | none => true) = true
  have hz : code9 304 pc = none := by
    show (bif Nat.blt pc 18 then _ else none) = none
    rw [show Nat.blt pc 18 = false from blt_no (by omega)]
    rfl
  rw [hz]
theorem cc305 (pc : Nat) : chkE 305 pc = true := by
  by_cases h100 : pc < 100
  · exact (show 0 + (pc - 0) = pc by omega) ▸ ck305_0 (pc - 0) (by omega)
  by_cases h200 : pc < 200
  · exact (show 100 + (pc - 100) = pc by omega) ▸ ck305_100 (pc - 100) (by omega)
  by_cases h300 : pc < 300
  · exact (show 200 + (pc - 200) = pc by omega) ▸ ck305_200 (pc - 200) (by omega)
  by_cases h400 : pc < 400
  · exact (show 300 + (pc - 300) = pc by omega) ▸ ck305_300 (pc - 300) (by omega)
  by_cases h500 : pc < 500
  · exact (show 400 + (pc - 400) = pc by omega) ▸ ck305_400 (pc - 400) (by omega)
  by_cases h600 : pc < 600
  · exact (show 500 + (pc - 500) = pc by omega) ▸ ck305_500 (pc - 500) (by omega)
  by_cases h700 : pc < 700
  · exact (show 600 + (pc - 600) = pc by omega) ▸ ck305_600 (pc - 600) (by omega)
  by_cases h800 : pc < 800
  · exact (show 700 + (pc - 700) = pc by omega) ▸ ck305_700 (pc - 700) (by omega)
  by_cases h900 : pc < 900
  · exact (show 800 + (pc - 800) = pc by omega) ▸ ck305_800 (pc - 800) (by omega)
  by_cases h1000 : pc < 1000
  · exact (show 900 + (pc - 900) = pc by omega) ▸ ck305_900 (pc - 900) (by omega)
  by_cases h1100 : pc < 1100
  · exact (show 1000 + (pc - 1000) = pc by omega) ▸ ck305_1000 (pc - 1000) (by omega)
  by_cases h1200 : pc < 1200
  · exact (show 1100 + (pc - 1100) = pc by omega) ▸ ck305_1100 (pc - 1100) (by omega)
  by_cases h1300 : pc < 1300
  · exact (show 1200 + (pc - 1200) = pc by omega) ▸ ck305_1200 (pc - 1200) (by omega)
  by_cases h1400 : pc < 1400
  · exact (show 1300 + (pc - 1300) = pc by omega) ▸ ck305_1300 (pc - 1300) (by omega)
  by_cases h1500 : pc < 1500
  · exact (show 1400 + (pc - 1400) = pc by omega) ▸ ck305_1400 (pc - 1400) (by omega)
  by_cases h1559 : pc < 1559
  · exact (show 1500 + (pc - 1500) = pc by omega) ▸ ck305_1500 (pc - 1500) (by omega)
  show (match code9 305 pc with
    | some (_, i, q, v, sw) => decide (decode (mB9 305) pc = .ok (i, q.headD 0)) && ((len9 i == 0 || q.headD 0 == len9 i) && chkI 305 pc i q v sw)
    | none => true) = true
  have hz : code9 305 pc = none := by
    show (bif Nat.blt pc 1559 then _ else none) = none
    rw [show Nat.blt pc 1559 = false from blt_no (by omega)]
    rfl
  rw [hz]
theorem chk_all (M pc : Nat) : chkE M pc = true := by
  by_cases hM : M < 306
  · rcases Nat.lt_or_ge M 153 with q | q
    · rcases Nat.lt_or_ge M 76 with q | q
      · rcases Nat.lt_or_ge M 38 with q | q
        · rcases Nat.lt_or_ge M 19 with q | q
          · rcases Nat.lt_or_ge M 9 with q | q
            · rcases Nat.lt_or_ge M 4 with q | q
              · rcases Nat.lt_or_ge M 2 with q | q
                · rcases Nat.lt_or_ge M 1 with q | q
                  · exact (show 0 = M by omega) ▸ cc0 pc
                  · exact (show 1 = M by omega) ▸ cc1 pc
                · rcases Nat.lt_or_ge M 3 with q | q
                  · exact (show 2 = M by omega) ▸ cc2 pc
                  · exact (show 3 = M by omega) ▸ cc3 pc
              · rcases Nat.lt_or_ge M 6 with q | q
                · rcases Nat.lt_or_ge M 5 with q | q
                  · exact (show 4 = M by omega) ▸ cc4 pc
                  · exact (show 5 = M by omega) ▸ cc5 pc
                · rcases Nat.lt_or_ge M 7 with q | q
                  · exact (show 6 = M by omega) ▸ cc6 pc
                  · rcases Nat.lt_or_ge M 8 with q | q
                    · exact (show 7 = M by omega) ▸ cc7 pc
                    · exact (show 8 = M by omega) ▸ cc8 pc
            · rcases Nat.lt_or_ge M 14 with q | q
              · rcases Nat.lt_or_ge M 11 with q | q
                · rcases Nat.lt_or_ge M 10 with q | q
                  · exact (show 9 = M by omega) ▸ cc9 pc
                  · exact (show 10 = M by omega) ▸ cc10 pc
                · rcases Nat.lt_or_ge M 12 with q | q
                  · exact (show 11 = M by omega) ▸ cc11 pc
                  · rcases Nat.lt_or_ge M 13 with q | q
                    · exact (show 12 = M by omega) ▸ cc12 pc
                    · exact (show 13 = M by omega) ▸ cc13 pc
              · rcases Nat.lt_or_ge M 16 with q | q
                · rcases Nat.lt_or_ge M 15 with q | q
                  · exact (show 14 = M by omega) ▸ cc14 pc
                  · exact (show 15 = M by omega) ▸ cc15 pc
                · rcases Nat.lt_or_ge M 17 with q | q
                  · exact (show 16 = M by omega) ▸ cc16 pc
                  · rcases Nat.lt_or_ge M 18 with q | q
                    · exact (show 17 = M by omega) ▸ cc17 pc
                    · exact (show 18 = M by omega) ▸ cc18 pc
          · rcases Nat.lt_or_ge M 28 with q | q
            · rcases Nat.lt_or_ge M 23 with q | q
              · rcases Nat.lt_or_ge M 21 with q | q
                · rcases Nat.lt_or_ge M 20 with q | q
                  · exact (show 19 = M by omega) ▸ cc19 pc
                  · exact (show 20 = M by omega) ▸ cc20 pc
                · rcases Nat.lt_or_ge M 22 with q | q
                  · exact (show 21 = M by omega) ▸ cc21 pc
                  · exact (show 22 = M by omega) ▸ cc22 pc
              · rcases Nat.lt_or_ge M 25 with q | q
                · rcases Nat.lt_or_ge M 24 with q | q
                  · exact (show 23 = M by omega) ▸ cc23 pc
                  · exact (show 24 = M by omega) ▸ cc24 pc
                · rcases Nat.lt_or_ge M 26 with q | q
                  · exact (show 25 = M by omega) ▸ cc25 pc
                  · rcases Nat.lt_or_ge M 27 with q | q
                    · exact (show 26 = M by omega) ▸ cc26 pc
                    · exact (show 27 = M by omega) ▸ cc27 pc
            · rcases Nat.lt_or_ge M 33 with q | q
              · rcases Nat.lt_or_ge M 30 with q | q
                · rcases Nat.lt_or_ge M 29 with q | q
                  · exact (show 28 = M by omega) ▸ cc28 pc
                  · exact (show 29 = M by omega) ▸ cc29 pc
                · rcases Nat.lt_or_ge M 31 with q | q
                  · exact (show 30 = M by omega) ▸ cc30 pc
                  · rcases Nat.lt_or_ge M 32 with q | q
                    · exact (show 31 = M by omega) ▸ cc31 pc
                    · exact (show 32 = M by omega) ▸ cc32 pc
              · rcases Nat.lt_or_ge M 35 with q | q
                · rcases Nat.lt_or_ge M 34 with q | q
                  · exact (show 33 = M by omega) ▸ cc33 pc
                  · exact (show 34 = M by omega) ▸ cc34 pc
                · rcases Nat.lt_or_ge M 36 with q | q
                  · exact (show 35 = M by omega) ▸ cc35 pc
                  · rcases Nat.lt_or_ge M 37 with q | q
                    · exact (show 36 = M by omega) ▸ cc36 pc
                    · exact (show 37 = M by omega) ▸ cc37 pc
        · rcases Nat.lt_or_ge M 57 with q | q
          · rcases Nat.lt_or_ge M 47 with q | q
            · rcases Nat.lt_or_ge M 42 with q | q
              · rcases Nat.lt_or_ge M 40 with q | q
                · rcases Nat.lt_or_ge M 39 with q | q
                  · exact (show 38 = M by omega) ▸ cc38 pc
                  · exact (show 39 = M by omega) ▸ cc39 pc
                · rcases Nat.lt_or_ge M 41 with q | q
                  · exact (show 40 = M by omega) ▸ cc40 pc
                  · exact (show 41 = M by omega) ▸ cc41 pc
              · rcases Nat.lt_or_ge M 44 with q | q
                · rcases Nat.lt_or_ge M 43 with q | q
                  · exact (show 42 = M by omega) ▸ cc42 pc
                  · exact (show 43 = M by omega) ▸ cc43 pc
                · rcases Nat.lt_or_ge M 45 with q | q
                  · exact (show 44 = M by omega) ▸ cc44 pc
                  · rcases Nat.lt_or_ge M 46 with q | q
                    · exact (show 45 = M by omega) ▸ cc45 pc
                    · exact (show 46 = M by omega) ▸ cc46 pc
            · rcases Nat.lt_or_ge M 52 with q | q
              · rcases Nat.lt_or_ge M 49 with q | q
                · rcases Nat.lt_or_ge M 48 with q | q
                  · exact (show 47 = M by omega) ▸ cc47 pc
                  · exact (show 48 = M by omega) ▸ cc48 pc
                · rcases Nat.lt_or_ge M 50 with q | q
                  · exact (show 49 = M by omega) ▸ cc49 pc
                  · rcases Nat.lt_or_ge M 51 with q | q
                    · exact (show 50 = M by omega) ▸ cc50 pc
                    · exact (show 51 = M by omega) ▸ cc51 pc
              · rcases Nat.lt_or_ge M 54 with q | q
                · rcases Nat.lt_or_ge M 53 with q | q
                  · exact (show 52 = M by omega) ▸ cc52 pc
                  · exact (show 53 = M by omega) ▸ cc53 pc
                · rcases Nat.lt_or_ge M 55 with q | q
                  · exact (show 54 = M by omega) ▸ cc54 pc
                  · rcases Nat.lt_or_ge M 56 with q | q
                    · exact (show 55 = M by omega) ▸ cc55 pc
                    · exact (show 56 = M by omega) ▸ cc56 pc
          · rcases Nat.lt_or_ge M 66 with q | q
            · rcases Nat.lt_or_ge M 61 with q | q
              · rcases Nat.lt_or_ge M 59 with q | q
                · rcases Nat.lt_or_ge M 58 with q | q
                  · exact (show 57 = M by omega) ▸ cc57 pc
                  · exact (show 58 = M by omega) ▸ cc58 pc
                · rcases Nat.lt_or_ge M 60 with q | q
                  · exact (show 59 = M by omega) ▸ cc59 pc
                  · exact (show 60 = M by omega) ▸ cc60 pc
              · rcases Nat.lt_or_ge M 63 with q | q
                · rcases Nat.lt_or_ge M 62 with q | q
                  · exact (show 61 = M by omega) ▸ cc61 pc
                  · exact (show 62 = M by omega) ▸ cc62 pc
                · rcases Nat.lt_or_ge M 64 with q | q
                  · exact (show 63 = M by omega) ▸ cc63 pc
                  · rcases Nat.lt_or_ge M 65 with q | q
                    · exact (show 64 = M by omega) ▸ cc64 pc
                    · exact (show 65 = M by omega) ▸ cc65 pc
            · rcases Nat.lt_or_ge M 71 with q | q
              · rcases Nat.lt_or_ge M 68 with q | q
                · rcases Nat.lt_or_ge M 67 with q | q
                  · exact (show 66 = M by omega) ▸ cc66 pc
                  · exact (show 67 = M by omega) ▸ cc67 pc
                · rcases Nat.lt_or_ge M 69 with q | q
                  · exact (show 68 = M by omega) ▸ cc68 pc
                  · rcases Nat.lt_or_ge M 70 with q | q
                    · exact (show 69 = M by omega) ▸ cc69 pc
                    · exact (show 70 = M by omega) ▸ cc70 pc
              · rcases Nat.lt_or_ge M 73 with q | q
                · rcases Nat.lt_or_ge M 72 with q | q
                  · exact (show 71 = M by omega) ▸ cc71 pc
                  · exact (show 72 = M by omega) ▸ cc72 pc
                · rcases Nat.lt_or_ge M 74 with q | q
                  · exact (show 73 = M by omega) ▸ cc73 pc
                  · rcases Nat.lt_or_ge M 75 with q | q
                    · exact (show 74 = M by omega) ▸ cc74 pc
                    · exact (show 75 = M by omega) ▸ cc75 pc
      · rcases Nat.lt_or_ge M 114 with q | q
        · rcases Nat.lt_or_ge M 95 with q | q
          · rcases Nat.lt_or_ge M 85 with q | q
            · rcases Nat.lt_or_ge M 80 with q | q
              · rcases Nat.lt_or_ge M 78 with q | q
                · rcases Nat.lt_or_ge M 77 with q | q
                  · exact (show 76 = M by omega) ▸ cc76 pc
                  · exact (show 77 = M by omega) ▸ cc77 pc
                · rcases Nat.lt_or_ge M 79 with q | q
                  · exact (show 78 = M by omega) ▸ cc78 pc
                  · exact (show 79 = M by omega) ▸ cc79 pc
              · rcases Nat.lt_or_ge M 82 with q | q
                · rcases Nat.lt_or_ge M 81 with q | q
                  · exact (show 80 = M by omega) ▸ cc80 pc
                  · exact (show 81 = M by omega) ▸ cc81 pc
                · rcases Nat.lt_or_ge M 83 with q | q
                  · exact (show 82 = M by omega) ▸ cc82 pc
                  · rcases Nat.lt_or_ge M 84 with q | q
                    · exact (show 83 = M by omega) ▸ cc83 pc
                    · exact (show 84 = M by omega) ▸ cc84 pc
            · rcases Nat.lt_or_ge M 90 with q | q
              · rcases Nat.lt_or_ge M 87 with q | q
                · rcases Nat.lt_or_ge M 86 with q | q
                  · exact (show 85 = M by omega) ▸ cc85 pc
                  · exact (show 86 = M by omega) ▸ cc86 pc
                · rcases Nat.lt_or_ge M 88 with q | q
                  · exact (show 87 = M by omega) ▸ cc87 pc
                  · rcases Nat.lt_or_ge M 89 with q | q
                    · exact (show 88 = M by omega) ▸ cc88 pc
                    · exact (show 89 = M by omega) ▸ cc89 pc
              · rcases Nat.lt_or_ge M 92 with q | q
                · rcases Nat.lt_or_ge M 91 with q | q
                  · exact (show 90 = M by omega) ▸ cc90 pc
                  · exact (show 91 = M by omega) ▸ cc91 pc
                · rcases Nat.lt_or_ge M 93 with q | q
                  · exact (show 92 = M by omega) ▸ cc92 pc
                  · rcases Nat.lt_or_ge M 94 with q | q
                    · exact (show 93 = M by omega) ▸ cc93 pc
                    · exact (show 94 = M by omega) ▸ cc94 pc
          · rcases Nat.lt_or_ge M 104 with q | q
            · rcases Nat.lt_or_ge M 99 with q | q
              · rcases Nat.lt_or_ge M 97 with q | q
                · rcases Nat.lt_or_ge M 96 with q | q
                  · exact (show 95 = M by omega) ▸ cc95 pc
                  · exact (show 96 = M by omega) ▸ cc96 pc
                · rcases Nat.lt_or_ge M 98 with q | q
                  · exact (show 97 = M by omega) ▸ cc97 pc
                  · exact (show 98 = M by omega) ▸ cc98 pc
              · rcases Nat.lt_or_ge M 101 with q | q
                · rcases Nat.lt_or_ge M 100 with q | q
                  · exact (show 99 = M by omega) ▸ cc99 pc
                  · exact (show 100 = M by omega) ▸ cc100 pc
                · rcases Nat.lt_or_ge M 102 with q | q
                  · exact (show 101 = M by omega) ▸ cc101 pc
                  · rcases Nat.lt_or_ge M 103 with q | q
                    · exact (show 102 = M by omega) ▸ cc102 pc
                    · exact (show 103 = M by omega) ▸ cc103 pc
            · rcases Nat.lt_or_ge M 109 with q | q
              · rcases Nat.lt_or_ge M 106 with q | q
                · rcases Nat.lt_or_ge M 105 with q | q
                  · exact (show 104 = M by omega) ▸ cc104 pc
                  · exact (show 105 = M by omega) ▸ cc105 pc
                · rcases Nat.lt_or_ge M 107 with q | q
                  · exact (show 106 = M by omega) ▸ cc106 pc
                  · rcases Nat.lt_or_ge M 108 with q | q
                    · exact (show 107 = M by omega) ▸ cc107 pc
                    · exact (show 108 = M by omega) ▸ cc108 pc
              · rcases Nat.lt_or_ge M 111 with q | q
                · rcases Nat.lt_or_ge M 110 with q | q
                  · exact (show 109 = M by omega) ▸ cc109 pc
                  · exact (show 110 = M by omega) ▸ cc110 pc
                · rcases Nat.lt_or_ge M 112 with q | q
                  · exact (show 111 = M by omega) ▸ cc111 pc
                  · rcases Nat.lt_or_ge M 113 with q | q
                    · exact (show 112 = M by omega) ▸ cc112 pc
                    · exact (show 113 = M by omega) ▸ cc113 pc
        · rcases Nat.lt_or_ge M 133 with q | q
          · rcases Nat.lt_or_ge M 123 with q | q
            · rcases Nat.lt_or_ge M 118 with q | q
              · rcases Nat.lt_or_ge M 116 with q | q
                · rcases Nat.lt_or_ge M 115 with q | q
                  · exact (show 114 = M by omega) ▸ cc114 pc
                  · exact (show 115 = M by omega) ▸ cc115 pc
                · rcases Nat.lt_or_ge M 117 with q | q
                  · exact (show 116 = M by omega) ▸ cc116 pc
                  · exact (show 117 = M by omega) ▸ cc117 pc
              · rcases Nat.lt_or_ge M 120 with q | q
                · rcases Nat.lt_or_ge M 119 with q | q
                  · exact (show 118 = M by omega) ▸ cc118 pc
                  · exact (show 119 = M by omega) ▸ cc119 pc
                · rcases Nat.lt_or_ge M 121 with q | q
                  · exact (show 120 = M by omega) ▸ cc120 pc
                  · rcases Nat.lt_or_ge M 122 with q | q
                    · exact (show 121 = M by omega) ▸ cc121 pc
                    · exact (show 122 = M by omega) ▸ cc122 pc
            · rcases Nat.lt_or_ge M 128 with q | q
              · rcases Nat.lt_or_ge M 125 with q | q
                · rcases Nat.lt_or_ge M 124 with q | q
                  · exact (show 123 = M by omega) ▸ cc123 pc
                  · exact (show 124 = M by omega) ▸ cc124 pc
                · rcases Nat.lt_or_ge M 126 with q | q
                  · exact (show 125 = M by omega) ▸ cc125 pc
                  · rcases Nat.lt_or_ge M 127 with q | q
                    · exact (show 126 = M by omega) ▸ cc126 pc
                    · exact (show 127 = M by omega) ▸ cc127 pc
              · rcases Nat.lt_or_ge M 130 with q | q
                · rcases Nat.lt_or_ge M 129 with q | q
                  · exact (show 128 = M by omega) ▸ cc128 pc
                  · exact (show 129 = M by omega) ▸ cc129 pc
                · rcases Nat.lt_or_ge M 131 with q | q
                  · exact (show 130 = M by omega) ▸ cc130 pc
                  · rcases Nat.lt_or_ge M 132 with q | q
                    · exact (show 131 = M by omega) ▸ cc131 pc
                    · exact (show 132 = M by omega) ▸ cc132 pc
          · rcases Nat.lt_or_ge M 143 with q | q
            · rcases Nat.lt_or_ge M 138 with q | q
              · rcases Nat.lt_or_ge M 135 with q | q
                · rcases Nat.lt_or_ge M 134 with q | q
                  · exact (show 133 = M by omega) ▸ cc133 pc
                  · exact (show 134 = M by omega) ▸ cc134 pc
                · rcases Nat.lt_or_ge M 136 with q | q
                  · exact (show 135 = M by omega) ▸ cc135 pc
                  · rcases Nat.lt_or_ge M 137 with q | q
                    · exact (show 136 = M by omega) ▸ cc136 pc
                    · exact (show 137 = M by omega) ▸ cc137 pc
              · rcases Nat.lt_or_ge M 140 with q | q
                · rcases Nat.lt_or_ge M 139 with q | q
                  · exact (show 138 = M by omega) ▸ cc138 pc
                  · exact (show 139 = M by omega) ▸ cc139 pc
                · rcases Nat.lt_or_ge M 141 with q | q
                  · exact (show 140 = M by omega) ▸ cc140 pc
                  · rcases Nat.lt_or_ge M 142 with q | q
                    · exact (show 141 = M by omega) ▸ cc141 pc
                    · exact (show 142 = M by omega) ▸ cc142 pc
            · rcases Nat.lt_or_ge M 148 with q | q
              · rcases Nat.lt_or_ge M 145 with q | q
                · rcases Nat.lt_or_ge M 144 with q | q
                  · exact (show 143 = M by omega) ▸ cc143 pc
                  · exact (show 144 = M by omega) ▸ cc144 pc
                · rcases Nat.lt_or_ge M 146 with q | q
                  · exact (show 145 = M by omega) ▸ cc145 pc
                  · rcases Nat.lt_or_ge M 147 with q | q
                    · exact (show 146 = M by omega) ▸ cc146 pc
                    · exact (show 147 = M by omega) ▸ cc147 pc
              · rcases Nat.lt_or_ge M 150 with q | q
                · rcases Nat.lt_or_ge M 149 with q | q
                  · exact (show 148 = M by omega) ▸ cc148 pc
                  · exact (show 149 = M by omega) ▸ cc149 pc
                · rcases Nat.lt_or_ge M 151 with q | q
                  · exact (show 150 = M by omega) ▸ cc150 pc
                  · rcases Nat.lt_or_ge M 152 with q | q
                    · exact (show 151 = M by omega) ▸ cc151 pc
                    · exact (show 152 = M by omega) ▸ cc152 pc
    · rcases Nat.lt_or_ge M 229 with q | q
      · rcases Nat.lt_or_ge M 191 with q | q
        · rcases Nat.lt_or_ge M 172 with q | q
          · rcases Nat.lt_or_ge M 162 with q | q
            · rcases Nat.lt_or_ge M 157 with q | q
              · rcases Nat.lt_or_ge M 155 with q | q
                · rcases Nat.lt_or_ge M 154 with q | q
                  · exact (show 153 = M by omega) ▸ cc153 pc
                  · exact (show 154 = M by omega) ▸ cc154 pc
                · rcases Nat.lt_or_ge M 156 with q | q
                  · exact (show 155 = M by omega) ▸ cc155 pc
                  · exact (show 156 = M by omega) ▸ cc156 pc
              · rcases Nat.lt_or_ge M 159 with q | q
                · rcases Nat.lt_or_ge M 158 with q | q
                  · exact (show 157 = M by omega) ▸ cc157 pc
                  · exact (show 158 = M by omega) ▸ cc158 pc
                · rcases Nat.lt_or_ge M 160 with q | q
                  · exact (show 159 = M by omega) ▸ cc159 pc
                  · rcases Nat.lt_or_ge M 161 with q | q
                    · exact (show 160 = M by omega) ▸ cc160 pc
                    · exact (show 161 = M by omega) ▸ cc161 pc
            · rcases Nat.lt_or_ge M 167 with q | q
              · rcases Nat.lt_or_ge M 164 with q | q
                · rcases Nat.lt_or_ge M 163 with q | q
                  · exact (show 162 = M by omega) ▸ cc162 pc
                  · exact (show 163 = M by omega) ▸ cc163 pc
                · rcases Nat.lt_or_ge M 165 with q | q
                  · exact (show 164 = M by omega) ▸ cc164 pc
                  · rcases Nat.lt_or_ge M 166 with q | q
                    · exact (show 165 = M by omega) ▸ cc165 pc
                    · exact (show 166 = M by omega) ▸ cc166 pc
              · rcases Nat.lt_or_ge M 169 with q | q
                · rcases Nat.lt_or_ge M 168 with q | q
                  · exact (show 167 = M by omega) ▸ cc167 pc
                  · exact (show 168 = M by omega) ▸ cc168 pc
                · rcases Nat.lt_or_ge M 170 with q | q
                  · exact (show 169 = M by omega) ▸ cc169 pc
                  · rcases Nat.lt_or_ge M 171 with q | q
                    · exact (show 170 = M by omega) ▸ cc170 pc
                    · exact (show 171 = M by omega) ▸ cc171 pc
          · rcases Nat.lt_or_ge M 181 with q | q
            · rcases Nat.lt_or_ge M 176 with q | q
              · rcases Nat.lt_or_ge M 174 with q | q
                · rcases Nat.lt_or_ge M 173 with q | q
                  · exact (show 172 = M by omega) ▸ cc172 pc
                  · exact (show 173 = M by omega) ▸ cc173 pc
                · rcases Nat.lt_or_ge M 175 with q | q
                  · exact (show 174 = M by omega) ▸ cc174 pc
                  · exact (show 175 = M by omega) ▸ cc175 pc
              · rcases Nat.lt_or_ge M 178 with q | q
                · rcases Nat.lt_or_ge M 177 with q | q
                  · exact (show 176 = M by omega) ▸ cc176 pc
                  · exact (show 177 = M by omega) ▸ cc177 pc
                · rcases Nat.lt_or_ge M 179 with q | q
                  · exact (show 178 = M by omega) ▸ cc178 pc
                  · rcases Nat.lt_or_ge M 180 with q | q
                    · exact (show 179 = M by omega) ▸ cc179 pc
                    · exact (show 180 = M by omega) ▸ cc180 pc
            · rcases Nat.lt_or_ge M 186 with q | q
              · rcases Nat.lt_or_ge M 183 with q | q
                · rcases Nat.lt_or_ge M 182 with q | q
                  · exact (show 181 = M by omega) ▸ cc181 pc
                  · exact (show 182 = M by omega) ▸ cc182 pc
                · rcases Nat.lt_or_ge M 184 with q | q
                  · exact (show 183 = M by omega) ▸ cc183 pc
                  · rcases Nat.lt_or_ge M 185 with q | q
                    · exact (show 184 = M by omega) ▸ cc184 pc
                    · exact (show 185 = M by omega) ▸ cc185 pc
              · rcases Nat.lt_or_ge M 188 with q | q
                · rcases Nat.lt_or_ge M 187 with q | q
                  · exact (show 186 = M by omega) ▸ cc186 pc
                  · exact (show 187 = M by omega) ▸ cc187 pc
                · rcases Nat.lt_or_ge M 189 with q | q
                  · exact (show 188 = M by omega) ▸ cc188 pc
                  · rcases Nat.lt_or_ge M 190 with q | q
                    · exact (show 189 = M by omega) ▸ cc189 pc
                    · exact (show 190 = M by omega) ▸ cc190 pc
        · rcases Nat.lt_or_ge M 210 with q | q
          · rcases Nat.lt_or_ge M 200 with q | q
            · rcases Nat.lt_or_ge M 195 with q | q
              · rcases Nat.lt_or_ge M 193 with q | q
                · rcases Nat.lt_or_ge M 192 with q | q
                  · exact (show 191 = M by omega) ▸ cc191 pc
                  · exact (show 192 = M by omega) ▸ cc192 pc
                · rcases Nat.lt_or_ge M 194 with q | q
                  · exact (show 193 = M by omega) ▸ cc193 pc
                  · exact (show 194 = M by omega) ▸ cc194 pc
              · rcases Nat.lt_or_ge M 197 with q | q
                · rcases Nat.lt_or_ge M 196 with q | q
                  · exact (show 195 = M by omega) ▸ cc195 pc
                  · exact (show 196 = M by omega) ▸ cc196 pc
                · rcases Nat.lt_or_ge M 198 with q | q
                  · exact (show 197 = M by omega) ▸ cc197 pc
                  · rcases Nat.lt_or_ge M 199 with q | q
                    · exact (show 198 = M by omega) ▸ cc198 pc
                    · exact (show 199 = M by omega) ▸ cc199 pc
            · rcases Nat.lt_or_ge M 205 with q | q
              · rcases Nat.lt_or_ge M 202 with q | q
                · rcases Nat.lt_or_ge M 201 with q | q
                  · exact (show 200 = M by omega) ▸ cc200 pc
                  · exact (show 201 = M by omega) ▸ cc201 pc
                · rcases Nat.lt_or_ge M 203 with q | q
                  · exact (show 202 = M by omega) ▸ cc202 pc
                  · rcases Nat.lt_or_ge M 204 with q | q
                    · exact (show 203 = M by omega) ▸ cc203 pc
                    · exact (show 204 = M by omega) ▸ cc204 pc
              · rcases Nat.lt_or_ge M 207 with q | q
                · rcases Nat.lt_or_ge M 206 with q | q
                  · exact (show 205 = M by omega) ▸ cc205 pc
                  · exact (show 206 = M by omega) ▸ cc206 pc
                · rcases Nat.lt_or_ge M 208 with q | q
                  · exact (show 207 = M by omega) ▸ cc207 pc
                  · rcases Nat.lt_or_ge M 209 with q | q
                    · exact (show 208 = M by omega) ▸ cc208 pc
                    · exact (show 209 = M by omega) ▸ cc209 pc
          · rcases Nat.lt_or_ge M 219 with q | q
            · rcases Nat.lt_or_ge M 214 with q | q
              · rcases Nat.lt_or_ge M 212 with q | q
                · rcases Nat.lt_or_ge M 211 with q | q
                  · exact (show 210 = M by omega) ▸ cc210 pc
                  · exact (show 211 = M by omega) ▸ cc211 pc
                · rcases Nat.lt_or_ge M 213 with q | q
                  · exact (show 212 = M by omega) ▸ cc212 pc
                  · exact (show 213 = M by omega) ▸ cc213 pc
              · rcases Nat.lt_or_ge M 216 with q | q
                · rcases Nat.lt_or_ge M 215 with q | q
                  · exact (show 214 = M by omega) ▸ cc214 pc
                  · exact (show 215 = M by omega) ▸ cc215 pc
                · rcases Nat.lt_or_ge M 217 with q | q
                  · exact (show 216 = M by omega) ▸ cc216 pc
                  · rcases Nat.lt_or_ge M 218 with q | q
                    · exact (show 217 = M by omega) ▸ cc217 pc
                    · exact (show 218 = M by omega) ▸ cc218 pc
            · rcases Nat.lt_or_ge M 224 with q | q
              · rcases Nat.lt_or_ge M 221 with q | q
                · rcases Nat.lt_or_ge M 220 with q | q
                  · exact (show 219 = M by omega) ▸ cc219 pc
                  · exact (show 220 = M by omega) ▸ cc220 pc
                · rcases Nat.lt_or_ge M 222 with q | q
                  · exact (show 221 = M by omega) ▸ cc221 pc
                  · rcases Nat.lt_or_ge M 223 with q | q
                    · exact (show 222 = M by omega) ▸ cc222 pc
                    · exact (show 223 = M by omega) ▸ cc223 pc
              · rcases Nat.lt_or_ge M 226 with q | q
                · rcases Nat.lt_or_ge M 225 with q | q
                  · exact (show 224 = M by omega) ▸ cc224 pc
                  · exact (show 225 = M by omega) ▸ cc225 pc
                · rcases Nat.lt_or_ge M 227 with q | q
                  · exact (show 226 = M by omega) ▸ cc226 pc
                  · rcases Nat.lt_or_ge M 228 with q | q
                    · exact (show 227 = M by omega) ▸ cc227 pc
                    · exact (show 228 = M by omega) ▸ cc228 pc
      · rcases Nat.lt_or_ge M 267 with q | q
        · rcases Nat.lt_or_ge M 248 with q | q
          · rcases Nat.lt_or_ge M 238 with q | q
            · rcases Nat.lt_or_ge M 233 with q | q
              · rcases Nat.lt_or_ge M 231 with q | q
                · rcases Nat.lt_or_ge M 230 with q | q
                  · exact (show 229 = M by omega) ▸ cc229 pc
                  · exact (show 230 = M by omega) ▸ cc230 pc
                · rcases Nat.lt_or_ge M 232 with q | q
                  · exact (show 231 = M by omega) ▸ cc231 pc
                  · exact (show 232 = M by omega) ▸ cc232 pc
              · rcases Nat.lt_or_ge M 235 with q | q
                · rcases Nat.lt_or_ge M 234 with q | q
                  · exact (show 233 = M by omega) ▸ cc233 pc
                  · exact (show 234 = M by omega) ▸ cc234 pc
                · rcases Nat.lt_or_ge M 236 with q | q
                  · exact (show 235 = M by omega) ▸ cc235 pc
                  · rcases Nat.lt_or_ge M 237 with q | q
                    · exact (show 236 = M by omega) ▸ cc236 pc
                    · exact (show 237 = M by omega) ▸ cc237 pc
            · rcases Nat.lt_or_ge M 243 with q | q
              · rcases Nat.lt_or_ge M 240 with q | q
                · rcases Nat.lt_or_ge M 239 with q | q
                  · exact (show 238 = M by omega) ▸ cc238 pc
                  · exact (show 239 = M by omega) ▸ cc239 pc
                · rcases Nat.lt_or_ge M 241 with q | q
                  · exact (show 240 = M by omega) ▸ cc240 pc
                  · rcases Nat.lt_or_ge M 242 with q | q
                    · exact (show 241 = M by omega) ▸ cc241 pc
                    · exact (show 242 = M by omega) ▸ cc242 pc
              · rcases Nat.lt_or_ge M 245 with q | q
                · rcases Nat.lt_or_ge M 244 with q | q
                  · exact (show 243 = M by omega) ▸ cc243 pc
                  · exact (show 244 = M by omega) ▸ cc244 pc
                · rcases Nat.lt_or_ge M 246 with q | q
                  · exact (show 245 = M by omega) ▸ cc245 pc
                  · rcases Nat.lt_or_ge M 247 with q | q
                    · exact (show 246 = M by omega) ▸ cc246 pc
                    · exact (show 247 = M by omega) ▸ cc247 pc
          · rcases Nat.lt_or_ge M 257 with q | q
            · rcases Nat.lt_or_ge M 252 with q | q
              · rcases Nat.lt_or_ge M 250 with q | q
                · rcases Nat.lt_or_ge M 249 with q | q
                  · exact (show 248 = M by omega) ▸ cc248 pc
                  · exact (show 249 = M by omega) ▸ cc249 pc
                · rcases Nat.lt_or_ge M 251 with q | q
                  · exact (show 250 = M by omega) ▸ cc250 pc
                  · exact (show 251 = M by omega) ▸ cc251 pc
              · rcases Nat.lt_or_ge M 254 with q | q
                · rcases Nat.lt_or_ge M 253 with q | q
                  · exact (show 252 = M by omega) ▸ cc252 pc
                  · exact (show 253 = M by omega) ▸ cc253 pc
                · rcases Nat.lt_or_ge M 255 with q | q
                  · exact (show 254 = M by omega) ▸ cc254 pc
                  · rcases Nat.lt_or_ge M 256 with q | q
                    · exact (show 255 = M by omega) ▸ cc255 pc
                    · exact (show 256 = M by omega) ▸ cc256 pc
            · rcases Nat.lt_or_ge M 262 with q | q
              · rcases Nat.lt_or_ge M 259 with q | q
                · rcases Nat.lt_or_ge M 258 with q | q
                  · exact (show 257 = M by omega) ▸ cc257 pc
                  · exact (show 258 = M by omega) ▸ cc258 pc
                · rcases Nat.lt_or_ge M 260 with q | q
                  · exact (show 259 = M by omega) ▸ cc259 pc
                  · rcases Nat.lt_or_ge M 261 with q | q
                    · exact (show 260 = M by omega) ▸ cc260 pc
                    · exact (show 261 = M by omega) ▸ cc261 pc
              · rcases Nat.lt_or_ge M 264 with q | q
                · rcases Nat.lt_or_ge M 263 with q | q
                  · exact (show 262 = M by omega) ▸ cc262 pc
                  · exact (show 263 = M by omega) ▸ cc263 pc
                · rcases Nat.lt_or_ge M 265 with q | q
                  · exact (show 264 = M by omega) ▸ cc264 pc
                  · rcases Nat.lt_or_ge M 266 with q | q
                    · exact (show 265 = M by omega) ▸ cc265 pc
                    · exact (show 266 = M by omega) ▸ cc266 pc
        · rcases Nat.lt_or_ge M 286 with q | q
          · rcases Nat.lt_or_ge M 276 with q | q
            · rcases Nat.lt_or_ge M 271 with q | q
              · rcases Nat.lt_or_ge M 269 with q | q
                · rcases Nat.lt_or_ge M 268 with q | q
                  · exact (show 267 = M by omega) ▸ cc267 pc
                  · exact (show 268 = M by omega) ▸ cc268 pc
                · rcases Nat.lt_or_ge M 270 with q | q
                  · exact (show 269 = M by omega) ▸ cc269 pc
                  · exact (show 270 = M by omega) ▸ cc270 pc
              · rcases Nat.lt_or_ge M 273 with q | q
                · rcases Nat.lt_or_ge M 272 with q | q
                  · exact (show 271 = M by omega) ▸ cc271 pc
                  · exact (show 272 = M by omega) ▸ cc272 pc
                · rcases Nat.lt_or_ge M 274 with q | q
                  · exact (show 273 = M by omega) ▸ cc273 pc
                  · rcases Nat.lt_or_ge M 275 with q | q
                    · exact (show 274 = M by omega) ▸ cc274 pc
                    · exact (show 275 = M by omega) ▸ cc275 pc
            · rcases Nat.lt_or_ge M 281 with q | q
              · rcases Nat.lt_or_ge M 278 with q | q
                · rcases Nat.lt_or_ge M 277 with q | q
                  · exact (show 276 = M by omega) ▸ cc276 pc
                  · exact (show 277 = M by omega) ▸ cc277 pc
                · rcases Nat.lt_or_ge M 279 with q | q
                  · exact (show 278 = M by omega) ▸ cc278 pc
                  · rcases Nat.lt_or_ge M 280 with q | q
                    · exact (show 279 = M by omega) ▸ cc279 pc
                    · exact (show 280 = M by omega) ▸ cc280 pc
              · rcases Nat.lt_or_ge M 283 with q | q
                · rcases Nat.lt_or_ge M 282 with q | q
                  · exact (show 281 = M by omega) ▸ cc281 pc
                  · exact (show 282 = M by omega) ▸ cc282 pc
                · rcases Nat.lt_or_ge M 284 with q | q
                  · exact (show 283 = M by omega) ▸ cc283 pc
                  · rcases Nat.lt_or_ge M 285 with q | q
                    · exact (show 284 = M by omega) ▸ cc284 pc
                    · exact (show 285 = M by omega) ▸ cc285 pc
          · rcases Nat.lt_or_ge M 296 with q | q
            · rcases Nat.lt_or_ge M 291 with q | q
              · rcases Nat.lt_or_ge M 288 with q | q
                · rcases Nat.lt_or_ge M 287 with q | q
                  · exact (show 286 = M by omega) ▸ cc286 pc
                  · exact (show 287 = M by omega) ▸ cc287 pc
                · rcases Nat.lt_or_ge M 289 with q | q
                  · exact (show 288 = M by omega) ▸ cc288 pc
                  · rcases Nat.lt_or_ge M 290 with q | q
                    · exact (show 289 = M by omega) ▸ cc289 pc
                    · exact (show 290 = M by omega) ▸ cc290 pc
              · rcases Nat.lt_or_ge M 293 with q | q
                · rcases Nat.lt_or_ge M 292 with q | q
                  · exact (show 291 = M by omega) ▸ cc291 pc
                  · exact (show 292 = M by omega) ▸ cc292 pc
                · rcases Nat.lt_or_ge M 294 with q | q
                  · exact (show 293 = M by omega) ▸ cc293 pc
                  · rcases Nat.lt_or_ge M 295 with q | q
                    · exact (show 294 = M by omega) ▸ cc294 pc
                    · exact (show 295 = M by omega) ▸ cc295 pc
            · rcases Nat.lt_or_ge M 301 with q | q
              · rcases Nat.lt_or_ge M 298 with q | q
                · rcases Nat.lt_or_ge M 297 with q | q
                  · exact (show 296 = M by omega) ▸ cc296 pc
                  · exact (show 297 = M by omega) ▸ cc297 pc
                · rcases Nat.lt_or_ge M 299 with q | q
                  · exact (show 298 = M by omega) ▸ cc298 pc
                  · rcases Nat.lt_or_ge M 300 with q | q
                    · exact (show 299 = M by omega) ▸ cc299 pc
                    · exact (show 300 = M by omega) ▸ cc300 pc
              · rcases Nat.lt_or_ge M 303 with q | q
                · rcases Nat.lt_or_ge M 302 with q | q
                  · exact (show 301 = M by omega) ▸ cc301 pc
                  · exact (show 302 = M by omega) ▸ cc302 pc
                · rcases Nat.lt_or_ge M 304 with q | q
                  · exact (show 303 = M by omega) ▸ cc303 pc
                  · rcases Nat.lt_or_ge M 305 with q | q
                    · exact (show 304 = M by omega) ▸ cc304 pc
                    · exact (show 305 = M by omega) ▸ cc305 pc
  · show (match code9 M pc with
      | some (_, i, q, v, sw) => decide (decode (mB9 M) pc = .ok (i, q.headD 0)) && ((len9 i == 0 || q.headD 0 == len9 i) && chkI M pc i q v sw)
      | none => true) = true
    have hz : code9 M pc = none := by
      show (bif Nat.blt M 306 then _ else none) = none
      rw [show Nat.blt M 306 = false from blt_no (by omega)]
      rfl
    rw [hz]
