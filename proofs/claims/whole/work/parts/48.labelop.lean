/-! a label, written out: the model's words, numbers, the whole -/
theorem nameN_pos {B : Nat} (hB : 1 ≤ B) {L : List Nat} (h : ∀ d, d ∈ L → 1 ≤ d ∧ d ≤ 26) (hl : 1 ≤ L.length) : 1 ≤ nameN B L := by
  cases L with
  | nil => exact absurd hl (by decide)
  | cons d L =>
    have h1 := (h d List.mem_cons_self).1
    have h2 : 1 ≤ d * B ^ L.length := Nat.mul_pos h1 (Nat.pow_pos hB)
    show 1 ≤ d * B ^ L.length + nameN B L
    omega
section Q48
variable {N b ln sp sn ss nP nF nE nW nH nR : Nat} {I I' : FI} {J J' : FJ}
theorem name_m : ∀ (n : Nat) (L : List Nat) (f : Nat) (I : FI), L.length = n + 1 → (∀ d, d ∈ L → 1 ≤ d ∧ d ≤ 26) → n + 1 ≤ 7 → n < f → Mod_writeWord_R N f (lN (nameN 27 L)) I = wM (L.map (fun d => 96 + d)) I := by
  intro n
  induction n with
  | zero =>
    intro L f I hl hd h7 hf
    obtain ⟨f, rfl⟩ : ∃ e, f = e + 1 := ⟨f - 1, by omega⟩
    obtain ⟨d, rfl⟩ : ∃ d, L = [d] := by
      cases L with
      | nil => exact absurd hl (by decide)
      | cons d L =>
        have : L = [] := List.eq_nil_of_length_eq_zero (by have : L.length + 1 = 0 + 1 := hl; omega)
        exact ⟨d, by rw [this]⟩
    have hdd := hd d List.mem_cons_self
    have e : nameN 27 [d] = d := by show d * 27 ^ 0 + 0 = d; omega
    have c : (lN d < (27 : Int64)) = True := by rw [show (27 : Int64) = lN 27 from rfl, ltL (by omega) (by omega)]; exact eq_true (by omega)
    have r : lN d - lN d / 27 * 27 = lN d := by rw [show (27 : Int64) = lN 27 from rfl, divL (by omega) (by omega), remL, Nat.mod_eq_of_lt (by omega)]
    have w : (96 : Int32) + nI d = nI (96 + d) := nA 96 d
    rw [e]
    show Mod_writeWord (Mod_writeWord_R N f) N (lN d) I = Option.bind (Mod_write (nI (96 + d)) I) (fun I => some I)
    simp only [↓reduceIte, Mod_writeWord, c, r, lN_i32, w]
  | succ n ih =>
    intro L f I hl hd h7 hf
    obtain ⟨f, rfl⟩ : ∃ e, f = e + 1 := ⟨f - 1, by omega⟩
    have hne : L ≠ [] := fun q => by rw [q] at hl; exact absurd hl (by simp)
    obtain ⟨P, d, rfl⟩ : ∃ P d, L = P ++ [d] := ⟨L.dropLast, L.getLast hne, (List.dropLast_concat_getLast hne).symm⟩
    have hP : P.length = n + 1 := by
      rw [List.length_append, List.length_singleton] at hl
      omega
    have hdd := hd d (by simp)
    have hdP : ∀ e, e ∈ P → 1 ≤ e ∧ e ≤ 26 := fun e he => hd e (by simp [he])
    have p1 := nameN_pos (B := 27) (by omega) hdP (by omega)
    have p2 := nameN_lt (B := 27) (by omega) P hdP
    have p3 : (27 : Nat) ^ P.length ≤ 27 ^ 6 := Nat.pow_le_pow_right (by omega) (by omega)
    have p4 : (27 : Nat) ^ 6 = 387420489 := by decide
    have e : nameN 27 (P ++ [d]) = 27 * nameN 27 P + d := nameN_snoc d P
    rw [e]
    have c : (lN (27 * nameN 27 P + d) < (27 : Int64)) = False := by rw [show (27 : Int64) = lN 27 from rfl, ltL (by omega) (by omega)]; exact eq_false (by omega)
    have q : lN (27 * nameN 27 P + d) / 27 = lN (nameN 27 P) := by rw [show (27 : Int64) = lN 27 from rfl, divL (by omega) (by omega)]; exact congrArg lN (by omega)
    have r : lN (27 * nameN 27 P + d) - lN (nameN 27 P) * 27 = lN d := by rw [show (27 : Int64) = lN 27 from rfl, lN_mul, lN_sub (by omega)]; exact congrArg lN (by omega)
    have w : (96 : Int32) + nI d = nI (96 + d) := nA 96 d
    have h1 := ih P f I hP hdP (by omega) (by omega)
    rw [List.map_append, wM_app]
    show Mod_writeWord (Mod_writeWord_R N f) N _ I = Option.bind (wM (P.map (fun d => 96 + d)) I) (fun I => Option.bind (Mod_write (nI (96 + d)) I) (fun I => some I))
    simp only [↓reduceIte, Mod_writeWord, c, q, r, lN_i32, w, h1]
/-- a number's digits -/
def numL (y : Nat) : List Nat := if y < 10 then [48 + y] else if y < 100 then [48 + y / 10, 48 + y % 10] else [48 + y / 100, 48 + y / 10 % 10, 48 + y % 10]
theorem rem10 {a : Nat} (ha : a < 2147483648) : nI a - nI a / 10 * 10 = nI (a % 10) := by
  rw [L_10, div_nI ha (by omega), nM, nSb (Nat.div_mul_le_self a 10)]
  exact congrArg nI (by omega)
theorem num_b {y : Nat} (hy : y ≤ 999) : Label_addNumber 200 (nI y) I = wB (numL y) I := by
  have c1 : (nI y < 100) = (y < 100) := by rw [show (100 : Int32) = nI 100 from rfl, lt_nI (by omega) (by omega)]
  have c2 : (nI y < 10) = (y < 10) := by rw [L_10, lt_nI (by omega) (by omega)]
  have d1 := rem10 (a := y) (by omega)
  have d2 : nI y / 10 - nI y / 10 / 10 * 10 = nI (y / 10 % 10) := by
    rw [show nI y / 10 = nI (y / 10) from by rw [L_10, div_nI (by omega) (by omega)]]
    exact rem10 (by omega)
  have d3 : nI y / 100 = nI (y / 100) := by rw [show (100 : Int32) = nI 100 from rfl, div_nI (by omega) (by omega)]
  have w : ∀ k, (48 : Int32) + nI k = nI (48 + k) := fun k => nA 48 k
  unfold numL Label_addNumber
  by_cases a : y < 10
  · have a2 : y < 100 := by omega
    simp only [↓reduceIte, c1, c2, a, a2, d1, w]
    rw [Nat.mod_eq_of_lt a]
    rfl
  · by_cases a2 : y < 100
    · simp only [↓reduceIte, c1, c2, a, a2, d1, d2, w]
      rw [Nat.mod_eq_of_lt (show y / 10 < 10 by omega)]
      rfl
    · simp only [↓reduceIte, c1, c2, a, a2, d1, d2, d3, w]
      rfl
theorem num_m {y : Nat} (hy : y ≤ 999) : Mod_writeNumber_R N dK (nI y) I = wM (numL y) I := by
  have w : ∀ k, (48 : Int32) + nI k = nI (48 + k) := fun k => nA 48 k
  have st : ∀ k x (I : FI), x ≤ 999 → Mod_writeNumber_R N (k + 1) (nI x) I = if x ≤ 9 then Option.bind (Mod_write (nI (48 + x)) I) (fun x1 => some x1) else Option.bind (Mod_writeNumber_R N k (nI (x / 10)) I) (fun x2 => Option.bind (Mod_write (nI (48 + x % 10)) x2) (fun x3 => some x3)) := by
    intro k x I hx
    have c : (nI x ≤ 9) = (x ≤ 9) := by rw [show (9 : Int32) = nI 9 from rfl, le_nI (by omega) (by omega)]
    have d1 := rem10 (a := x) (by omega)
    have d2 : nI x / 10 = nI (x / 10) := by rw [L_10, div_nI (by omega) (by omega)]
    show Mod_writeNumber (Mod_writeNumber_R N k) N (nI x) I = _
    by_cases a : x ≤ 9
    · simp only [↓reduceIte, Mod_writeNumber, c, a, d1, w]
      rw [Nat.mod_eq_of_lt (show x < 10 by omega)]
    · unfold Mod_writeNumber
      rw [if_neg (by rw [c]; exact a), if_neg a, d1, d2, w]
  show Mod_writeNumber_R N (61 + 1 + 1 + 1) (nI y) I = _
  unfold numL
  rw [st _ y I hy]
  by_cases a : y < 10
  · rw [if_pos (show y ≤ 9 by omega), if_pos a]; rfl
  · rw [if_neg (show ¬ y ≤ 9 by omega), if_neg a, st _ (y / 10) I (by omega)]
    by_cases a2 : y < 100
    · rw [if_pos (show y / 10 ≤ 9 by omega), if_pos a2]
      cases h : Mod_write (nI (48 + y / 10)) I with
      | none =>
        show none = Option.bind (Mod_write (nI (48 + y / 10)) I) _
        rw [h]; rfl
      | some I1 =>
        show _ = Option.bind (Mod_write (nI (48 + y / 10)) I) _
        rw [h]; rfl
    · rw [if_neg (show ¬ y / 10 ≤ 9 by omega), if_neg a2, st _ (y / 10 / 10) I (by omega), if_pos (show y / 10 / 10 ≤ 9 by omega), show y / 10 / 10 = y / 100 from by omega]
      cases h : Mod_write (nI (48 + y / 100)) I with
      | none =>
        show none = Option.bind (Mod_write (nI (48 + y / 100)) I) _
        rw [h]; rfl
      | some I1 =>
        show _ = Option.bind (Mod_write (nI (48 + y / 100)) I) _
        rw [h]
        show Option.bind (Option.bind (Mod_write (nI (48 + y / 10 % 10)) I1) _) _ = Option.bind (Mod_write (nI (48 + y / 10 % 10)) I1) _
        cases Mod_write (nI (48 + y / 10 % 10)) I1 with
        | none => rfl
        | some I2 => rfl
end Q48
