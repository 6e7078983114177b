/-! a word is known by its number, in both kinds of writing; the own words -/
theorem nameN_inj {B : Nat} (hB : 27 ≤ B) : ∀ (n : Nat) (L K : List Nat), L.length = n → (∀ d, d ∈ L → 1 ≤ d ∧ d ≤ 26) → (∀ d, d ∈ K → 1 ≤ d ∧ d ≤ 26) → nameN B L = nameN B K → L = K := by
  intro n
  induction n with
  | zero =>
    intro L K hl hL hK e
    have h0 : L = [] := List.eq_nil_of_length_eq_zero hl
    subst h0
    cases K with
    | nil => rfl
    | cons d K =>
      have := nameN_pos (B := B) (by omega) hK (by simp)
      rw [← e] at this
      exact absurd this (show ¬ 1 ≤ 0 by omega)
  | succ n ih =>
    intro L K hl hL hK e
    have hne : L ≠ [] := fun q => by rw [q] at hl; exact absurd hl (by simp)
    have hk : K ≠ [] := fun q => by
      have := nameN_pos (B := B) (by omega) hL (by omega)
      rw [e, q] at this
      exact absurd this (show ¬ 1 ≤ 0 by omega)
    obtain ⟨P, d, rfl⟩ : ∃ P d, L = P ++ [d] := ⟨L.dropLast, L.getLast hne, (List.dropLast_concat_getLast hne).symm⟩
    obtain ⟨Q, c, rfl⟩ : ∃ P d, K = P ++ [d] := ⟨K.dropLast, K.getLast hk, (List.dropLast_concat_getLast hk).symm⟩
    rw [nameN_snoc, nameN_snoc] at e
    have hd := hL d (by simp)
    have hc := hK c (by simp)
    have m1 : (B * nameN B P + d) % B = d := by rw [Nat.mul_add_mod, Nat.mod_eq_of_lt (by omega)]
    have m2 : (B * nameN B Q + c) % B = c := by rw [Nat.mul_add_mod, Nat.mod_eq_of_lt (by omega)]
    have dc : d = c := by rw [← m1, e, m2]
    subst dc
    have e2 : nameN B P = nameN B Q := Nat.eq_of_mul_eq_mul_left (by omega) (Nat.add_right_cancel e)
    have hP : P.length = n := by
      rw [List.length_append, List.length_singleton] at hl
      omega
    rw [ih P Q hP (fun e he => hL e (by simp [he])) (fun e he => hK e (by simp [he])) e2]
theorem nameN_7 {B : Nat} (hB : 27 ≤ B) (hB2 : B ≤ 32) {L : List Nat} (h : ∀ d, d ∈ L → 1 ≤ d ∧ d ≤ 26) (h7 : L.length ≤ 7) : nameN B L < 34359738368 := by
  have h1 := nameN_lt hB L h
  have h2 : B ^ L.length ≤ B ^ 7 := Nat.pow_le_pow_right (by omega) h7
  have h3 : B ^ 7 ≤ 32 ^ 7 := Nat.pow_le_pow_left hB2 7
  have h4 : (32 : Nat) ^ 7 = 34359738368 := by decide
  omega
/-- two words are alike on the one side where they are on the other -/
theorem word_eq {x y x2 y2 : Int64} {L K : List Nat} (h : WordR x y L) (k : WordR x2 y2 K) : (x = x2) = (y = y2) := by
  obtain ⟨a1, a2, a3, rfl, rfl⟩ := h
  obtain ⟨b1, b2, b3, rfl, rfl⟩ := k
  have p1 := nameN_7 (B := 32) (by omega) (by omega) a1 a3
  have p2 := nameN_7 (B := 32) (by omega) (by omega) b1 b3
  have p3 := nameN_7 (B := 27) (by omega) (by omega) a1 a3
  have p4 := nameN_7 (B := 27) (by omega) (by omega) b1 b3
  rw [eqL (by omega) (by omega), eqL (by omega) (by omega)]
  exact propext ⟨fun e => by rw [nameN_inj (by omega) _ L K rfl a1 b1 e], fun e => by rw [nameN_inj (by omega) _ L K rfl a1 b1 e]⟩
