/-! a label, written out: both sides -/
/-- what is written so far -/
def LabR (I I' : FI) (n : Nat) : Prop := n ≤ 40 ∧ I 200 1 = nI n ∧ I' 204 36 = nI n ∧ (∀ j, j < n → I 201 j = I' 221 j)
def wB : List Nat → FI → Option FI
  | [], I => some I
  | v :: L, I => Option.bind (Label_add 200 (nI v) I) (wB L)
def wM : List Nat → FI → Option FI
  | [], I => some I
  | v :: L, I => Option.bind (Mod_write (nI v) I) (wM L)
theorem wB_app : ∀ (L K : List Nat) (I : FI), wB (L ++ K) I = Option.bind (wB L I) (wB K) := by
  intro L
  induction L with
  | nil => intro K I; rfl
  | cons v L ih =>
    intro K I
    show Option.bind (Label_add 200 (nI v) I) (wB (L ++ K)) = Option.bind (Option.bind (Label_add 200 (nI v) I) (wB L)) (wB K)
    cases Label_add 200 (nI v) I with
    | none => rfl
    | some I1 => exact ih K I1
theorem wM_app : ∀ (L K : List Nat) (I : FI), wM (L ++ K) I = Option.bind (wM L I) (wM K) := by
  intro L
  induction L with
  | nil => intro K I; rfl
  | cons v L ih =>
    intro K I
    show Option.bind (Mod_write (nI v) I) (wM (L ++ K)) = Option.bind (Option.bind (Mod_write (nI v) I) (wM L)) (wM K)
    cases Mod_write (nI v) I with
    | none => rfl
    | some I1 => exact ih K I1
theorem divL2 {a b : Nat} (ha : a < 9223372036854775808) (hb : b < 9223372036854775808) : lN a / lN b = lN (a / b) := divL ha hb
theorem lN_i32 (n : Nat) : (lN n).toInt32 = nI n := lN_i n
section Q47
variable {N b ln sp sn ss nP nF nE nW nH nR : Nat} {I I' : FI} {J J' : FJ}
theorem w_one {n v : Nat} (h : LabR I I' n) (hn : n < 40) (hv : v < 128) : ∃ I1 I1', Label_add 200 (nI v) I = some I1 ∧ Mod_write (nI v) I' = some I1' ∧ LabR I1 I1' (n + 1) ∧ (∀ q j, q ≠ 201 → ¬ (q = 200 ∧ j = 1) → I1 q j = I q j) ∧ (∀ q j, q ≠ 221 → ¬ (q = 204 ∧ j = 36) → I1' q j = I' q j) := by
  obtain ⟨h1, h2, h3, h4⟩ := h
  have a : ((Int32.ofNat 40) ≤ nI n) = False := by rw [show Int32.ofNat 40 = nI 40 from rfl, le_nI (by omega) (by omega)]; exact eq_false (by omega)
  have G : in9 (nI n) 40 = True := in9_t (by omega) (by omega)
  have G' : in9 (nI n) 64 = True := in9_t (by omega) (by omega)
  have t : (nI n).toNatClampNeg = n := tN (by omega)
  have e1 : ∀ w, up2 I 201 n w 200 = I 200 := fun w => u_o (by omega)
  have e2 : ∀ w, up2 I' 221 n w 204 = I' 204 := fun w => u_o (by omega)
  refine ⟨up2 (up2 I 201 n (nI v)) 200 1 (nI (n + 1)), up2 (up2 I' 221 n (nI v)) 204 36 (nI (n + 1)), ?_, ?_, ⟨by omega, u_s, u_s, fun j hj => ?_⟩, fun q j h1 h2 => ?_, fun q j h1 h2 => ?_⟩
  · simp only [↓reduceIte, Label_add, h2, a, G, t, e1, nar_n v hv, nS, Option.bind_some]
  · simp only [↓reduceIte, Mod_write, h3, G', t, e2, nS, Option.bind_some]
  · rw [u_o (show (201 : Nat) ≠ 200 by omega), u_o (show (221 : Nat) ≠ 204 by omega)]
    by_cases q : j = n
    · rw [q, u_s, u_s]
    · rw [u_j q, u_j q]; exact h4 j (by omega)
  · by_cases z : q = 200
    · rw [z, u_j (by omega), u_o (by omega)]
    · rw [u_o z, u_o h1]
  · by_cases z : q = 204
    · rw [z, u_j (by omega), u_o (by omega)]
    · rw [u_o z, u_o h1]
theorem w_list : ∀ (L : List Nat) (n : Nat) (I I' : FI), LabR I I' n → n + L.length ≤ 40 → (∀ v, v ∈ L → v < 128) → ∃ I1 I1', wB L I = some I1 ∧ wM L I' = some I1' ∧ LabR I1 I1' (n + L.length) ∧ (∀ q j, q ≠ 201 → ¬ (q = 200 ∧ j = 1) → I1 q j = I q j) ∧ (∀ q j, q ≠ 221 → ¬ (q = 204 ∧ j = 36) → I1' q j = I' q j) := by
  intro L
  induction L with
  | nil => intro n I I' h _ _; exact ⟨I, I', rfl, rfl, h, fun _ _ _ _ => rfl, fun _ _ _ _ => rfl⟩
  | cons v L ih =>
    intro n I I' h hn hv
    have hn' : n + (L.length + 1) ≤ 40 := hn
    obtain ⟨I1, I1', a1, a2, a3, a4, a5⟩ := w_one h (by omega) (hv v List.mem_cons_self)
    obtain ⟨I2, I2', b1, b2, b3, b4, b5⟩ := ih (n + 1) I1 I1' a3 (by omega) (fun w hw => hv w (List.mem_cons_of_mem _ hw))
    refine ⟨I2, I2', ?_, ?_, ?_, fun q j h1 h2 => (b4 q j h1 h2).trans (a4 q j h1 h2), fun q j h1 h2 => (b5 q j h1 h2).trans (a5 q j h1 h2)⟩
    · show Option.bind (Label_add 200 (nI v) I) (wB L) = _
      rw [a1]; exact b1
    · show Option.bind (Mod_write (nI v) I') (wM L) = _
      rw [a2]; exact b2
    · rw [List.length_cons, ← Nat.add_assoc, Nat.add_right_comm]; exact b3
/-- the book writes a name -/
theorem name_b {L0 : List Nat} : ∀ (m : Nat) (S P : List Nat) (f : Nat) (I : FI), L0 = P ++ S → (∀ d, d ∈ L0 → 1 ≤ d ∧ d ≤ 26) → L0.length ≤ 7 → (S.length ≤ m) → (P = [] ∨ S.length = m) → m ≤ 7 → m < f → Label_addName_3 N 200 f (lN (nameN 32 L0)) (5 * nI m - 5) I = wB (S.map (fun d => 96 + d)) I := by
  intro m
  induction m with
  | zero =>
    intro S P f I hL hd h7 hm hP _ hf
    obtain ⟨f, rfl⟩ : ∃ e, f = e + 1 := ⟨f - 1, by omega⟩
    have hS : S = [] := List.eq_nil_of_length_eq_zero (by omega)
    have z : (5 * nI 0 - 5 < (0 : Int32)) = True := eq_true (by decide)
    rw [hS]
    simp only [↓reduceIte, Label_addName_3, z]
    rfl
  | succ m ih =>
    intro S P f I hL hd h7 hm hP h8 hf
    obtain ⟨f, rfl⟩ : ∃ e, f = e + 1 := ⟨f - 1, by omega⟩
    have i1 : 5 * nI (m + 1) - 5 = nI (5 * m) := by rw [show (5 : Int32) = nI 5 from rfl, nM, nSb (by omega)]; exact congrArg nI (by omega)
    have i2 : nI (5 * m) + (-5) = 5 * nI m - 5 := by rw [show (5 : Int32) = nI 5 from rfl, nM, Int32.sub_eq_add_neg]
    have z : (nI (5 * m) < (0 : Int32)) = False := by rw [L_0, lt_nI (by omega) (by omega)]; exact eq_false (by omega)
    have pw : (2 : Nat) ^ (5 * m) = 32 ^ m := by rw [Nat.pow_mul]
    rw [i1]
    have dg := dig64 (x := nameN 32 L0) (k := 5 * m) (by omega)
    rw [pw] at dg
    rcases Nat.lt_or_ge m S.length with g | g
    · -- a digit to write
      obtain ⟨d, S', rfl⟩ : ∃ d S', S = d :: S' := by
        cases S with
        | nil => exact absurd g (by show ¬ m < 0; omega)
        | cons d S' => exact ⟨d, S', rfl⟩
      have hl : S'.length = m := by
        have : S'.length + 1 ≤ m + 1 := hm
        have : m < S'.length + 1 := g
        omega
      have hdd := hd d (by rw [hL]; simp)
      have key : nameN 32 L0 / 32 ^ m % 32 = d := by
        rw [hL]
        have e : ∀ P : List Nat, nameN 32 (P ++ d :: S') = 32 ^ (m + 1) * nameN 32 P + (d * 32 ^ m + nameN 32 S') := by
          intro P
          induction P with
          | nil =>
            show d * 32 ^ S'.length + nameN 32 S' = 32 ^ (m + 1) * 0 + _
            rw [hl]; omega
          | cons c P ihP =>
            show c * 32 ^ (P ++ d :: S').length + nameN 32 (P ++ d :: S') = 32 ^ (m + 1) * (c * 32 ^ P.length + nameN 32 P) + _
            rw [ihP, List.length_append, List.length_cons, hl, Nat.pow_add, Nat.mul_add, ← Nat.mul_assoc, Nat.mul_comm (32 ^ (m + 1)) (c * _), Nat.mul_assoc]
            omega
        have lt : nameN 32 S' < 32 ^ m := by
          rw [← hl]
          exact nameN_lt (by omega) S' (fun e he => hd e (by rw [hL]; simp [he]))
        have pos : 0 < 32 ^ m := Nat.pow_pos (by omega)
        rw [e P, Nat.pow_succ, Nat.mul_assoc, Nat.mul_add_div pos, Nat.mul_comm d, Nat.mul_add_div pos, Nat.div_eq_of_lt lt]
        omega
      rw [key] at dg
      have z2 : (nI d ≤ (0 : Int32)) = False := by rw [L_0, le_nI (by omega) (by omega)]; exact eq_false (by omega)
      have cd : (97 : Int32) + nI d - 1 = nI (96 + d) := by rw [show (97 : Int32) = nI 97 from rfl, nA, L_1, nSb (by omega)]; exact congrArg nI (by omega)
      show _ = Option.bind (Label_add 200 (nI (96 + d)) I) (wB (S'.map (fun d => 96 + d)))
      simp only [↓reduceIte, Label_addName_3, z, dg, z2, cd, i2]
      cases Label_add 200 (nI (96 + d)) I with
      | none => rfl
      | some I1 => exact ih S' (P ++ [d]) f I1 (by rw [hL]; simp) hd h7 (by omega) (Or.inr hl) (by omega) (by omega)
    · -- nothing there
      have hP0 : P = [] := by
        rcases hP with h | h
        · exact h
        · omega
      have lt : nameN 32 L0 < 32 ^ m := by
        rw [hL, hP0]
        have h1 := nameN_lt (B := 32) (by omega) S (fun e he => hd e (by rw [hL]; simp [he]))
        exact Nat.lt_of_lt_of_le h1 (Nat.pow_le_pow_right (by omega) g)
      rw [Nat.div_eq_of_lt lt] at dg
      have z2 : (nI (0 % 32) ≤ (0 : Int32)) = True := eq_true (by decide)
      simp only [↓reduceIte, Label_addName_3, z, dg, z2, i2]
      exact ih S P f I hL hd h7 g (Or.inl hP0) (by omega) (by omega)
end Q47
