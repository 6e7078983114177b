/-! how many are said, and which: both sides, where both know what is said -/
def cntF (p : Nat → Bool) : Nat → Nat
  | 0 => 0
  | n + 1 => cntF p n + (if p n then 1 else 0)
theorem cntF_le (p : Nat → Bool) : ∀ n, cntF p n ≤ n := by
  intro n
  induction n with
  | zero => exact Nat.le_refl _
  | succ n ih =>
    show cntF p n + (if p n then 1 else 0) ≤ n + 1
    split <;> omega
theorem cntF_congr {p q : Nat → Bool} : ∀ n, (∀ k, k < n → p k = q k) → cntF p n = cntF q n := by
  intro n
  induction n with
  | zero => intro _; rfl
  | succ n ih =>
    intro h
    show cntF p n + (if p n then 1 else 0) = cntF q n + (if q n then 1 else 0)
    rw [ih (fun k hk => h k (by omega)), h n (by omega)]
theorem cntF_ext {p : Nat → Bool} {n : Nat} : ∀ m, n ≤ m → (∀ k, n ≤ k → k < m → p k = false) → cntF p m = cntF p n := by
  intro m
  induction m with
  | zero => intro h _; rw [show n = 0 by omega]
  | succ m ih =>
    intro h1 h2
    by_cases z : n = m + 1
    · rw [z]
    · show cntF p m + (if p m then 1 else 0) = _
      rw [ih (by omega) (fun k a b => h2 k a (by omega)), h2 m (by omega) (by omega)]
      rfl
set_option maxRecDepth 100000 in
theorem pop_10 : ∀ B, B < 1024 → Integer_bitCount (nI B) = nI (cntF (fun k => B.testBit k) 10) := by decide +kernel
theorem pop_b {p : Nat → Bool} {n : Nat} (hn : n ≤ 10) : Integer_bitCount (bitsF p n) = nI (cntF p n) := by
  obtain ⟨B, hB, e⟩ := bits_n (p := p) hn
  have hb : ∀ k, k < 10 → B.testBit k = (decide (k < n) && p k) := by
    intro k hk
    rw [← bt_nI (by omega), ← e, b_bitsF (by omega) (by omega)]
  rw [e, pop_10 B hB]
  refine congrArg nI ?_
  rw [cntF_ext (n := n) 10 hn (fun k a b => by rw [hb k b]; simp; omega)]
  exact cntF_congr n (fun k hk => by rw [hb k (by omega)]; simp [hk])
section Q52
variable {N b ln sp sn ss nP nF nE nW nH nR : Nat} {I I' : FI} {J J' : FJ}
theorem nth_l {p : Nat → Bool} {M : FI} (hF : nF ≤ 10) (hc : I ln 12 = nI nF) (hm : M 206 1 = nI nF) (hM : ∀ k, k < nF → Mod_holds_R N dK (M 206 210) (nI k) M = some (p k)) {c : Nat} (hc2 : c < 2147483648) : ∀ m k f f', k + m = nF → m < f → m < f' → ∃ v, Hol_said_48 N ln sp sn ss f (nI c) (bitsF p nF) (nI (cntF p k)) (nI k) I = some (v, I) ∧ Mod_said_22 N f' (nI c) (nI (cntF p k)) (nI k) M = some (v, M) := by
  intro m
  induction m with
  | zero =>
    intro k f f' hk hf hf'
    obtain ⟨f, rfl⟩ : ∃ e, f = e + 1 := ⟨f - 1, by omega⟩
    obtain ⟨f', rfl⟩ : ∃ e, f' = e + 1 := ⟨f' - 1, by omega⟩
    obtain rfl : k = nF := by omega
    have A : (nI k ≤ nI k) = True := eq_true (Int32.le_refl _)
    have z : (nI c = -1) = False := eq_false (fun q => (nI_ne1 hc2).mp q)
    exact ⟨-1, by simp only [↓reduceIte, Hol_said_48, hc, A], by simp only [↓reduceIte, Mod_said_22, T_1, hm, A, z]⟩
  | succ m ih =>
    intro k f f' hk hf hf'
    obtain ⟨f, rfl⟩ : ∃ e, f = e + 1 := ⟨f - 1, by omega⟩
    obtain ⟨f', rfl⟩ : ∃ e, f' = e + 1 := ⟨f' - 1, by omega⟩
    have A : (nI nF ≤ nI k) = False := by rw [le_nI (by omega) (by omega)]; exact eq_false (by omega)
    have hk2 := hM k (by omega)
    have T210 : (210 : Int32).toNatClampNeg = 210 := id rfl
    have ck := cntF_le p k
    obtain ⟨v, x1, x2⟩ := ih (k + 1) f f' (by omega) (by omega) (by omega)
    have hbit : (((bitsF p nF >>> (nI k &&& 31)) &&& 1) = 1) = (p k = true) := by
      rw [b_has (by omega), b_bitsF (by omega) (by omega)]
      simp [show k < nF by omega]
    cases e : p k with
    | true =>
      have e2 : (p k = true) = True := eq_true e
      rw [show cntF p (k + 1) = cntF p k + 1 from by show cntF p k + (if p k then 1 else 0) = _; rw [e]; rfl] at x1 x2
      by_cases g : cntF p k = c
      · have g1 : (nI (cntF p k) = nI c) = True := eq_true (by rw [g])
        exact ⟨nI k, by simp only [↓reduceIte, Hol_said_48, hc, A, hbit, e2, g1], by simp only [↓reduceIte, Mod_said_22, T_1, T210, hm, A, hk2, e, g1, Option.bind_some]⟩
      · have g1 : (nI (cntF p k) = nI c) = False := by rw [eq_nI (by omega) hc2]; exact eq_false g
        exact ⟨v, by simp only [↓reduceIte, Hol_said_48, hc, A, hbit, e2, g1, nS]; exact x1, by simp only [↓reduceIte, Mod_said_22, T_1, T210, hm, A, hk2, e, g1, nS, Option.bind_some]; exact x2⟩
    | false =>
      have e2 : (p k = true) = False := eq_false (by rw [e]; decide)
      rw [show cntF p (k + 1) = cntF p k from by show cntF p k + (if p k then 1 else 0) = _; rw [e]; rfl] at x1 x2
      exact ⟨v, by simp only [↓reduceIte, Hol_said_48, hc, A, hbit, e2, nS]; exact x1, by simp only [↓reduceIte, Mod_said_22, T_1, T210, hm, A, hk2, e, Bool.false_eq_true, nS, Option.bind_some]; exact x2⟩
/-- where the number asked for is below nothing the model counts to the end -/
theorem neg_l {p : Nat → Bool} {M : FI} {l1 : Int32} (hl : l1 < 0) (hF : nF ≤ 10) (hm : M 206 1 = nI nF) (hM : ∀ k, k < nF → Mod_holds_R N dK (M 206 210) (nI k) M = some (p k)) : ∀ m k f', k + m = nF → m < f' → Mod_said_22 N f' l1 (nI (cntF p k)) (nI k) M = some (if l1 = -1 then nI (cntF p nF) else -1, M) := by
  intro m
  induction m with
  | zero =>
    intro k f' hk hf'
    obtain ⟨f', rfl⟩ : ∃ e, f' = e + 1 := ⟨f' - 1, by omega⟩
    obtain rfl : k = nF := by omega
    have A : (nI k ≤ nI k) = True := eq_true (Int32.le_refl _)
    by_cases z : l1 = -1
    · simp only [↓reduceIte, Mod_said_22, T_1, hm, A, z]
    · simp only [↓reduceIte, Mod_said_22, T_1, hm, A, z]
  | succ m ih =>
    intro k f' hk hf'
    obtain ⟨f', rfl⟩ : ∃ e, f' = e + 1 := ⟨f' - 1, by omega⟩
    have A : (nI nF ≤ nI k) = False := by rw [le_nI (by omega) (by omega)]; exact eq_false (by omega)
    have hk2 := hM k (by omega)
    have T210 : (210 : Int32).toNatClampNeg = 210 := id rfl
    have ck := cntF_le p k
    have x2 := ih (k + 1) f' (by omega) (by omega)
    have g1 : (nI (cntF p k) = l1) = False := eq_false (fun q => by
      rw [← q, L_0, lt_nI (by omega) (by omega)] at hl
      omega)
    cases e : p k with
    | true =>
      rw [show cntF p (k + 1) = cntF p k + 1 from by show cntF p k + (if p k then 1 else 0) = _; rw [e]; rfl] at x2
      rw [← x2]
      simp only [↓reduceIte, Mod_said_22, T_1, T210, hm, A, hk2, e, g1, nS, Option.bind_some]
    | false =>
      rw [show cntF p (k + 1) = cntF p k from by show cntF p k + (if p k then 1 else 0) = _; rw [e]; rfl] at x2
      rw [← x2]
      simp only [↓reduceIte, Mod_said_22, T_1, T210, hm, A, hk2, e, Bool.false_eq_true, nS, Option.bind_some]
theorem said_of {p : Nat → Bool} {I1 : FI} (hN : 2000 ≤ N) (hF : nF ≤ 10) (hs : ¬ I sn 5 = 0) (hs' : ¬ up2 I' 204 0 0 206 209 = 0) (hB : Sentence_bitsOf N sn ln 25 I = some (bitsF p nF, I1)) (hc : I1 ln 12 = nI nF) (hm : up2 I' 204 0 0 206 1 = nI nF) (hM : ∀ k, k < nF → Mod_holds_R N dK (up2 I' 204 0 0 206 210) (nI k) (up2 I' 204 0 0) = some (p k)) (l1 : Int32) : ∃ v I2, Hol_said N ln sp sn ss l1 I = some (v, I2) ∧ Mod_said N l1 I' = some (v, up2 I' 204 0 0) ∧ (I2 = I ∨ I2 = I1) := by
  have T209 : (209 : Int32).toNatClampNeg = 209 := id rfl
  unfold Hol_said Mod_said
  rw [if_neg hs, Option.bind_some, T209, if_neg hs']
  by_cases c : l1 < 0
  · have nl := neg_l (N := N) (nF := nF) c hF hm hM nF 0 N (by omega) (by omega)
    rw [show nI (cntF p 0) = (0 : Int32) from rfl, show nI 0 = (0 : Int32) from rfl] at nl
    rw [nl]
    by_cases d : l1 = -1
    · have d1 : (-1 : Int32) ≤ l1 := by rw [d]; exact Int32.le_refl _
      refine ⟨nI (cntF p nF), I1, ?_, by rw [if_pos d], Or.inr rfl⟩
      rw [if_pos d1, hB, Option.bind_some, if_pos d, pop_b hF]
    · have d1 : ¬ (-1 : Int32) ≤ l1 := by
        intro q
        apply d
        refine Int32.le_antisymm ?_ q
        rw [Int32.le_iff_toInt_le]
        rw [Int32.lt_iff_toInt_lt] at c
        have z1 : (0 : Int32).toInt = 0 := by decide
        have z2 : (-1 : Int32).toInt = -1 := by decide
        omega
      exact ⟨-1, I, by rw [if_neg d1], by rw [if_neg d], Or.inl rfl⟩
  · obtain ⟨j, hj, rfl⟩ := nNN c
    have d1 : (-1 : Int32) ≤ nI j := Int32.le_of_lt (m1_lt hj)
    have d : ¬ nI j = -1 := fun q => (nI_ne1 hj).mp q
    obtain ⟨v, x1, x2⟩ := nth_l (N := N) (sp := sp) (sn := sn) (ss := ss) (I := I1) hF hc hm hM hj nF 0 N N (by omega) (by omega) (by omega)
    refine ⟨v, I1, ?_, x2, Or.inr rfl⟩
    rw [if_pos d1, hB, Option.bind_some, if_neg d]
    exact x1
end Q52
