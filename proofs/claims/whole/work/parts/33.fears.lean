/-! which fears fit: both sides -/
theorem m1_lt {y : Nat} (hy : y < 2147483648) : (-1 : Int32) < nI y := by
  rw [Int32.lt_iff_toInt_lt, nInt hy]
  have : (-1 : Int32).toInt = -1 := by decide
  omega
section Q33
variable {N b ln sp sn ss nP nF nE nW nH nR : Nat} {I I' : FI}
theorem op_fears (h : QR N 25 ln nP nF nE nW nH nR I I') : ∃ v, Hol_fears N ln sp sn ss I = some v ∧ Mod_fears N I' = some (v, up2 I' 204 0 0) := by
  have hb := h.bd
  have hN := h.nN
  have h1 := h.thr (v := 0)
  unfold Hol_fears Mod_fears
  obtain ⟨g1, g2⟩ := bits_q h1 2
  rw [Option.bind_some, g2, Option.bind_some, latest_q h1, Option.bind_some]
  generalize up2 I' 204 0 0 = M at *
  -- the model's latest year
  have lat : ∀ m k n, k + m = 10 → m < n → Mod_fears_15 N n (bitsF (fun f => decide (M 206 (135 + f) = 2)) nF) (itF (latF (bt (bitsF (fun f => decide (M 206 (135 + f) = 2)) nF)) (fun f => M 206 (70 + f))) k (-1)) (nI k) M = Mod_fears_63 N N (bitsF (fun f => decide (M 206 (135 + f) = 2)) nF) (itF (latF (bt (bitsF (fun f => decide (M 206 (135 + f) = 2)) nF)) (fun f => M 206 (70 + f))) 10 (-1)) 0 0 M := by
    intro m
    induction m with
    | zero =>
      intro k n hk hn
      obtain ⟨n, rfl⟩ : ∃ e, n = e + 1 := ⟨n - 1, by omega⟩
      obtain rfl : k = 10 := by omega
      simp (disch := omega) only [Mod_fears_15, L_10, le_nI, ifT]
    | succ m ih =>
      intro k n hk hn
      obtain ⟨n, rfl⟩ : ∃ e, n = e + 1 := ⟨n - 1, by omega⟩
      have h2 := ih (k + 1) n (by omega) (by omega)
      simp (disch := omega) only [Mod_fears_15, Mod_has, L_10, le_nI, ifF, b_has, ax_70, in9_t, if_true, tN, nS]
      rw [← h2]
      cases c : bt (bitsF (fun f => decide (M 206 (135 + f) = 2)) nF) k with
      | true =>
        simp only [if_true, itF, latF, c, cond_true]
        by_cases d : M 206 (70 + k) ≤ itF (latF (bt (bitsF (fun f => decide (M 206 (135 + f) = 2)) nF)) (fun f => M 206 (70 + f))) k (-1)
        · rw [if_pos d, if_neg (Int32.not_lt.mpr d)]
        · rw [if_neg d, if_pos (Int32.not_le.mp d)]
      | false => simp only [Bool.false_eq_true, if_false, itF, latF, c, cond_false]
  have l10 := lat 10 0 N (by omega) (by omega)
  rw [show itF _ 0 (-1 : Int32) = -1 from rfl] at l10
  rw [show (0 : Int32) = nI 0 from rfl] at l10 ⊢
  have e3 : itF (latF (bt (bitsF (fun f => decide (M 206 (135 + f) = 2)) nF)) (fun f => M 206 (70 + f))) 10 (-1) = itF (latF (fun f => decide (M 206 (135 + f) = 2)) (fun f => M 206 (70 + f))) nF (-1) := (itF_ext hb.2.1 (fun k a1 a2 x => by unfold latF; rw [told_hi hb.2.1 a1 a2]; rfl)).trans (itF_congr (fun k hk x => by unfold latF; rw [told_bt h1 hk]))
  rw [l10, e3]
  -- its value
  have val : ∀ n, n ≤ nF → ((∀ k, k < n → ¬ M 206 (135 + k) = 2) ∧ itF (latF (fun f => decide (M 206 (135 + f) = 2)) (fun f => M 206 (70 + f))) n (-1) = -1) ∨ ((∃ k, k < n ∧ M 206 (135 + k) = 2) ∧ ∃ v, v ≤ 999 ∧ itF (latF (fun f => decide (M 206 (135 + f) = 2)) (fun f => M 206 (70 + f))) n (-1) = nI v) := by
    intro n
    induction n with
    | zero => exact fun _ => Or.inl ⟨fun k hk => absurd hk (by omega), rfl⟩
    | succ n ih =>
      intro hn
      obtain ⟨y, hy, ey⟩ := h1.v_year (f := n) (by omega)
      by_cases c : M 206 (135 + n) = 2
      · right
        refine ⟨⟨n, by omega, c⟩, ?_⟩
        simp only [itF, latF, c, decide_true, cond_true, ey]
        rcases ih (by omega) with ⟨-, e⟩ | ⟨-, v, hv, e⟩
        · rw [show itF _ n (-1 : Int32) = -1 from e, if_pos (m1_lt (by omega))]
          exact ⟨y, hy, rfl⟩
        · rw [show itF _ n (-1 : Int32) = nI v from e]
          split
          · exact ⟨y, hy, rfl⟩
          · exact ⟨v, hv, rfl⟩
      · have e1 : itF (latF (fun f => decide (M 206 (135 + f) = 2)) (fun f => M 206 (70 + f))) (n + 1) (-1) = itF (latF (fun f => decide (M 206 (135 + f) = 2)) (fun f => M 206 (70 + f))) n (-1) := by
          simp only [itF, latF, c, decide_false, cond_false]
        rw [e1]
        rcases ih (by omega) with ⟨a, e⟩ | ⟨⟨k, hk, ek⟩, v, hv, e⟩
        · left
          refine ⟨fun k hk => ?_, e⟩
          by_cases q : k = n
          · subst q; exact c
          · exact a k (by omega)
        · right; exact ⟨⟨k, by omega, ek⟩, v, hv, e⟩
  have hz : (bitsF (fun f => decide (M 206 (135 + f) = 2)) nF = 0) ↔ ∀ k, k < nF → ¬ M 206 (135 + k) = 2 := by
    constructor
    · intro e k hk q
      have := told_bt h1 (w := 2) hk
      rw [e, b_0] at this
      simp [q] at this
    · intro a
      refine b_ext (fun i hi => ?_)
      rw [b_bitsF (by omega) hi, b_0]
      by_cases q : i < nF
      · simp [a i q]
      · simp [q]
  have fin : ∀ (t lt : Int32), ((t = 0 ∧ lt = -1) ∨ (¬ t = 0 ∧ ∃ v, v ≤ 999 ∧ lt = nI v)) → ∀ m k n n' acc, k + m = nE → m < n → m < n' → ∃ r, Hol_fears_16 N ln sp sn ss n lt acc (nI k) I = some r ∧ Mod_fears_63 N n' t lt acc (nI k) M = some (r, M) := by
    intro t lt hlt m
    induction m with
    | zero =>
      intro k n n' acc hk hn hn'
      obtain ⟨n, rfl⟩ : ∃ e, n = e + 1 := ⟨n - 1, by omega⟩
      obtain ⟨n', rfl⟩ : ∃ e, n' = e + 1 := ⟨n' - 1, by omega⟩
      obtain rfl : k = nE := by omega
      refine ⟨acc, ?_, ?_⟩
      · simp (disch := omega) only [Hol_fears_16, h1.cE, le_nI, ifT]
      · simp (disch := omega) only [Mod_fears_63, T_2, h1.mE, le_nI, ifT]
    | succ m ih =>
      intro k n n' acc hk hn hn'
      obtain ⟨n, rfl⟩ : ∃ e, n = e + 1 := ⟨n - 1, by omega⟩
      obtain ⟨n', rfl⟩ : ∃ e, n' = e + 1 := ⟨n' - 1, by omega⟩
      obtain ⟨vf, hvf, ef⟩ := h1.v_from (k := k) (by omega)
      obtain ⟨vt, hvt, et⟩ := h1.v_to (k := k) (by omega)
      simp (disch := omega) only [Hol_fears_16, Mod_fears_63, Land_fearFrom, Land_fearTo, T_2, h1.cE, h1.mE, le_nI, ifF, mx_2, nS, in9_t, if_true, tN, h1.from, h1.to, ef, et, Option.bind_some, ax_96, ax_90]
      rcases hlt with ⟨rfl, rfl⟩ | ⟨ht, v, hv, rfl⟩
      · have a1 : ((-1 : Int32) < 0) = True := eq_true (by decide)
        simp only [↓reduceIte, a1, ite_self]
        exact ih (k + 1) n n' _ (by omega) (by omega) (by omega)
      · have a1 : (nI v < (0 : Int32)) = False := eq_false (by rw [L_0, lt_nI (by omega) (by omega)]; omega)
        have a2 : nI v + 30 = nI (v + 30) := by rw [L_30, nA]
        simp (disch := omega) only [a1, if_false, ht, a2, lt_nI]
        by_cases c1 : v + 30 < vf
        · by_cases c2 : vt < v
          · simp only [↓reduceIte, c1, c2]; exact ih (k + 1) n n' _ (by omega) (by omega) (by omega)
          · simp only [↓reduceIte, c1, c2]; exact ih (k + 1) n n' _ (by omega) (by omega) (by omega)
        · by_cases c2 : vt < v
          · simp only [↓reduceIte, c1, c2]; exact ih (k + 1) n n' _ (by omega) (by omega) (by omega)
          · simp only [↓reduceIte, c1, c2]; exact ih (k + 1) n n' _ (by omega) (by omega) (by omega)
  refine fin _ _ ?_ nE 0 N N _ (by omega) (by omega) (by omega)
  rcases val nF (Nat.le_refl _) with ⟨a, e⟩ | ⟨⟨k, hk, ek⟩, e⟩
  · exact Or.inl ⟨hz.mpr a, e⟩
  · exact Or.inr ⟨fun q => hz.mp q k hk ek, e⟩
end Q33
