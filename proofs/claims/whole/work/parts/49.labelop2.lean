/-! what is asked of labels: both sides -/
/-- the names of a field, in both kinds of writing -/
def NameR (ln nP nF nE : Nat) (J J' : FJ) : Prop := (∀ k, k < nP → ∃ L, WordR (J (ln + 1) k) (J' 211 k) L) ∧ (∀ k, k < nF → ∃ L, WordR (J (ln + 2) k) (J' 211 (6 + k)) L) ∧ (∀ k, k < nE → ∃ L, WordR (J (ln + 3) k) (J' 211 (16 + k)) L)
theorem tx_1 : strs9.getD 1 [] = ([32, 105, 110, 32, 116, 104, 101, 32, 103, 114, 111, 117, 110, 100] : List Nat).map nI := by decide
theorem tx_2 : strs9.getD 2 [] = ([32, 104, 97, 100, 32, 98, 121, 32] : List Nat).map nI := by decide
theorem tx_3 : strs9.getD 3 [] = ([32, 116, 111, 108, 100] : List Nat).map nI := by decide
theorem tx_4 : strs9.getD 4 [] = ([32, 115, 111, 108, 100] : List Nat).map nI := by decide
section Q49
variable {N b ln sp sn ss nP nF nE nW nH nR : Nat} {I I' : FI} {J J' : FJ}
theorem text_l {j : Nat} (hj : j < 5) {T : List Nat} (hT : strs9.getD j [] = T.map nI) (hl : T.length ≤ 100) : ∀ (m : Nat) (S P : List Nat) (f : Nat) (I : FI), T = P ++ S → S.length = m → m < f → Label_addText_2 N 200 (oFF + j + 1) f (nI P.length) I = wB S I := by
  have o : (oFF < oFF + j + 1 ∧ oFF + j + 1 ≤ oFF + 5) = True := eq_true (by omega)
  have o2 : oFF + j + 1 - oFF - 1 = j := by omega
  have sl : sLen j = T.length := by unfold sLen; rw [hT, List.length_map]
  intro m
  induction m with
  | zero =>
    intro S P f I hS hm hf
    obtain ⟨f, rfl⟩ : ∃ e, f = e + 1 := ⟨f - 1, by omega⟩
    have hS0 : S = [] := List.eq_nil_of_length_eq_zero hm
    have hp : P.length = T.length := by rw [hS, hS0, List.append_nil]
    have c : (Int32.ofNat T.length ≤ nI T.length) = True := eq_true (Int32.le_refl _)
    rw [hp, hS0]
    simp only [↓reduceIte, Label_addText_2, o, o2, sl, c]
    rfl
  | succ m ih =>
    intro S P f I hS hm hf
    obtain ⟨f, rfl⟩ : ∃ e, f = e + 1 := ⟨f - 1, by omega⟩
    obtain ⟨v, S', rfl⟩ : ∃ v S', S = v :: S' := by
      cases S with
      | nil => exact absurd hm (by simp)
      | cons v S' => exact ⟨v, S', rfl⟩
    have hl2 : T.length = P.length + (S'.length + 1) := by rw [hS, List.length_append]; rfl
    have c : (Int32.ofNat T.length ≤ nI P.length) = False := by rw [show Int32.ofNat T.length = nI T.length from rfl, le_nI (by omega) (by omega)]; exact eq_false (by omega)
    have t : (nI P.length).toNatClampNeg = P.length := tN (by omega)
    have g : (oFF < oFF + j + 1 ∧ oFF + j + 1 ≤ oFF + 5 ∧ in9 (nI P.length) T.length) = True := by
      rw [in9_t (by omega) (by omega)]
      exact eq_true ⟨by omega, by omega, trivial⟩
    have ch : sCh j P.length = nI v := by
      unfold sCh
      rw [hT, hS]
      simp [List.getD_eq_getElem?_getD]
    show _ = Option.bind (Label_add 200 (nI v) I) (wB S')
    simp only [↓reduceIte, Label_addText_2, o, o2, sl, c, g, t, ch, nS]
    cases Label_add 200 (nI v) I with
    | none => rfl
    | some I1 =>
      have := ih S' (P ++ [v]) f I1 (by rw [hS]; simp) (by have : S'.length + 1 = m + 1 := hm; omega) (by omega)
      rw [List.length_append, List.length_singleton] at this
      exact this
theorem text_b {j : Nat} (hN : 2000 ≤ N) (hj : j < 5) {T : List Nat} (hT : strs9.getD j [] = T.map nI) (hl : T.length ≤ 100) (I : FI) : Label_addText N 200 (oFF + j + 1) I = wB T I := text_l hj hT hl T.length T [] N I rfl rfl (by omega)
theorem next_m {L : List Nat} (h : ∀ d, d ∈ L → 1 ≤ d ∧ d ≤ 26) (h1 : 1 ≤ L.length) (h7 : L.length ≤ 7) (I : FI) : Mod_writeNext N (lN (nameN 27 L)) I = wM (32 :: L.map (fun d => 96 + d)) I := by
  unfold Mod_writeNext
  show _ = Option.bind (Mod_write (nI 32) I) (wM (L.map (fun d => 96 + d)))
  rw [show (32 : Int32) = nI 32 from rfl]
  cases Mod_write (nI 32) I with
  | none => rfl
  | some I1 =>
    show Option.bind (Mod_writeWord_R N dK (lN (nameN 27 L)) I1) (fun x2 => some x2) = _
    rw [name_m (L.length - 1) L dK I1 (by omega) h (by omega) (by unfold dK; omega), obind_id]
    rfl
theorem name_bq {x y : Int64} {L : List Nat} (hN : 2000 ≤ N) (h : WordR x y L) (I : FI) : Label_addName N 200 x I = wB (L.map (fun d => 96 + d)) I := by
  obtain ⟨h1, h2, h3, rfl, -⟩ := h
  have := name_b (N := N) (L0 := L) 7 L [] N I rfl h1 h3 h3 (Or.inl rfl) (by omega) (by omega)
  rw [show 5 * nI 7 - 5 = (30 : Int32) from by decide] at this
  exact this
theorem name_mq {x y : Int64} {L : List Nat} (h : WordR x y L) (I : FI) : Mod_writeWord_R N dK y I = wM (L.map (fun d => 96 + d)) I ∧ Mod_writeNext N y I = wM (32 :: L.map (fun d => 96 + d)) I := by
  obtain ⟨h1, h2, h3, -, rfl⟩ := h
  exact ⟨name_m (L.length - 1) L dK I (by omega) h1 (by omega) (by unfold dK; omega), next_m h1 h2 h3 I⟩
theorem mw_in : Mod_spelt 105 110 0 0 0 0 = lN (nameN 27 [9, 14]) := by decide
theorem mw_the : Mod_spelt 116 104 101 0 0 0 = lN (nameN 27 [20, 8, 5]) := by decide
theorem mw_ground : Mod_wordOf 22 = lN (nameN 27 [7, 18, 15, 21, 14, 4]) := by decide
theorem mw_had : Mod_spelt 104 97 100 0 0 0 = lN (nameN 27 [8, 1, 4]) := by decide
theorem mw_by : Mod_spelt 98 121 0 0 0 0 = lN (nameN 27 [2, 25]) := by decide
theorem mw_told : Mod_wordOf 24 = lN (nameN 27 [20, 15, 12, 4]) := by decide
theorem mw_sold : Mod_wordOf 25 = lN (nameN 27 [19, 15, 12, 4]) := by decide
theorem dg_ok (L : List Nat) (h : L.all (fun d => decide (1 ≤ d) && decide (d ≤ 26)) = true) : ∀ d, d ∈ L → 1 ≤ d ∧ d ≤ 26 := by
  intro d hd
  have := List.all_eq_true.mp h d hd
  simpa using this
end Q49
