/-! what is asked of a label's letters: both sides -/
section Q51
variable {N b ln sp sn ss nP nF nE nW nH nR : Nat} {I I' : FI} {J J' : FJ}
theorem op_byteAt (h : ∃ n, LabR I I' n) (l1 : Int32) : ∃ v, Hol_byteAt ln sp sn ss l1 I = some v ∧ Mod_byteAt l1 I' = some (v, up2 I' 204 0 0) := by
  obtain ⟨n, r1, r2, r3, r4⟩ := h
  have e36 : up2 I' 204 0 0 204 36 = nI n := by rw [u_j (by omega)]; exact r3
  unfold Hol_byteAt Mod_byteAt
  rw [r2, Option.bind_some, e36, isIn_n (by omega)]
  by_cases c1 : l1 < 0
  · exact ⟨-1, by rw [if_pos c1], by simp only [c1, if_true, Bool.false_eq_true, if_false]⟩
  · obtain ⟨j, hj, rfl⟩ := nNN c1
    rw [if_neg c1, if_neg c1]
    have k1 : (nI j < nI n) = (j < n) := lt_nI (by omega) (by omega)
    have k2 : (nI n ≤ nI j) = (n ≤ j) := le_nI (by omega) (by omega)
    simp only [k1, k2]
    by_cases c2 : j < n
    · have g : in9 (nI j) 40 = True := in9_t (by omega) (by omega)
      have g' : in9 (nI j) 64 = True := in9_t (by omega) (by omega)
      refine ⟨I 201 j, ?_, ?_⟩
      · rw [if_pos c2]
        simp only [↓reduceIte, g, tN hj]
      · rw [if_neg (show ¬ n ≤ j by omega)]
        simp only [↓reduceIte, g', tN hj]
        rw [u_o (by omega), r4 j c2]
    · refine ⟨-1, by rw [if_neg c2], ?_⟩
      rw [if_pos (show n ≤ j by omega)]
      simp only [Bool.false_eq_true, if_false]
end Q51
