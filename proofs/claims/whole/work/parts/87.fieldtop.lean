/-! a field is read from its first sign: both sides -/
section Q87
variable {N a b ln sp sn ss nP nF nE nW nH nR : Nat} {I I' : FI} {J J' : FJ} {t : Nat × Nat × List Nat} {m i k : Nat}
theorem bt_0 : ∀ q, q < 32 → bt 0 q = false := by decide
/-- a land as it is cleared -/
def clI (a : Nat) (I : FI) : FI := up2 (up2 (up2 (up2 (up2 (up2 (up2 (up2 (fl3 (fl3 (fl3 I (a + 6) 0 12 6) (a + 7) 0 3 1) (a + 8) 0 9 4) a 8 4) a 9 4) a 10 3) a 11 0) a 12 0) a 13 0) a 14 0) a 15 0
theorem clear_e (hN : 2000 ≤ N) : Land_clear N a I = some (clI a I) := by
  have e1 := fill_e (N := N) (a := a + 6) (n0 := 12) (v := 6) (I := I) (by omega) (by omega)
  have e2 := fill_e (N := N) (a := a + 7) (n0 := 3) (v := 1) (I := fl3 I (a + 6) 0 12 6) (by omega) (by omega)
  have e3 := fill_e (N := N) (a := a + 8) (n0 := 9) (v := 4) (I := fl3 (fl3 I (a + 6) 0 12 6) (a + 7) 0 3 1) (by omega) (by omega)
  unfold Land_clear clI
  simp only [e1, e2, e3, Option.bind_some]
theorem clI_o {x j : Nat} (h1 : ¬ (x = a ∧ 8 ≤ j ∧ j ≤ 15)) (h2 : x ≠ a + 6) (h3 : x ≠ a + 7) (h4 : x ≠ a + 8) : clI a I x j = I x j := by
  unfold clI
  rw [up2_ff (by omega), up2_ff (by omega), up2_ff (by omega), up2_ff (by omega), up2_ff (by omega), up2_ff (by omega), up2_ff (by omega), up2_ff (by omega), fl3_o h4, fl3_o h3, fl3_o h2]
theorem clI_a : clI a I a 8 = nI 4 ∧ clI a I a 9 = nI 4 ∧ clI a I a 10 = nI 3 ∧ clI a I a 11 = nI 0 ∧ clI a I a 12 = nI 0 ∧ clI a I a 13 = nI 0 ∧ clI a I a 14 = nI 0 ∧ clI a I a 15 = nI 0 := by
  unfold clI
  refine ⟨?_, ?_, ?_, ?_, ?_, ?_, ?_, ?_⟩
  · rw [u_j (by omega), u_j (by omega), u_j (by omega), u_j (by omega), u_j (by omega), u_j (by omega), u_j (by omega), u_s]; rfl
  · rw [u_j (by omega), u_j (by omega), u_j (by omega), u_j (by omega), u_j (by omega), u_j (by omega), u_s]; rfl
  · rw [u_j (by omega), u_j (by omega), u_j (by omega), u_j (by omega), u_j (by omega), u_s]; rfl
  · rw [u_j (by omega), u_j (by omega), u_j (by omega), u_j (by omega), u_s]; rfl
  · rw [u_j (by omega), u_j (by omega), u_j (by omega), u_s]; rfl
  · rw [u_j (by omega), u_j (by omega), u_s]; rfl
  · rw [u_j (by omega), u_s]; rfl
  · rw [u_s]; rfl
theorem clI_6 {k : Nat} : (k < 12 → clI a I (a + 6) k = nI 6) ∧ (k < 3 → clI a I (a + 7) k = nI 1) ∧ (k < 9 → clI a I (a + 8) k = nI 4) := by
  unfold clI
  refine ⟨fun h => ?_, fun h => ?_, fun h => ?_⟩
  · rw [u_o (by omega), u_o (by omega), u_o (by omega), u_o (by omega), u_o (by omega), u_o (by omega), u_o (by omega), u_o (by omega), fl3_o (by omega), fl3_o (by omega), fl3_i (by omega) (by omega)]; rfl
  · rw [u_o (by omega), u_o (by omega), u_o (by omega), u_o (by omega), u_o (by omega), u_o (by omega), u_o (by omega), u_o (by omega), fl3_o (by omega), fl3_i (by omega) (by omega)]; rfl
  · rw [u_o (by omega), u_o (by omega), u_o (by omega), u_o (by omega), u_o (by omega), u_o (by omega), u_o (by omega), u_o (by omega), fl3_i (by omega) (by omega)]; rfl
theorem srW_s : srW 0 = nI 0 ∧ srW 1 = nI 0 ∧ srW 2 = nI 0 ∧ srW 3 = nI 4 ∧ srW 4 = nI 4 ∧ srW 5 = nI 3 := by decide
theorem srW_6 : ∀ k, k < 12 → srW (6 + k) = nI 6 := by decide
theorem srW_18 : ∀ k, k < 3 → srW (18 + k) = nI 1 := by decide
theorem srW_21 : ∀ k, k < 9 → srW (21 + k) = nI 4 := by decide
theorem srW_f : ∀ k, k < 10 → srW (30 + k) = nI 0 ∧ srW (40 + k) = nI 0 ∧ srW (50 + k) = nI 0 ∧ srW (60 + k) = nI 0 ∧ srW (70 + k) = nI 0 ∧ srW (80 + k) = nI 0 := by decide
theorem srW_e : ∀ k, k < 6 → srW (90 + k) = nI 0 ∧ srW (96 + k) = nI 0 := by decide
theorem FdR.start {I1 I1' : FI} {J1 J1' : FJ} (hI : ∀ q j, a ≤ q → q ≤ a + 8 → I1 q j = clI a I q j) (hM : ∀ j, j < 102 → I1' 207 j = srW j) (h5 : ∀ j, j < 64 → I1' 215 j = nI 0) : FdR a 0 0 0 4 4 3 I1 J1 I1' J1' := by
  obtain ⟨s0, s1, s2, s3, s4, s5⟩ := srW_s
  obtain ⟨c8, c9, c10, c11, c12, c13, c14, c15⟩ := clI_a (a := a) (I := I)
  refine ⟨⟨⟨?_, by omega⟩, ⟨?_, by omega⟩, ⟨?_, by omega⟩, ⟨?_, by omega, by omega⟩, ⟨?_, by omega, by omega⟩, ⟨?_, by omega⟩, fun k hk => ⟨6, by omega, ?_⟩, fun k hk => ⟨1, by omega, by omega, ?_⟩, fun k hk => ⟨4, by omega, ?_⟩, fun f hf => ⟨⟨0, by omega, ?_⟩, ⟨0, by omega, ?_⟩, ⟨0, by omega, ?_⟩, ⟨0, by omega, ?_⟩, ⟨0, by omega, ?_⟩, ⟨0, by omega, ?_⟩⟩, fun k hk => ⟨⟨0, by omega, ?_⟩, ⟨0, by omega, ?_⟩⟩⟩, ⟨⟨?_, ?_, ?_, ?_, ?_, ?_⟩, fun k hk => ?_, fun k hk => ?_, fun k hk => ?_, fun f hf => absurd hf (by omega), fun k hk => absurd hk (by omega)⟩, fun f _ hf => ⟨?_, ?_⟩, fun q hq => Or.inr ⟨?_, ?_⟩, fun k hk => absurd hk (by omega), fun k hk => absurd hk (by omega), fun k hk => absurd hk (by omega)⟩
  · rw [hM _ (by omega)]; exact s0
  · rw [hM _ (by omega)]; exact s1
  · rw [hM _ (by omega)]; exact s2
  · rw [hM _ (by omega)]; exact s3
  · rw [hM _ (by omega)]; exact s4
  · rw [hM _ (by omega)]; exact s5
  · rw [hM _ (by omega)]; exact srW_6 k hk
  · rw [hM _ (by omega)]; exact srW_18 k hk
  · rw [hM _ (by omega)]; exact srW_21 k hk
  · rw [hM _ (by omega)]; exact (srW_f f hf).1
  · rw [hM _ (by omega)]; exact (srW_f f hf).2.1
  · rw [hM _ (by omega)]; exact (srW_f f hf).2.2.1
  · rw [hM _ (by omega)]; exact (srW_f f hf).2.2.2.1
  · rw [hM _ (by omega)]; exact (srW_f f hf).2.2.2.2.1
  · rw [hM _ (by omega)]; exact (srW_f f hf).2.2.2.2.2
  · rw [hM _ (by omega)]; exact (srW_e k hk).1
  · rw [hM _ (by omega)]; exact (srW_e k hk).2
  · rw [hI _ _ (by omega) (by omega), hM _ (by omega), c11, s0]
  · rw [hI _ _ (by omega) (by omega), hM _ (by omega), c12, s1]
  · rw [hI _ _ (by omega) (by omega), hM _ (by omega), c13, s2]
  · rw [hI _ _ (by omega) (by omega), hM _ (by omega), c8, s3]
  · rw [hI _ _ (by omega) (by omega), hM _ (by omega), c9, s4]
  · rw [hI _ _ (by omega) (by omega), hM _ (by omega), c10, s5]
  · rw [hI _ _ (by omega) (by omega), hM _ (by omega), clI_6.1 hk, srW_6 k hk]
  · rw [hI _ _ (by omega) (by omega), hM _ (by omega), clI_6.2.1 hk, srW_18 k hk]
  · rw [hI _ _ (by omega) (by omega), hM _ (by omega), clI_6.2.2 hk, srW_21 k hk]
  · rw [hM _ (by omega)]; exact (srW_f f hf).2.1
  · rw [hM _ (by omega)]; exact (srW_f f hf).2.2.1
  · rw [hI _ _ (by omega) (by omega), c15]; exact bt_0 q (by omega)
  · exact h5 _ (by have := onM_lt q hq; omega)
theorem fieldread_q (hN : 2000 ≤ N) (ha : 6 ≤ a) (ha2 : a ≤ 16) {n0 : Nat} (hT : TapeR I I' n0) (hW : WordsJ J) : ∃ I1 J1 I1' J1', ((Land_read N a 1 I J = some (false, I1, J1) ∧ Mod_field N I' J' = some ((-1) - (I1' 204 11), I1', J1') ∧ FlR I1 I1') ∨ (∃ n, n ≤ 450 ∧ Land_read N a 1 I J = some (true, I1, J1) ∧ Mod_field N I' J' = Mod_field_49 N N (nI n) 0 I1' J1' ∧ I1 a 14 = nI n ∧ (∃ mP mF mE mW mH mR, FdR a mP mF mE mW mH mR I1 J1 I1' J1') ∧ I1 1 14 = nI 0 ∧ I1' 204 10 = nI 0)) ∧ (∀ x j, ¬ (x = 1 ∧ 6 ≤ j ∧ j ≤ 15) → x ≠ 4 → x ≠ 5 → ¬ (a ≤ x ∧ x ≤ a + 8) → I1 x j = I x j) ∧ (∀ x j, x ≠ 6 → ¬ (x = 1 ∧ j = 10) → ¬ (a ≤ x ∧ x ≤ a + 8) → J1 x j = J x j) ∧ (∀ x j, ¬ (x = 204 ∧ j ≤ 13) → x ≠ 207 → x ≠ 215 → I1' x j = I' x j) ∧ (∀ x j, ¬ (x = 204 ∧ j = 12) → x ≠ 212 → J1' x j = J' x j) ∧ I1' 204 2 = nI 0 := by
  have hT2 : TapeR (clI a I) I' n0 := by
    obtain ⟨t1, t2, t3, t4, t5⟩ := hT
    exact ⟨t1, by rw [clI_o (by omega) (by omega) (by omega) (by omega)]; exact t2, t3, fun i hi => by rw [clI_o (by omega) (by omega) (by omega) (by omega)]; exact t4 i hi, t5⟩
  obtain ⟨t, I1, J1, I1', J1', b1, b2, b3, b4, b5, b6, b7, b8, b9⟩ := begin_q (m := 900) hN (by omega) hW hT2
  have b1' : Tape_begin N 1 900 (clI a I) J = some (I1, J1) := b1
  have b2' : Mod_begin N 900 I' J' = some (I1', J1') := b2
  obtain ⟨I2', s1, s2, s3, s4⟩ := startRead_e hN I1'
  have at0 : At 900 0 t I1 J1 I2' J1' := b3.congr (fun _ _ _ => rfl) (fun _ _ _ => rfl) (fun x j w => s4 x j (by omega) (by omega)) rfl
  have fd : FdR a 0 0 0 4 4 3 I1 J1 I2' J1' := FdR.start (I := I) (fun q j h1 h2 => b6 _ _ (by omega) (by omega) (by omega)) s2 s3
  obtain ⟨f, hf⟩ : ∃ f, N = f + 450 + 1 := ⟨N - 451, by omega⟩
  obtain ⟨I3, J3, I3', J3', kp, c⟩ := field_l hN ha (by omega) 450 0 f 0 t 0 0 0 4 4 3 I1 J1 I2' J1' rfl at0 fd (by rw [b6 _ _ (by omega) (by omega) (by omega)]; exact clI_a.2.2.2.2.2.2.1) (by omega)
  rw [← hf] at c
  have br : ∀ z, Land_read_13 N a 1 N (nI 0) I1 J1 = z → Land_read N a 1 I J = z := fun z hz => by
    unfold Land_read
    rw [clear_e hN, Option.bind_some, b1', Option.bind_some]
    exact hz
  have mr : ∀ z, Mod_field_13 N N (nI 0) I2' J1' = z → Mod_field N I' J' = z := fun z hz => by
    unfold Mod_field
    rw [b2', Option.bind_some, s1, Option.bind_some]
    exact hz
  refine ⟨I3, J3, I3', J3', ?_, fun x j w1 w2 w3 w4 => ?_, fun x j w1 w2 w3 => ?_, fun x j w1 w2 w3 => ?_, fun x j w1 w2 => ?_, ?_⟩
  · rcases c with ⟨c1, c2, c3⟩ | ⟨n, c0, c1, c2, c3⟩
    · exact Or.inl ⟨br _ c1, mr _ c2, c3⟩
    · exact Or.inr ⟨n, c0, br _ c1, mr _ c2, c3⟩
  · rw [kp.1 x j (by omega) w4, b6 x j w1 w2 w3, clI_o (by omega) (by omega) (by omega) (by omega)]
  · rw [kp.2.1 x j w2 w3, b7 x j w1 w2]
  · rw [kp.2.2.1 x j (by omega) w2 w3, s4 x j w2 w3, b8 x j (by omega)]
  · rw [kp.2.2.2 x j w1 w2, b9 x j w1]
  · rw [kp.2.2.1 _ _ (by omega) (by omega) (by omega), s4 _ _ (by omega) (by omega)]; exact b4
end Q87
