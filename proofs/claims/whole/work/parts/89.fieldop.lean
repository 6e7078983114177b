/-! the op field: both sides -/
/-- what the book's side does in field, apart from its change of lands -/
def Fld (N sp sn : Nat) (I : FI) (J : FJ) : Option (Int32 × Bool × FI × FJ) := Option.bind (Land_read N sp 1 I J) fun x1 => (Option.bind (some (up2 x1.2.1 1 5 (0 : Int32))) fun I2 => (Option.bind (some (up2 I2 0 17 (I2 1 14))) fun I3 => (if x1.1 then (Option.bind (State_begin N 25 sp I3) fun I4 => (Option.bind (Sentence_clear sn I4) fun I5 => (Option.bind (History_clear 60 I5) fun I6 => (some (I6 sp 14, true, I6, x1.2.2))))) else (some ((-1) - (I3 1 15), false, I3, x1.2.2)))))
section Q89
variable {N a b ln sp sn ss nP nF nE nW nH nR : Nat} {I I' : FI} {J J' : FJ} {m i k : Nat}
theorem op_field (hN : 2000 ≤ N) (hs : 6 ≤ sp) (hs2 : sp ≤ 16) (hn : 45 ≤ sn) (hn2 : sn ≤ 50) {n0 : Nat} (hT : TapeR I I' n0) (hW : WordsJ J) : ∃ v g I1 J1 I1' J1', Fld N sp sn I J = some (v, g, I1, J1) ∧ Mod_field N I' J' = some (v, I1', J1') ∧ TapeR I1 I1' 0 ∧ I1 0 17 = I1' 204 10 ∧ (g = true → ∃ mP mF mE mW mH mR, QR N 25 sp mP mF mE mW mH mR I1 I1' ∧ NameR sp mP mF mE J1 J1' ∧ (∀ nP, SentR nP sn I1 (I1' 206)) ∧ I1 60 2 = nI 0 ∧ I1' 204 24 = nI 0) ∧ (g = false → (∀ j, I1' 206 j = I' 206 j) ∧ (∀ j, J1' 211 j = J' 211 j) ∧ I1' 204 24 = I' 204 24) ∧ (∀ x j, ¬ (x = 1 ∧ 5 ≤ j ∧ j ≤ 15) → ¬ (x = 0 ∧ j = 17) → x ≠ 4 → x ≠ 5 → ¬ (sp ≤ x ∧ x ≤ sp + 8) → (g = true → ¬ (25 ≤ x ∧ x ≤ 34) ∧ ¬ (x = sn ∧ (j = 4 ∨ j = 5)) ∧ ¬ (x = 60 ∧ j = 2)) → I1 x j = I x j) ∧ (∀ x j, x ≠ 6 → ¬ (x = 1 ∧ j = 10) → ¬ (sp ≤ x ∧ x ≤ sp + 8) → J1 x j = J x j) ∧ (∀ x j, ¬ (x = 204 ∧ (j ≤ 13 ∨ j = 24)) → x ≠ 206 → x ≠ 207 → x ≠ 215 → I1' x j = I' x j) ∧ (∀ x j, ¬ (x = 204 ∧ j = 12) → x ≠ 211 → x ≠ 212 → J1' x j = J' x j) := by
  obtain ⟨I1, J1, I1', J1', c, f1, f2, f3, f4, f5⟩ := fieldread_q hN hs hs2 hT hW (J' := J')
  have fl : ∀ (y : Bool) (z : Option (Int32 × Bool × FI × FJ)), Land_read N sp 1 I J = some (y, I1, J1) → (if y = true then (Option.bind (State_begin N 25 sp (up2 (up2 I1 1 5 0) 0 17 (up2 I1 1 5 0 1 14))) fun I4 => (Option.bind (Sentence_clear sn I4) fun I5 => (Option.bind (History_clear 60 I5) fun I6 => (some (I6 sp 14, true, I6, J1))))) else (some ((-1) - (up2 (up2 I1 1 5 0) 0 17 (up2 I1 1 5 0 1 14) 1 15), false, up2 (up2 I1 1 5 0) 0 17 (up2 I1 1 5 0 1 14), J1))) = z → Fld N sp sn I J = z := fun y z hy hz => by
    unfold Fld
    rw [hy]
    exact hz
  obtain ⟨B, hB⟩ : ∃ B, B = up2 (up2 I1 1 5 0) 0 17 (up2 I1 1 5 0 1 14) := ⟨_, rfl⟩
  rw [← hB] at fl
  have bo : ∀ x j, ¬ (x = 1 ∧ j = 5) → ¬ (x = 0 ∧ j = 17) → B x j = I1 x j := fun x j w1 w2 => by rw [hB, up2_ff w2, up2_ff w1]
  have b5 : B 1 5 = nI 0 := by rw [hB, u_o (by omega), u_s]; rfl
  have b17 : B 0 17 = I1 1 14 := by rw [hB, u_s, u_j (by omega)]
  have tp : ∀ (X : FI) (Y : FI), X 1 5 = nI 0 → (∀ j, X 2 j = I 2 j) → Y 204 2 = nI 0 → (∀ j, Y 205 j = I' 205 j) → TapeR X Y 0 := fun X Y x1 x2 y1 y2 => hT.after x1 y1 x2 y2
  rcases c with ⟨c1, c2, ⟨c3, q, c4, c5, c6⟩⟩ | ⟨n, cn, c1, c2, c3, ⟨mP, mF, mE, mW, mH, mR, c4⟩, c5, c6⟩
  · refine ⟨(-1) - nI q, false, B, J1, I1', J1', fl false _ c1 ?_, ?_, tp _ _ b5 (fun j => ?_) f5 (fun j => f3 _ _ (by omega) (by omega) (by omega)), ?_, fun z => absurd z (by simp), fun _ => ⟨fun j => f3 _ _ (by omega) (by omega) (by omega), fun j => f4 _ _ (by omega) (by omega), f3 _ _ (by omega) (by omega) (by omega)⟩, fun x j w1 w2 w3 w4 w5 _ => ?_, fun x j w1 w2 w3 => f2 x j w1 w2 w3, fun x j w1 w2 w3 w4 => f3 x j (by omega) w3 w4, fun x j w1 w2 w3 => f4 x j w1 w3⟩
    · rw [if_neg (by simp), bo _ _ (by omega) (by omega), c5]
    · rw [c2, c6]
    · rw [bo _ _ (by omega) (by omega)]; exact f1 _ _ (by omega) (by omega) (by omega) (by omega)
    · rw [b17]; exact c3
    · rw [bo x j (by omega) w2]; exact f1 x j (by omega) w3 w4 w5
  · have hP := c4.1.1
    have hF := c4.1.2.1
    have hE := c4.1.2.2.1
    have hWW := c4.1.2.2.2.1
    have hHH := c4.1.2.2.2.2.1
    have e12 : B sp 12 = nI mF := by rw [bo _ _ (by omega) (by omega)]; exact c4.2.1.1.2.1.trans hF.1
    obtain ⟨S, s1, s2, s3, s4, s5, s6, s7, s8, s9⟩ := sbegin_l (N := N) hN hs hs2 hF.2 mF 0 N B (by omega) (by have := hF.2; omega) e12
    have sb : State_begin N 25 sp B = some S := s1
    obtain ⟨T, t1, t2, t3, t4, t5⟩ := startSo_e (N := N) (I := cp2 I1' 207 0 206 0 102) hN
    obtain ⟨E, hE2⟩ : ∃ E, E = up2 (up2 (up2 S sn 4 0) sn 5 0) 60 2 0 := ⟨_, rfl⟩
    have eo : ∀ x j, ¬ (x = sn ∧ (j = 4 ∨ j = 5)) → ¬ (x = 60 ∧ j = 2) → E x j = S x j := fun x j w1 w2 => by rw [hE2, up2_ff (by omega), up2_ff (by omega), up2_ff (by omega)]
    have w6 : ∀ j, j < 102 → T 206 j = I1' 207 j := fun j hj => by rw [t2 j hj, cp2_i (by omega) (by omega)]; congr 1; omega
    have fA : ∀ q j, sp ≤ q → q ≤ sp + 8 → E q j = I1 q j := fun q j h1 h2 => by rw [eo q j (by omega) (by omega), s9 q j (by omega), bo q j (by omega) (by omega)]
    have lw : LW (T 206) mP mF mE mW mH mR := c4.1.of (fun j hj => w6 j hj)
    have ld : LdR sp mF mE E (T 206) := c4.2.1.of (fun q j h1 h2 => fA q j h1 h2) (fun j hj => w6 j hj) hF.2 hE.2
    have ldf := c4.2.1.2.2.2.2.1
    have st : StR 25 mF E (T 206) := by
      refine ⟨fun f hf => ?_, fun f hf => ?_, fun f hf => ?_, fun f hf => ?_, fun f hf => ?_, fun f hf => ?_, fun f hf => ?_, fun f hf => ?_, fun f hf => ?_, ?_, ?_⟩
      · rw [eo _ _ (by omega) (by omega), (s2 f (Nat.zero_le _) hf).1, bo _ _ (by omega) (by omega), (ldf f hf).2.1, (t3 f (by have := hF.2; omega)).1, cp2_i (by omega) (by omega)]; congr 1; omega
      · rw [eo _ _ (by omega) (by omega), (s2 f (Nat.zero_le _) hf).2.1, bo _ _ (by omega) (by omega), (ldf f hf).2.2.1, (t3 f (by have := hF.2; omega)).2.1, cp2_i (by omega) (by omega)]; congr 1; omega
      · rw [eo _ _ (by omega) (by omega), (s2 f (Nat.zero_le _) hf).2.2, bo _ _ (by omega) (by omega), (ldf f hf).2.2.2.1, (t3 f (by have := hF.2; omega)).2.2.1, cp2_i (by omega) (by omega)]; congr 1; omega
      · rw [eo _ _ (by omega) (by omega), (s4 f (by have := hF.2; omega)).1, t4 _ (by omega) (by have := hF.2; omega) (by omega) (by have := hF.2; omega)]
      · rw [eo _ _ (by omega) (by omega), (s4 f (by have := hF.2; omega)).2, (t3 f (by have := hF.2; omega)).2.2.2]
      · rw [eo _ _ (by omega) (by omega), (s5 f hf).1, t4 _ (by omega) (by omega) (by omega) (by omega)]
      · rw [eo _ _ (by omega) (by omega), (s5 f hf).2.1, t4 _ (by omega) (by omega) (by omega) (by omega)]
      · rw [eo _ _ (by omega) (by omega), (s5 f hf).2.2, t4 _ (by omega) (by omega) (by omega) (by omega)]
      · rw [eo _ _ (by omega) (by omega), s6 f hf, t4 _ (by omega) (by omega) (by omega) (by omega)]
      · rw [eo _ _ (by omega) (by omega), s7, t4 _ (by omega) (by omega) (by omega) (by omega)]
      · rw [eo _ _ (by omega) (by omega), s8, t4 _ (by omega) (by omega) (by omega) (by omega)]
    have sw : SW (T 206) mP mF mW mH := by
      refine ⟨fun f hf => ⟨0, by omega, t4 _ (by omega) (by omega) (by omega) (by omega)⟩, fun f hf q => ?_, fun f hf => ⟨?_, ?_, ?_⟩, fun c hc => ⟨0, by omega, t4 _ (by omega) (by omega) (by omega) (by omega)⟩, ⟨0, by omega, t4 _ (by omega) (by omega) (by omega) (by omega)⟩, ?_⟩
      · rw [t4 _ (by omega) (by omega) (by omega) (by omega)] at q
        exact absurd q (by decide)
      · rw [(t3 f (by have := hF.2; omega)).1, cp2_i (by omega) (by omega), show 0 + (40 + f - 0) = 40 + f by omega]
        exact (c4.1.2.2.2.2.2.2.2.2.2.1 f (by have := hF.2; omega)).2.1
      · rw [(t3 f (by have := hF.2; omega)).2.1, cp2_i (by omega) (by omega), show 0 + (50 + f - 0) = 50 + f by omega]
        exact (c4.1.2.2.2.2.2.2.2.2.2.1 f (by have := hF.2; omega)).2.2.1
      · rw [(t3 f (by have := hF.2; omega)).2.2.1, cp2_i (by omega) (by omega), show 0 + (60 + f - 0) = 60 + f by omega]
        exact (c4.1.2.2.2.2.2.2.2.2.2.1 f (by have := hF.2; omega)).2.2.2.1
      · rw [t4 103 (by omega) (by omega) (by omega) (by omega), t4 161 (by omega) (by omega) (by omega) (by omega), t4 162 (by omega) (by omega) (by omega) (by omega), t4 163 (by omega) (by omega) (by omega) (by omega), t4 164 (by omega) (by omega) (by omega) (by omega), t4 165 (by omega) (by omega) (by omega) (by omega), t4 166 (by omega) (by omega) (by omega) (by omega)]
        decide
    have u206 : up2 T 204 24 (0 : Int32) 206 = T 206 := u_o (by omega)
    refine ⟨nI n, true, E, J1, up2 T 204 24 0, cp2 J1' 212 0 211 0 22, fl true _ c1 ?_, ?_, tp _ _ ?_ (fun j => ?_) ?_ (fun j => ?_), ?_, fun _ => ⟨mP, mF, mE, mW, mH, mR, ⟨hN, by rw [u206]; exact lw, by rw [u206]; exact ld, by rw [u206]; exact st, by rw [u206]; exact sw, by omega, by omega⟩, ⟨fun k hk => ?_, fun k hk => ?_, fun k hk => ?_⟩, fun nP => Or.inl ⟨?_, ?_⟩, ?_, u_s.trans rfl⟩, fun z => absurd z (by simp), fun x j w1 w2 w3 w4 w5 w6 => ?_, fun x j w1 w2 w3 => f2 x j w1 w2 w3, fun x j w1 w2 w3 w4 => ?_, fun x j w1 w2 w3 => ?_⟩
    · rw [if_pos rfl, sb, Option.bind_some]
      unfold Sentence_clear History_clear
      simp only [Option.bind_some]
      rw [← hE2, fA _ _ (by omega) (by omega), c3]
    · rw [c2, f49_e hN, f75_e hN, t1, Option.bind_some, Option.bind_some]
    · rw [eo _ _ (by omega) (by omega), s9 _ _ (by omega)]; exact b5
    · rw [eo _ _ (by omega) (by omega), s9 _ _ (by omega), bo _ _ (by omega) (by omega)]; exact f1 _ _ (by omega) (by omega) (by omega) (by omega)
    · rw [u_j (by omega), t5 _ _ (by omega), cp2_o (by omega)]; exact f5
    · rw [u_o (by omega), t5 _ _ (by omega), cp2_o (by omega)]; exact f3 _ _ (by omega) (by omega) (by omega)
    · rw [eo _ _ (by omega) (by omega), s9 _ _ (by omega), b17, c5, u_j (by omega), t5 _ _ (by omega), cp2_o (by omega), c6]
    · rw [cp2_i (by omega) (by have := hP.2; omega)]
      obtain ⟨L, hL⟩ := c4.2.2.2.2.1 k hk
      exact ⟨L, hL⟩
    · rw [cp2_i (by omega) (by have := hF.2; omega)]
      obtain ⟨L, hL⟩ := c4.2.2.2.2.2.1 k hk
      rw [show 0 + (6 + k - 0) = 6 + k by omega]
      exact ⟨L, hL⟩
    · rw [cp2_i (by omega) (by have := hE.2; omega)]
      obtain ⟨L, hL⟩ := c4.2.2.2.2.2.2 k hk
      rw [show 0 + (16 + k - 0) = 16 + k by omega]
      exact ⟨L, hL⟩
    · rw [hE2, u_o (by omega), u_s]; rfl
    · rw [u206, t4 _ (by omega) (by omega) (by omega) (by omega)]
    · rw [hE2, u_s]; rfl
    · obtain ⟨y1, y2, y3⟩ := w6 rfl
      rw [eo x j y2 y3, s9 x j y1, bo x j (by omega) w2]; exact f1 x j (by omega) w3 w4 w5
    · rw [up2_ff (by omega), t5 x j w2, cp2_o w2]; exact f3 x j (by omega) w3 w4
    · rw [cp2_o w2]; exact f4 x j w1 w3
end Q89
