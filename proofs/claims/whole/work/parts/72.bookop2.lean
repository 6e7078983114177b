/-! the op book, put together -/
section Q72
variable {N b ln sp sn ss nP nF nE nW nH nR : Nat} {I I' : FI} {J J' : FJ} {k : Nat}
theorem TapeR.after {n : Nat} {I1 I1' : FI} (h : TapeR I I' n) (h1 : I1 1 5 = nI 0) (h2 : I1' 204 2 = nI 0) (h3 : ∀ j, I1 2 j = I 2 j) (h4 : ∀ j, I1' 205 j = I' 205 j) : TapeR I1 I1' 0 := by
  obtain ⟨t1, t2, t3, t4, t5⟩ := h
  exact ⟨by omega, h1, h2, fun i hi => by rw [h3, h4]; exact t4 i hi, fun i hi => by rw [h4]; exact t5 i hi⟩
theorem op_book (h : QR N 25 ln nP nF nE nW nH nR I I') (h6 : 6 ≤ ln) (hH : HistR nP nF nW nH I I') {n0 : Nat} (hT : TapeR I I' n0) (hNm : NameR ln nP nF nE J J') (hW : WordsJ J) (he : I 0 17 = I' 204 10) (hTo : ToldR I I') (l1 : Int32) : ∃ v I1 J1 I1' J1', Hol_book N ln sp sn ss l1 I J = some (v, I1, J1) ∧ Mod_book N l1 I' J' = some (v, I1', J1') ∧ QR N 25 ln nP nF nE nW nH nR I1 I1' ∧ HistR nP nF nW nH I1 I1' ∧ (∃ n, TapeR I1 I1' n) ∧ I1 0 17 = I1' 204 10 ∧ ToldR I1 I1' ∧ (∀ j, 209 ≤ j → I1' 206 j = I' 206 j) := by
  have hN := h.nN
  have hb := h.bd
  have hd := h.dis
  have inr := arg_in (n := 1) (by omega) l1
  rcases inr with ⟨a1, a2, a3, a4, i, hi, rfl⟩ | ⟨a1, a2⟩
  · have a1' : Mod_isIn (nI i) 0 1 = true := a1
    have e01 : (nI i = 0 ∨ ((nI i = (0 : Int32)) = False ∧ nI i = 1)) := by
      rcases (show i = 0 ∨ i = 1 by omega) with rfl | rfl
      · exact Or.inl rfl
      · exact Or.inr ⟨eq_false (by decide), rfl⟩
    obtain ⟨I2, J2, I2', J2', c, f1, f2, f3⟩ := bookread_q h h6 hT hNm hW
    -- the book's side behind its reading
    have hol : ∀ (y : Bool) (z : Option (Int32 × FI × FJ)), Book_read N 55 1 ln I J = some (y, I2, J2) → (if y = true then (Option.bind (State_copy 35 25 (up2 (up2 I2 1 5 0) 0 17 (up2 I2 1 5 0 1 14))) fun x4 => (Option.bind (Book_live N 55 ln 35 192 x4) fun x5 => (Option.bind (some (up2 x5.2 202 ((0 : Int32).toNatClampNeg) (x5.2 55 5))) fun I6 => (Option.bind (some (up2 I6 202 ((1 : Int32).toNatClampNeg) x5.1)) fun I7 => (Option.bind (some (up2 I7 202 ((2 : Int32).toNatClampNeg) (I7 35 9))) fun I8 => (Option.bind (State_bitsOf N 35 ln 2 I8) fun x9 => (Option.bind (some (up2 I8 202 ((3 : Int32).toNatClampNeg) x9)) fun I10 => (if nI i = 1 then (if x5.1 ≤ 0 then (if (I10 55 5) = 0 then (some ((-1), I10, J2)) else (some (x5.1, I10, J2))) else (Option.bind (History_keep 60 25 I10) fun x11 => (Option.bind (State_copy 25 35 x11) fun x12 => (if (x12 55 5) = 0 then (some ((-1), x12, J2)) else (some (x5.1, x12, J2)))))) else (if (I10 55 5) = 0 then (some ((-1), I10, J2)) else (some (x5.1, I10, J2))))))))))) else (some ((-2) - (up2 (up2 I2 1 5 0) 0 17 (up2 I2 1 5 0 1 14) 1 15), up2 (up2 I2 1 5 0) 0 17 (up2 I2 1 5 0 1 14), J2))) = z → Hol_book N ln sp sn ss (nI i) I J = z := by
      intro y z hy hz
      unfold Hol_book
      rcases e01 with q | ⟨q1, q2⟩
      · rw [if_pos q, hy]
        exact hz
      · rw [if_neg (by rw [q1]; exact id), if_pos q2, hy]
        exact hz
    have s15 : ∀ v, up2 (up2 I2 1 5 0) 0 17 v 1 15 = I2 1 15 := fun v => by rw [u_o (by omega), u_j (by omega)]
    have s14 : up2 I2 1 5 0 1 14 = I2 1 14 := u_j (by omega)
    have s6 : ∀ x j, (x = 0 → j ≠ 17) → (x = 1 → j ≠ 5) → up2 (up2 I2 1 5 0) 0 17 (up2 I2 1 5 0 1 14) x j = I2 x j := fun x j w1 w2 => (up2_ff (by omega)).trans (up2_ff (by omega))
    have mod : ∀ z, (Option.bind (Mod_begin N 400 (up2 I' 204 0 0) J') fun x2 => (Option.bind (some (up2 x2.1 204 39 (0 : Int32))) fun I3 => (Mod_book_30 N N (nI i) I3 x2.2))) = z → Mod_book N (nI i) I' J' = z := by
      intro z hz
      unfold Mod_book
      rw [Option.bind_some, a1', if_pos rfl]
      exact hz
    rcases c with ⟨c1, c2, q1, q, q2, q3, q4⟩ | ⟨n, cn, c1, c2, c3, c4, c5, c6, c7⟩
    · refine ⟨(-2) - nI q, up2 (up2 I2 1 5 0) 0 17 (up2 I2 1 5 0 1 14), J2, I2', J2', hol false _ c1 ?_, mod _ ?_, ?_, ?_, ⟨0, hT.after ?_ f3 (fun j => ?_) (fun j => f2 _ _ (by omega) (by omega))⟩, ?_, fun j hj => ?_, fun j hj => f2 _ _ (by omega) (by omega)⟩
      · rw [if_neg (by simp), s15, q3]
      · rw [c2, q4]
      · exact h.of6 h6 (fun x j h1 h2 => by rw [s6 x j (by omega) (by omega)]; exact f1 x j (by omega) (by omega) (by omega) (by omega)) (fun j hj => f2 _ _ (by omega) (by omega))
      · exact hH.of hb.2.1 (fun x j h1 h2 => by rw [s6 x j (by omega) (by omega)]; exact f1 x j (by omega) (by omega) (by omega) (by omega)) (f2 _ _ (by omega) (by omega)) (fun j => f2 _ _ (by omega) (by omega))
      · rw [u_o (by omega), u_s]; rfl
      · rw [s6 _ _ (by omega) (by omega)]; exact f1 _ _ (by omega) (by omega) (by omega) (by omega)
      · rw [u_s, s14]; exact q1
      · rw [s6 _ _ (by omega) (by omega), f1 _ _ (by omega) (by omega) (by omega) (by omega), f2 _ _ (by omega) (by omega), f2 _ _ (by omega) (by omega)]
        exact hTo j hj
    · have q25 : QR N 25 ln nP nF nE nW nH nR (up2 (up2 I2 1 5 0) 0 17 (up2 I2 1 5 0 1 14)) (cp2 I2' 206 102 210 0 107) := h.of6 h6 (fun x j h1 h2 => by rw [s6 x j (by omega) (by omega)]; exact f1 x j (by omega) (by omega) (by omega) (by omega)) (fun j hj => by rw [cp2_o (by omega)]; exact f2 _ _ (by omega) (by omega))
      obtain ⟨I4, d1, d2, d3⟩ := q25.copy
      have k4 : ∀ x j, (x < 35 ∨ 44 < x) → (x = 0 → j ≠ 17) → (x = 1 → j ≠ 5) → up2 I4 55 5 0 x j = up2 I2 55 5 0 x j := fun x j w1 w2 w3 => by
        by_cases y : x = 55 ∧ j = 5
        · rw [y.1, y.2, u_s, u_s]
        · rw [up2_ff y, up2_ff y, d3 x j w1, s6 x j w2 w3]
      obtain ⟨q, w, I5, I5', e1, e2, e3, e4, e5, e6, e7, e8⟩ := live_l (N := N) (nE := nE) (nW := nW) (nH := nH) (nR := nR) cn n 0 N N (up2 I4 55 5 0) (cp2 I2' 206 102 210 0 107) (by omega) (by omega) (by omega) d2.up5 (by rw [k4 _ _ (by omega) (by omega) (by omega), u_j (by omega)]; exact c3) (by rw [cp2_o (by omega)]; exact c4) u_s (fun j hj => (c5 j hj).to (fun x x1 x2 => by rw [k4 _ _ (by omega) (by omega) (by omega), u_o (by omega)]) (fun l l1 l2 => by rw [cp2_o (by omega)]))
      have kI : ∀ x j, (x < 35 ∨ 44 < x) → ¬ (x = 192 ∧ j = 0) → ¬ (x = 55 ∧ j = 5) → (x = 0 → j ≠ 17) → (x = 1 → j ≠ 5) → I5 x j = I2 x j := fun x j w1 w2 w3 w4 w5 => by
        rw [e6 x j (by omega) (by omega) w2 w3, k4 x j w1 w4 w5, up2_ff w3]
      obtain ⟨v, I6, I6', g1, g2, g3, g4, g5, g6, g7, g8⟩ := bookend_q (J := J2) h h6 hH e3 e5 e4 (fun x j hx => by rw [kI x j (by omega) (by omega) (by omega) (by omega) (by omega)]; exact f1 x j (by omega) (by omega) (by omega) (by omega)) (fun j hj => by rw [e8 j hj, cp2_o (by omega)]; exact f2 _ _ (by omega) (by omega)) (fun j hj => by rw [e7 _ _ (by omega) (by omega), cp2_i (by omega) (by omega), show 102 + (j - 0) = 102 + j by omega]; exact f2 _ _ (by omega) (by omega)) (fun j => by rw [e7 _ _ (by omega) (by omega), cp2_o (by omega)]; exact f2 _ _ (by omega) (by omega)) (by rw [e7 _ _ (by omega) (by omega), cp2_o (by omega)]; exact f2 _ _ (by omega) (by omega)) J2' (nI i)
      have bl : Book_live N 55 ln 35 192 I4 = some (nI q, I5) := by
        unfold Book_live
        rw [Option.bind_some]
        exact e1
      refine ⟨v, I6, J2, I6', J2', hol true _ c1 ?_, mod _ ?_, g3, g4, ⟨0, hT.after ?_ ?_ (fun j => ?_) (fun j => ?_)⟩, ?_, g5, g6⟩
      · rw [if_pos rfl, d1, Option.bind_some, bl, Option.bind_some]
        exact g1
      · rw [c2, aside_e hN, Option.bind_some, ← g2]
        exact e2 (nI i) J2'
      · rw [g7 _ _ (by omega) (by omega) (by omega), e6 _ _ (by omega) (by omega) (by omega) (by omega), u_o (by omega), d3 _ _ (by omega), u_o (by omega), u_s]; rfl
      · rw [g8 _ _ (by omega) (by omega) (by omega) (by omega) (by omega), e7 _ _ (by omega) (by omega), cp2_o (by omega)]; exact f3
      · rw [g7 _ _ (by omega) (by omega) (by omega), kI _ _ (by omega) (by omega) (by omega) (by omega) (by omega)]; exact f1 _ _ (by omega) (by omega) (by omega) (by omega)
      · rw [g8 _ _ (by omega) (by omega) (by omega) (by omega) (by omega), e7 _ _ (by omega) (by omega), cp2_o (by omega)]; exact f2 _ _ (by omega) (by omega)
      · rw [g7 _ _ (by omega) (by omega) (by omega), e6 _ _ (by omega) (by omega) (by omega) (by omega), u_o (by omega), d3 _ _ (by omega), u_s, s14, c6, g8 _ _ (by omega) (by omega) (by omega) (by omega) (by omega), e7 _ _ (by omega) (by omega), cp2_o (by omega), c7]
  · have a1' : Mod_isIn l1 0 1 = false := a1
    have n0 : ¬ l1 = 0 := fun q => by rw [q] at a1'; exact absurd a1' (by decide)
    have n1 : ¬ l1 = 1 := fun q => by rw [q] at a1'; exact absurd a1' (by decide)
    refine ⟨-1000, I, J, up2 I' 204 0 0, J', ?_, ?_, h.thr, hH.thr hb.2.1, ⟨_, hT.thr⟩, ?_, fun j hj => ?_, fun j hj => by rw [u_o (by omega)]⟩
    · unfold Hol_book
      rw [if_neg n0, if_neg n1]
    · unfold Mod_book
      rw [Option.bind_some, a1', if_neg (by simp)]
    · rw [u_j (by omega)]; exact he
    · rw [u_j (by omega), u_o (by omega)]; exact hTo j hj
end Q72
