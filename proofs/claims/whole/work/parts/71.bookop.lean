/-! the op book: both sides -/
section Q71
variable {N b ln sp sn ss nP nF nE nW nH nR : Nat} {I I' : FI} {J J' : FJ} {k : Nat}
theorem QR.of6 (h : QR N 25 ln nP nF nE nW nH nR I I') (hl : 6 ≤ ln) {I1 I1' : FI} (h1 : ∀ q j, 6 ≤ q → q ≤ 34 → I1 q j = I q j) (h2 : ∀ j, j < 209 → I1' 206 j = I' 206 j) : QR N 25 ln nP nF nE nW nH nR I1 I1' :=
  ⟨h.nN, h.lw.of (fun j hj => h2 j (by omega)), h.ld.of (fun q j _ g => h1 q j (by omega) (by have := h.dis; omega)) (fun j hj => h2 j (by omega)) h.bd.2.1 h.bd.2.2.1, h.st.of (fun q j _ g => h1 q j (by omega) (by omega)) (fun j _ hj => h2 j hj) h.bd.2.1, h.sw.of h.bd.2.1 (fun j _ hj => h2 j hj), h.dis⟩
theorem NmR.mk (h : QR N 25 ln nP nF nE nW nH nR I I') (h6 : 6 ≤ ln) (hn : NameR ln nP nF nE J J') : NmR ln nP nF I J I' J' := by
  have hb := h.bd
  have hd := h.dis
  refine ⟨h6, by omega, hb.1, hb.2.1, h.cP, h.cF, h.mP, h.mF, fun k hk => ?_, hn.2.1⟩
  rw [Nat.zero_add]
  exact hn.1 k hk
theorem NmR.to3 {I1 I1' : FI} {J1 J1' : FJ} (h : NmR ln nP nF I J I' J') (gI : ∀ j, I1 ln j = I ln j) (gJ : ∀ x j, 6 < x → J1 x j = J x j) (gM : ∀ j, I1' 206 j = I' 206 j) (gK : ∀ j, J1' 211 j = J' 211 j) : NmR ln nP nF I1 J1 I1' J1' := by
  obtain ⟨h1, h2, h3, h4, h5, h6, h7, h8, h9, h10⟩ := h
  refine ⟨h1, h2, h3, h4, ?_, ?_, ?_, ?_, fun k hk => ?_, fun k hk => ?_⟩
  · rw [gI]; exact h5
  · rw [gI]; exact h6
  · rw [gM]; exact h7
  · rw [gM]; exact h8
  · rw [gJ _ _ (by omega), gK]; exact h9 k hk
  · rw [gJ _ _ (by omega), gK]; exact h10 k hk
theorem bookread_q (h : QR N 25 ln nP nF nE nW nH nR I I') (h6 : 6 ≤ ln) {n0 : Nat} (hT : TapeR I I' n0) (hNm : NameR ln nP nF nE J J') (hW : WordsJ J) : ∃ I1 J1 I1' J1', ((Book_read N 55 1 ln I J = some (false, I1, J1) ∧ (∀ l1, (Option.bind (Mod_begin N 400 (up2 I' 204 0 0) J') fun x2 => (Option.bind (some (up2 x2.1 204 39 (0 : Int32))) fun I3 => (Mod_book_30 N N l1 I3 x2.2))) = some ((-2) - (I1' 204 11), I1', J1')) ∧ FlR I1 I1') ∨ (∃ n, n ≤ 40 ∧ Book_read N 55 1 ln I J = some (true, I1, J1) ∧ (∀ l1, (Option.bind (Mod_begin N 400 (up2 I' 204 0 0) J') fun x2 => (Option.bind (some (up2 x2.1 204 39 (0 : Int32))) fun I3 => (Mod_book_30 N N l1 I3 x2.2))) = Option.bind (Mod_layAside N I1') fun x4 => (Mod_book_73 N N l1 0 0 x4 J1')) ∧ I1 55 4 = nI n ∧ I1' 204 39 = nI n ∧ (∀ j, j < n → LnR nP nF j I1 I1') ∧ I1 1 14 = nI 0 ∧ I1' 204 10 = nI 0)) ∧ (∀ x j, ¬ (x = 1 ∧ 6 ≤ j ∧ j ≤ 15) → x ≠ 4 → x ≠ 5 → ¬ (55 ≤ x ∧ x ≤ 59) → I1 x j = I x j) ∧ (∀ x j, ¬ (x = 204 ∧ (j ≤ 13 ∨ j = 39)) → x ≠ 222 → I1' x j = I' x j) ∧ I1' 204 2 = nI 0 := by
  have hN := h.nN
  have hT2 : TapeR (up2 I 55 4 0) (up2 I' 204 0 0) n0 := by
    obtain ⟨t1, t2, t3, t4, t5⟩ := hT
    exact ⟨t1, by rw [u_o (by omega)]; exact t2, by rw [u_j (by omega)]; exact t3, fun i hi => by rw [u_o (by omega), u_o (by omega)]; exact t4 i hi, fun i hi => by rw [u_o (by omega)]; exact t5 i hi⟩
  obtain ⟨t, I1, J1, I1', J1', b1, b2, b3, b4, b5, b6, b7, b8, b9⟩ := begin_q (m := 400) hN (by omega) hW hT2
  have b1' : Tape_begin N 1 400 (up2 I 55 4 0) J = some (I1, J1) := b1
  have b2' : Mod_begin N 400 (up2 I' 204 0 0) J' = some (I1', J1') := b2
  have nm : NmR ln nP nF I1 J1 (up2 I1' 204 39 0) J1' := (NmR.mk h h6 hNm).to3 (fun j => by rw [b6 _ _ (by omega) (by omega) (by omega), u_o (by have := h.dis; omega)]) (fun x j hx => b7 x j (by omega) (by omega)) (fun j => by rw [u_o (by omega), b8 _ _ (by omega), u_o (by omega)]) (fun j => b9 _ _ (by omega))
  obtain ⟨f, hf⟩ : ∃ f, N = f + 40 + 1 := ⟨N - 41, by omega⟩
  obtain ⟨I2, J2, I2', J2', kp, c⟩ := book_l (N := N) (nP := nP) (nF := nF) (ln := ln) hN 40 0 f 0 t I1 J1 (up2 I1' 204 39 0) J1' rfl (b3.upM (by omega) (by omega)) nm (by rw [b6 _ _ (by omega) (by omega) (by omega), u_s]; rfl) u_s (fun j hj => absurd hj (by omega))
  rw [← hf] at c
  have br : ∀ z, Book_read_14 N 55 1 ln N (nI 0) I1 J1 = z → Book_read N 55 1 ln I J = z := fun z hz => by
    unfold Book_read
    simp only [b1', Option.bind_some]
    exact hz
  refine ⟨I2, J2, I2', J2', ?_, fun x j w1 w2 w3 w4 => ?_, fun x j w1 w2 => ?_, ?_⟩
  · rcases c with ⟨c1, c2, c3⟩ | ⟨n, c0, c1, c2, c3⟩
    · refine Or.inl ⟨br _ c1, fun l1 => ?_, c3⟩
      rw [b2']
      exact c2 l1
    · refine Or.inr ⟨n, c0, br _ c1, fun l1 => ?_, c3⟩
      rw [b2']
      exact c2 l1
  · rw [kp.1 x j (by omega) w4, b6 x j w1 w2 w3, u_o (by omega)]
  · rw [kp.2.2.1 x j (by omega) w2, up2_ff (by omega), b8 x j (by omega), up2_ff (by omega)]
  · rw [kp.2.2.1 _ _ (by omega) (by omega), u_j (by omega)]; exact b4
/-- both sides behind the lines that were lived -/
theorem bookend_q {I0 I0' : FI} (h : QR N 25 ln nP nF nE nW nH nR I0 I0') (h6 : 6 ≤ ln) (hH : HistR nP nF nW nH I0 I0') {q : Nat} {w : Int32} (hq : q ≤ 40) (hl : QR N 35 ln nP nF nE nW nH nR I I') (h5 : I 55 5 = w) (gI : ∀ x j, (6 ≤ x ∧ x ≤ 34) ∨ (60 ≤ x ∧ x < 142) → I x j = I0 x j) (g6 : ∀ j, j < 102 ∨ 209 ≤ j → I' 206 j = I0' 206 j) (gA : ∀ j, j < 107 → I' 210 j = I0' 206 (102 + j)) (gS : ∀ j, I' 209 j = I0' 209 j) (g24 : I' 204 24 = I0' 204 24) (J' : FJ) (l1 : Int32) : ∃ v I1 I1', (Option.bind (some (up2 I 202 ((0 : Int32).toNatClampNeg) (I 55 5))) fun I6 => (Option.bind (some (up2 I6 202 ((1 : Int32).toNatClampNeg) (nI q))) fun I7 => (Option.bind (some (up2 I7 202 ((2 : Int32).toNatClampNeg) (I7 35 9))) fun I8 => (Option.bind (State_bitsOf N 35 ln 2 I8) fun x9 => (Option.bind (some (up2 I8 202 ((3 : Int32).toNatClampNeg) x9)) fun I10 => (if l1 = 1 then (if nI q ≤ 0 then (if (I10 55 5) = 0 then (some ((-1), I10, J)) else (some (nI q, I10, J))) else (Option.bind (History_keep 60 25 I10) fun x11 => (Option.bind (State_copy 25 35 x11) fun x12 => (if (x12 55 5) = 0 then (some ((-1), x12, J)) else (some (nI q, x12, J)))))) else (if (I10 55 5) = 0 then (some ((-1), I10, J)) else (some (nI q, I10, J))))))))) = some (v, I1, J) ∧ tailM N l1 (nI q) w I' J' = some (v, I1', J') ∧ QR N 25 ln nP nF nE nW nH nR I1 I1' ∧ HistR nP nF nW nH I1 I1' ∧ ToldR I1 I1' ∧ (∀ j, 209 ≤ j → I1' 206 j = I0' 206 j) ∧ (∀ x j, x ≠ 202 → ¬ (25 ≤ x ∧ x ≤ 34) → ¬ (60 ≤ x ∧ x < 142) → I1 x j = I x j) ∧ (∀ x j, x ≠ 206 → x ≠ 209 → x ≠ 210 → x ≠ 223 → ¬ (x = 204 ∧ (j = 24 ∨ j = 40)) → I1' x j = I' x j) := by
  have hN := h.nN
  have hb := h.bd
  have hd := h.dis
  -- the component's row
  have hc := (bits_q (hl.of (I1 := up2 (up2 (up2 I 202 0 w) 202 1 (nI q)) 202 2 (I 35 9)) (I1' := I') (fun x j hx => by rw [u_o (by omega), u_o (by omega), u_o (by omega)]) (fun _ _ => rfl)) 2).1
  have hm := (bits_q (hl.of (I1 := I) (I1' := up2 (up2 (up2 I' 223 0 w) 223 1 (nI q)) 223 2 (I' 206 102)) (fun _ _ _ => rfl) (fun j _ => by rw [u_o (by omega), u_o (by omega), u_o (by omega)])) 2).2
  have u6 : up2 (up2 (up2 I' 223 0 w) 223 1 (nI q)) 223 2 (I' 206 102) 206 = I' 206 := by rw [u_o (by omega), u_o (by omega), u_o (by omega)]
  rw [u6] at hm
  obtain ⟨B, hB⟩ : ∃ B, B = bitsF (fun f => decide (I' 206 (135 + f) = 2)) nF := ⟨_, rfl⟩
  rw [← hB] at hc hm
  have k1 : ∀ v, up2 I 202 0 v 35 9 = I 35 9 := fun v => by rw [u_o (by omega)]
  have k2 : ∀ v v2, up2 (up2 I 202 0 v) 202 1 v2 35 9 = I 35 9 := fun v v2 => by rw [u_o (by omega), u_o (by omega)]
  have k3 : ∀ v v2, up2 (up2 I' 223 0 v) 223 1 v2 206 102 = I' 206 102 := fun v v2 => by rw [u_o (by omega), u_o (by omega)]
  obtain ⟨C, hC⟩ : ∃ C, C = up2 (up2 (up2 (up2 I 202 0 w) 202 1 (nI q)) 202 2 (I 35 9)) 202 3 B := ⟨_, rfl⟩
  obtain ⟨M, hM⟩ : ∃ M, M = up2 (up2 (up2 (up2 (up2 I' 223 0 w) 223 1 (nI q)) 223 2 (I' 206 102)) 223 3 B) 204 40 1 := ⟨_, rfl⟩
  have cC : ∀ x j, x ≠ 202 → C x j = I x j := fun x j hx => by rw [hC, u_o hx, u_o hx, u_o hx, u_o hx]
  have cM : ∀ x j, x ≠ 223 → ¬ (x = 204 ∧ j = 40) → M x j = I' x j := fun x j hx hx2 => by rw [hM, up2_ff hx2, u_o hx, u_o hx, u_o hx, u_o hx]
  have tC : C 202 0 = w ∧ C 202 1 = nI q ∧ C 202 2 = I 35 9 ∧ C 202 3 = B := by
    rw [hC]
    refine ⟨?_, ?_, ?_, ?_⟩
    · rw [u_j (by omega), u_j (by omega), u_j (by omega), u_s]
    · rw [u_j (by omega), u_j (by omega), u_s]
    · rw [u_j (by omega), u_s]
    · rw [u_s]
  have tM : M 223 0 = w ∧ M 223 1 = nI q ∧ M 223 2 = I' 206 102 ∧ M 223 3 = B ∧ M 204 40 = 1 := by
    rw [hM]
    refine ⟨?_, ?_, ?_, ?_, u_s⟩
    · rw [u_o (by omega), u_j (by omega), u_j (by omega), u_j (by omega), u_s]
    · rw [u_o (by omega), u_j (by omega), u_j (by omega), u_s]
    · rw [u_o (by omega), u_j (by omega), u_s]
    · rw [u_o (by omega), u_s]
  have told : ∀ (X Y : FI), (∀ j, X 202 j = C 202 j) → (∀ j, Y 223 j = M 223 j) → Y 204 40 = M 204 40 → ToldR X Y := fun X Y x1 y1 y2 j hj => by
    rw [x1, y1, y2, tM.2.2.2.2, if_neg (by decide)]
    rcases (show j = 0 ∨ j = 1 ∨ j = 2 ∨ j = 3 by omega) with z | z | z | z <;> rw [z]
    · rw [tC.1, tM.1]
    · rw [tC.2.1, tM.2.1]
    · rw [tC.2.2.1, tM.2.2.1]; exact hl.night
    · rw [tC.2.2.2, tM.2.2.2.1]
  have c55 : C 55 5 = w := by rw [cC _ _ (by omega)]; exact h5
  have hC2 : QR N 35 ln nP nF nE nW nH nR C M := hl.of (fun x j hx => cC x j (by omega)) (fun j _ => cM _ _ (by omega) (by omega))
  -- where nothing stays
  obtain ⟨f, hf⟩ : ∃ f, N = f + 107 + 1 := ⟨N - 108, by omega⟩
  have swap : ∀ bb : Bool, ∃ S, Mod_stay N bb M = (if bb then (Option.bind (Mod_snap N S) fun x1 => (Option.bind (Mod_takeBack N x1) fun x2 => (some x2))) else (some S)) ∧ (∀ j, j < 107 → S 206 (102 + j) = I0' 206 (102 + j) ∧ S 210 j = I' 206 (102 + j)) ∧ (∀ j, j < 102 ∨ 209 ≤ j → S 206 j = I0' 206 j) ∧ (∀ x j, x ≠ 206 → x ≠ 210 → S x j = M x j) := by
    intro bb
    obtain ⟨S, s1, s2, s3, s4, s5⟩ := stay_l (N := N) bb 107 0 f M rfl
    rw [← hf] at s1
    refine ⟨S, s1, fun j hj => ?_, fun j hj => ?_, s5⟩
    · obtain ⟨a1, a2⟩ := s2 j (Nat.zero_le _) hj
      rw [a1, a2, cM _ _ (by omega) (by omega), cM _ _ (by omega) (by omega), gA j hj]
      exact ⟨rfl, rfl⟩
    · rw [s3 j (by omega), cM _ _ (by omega) (by omega)]; exact g6 j hj
  have back25 : ∀ S : FI, (∀ j, j < 107 → S 206 (102 + j) = I0' 206 (102 + j) ∧ S 210 j = I' 206 (102 + j)) → (∀ j, j < 102 ∨ 209 ≤ j → S 206 j = I0' 206 j) → QR N 25 ln nP nF nE nW nH nR C S := fun S s2 s3 => h.of6 h6 (fun x j h1 h2 => by rw [cC x j (by omega)]; exact gI x j (by omega)) (fun j hj => by
    by_cases z : j < 102
    · exact s3 j (Or.inl z)
    · have := (s2 (j - 102) (by omega)).1
      rwa [show 102 + (j - 102) = j by omega] at this)
  have back60 : ∀ S : FI, (∀ x j, x ≠ 206 → x ≠ 210 → S x j = M x j) → HistR nP nF nW nH C S := fun S s5 => hH.of hb.2.1 (fun x j h1 h2 => by rw [cC x j (by omega)]; exact gI x j (by omega)) (by rw [s5 _ _ (by omega) (by omega), cM _ _ (by omega) (by omega)]; exact g24) (fun j => by rw [s5 _ _ (by omega) (by omega), cM _ _ (by omega) (by omega)]; exact gS j)
  have keepC : ∀ v : Int32, (if C 55 5 = 0 then (some ((-1 : Int32), C, J)) else (some (nI q, C, J))) = some (if w = 0 then -1 else nI q, C, J) := fun _ => by
    rw [c55]
    by_cases z : w = 0
    · rw [if_pos z, if_pos z]
    · rw [if_neg z, if_neg z]
  have compN : ¬ (l1 = 1 ∧ 0 < q) → (if l1 = 1 then (if nI q ≤ 0 then (if (C 55 5) = 0 then (some ((-1 : Int32), C, J)) else (some (nI q, C, J))) else (Option.bind (History_keep 60 25 C) fun x11 => (Option.bind (State_copy 25 35 x11) fun x12 => (if (x12 55 5) = 0 then (some ((-1), x12, J)) else (some (nI q, x12, J)))))) else (if (C 55 5) = 0 then (some ((-1), C, J)) else (some (nI q, C, J)))) = some (if w = 0 then -1 else nI q, C, J) := fun z => by
    by_cases z1 : l1 = 1
    · have hq0 : ¬ 0 < q := fun y => z ⟨z1, y⟩
      rw [if_pos z1, if_pos (by rw [L_0, le_nI (by omega) (by omega)]; omega)]
      exact keepC 0
    · rw [if_neg z1]
      exact keepC 0
  have start : ∀ z, (if l1 = 1 then (if nI q ≤ 0 then (if (C 55 5) = 0 then (some ((-1 : Int32), C, J)) else (some (nI q, C, J))) else (Option.bind (History_keep 60 25 C) fun x11 => (Option.bind (State_copy 25 35 x11) fun x12 => (if (x12 55 5) = 0 then (some ((-1), x12, J)) else (some (nI q, x12, J)))))) else (if (C 55 5) = 0 then (some ((-1), C, J)) else (some (nI q, C, J)))) = z → (Option.bind (some (up2 I 202 ((0 : Int32).toNatClampNeg) (I 55 5))) fun I6 => (Option.bind (some (up2 I6 202 ((1 : Int32).toNatClampNeg) (nI q))) fun I7 => (Option.bind (some (up2 I7 202 ((2 : Int32).toNatClampNeg) (I7 35 9))) fun I8 => (Option.bind (State_bitsOf N 35 ln 2 I8) fun x9 => (Option.bind (some (up2 I8 202 ((3 : Int32).toNatClampNeg) x9)) fun I10 => (if l1 = 1 then (if nI q ≤ 0 then (if (I10 55 5) = 0 then (some ((-1), I10, J)) else (some (nI q, I10, J))) else (Option.bind (History_keep 60 25 I10) fun x11 => (Option.bind (State_copy 25 35 x11) fun x12 => (if (x12 55 5) = 0 then (some ((-1), x12, J)) else (some (nI q, x12, J)))))) else (if (I10 55 5) = 0 then (some ((-1), I10, J)) else (some (nI q, I10, J))))))))) = z := fun z hz => by
    simp only [Option.bind_some, T_0, T_1, T_2, T_3, h5, k1, k2, hc]
    rw [← hC]
    exact hz
  have startM : ∀ z, (if l1 = 1 then (if nI q ≤ 0 then (Option.bind (Mod_stay N false M) fun x11 => (if w = 0 then (some ((-1), x11, J')) else (some (nI q, x11, J')))) else (Option.bind (Mod_stay N true M) fun x12 => (if w = 0 then (some ((-1), x12, J')) else (some (nI q, x12, J'))))) else (Option.bind (Mod_stay N false M) fun x13 => (if w = 0 then (some ((-1), x13, J')) else (some (nI q, x13, J'))))) = z → tailM N l1 (nI q) w I' J' = z := fun z hz => by
    unfold tailM
    simp only [Option.bind_some, T_0, T_1, T_2, T_3, T_102, k3, hm]
    rw [← hM]
    exact hz
  by_cases z : l1 = 1 ∧ 0 < q
  · obtain ⟨S, s1, s2, s3, s5⟩ := swap true
    have qS := back25 S s2 s3
    obtain ⟨K, K', a1, a2, a3, a4, a5, a6, a7⟩ := keep_q qS (back60 S s5)
    have eb := back_e (N := N) (I := K') hN
    have K210 : ∀ j, j < 107 → K' 210 j = I' 206 (102 + j) := fun j hj => by rw [fr_Mod_snap (by omega) (by omega) a2]; exact (s2 j hj).2
    have X6 : ∀ j, j < 209 → cp2 K' 210 0 206 102 107 206 j = M 206 j := fun j hj => by
      rw [cM _ _ (by omega) (by omega)]
      by_cases y : j < 102
      · rw [cp2_j (by omega), a6, s3 j (Or.inl y)]; exact (g6 j (Or.inl y)).symm
      · rw [cp2_i (by omega) (by omega), show 0 + (j - 102) = j - 102 by omega, K210 _ (by omega)]
        congr 1
        omega
    have q35 : QR N 35 ln nP nF nE nW nH nR K (cp2 K' 210 0 206 102 107) := hC2.of (fun x j hx => a5 x j (by omega)) X6
    obtain ⟨R, r1, r2, r3⟩ := q35.copyback (by omega)
    have r55 : R 55 5 = w := by rw [r3 _ _ (by omega), a5 _ _ (by omega)]; exact c55
    refine ⟨if w = 0 then -1 else nI q, R, cp2 K' 210 0 206 102 107, start _ ?_, startM _ ?_, r2, ?_, ?_, fun j hj => ?_, fun x j w1 w2 w3 => ?_, fun x j w1 w2 w3 w4 w5 => ?_⟩
    · rw [if_pos z.1, if_neg (by rw [L_0, le_nI (by omega) (by omega)]; omega), a1, Option.bind_some, r1, Option.bind_some, r55]
      by_cases y : w = 0
      · rw [if_pos y, if_pos y]
      · rw [if_neg y, if_neg y]
    · rw [if_pos z.1, if_neg (by rw [L_0, le_nI (by omega) (by omega)]; omega), s1, if_pos rfl, a2, Option.bind_some, eb, Option.bind_some, Option.bind_some]
      by_cases y : w = 0
      · rw [if_pos y, if_pos y]
      · rw [if_neg y, if_neg y]
    · exact a4.of hb.2.1 (fun x j h1 h2 => r3 x j (by omega)) (by rw [cp2_o (by omega)]) (fun j => by rw [cp2_o (by omega)])
    · refine told _ _ (fun j => by rw [r3 _ _ (by omega), a5 _ _ (by omega)]) (fun j => ?_) ?_
      · rw [cp2_o (by omega), fr_Mod_snap (by omega) (by omega) a2, s5 _ _ (by omega) (by omega)]
      · rw [cp2_o (by omega), fr_Mod_snap (by omega) (by omega) a2, s5 _ _ (by omega) (by omega)]
    · rw [cp2_j (by omega), a6]; exact s3 j (Or.inr hj)
    · rw [r3 x j (by omega), a5 x j (by omega), cC x j w1]
    · rw [cp2_o w1, fr_Mod_snap w2 (by omega) a2, s5 x j w1 w3, cM x j w4 (by omega)]
  · obtain ⟨S, s1, s2, s3, s5⟩ := swap false
    refine ⟨if w = 0 then -1 else nI q, C, S, start _ (compN z), startM _ ?_, back25 S s2 s3, back60 S s5, told _ _ (fun _ => rfl) (fun j => s5 _ _ (by omega) (by omega)) (s5 _ _ (by omega) (by omega)), fun j hj => s3 j (Or.inr hj), fun x j w1 _ _ => cC x j w1, fun x j w1 w2 w3 w4 w5 => by rw [s5 x j w1 w3, cM x j w4 (by omega)]⟩
    have st : Mod_stay N false M = some S := by rw [s1]; rfl
    have fin : (Option.bind (Mod_stay N false M) fun x11 => (if w = 0 then (some ((-1 : Int32), x11, J')) else (some (nI q, x11, J')))) = some (if w = 0 then -1 else nI q, S, J') := by
      rw [st, Option.bind_some]
      by_cases y : w = 0
      · rw [if_pos y, if_pos y]
      · rw [if_neg y, if_neg y]
    by_cases z1 : l1 = 1
    · have hq0 : ¬ 0 < q := fun y => z ⟨z1, y⟩
      rw [if_pos z1, if_pos (by rw [L_0, le_nI (by omega) (by omega)]; omega)]
      exact fin
    · rw [if_neg z1]
      exact fin
end Q71
