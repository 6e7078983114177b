/-! images: both sides -/
section Q80
variable {N b ln sp sn ss nP nF nE nW nH nR : Nat} {I I' : FI} {J J' : FJ} {la sa na lb sb nb : Nat} {w : Nat → Int32} {u : Nat → Int64}
/-- a land at la, what is so in it at sa, a sentence at na, as the model's numbers w and names u have it -/
def PicR (la sa na nP nF nE nW nH nR : Nat) (I : FI) (J : FJ) (w : Nat → Int32) (u : Nat → Int64) : Prop := LW w nP nF nE nW nH nR ∧ LdR la nF nE I w ∧ StR sa nF I w ∧ SW w nP nF nW nH ∧ SentR nP na I w ∧ (∀ k, k < nP → ∃ L, WordR (J (la + 1) k) (u k) L) ∧ (∀ k, k < nF → ∃ L, WordR (J (la + 2) k) (u (6 + k)) L) ∧ (∀ k, k < nE → ∃ L, WordR (J (la + 3) k) (u (16 + k)) L)
theorem SentR.copy {I1 : FI} {w1 : Nat → Int32} (h : SentR nP na I w) (h4 : I1 nb 4 = I na 4) (h5 : I1 nb 5 = I na 5) (hs : ∀ k, k < 40 → I1 (nb + 1) k = I (na + 1) k ∧ I1 (nb + 2) k = I (na + 2) k ∧ I1 (nb + 3) k = I (na + 3) k) (hw : ∀ j, 209 ≤ j → j < 451 → w1 j = w j) : SentR nP nb I1 w1 := by
  rcases h with ⟨z1, z2⟩ | ⟨s, o, r, ho, c1, c2, c3, c4, c5, c6, c7⟩
  · exact Or.inl ⟨by rw [h5]; exact z1, by rw [hw _ (by omega) (by omega)]; exact z2⟩
  · refine Or.inr ⟨s, o, r, ho, by rw [h4]; exact c1, by rw [h5]; exact c2, c3, c4, by rw [hw _ (by omega) (by omega)]; exact c5, by rw [hw _ (by omega) (by omega)]; exact c6, c7.to s [r] (fun j hj => hs j (by omega)) (fun j hj => hw _ (by omega) (by omega))⟩
theorem PicR.of {w1 : Nat → Int32} {u1 : Nat → Int64} {I1 : FI} {J1 : FJ} (h : PicR la sa na nP nF nE nW nH nR I J w u) (hw : ∀ j, j < 451 → w1 j = w j) (hu : ∀ j, j < 22 → u1 j = u j) (hl : ∀ q j, la ≤ q → q ≤ la + 8 → I1 q j = I q j) (hs : ∀ q j, sa ≤ q → q ≤ sa + 9 → I1 q j = I q j) (hn : ∀ q j, na ≤ q → q ≤ na + 3 → I1 q j = I q j) (hJ : ∀ q j, la ≤ q → q ≤ la + 8 → J1 q j = J q j) : PicR la sa na nP nF nE nW nH nR I1 J1 w1 u1 := by
  obtain ⟨h1, h2, h3, h4, h5, h6, h7, h8⟩ := h
  have hP := h1.1.2
  have hF := h1.2.1.2
  have hE := h1.2.2.1.2
  refine ⟨h1.of (fun j hj => hw j (by omega)), h2.of hl (fun j hj => hw j (by omega)) hF hE, h3.of (fun q j a b => hs q j a (by omega)) (fun j _ hj => hw j (by omega)) hF, h4.of hF (fun j _ hj => hw j (by omega)), h5.copy (hn _ _ (by omega) (by omega)) (hn _ _ (by omega) (by omega)) (fun k _ => ⟨hn _ _ (by omega) (by omega), hn _ _ (by omega) (by omega), hn _ _ (by omega) (by omega)⟩) (fun j _ hj => hw j hj), fun k hk => ?_, fun k hk => ?_, fun k hk => ?_⟩
  · rw [hJ _ _ (by omega) (by omega), hu _ (by omega)]; exact h6 k hk
  · rw [hJ _ _ (by omega) (by omega), hu _ (by omega)]; exact h7 k hk
  · rw [hJ _ _ (by omega) (by omega), hu _ (by omega)]; exact h8 k hk
theorem pic_copy (h : PicR la sa na nP nF nE nW nH nR I J w u) (ha1 : la + 9 ≤ sa) (ha2 : sa + 10 ≤ na) (hb1 : lb + 9 ≤ sb) (hb2 : sb + 10 ≤ nb) (hd : na + 4 ≤ lb ∨ nb + 4 ≤ la) : ∃ I1 J1 I2 I3, Land_copy lb la I J = some (I1, J1) ∧ State_copy sb sa I1 = some I2 ∧ Sentence_copy nb na I2 = some I3 ∧ PicR lb sb nb nP nF nE nW nH nR I3 J1 w u ∧ (∀ q j, ¬ (lb ≤ q ∧ q ≤ lb + 8) → ¬ (sb ≤ q ∧ q ≤ sb + 9) → ¬ (nb ≤ q ∧ q ≤ nb + 3) → I3 q j = I q j) ∧ (∀ q j, ¬ (lb ≤ q ∧ q ≤ lb + 8) → J1 q j = J q j) := by
  obtain ⟨h1, h2, h3, h4, h5, h6, h7, h8⟩ := h
  have hP := h1.1.2
  have hF := h1.2.1.2
  have hE := h1.2.2.1.2
  obtain ⟨I1, J1, e1, e2, e3, e4, e5, e6, e7⟩ := land_e (a := lb) (b := la) (by omega) I J
  obtain ⟨I2, f1, f2, f3⟩ := copy_e (a := sb) (b := sa) (by omega) I1
  obtain ⟨I3, g1, g2, g3, g4, g5⟩ := sent_e (a := nb) (b := na) (by omega) I2
  refine ⟨I1, J1, I2, I3, e1, f1, g1, ⟨h1, ?_, ?_, h4, ?_, fun k hk => ?_, fun k hk => ?_, fun k hk => ?_⟩, fun q j a1 a2 a3 => ?_, fun q j a1 => e4 q j (by omega)⟩
  · exact (e2 nF nE w hF hE h2).of (fun q j a b => by rw [g5 q j (by omega), f3 q j (by omega)]) (fun _ _ => rfl) hF hE
  · exact (f2 nF w hF (h3.of (fun q j a b => e3 q j (by omega)) (fun _ _ _ => rfl) hF)).of (fun q j a b => g5 q j (by omega)) (fun _ _ _ => rfl) hF
  · refine h5.copy ?_ ?_ (fun k hk => ?_) (fun _ _ _ => rfl)
    · rw [g3, f3 _ _ (by omega), e3 _ _ (by omega)]
    · rw [g4, f3 _ _ (by omega), e3 _ _ (by omega)]
    · obtain ⟨x1, x2, x3⟩ := g2 k hk
      rw [x1, x2, x3, f3 _ _ (by omega), f3 _ _ (by omega), f3 _ _ (by omega), e3 _ _ (by omega), e3 _ _ (by omega), e3 _ _ (by omega)]
      exact ⟨rfl, rfl, rfl⟩
  · rw [e5 k (by omega)]; exact h6 k hk
  · rw [e6 k (by omega)]; exact h7 k hk
  · rw [e7 k (by omega)]; exact h8 k hk
  · rw [g5 q j (by omega), f3 q j (by omega), e3 q j (by omega)]
/-- the two images, alike on both sides -/
def ImgR (I : FI) (J : FJ) (I' : FI) (J' : FJ) : Prop := ∀ c, c < 2 → (I (142 + 25 * c) 3 = nI 0 ∧ I' 214 c = nI 0) ∨ (I (142 + 25 * c) 3 = nI 1 ∧ I' 214 c = nI 1 ∧ ∃ nP nF nE nW nH nR, PicR (143 + 25 * c) (152 + 25 * c) (162 + 25 * c) nP nF nE nW nH nR I J (fun j => I' 208 (451 * c + j)) (fun j => J' 213 (22 * c + j)))
theorem ImgR.of {I1 I1' : FI} {J1 J1' : FJ} (h : ImgR I J I' J') (h1 : ∀ q j, 142 ≤ q → q < 192 → I1 q j = I q j) (h2 : ∀ q j, 142 ≤ q → q < 192 → J1 q j = J q j) (h3 : ∀ j, I1' 208 j = I' 208 j) (h4 : ∀ j, I1' 214 j = I' 214 j) (h5 : ∀ j, J1' 213 j = J' 213 j) : ImgR I1 J1 I1' J1' := by
  intro c hc
  rcases h c hc with ⟨a1, a2⟩ | ⟨a1, a2, nP, nF, nE, nW, nH, nR, a3⟩
  · exact Or.inl ⟨by rw [h1 _ _ (by omega) (by omega)]; exact a1, by rw [h4]; exact a2⟩
  · exact Or.inr ⟨by rw [h1 _ _ (by omega) (by omega)]; exact a1, by rw [h4]; exact a2, nP, nF, nE, nW, nH, nR, a3.of (fun j _ => h3 _) (fun j _ => h5 _) (fun q j a b => h1 q j (by omega) (by omega)) (fun q j a b => h1 q j (by omega) (by omega)) (fun q j a b => h1 q j (by omega) (by omega)) (fun q j a b => h2 q j (by omega) (by omega))⟩
theorem op_image (hN : 2000 ≤ N) (hln : 6 ≤ ln) (hl2 : ln + 9 ≤ 25) (hs1 : 45 ≤ sn) (hs2 : sn ≤ 50) (h : PicR ln 25 sn nP nF nE nW nH nR I J (I' 206) (J' 211)) (hI : ImgR I J I' J') (l1 : Int32) : ∃ v I1 J1 I1' J1', Hol_image ln sp sn ss l1 I J = some (v, I1, J1) ∧ Mod_image N l1 I' J' = some (v, I1', J1') ∧ ImgR I1 J1 I1' J1' := by
  have inr := arg_in (n := 1) (by omega) l1
  have hI0 : ImgR I J (up2 I' 204 0 0) J' := hI.of (fun _ _ _ _ => rfl) (fun _ _ _ _ => rfl) (fun j => by rw [u_o (by omega)]) (fun j => by rw [u_o (by omega)]) (fun _ => rfl)
  have vb : vp_nar .boolean 1 = nI 1 := by decide
  rcases inr with ⟨a1, a2, a3, a4, c, hc, rfl⟩ | ⟨a1, a2⟩
  · have a1' : Mod_isIn (nI c) 0 1 = true := a1
    obtain ⟨I1, J1, I2, I3, e1, e2, e3, e4, e5, e6⟩ := pic_copy (lb := 143 + 25 * c) (sb := 152 + 25 * c) (nb := 162 + 25 * c) h (by omega) (by omega) (by omega) (by omega) (by omega)
    have im := img_i (N := N) (I := up2 I' 204 0 0) (J := J') (c := c) hN (by omega)
    rw [vb] at im
    refine ⟨true, up2 I3 (142 + 25 * c) 3 (nI 1), J1, up2 (cp2 (up2 I' 204 0 0) 206 0 208 (451 * c) 451) 214 c (nI 1), cp2 J' 211 0 213 (22 * c) 22, ?_, ?_, fun d hd => ?_⟩
    · unfold Hol_image
      rcases (show c = 0 ∨ c = 1 by omega) with rfl | rfl
      · have z : (nI 0 = (0 : Int32)) = True := eq_true rfl
        simp only [Nat.mul_zero, Nat.add_zero] at e1 e2 e3
        simp only [↓reduceIte, z, e1, e2, e3, Option.bind_some]
        rfl
      · have z : (nI 1 = (0 : Int32)) = False := eq_false (by decide)
        have z1 : (nI 1 = (1 : Int32)) = True := eq_true rfl
        simp only [Nat.mul_one, Nat.reduceAdd] at e1 e2 e3
        simp only [↓reduceIte, z, z1, e1, e2, e3, Option.bind_some]
        rfl
    · unfold Mod_image
      rw [Option.bind_some, a1', if_pos rfl]
      exact im
    · by_cases q : d = c
      · rw [q]
        refine Or.inr ⟨u_s, u_s, nP, nF, nE, nW, nH, nR, e4.of (fun j hj => ?_) (fun j hj => ?_) (fun q j a b => by rw [u_o (by omega)]) (fun q j a b => by rw [u_o (by omega)]) (fun q j a b => by rw [u_o (by omega)]) (fun _ _ _ _ => rfl)⟩
        · rw [u_o (by omega), cp2_i (by omega) (by omega), u_o (by omega)]
          congr 1
          omega
        · rw [cp2_i (by omega) (by omega)]
          congr 1
          omega
      · rcases hI d hd with ⟨x1, x2⟩ | ⟨x1, x2, mP, mF, mE, mW, mH, mR, x3⟩
        · refine Or.inl ⟨?_, ?_⟩
          · rw [u_o (by omega), e5 _ _ (by omega) (by omega) (by omega)]; exact x1
          · rw [u_j q, cp2_o (by omega), u_o (by omega)]; exact x2
        · refine Or.inr ⟨?_, ?_, mP, mF, mE, mW, mH, mR, x3.of (fun j hj => ?_) (fun j hj => ?_) (fun q j a b => ?_) (fun q j a b => ?_) (fun q j a b => ?_) (fun q j a b => e6 q j (by omega))⟩
          · rw [u_o (by omega), e5 _ _ (by omega) (by omega) (by omega)]; exact x1
          · rw [u_j q, cp2_o (by omega), u_o (by omega)]; exact x2
          · rw [u_o (by omega), cp2_j (by omega), u_o (by omega)]
          · rw [cp2_j (by omega)]
          · rw [u_o (by omega), e5 _ _ (by omega) (by omega) (by omega)]
          · rw [u_o (by omega), e5 _ _ (by omega) (by omega) (by omega)]
          · rw [u_o (by omega), e5 _ _ (by omega) (by omega) (by omega)]
  · have a1' : Mod_isIn l1 0 1 = false := a1
    have n0 : ¬ l1 = 0 := fun q => by rw [q] at a1'; exact absurd a1' (by decide)
    have n1 : ¬ l1 = 1 := fun q => by rw [q] at a1'; exact absurd a1' (by decide)
    refine ⟨false, I, J, up2 I' 204 0 0, J', ?_, ?_, hI0⟩
    · unfold Hol_image
      rw [if_neg n0, if_neg n1]
    · unfold Mod_image
      rw [Option.bind_some, a1', if_neg (by simp)]
theorem op_restore (hN : 2000 ≤ N) (hln : 6 ≤ ln) (hl2 : ln + 9 ≤ 25) (hs1 : 45 ≤ sn) (hs2 : sn ≤ 50) (hI : ImgR I J I' J') (l1 : Int32) : ∃ v I1 J1 I1' J1', Hol_restore ln sp sn ss l1 I J = some (v, I1, J1) ∧ Mod_restore N l1 I' J' = some (v, I1', J1') ∧ ((v = false ∧ I1 = I ∧ J1 = J ∧ I1' = up2 I' 204 0 0 ∧ J1' = J') ∨ (v = true ∧ I1 60 2 = nI 0 ∧ I1 60 1 = I 60 1 ∧ I1' 204 24 = nI 0 ∧ ∃ nP nF nE nW nH nR, PicR ln 25 sn nP nF nE nW nH nR I1 J1 (I1' 206) (J1' 211))) := by
  have inr := arg_in (n := 1) (by omega) l1
  rcases inr with ⟨a1, a2, a3, a4, c, hc, rfl⟩ | ⟨a1, a2⟩
  · have a1' : Mod_isIn (nI c) 0 1 = true := a1
    have gc : in9 (nI c) 2 = True := in9_t (by omega) (by omega)
    have tc : (nI c).toNatClampNeg = c := tN (by omega)
    have e214 : up2 I' 204 0 0 214 = I' 214 := u_o (by omega)
    rcases hI c (by omega) with ⟨x1, x2⟩ | ⟨x1, x2, mP, mF, mE, mW, mH, mR, x3⟩
    · have y : (nI 0 = (0 : Int32)) = True := eq_true rfl
      refine ⟨false, I, J, up2 I' 204 0 0, J', ?_, ?_, Or.inl ⟨rfl, rfl, rfl, rfl, rfl⟩⟩
      · unfold Hol_restore
        rcases (show c = 0 ∨ c = 1 by omega) with rfl | rfl
        · have z : (nI 0 = (0 : Int32)) = True := eq_true rfl
          simp only [Nat.mul_zero, Nat.add_zero] at x1
          simp only [↓reduceIte, z, x1]
        · have z : (nI 1 = (0 : Int32)) = False := eq_false (by decide)
          have z1 : (nI 1 = (1 : Int32)) = True := eq_true rfl
          simp only [Nat.mul_one, Nat.reduceAdd] at x1
          simp only [↓reduceIte, z, z1, y, x1]
      · unfold Mod_restore
        simp only [↓reduceIte, a1', gc, tc, e214, x2, y, Option.bind_some]
    · have y : (nI 1 = (0 : Int32)) = False := eq_false (by decide)
      obtain ⟨I1, J1, I2, I3, e1, e2, e3, e4, e5, e6⟩ := pic_copy (lb := ln) (sb := 25) (nb := sn) x3 (by omega) (by omega) (by omega) (by omega) (by omega)
      have im := res_i (N := N) (I := up2 I' 204 0 0) (J := J') (c := c) hN (by omega)
      refine ⟨true, up2 I3 60 2 0, J1, up2 (cp2 (up2 I' 204 0 0) 208 (451 * c) 206 0 451) 204 24 0, cp2 J' 213 (22 * c) 211 0 22, ?_, ?_, Or.inr ⟨rfl, u_s.trans rfl, ?_, u_s.trans rfl, mP, mF, mE, mW, mH, mR, e4.of (fun j hj => ?_) (fun j hj => ?_) (fun q j a b => by rw [u_o (by omega)]) (fun q j a b => by rw [u_o (by omega)]) (fun q j a b => by rw [u_o (by omega)]) (fun _ _ _ _ => rfl)⟩⟩
      · unfold Hol_restore
        rcases (show c = 0 ∨ c = 1 by omega) with rfl | rfl
        · have z : (nI 0 = (0 : Int32)) = True := eq_true rfl
          simp only [Nat.mul_zero, Nat.add_zero] at x1 e1 e2 e3
          simp only [↓reduceIte, z, x1, y, e1, e2, e3, History_clear, Option.bind_some]
        · have z : (nI 1 = (0 : Int32)) = False := eq_false (by decide)
          have z1 : (nI 1 = (1 : Int32)) = True := eq_true rfl
          simp only [Nat.mul_one, Nat.reduceAdd] at x1 e1 e2 e3
          simp only [↓reduceIte, z, z1, x1, e1, e2, e3, History_clear, Option.bind_some]
      · unfold Mod_restore
        simp only [↓reduceIte, a1', gc, tc, e214, x2, y, Option.bind_some]
        exact im
      · rw [u_j (by omega), e5 _ _ (by omega) (by omega) (by omega)]
      · rw [u_o (by omega), cp2_i (by omega) (by omega), u_o (by omega)]
        congr 1
      · rw [cp2_i (by omega) (by omega)]
        congr 1
  · have a1' : Mod_isIn l1 0 1 = false := a1
    have n0 : ¬ l1 = 0 := fun q => by rw [q] at a1'; exact absurd a1' (by decide)
    have n1 : ¬ l1 = 1 := fun q => by rw [q] at a1'; exact absurd a1' (by decide)
    refine ⟨false, I, J, up2 I' 204 0 0, J', ?_, ?_, Or.inl ⟨rfl, rfl, rfl, rfl, rfl⟩⟩
    · unfold Hol_restore
      rw [if_neg n0, if_neg n1]
    · unfold Mod_restore
      rw [Option.bind_some, a1', if_neg (by simp)]
end Q80
