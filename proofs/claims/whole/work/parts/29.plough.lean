/-! the plough: both sides -/
section Q29
variable {N b ln nP nF nE nW nH nR : Nat} {I I' : FI}
theorem QR.set_dugall (h : QR N b ln nP nF nE nW nH nR I I') : QR N b ln nP nF nE nW nH nR (fl3 I (b + 9) 0 36 0) (fl3 I' 206 173 36 0) := by
  have hb := h.bd
  have hd := h.dis
  have hlo : ∀ j, j < 173 → fl3 I' 206 173 36 0 206 j = I' 206 j := fun j hj => fl3_j (Or.inl hj)
  refine ⟨h.nN, h.lw.of (fun j hj => hlo j (by omega)), h.ld.of (fun q j _ g => by rw [fl3_o (by omega)]) (fun j hj => hlo j (by omega)) h.bd.2.1 h.bd.2.2.1, ?_, ?_, h.dis⟩
  · exact ⟨fun f hf => by rw [fl3_o (by omega), hlo _ (by omega)]; exact h.x hf, fun f hf => by rw [fl3_o (by omega), hlo _ (by omega)]; exact h.y hf, fun f hf => by rw [fl3_o (by omega), hlo _ (by omega)]; exact h.deep hf, fun f hf => by rw [fl3_o (by omega), hlo _ (by omega)]; exact h.stat hf, fun f hf => by rw [fl3_o (by omega), hlo _ (by omega)]; exact h.who hf, fun f hf => by rw [fl3_o (by omega), hlo _ (by omega)]; exact h.coin hf, fun f hf => by rw [fl3_o (by omega), hlo _ (by omega)]; exact h.digs hf, fun f hf => by rw [fl3_o (by omega), hlo _ (by omega)]; exact h.got hf, fun f hf => by rw [fl3_i (by omega) (by omega), fl3_i (by omega) (by omega)], by rw [fl3_o (by omega), hlo _ (by omega)]; exact h.night, by rw [fl3_o (by omega), hlo _ (by omega)]; exact h.ploughs⟩
  · obtain ⟨a, c, d, e, f, g⟩ := h.sw
    exact ⟨fun f hf => by rw [hlo _ (by omega)]; exact a f hf, fun f hf => by rw [hlo _ (by omega), hlo _ (by omega)]; exact c f hf, fun f hf => by rw [hlo _ (by omega), hlo _ (by omega), hlo _ (by omega)]; exact d f hf, fun f hf => by rw [fl3_i (by omega) (by omega)]; exact ⟨0, by decide, rfl⟩, by rw [hlo _ (by omega)]; exact f, by rw [hlo _ (by omega), hlo _ (by omega), hlo _ (by omega), hlo _ (by omega), hlo _ (by omega), hlo _ (by omega), hlo _ (by omega)]; exact g⟩
theorem fillm_e {acc : Int32} (hN : 2000 ≤ N) : Mod_doPlough_173 N N acc 0 I' = some (acc, up2 (fl3 I' 206 173 36 0) 206 104 (I' 206 104 + 1)) := by
  have key : ∀ m k n, k + m = 36 → m < n → Mod_doPlough_173 N n acc (nI k) (fl3 I' 206 173 k 0) = some (acc, up2 (fl3 I' 206 173 36 0) 206 104 (I' 206 104 + 1)) := by
    intro m
    induction m with
    | zero =>
      intro k n hk hn
      obtain ⟨n, rfl⟩ : ∃ e, n = e + 1 := ⟨n - 1, by omega⟩
      obtain rfl : k = 36 := by omega
      simp (disch := omega) only [Mod_doPlough_173, L_36, le_nI, ifT, T_104, Option.bind_some, fl3_j]
    | succ m ih =>
      intro k n hk hn
      obtain ⟨n, rfl⟩ : ∃ e, n = e + 1 := ⟨n - 1, by omega⟩
      have h1 := ih (k + 1) n (by omega) (by omega)
      simp (disch := omega) only [Mod_doPlough_173, L_36, le_nI, ifF, ax_173, in9_t, if_true, tN, nS, Option.bind_some, fl3_s]
      exact h1
  have := key 36 0 N (by omega) (by omega)
  rw [fl3_0] at this
  exact this
set_option maxHeartbeats 4000000 in
theorem turn_l : ∀ m k n n' (acc : Int32) (I I' : FI), QR N b ln nP nF nE nW nH nR I I' → I 192 0 = I' 204 25 → k + m = nF → m < n → m < n' → ∃ v I1 I1', State_turnOver_5 N b ln 192 n acc (nI k) I = some (v, I1) ∧ Mod_doPlough_4 N n' acc (nI k) I' = some (v, I1') ∧ QR N b ln nP nF nE nW nH nR I1 I1' ∧ I1 192 0 = I1' 204 25 ∧ (∀ j, j < 102 ∨ 209 ≤ j → I1' 206 j = I' 206 j) := by
  intro m
  induction m with
  | zero =>
    intro k n n' acc I I' h hs hk hn hn'
    have hb := h.bd
    have hd := h.dis
    have hN := h.nN
    obtain ⟨n, rfl⟩ : ∃ e, n = e + 1 := ⟨n - 1, by omega⟩
    obtain ⟨n', rfl⟩ : ∃ e, n' = e + 1 := ⟨n' - 1, by omega⟩
    obtain rfl : k = nF := by omega
    refine ⟨acc, up2 (fl3 I (b + 9) 0 36 0) b 10 (I' 206 104 + 1), up2 (fl3 I' 206 173 36 0) 206 104 (I' 206 104 + 1), ?_, ?_, h.set_dugall.set_ploughs, ?_, fun j hj => by rw [u_j (by omega), fl3_j (by omega)]⟩
    · have e := fill_e (N := N) (a := b + 9) (n0 := 36) (v := 0) (I := I) (by omega) (by omega)
      simp (disch := omega) only [State_turnOver_5, h.cF, le_nI, ifT, e, Option.bind_some]
      rw [fl3_o (by omega), h.ploughs]
    · simp (disch := omega) only [Mod_doPlough_4, T_1, h.mF, le_nI, ifT]
      exact fillm_e hN
    · rw [u_o (by omega), u_o (by omega), fl3_o (by omega), fl3_o (by omega)]; exact hs
  | succ m ih =>
    intro k n n' acc I I' h hs hk hn hn'
    have hb := h.bd
    have hd := h.dis
    obtain ⟨n, rfl⟩ : ∃ e, n = e + 1 := ⟨n - 1, by omega⟩
    obtain ⟨n', rfl⟩ : ∃ e, n' = e + 1 := ⟨n' - 1, by omega⟩
    obtain ⟨vd, hvd, ed⟩ := h.v_deep (f := k) (by omega)
    obtain ⟨vx, hvx, ex⟩ := h.v_x (f := k) (by omega)
    obtain ⟨vy, hvy, ey⟩ := h.v_y (f := k) (by omega)
    have c3 : ((3 : Int32) ≤ nI vd) = (3 ≤ vd) := by rw [L_3, le_nI (by omega) (by omega)]
    have c2 : (nI vd ≤ (2 : Int32)) = (vd ≤ 2) := by rw [L_2, le_nI (by omega) (by omega)]
    obtain ⟨r, s, hr, d1, d2⟩ := draw_q (n := 5) (I := I) (I' := I') (by omega) (by omega) hs
    have h2 := h.seed (s := s) (s' := s)
    have hs2 : up2 I 192 0 s 192 0 = up2 I' 204 25 s 204 25 := by rw [u_s, u_s]
    have ex2 : up2 I' 204 25 s 206 (105 + k) = nI vx := by rw [u_o (by omega)]; exact ex
    have ey2 : up2 I' 204 25 s 206 (115 + k) = nI vy := by rw [u_o (by omega)]; exact ey
    rw [show State_turnOver_5 N b ln 192 (n + 1) acc (nI k) I = _ from by rw [State_turnOver_5], show Mod_doPlough_4 N (n' + 1) acc (nI k) I' = _ from by rw [Mod_doPlough_4]]
    have A1 : (nI nF ≤ nI k) = False := by rw [le_nI (by omega) (by omega)]; exact eq_false (by omega)
    have mF := h.mF
    have cF := h.cF
    have G0 : in9 (nI k) 10 = True := in9_t (by omega) (by omega)
    have tk : (nI k).toNatClampNeg = k := tN (by omega)
    have st := h.stat (f := k) (by omega)
    have dp := h.deep (f := k) (by omega)
    have sx := h2.x (f := k) (by omega)
    have sy := h2.y (f := k) (by omega)
    have G105 : in9 (105 + nI k) 451 = True := by rw [ax_105]; exact in9_t (by omega) (by omega)
    have G115 : in9 (115 + nI k) 451 = True := by rw [ax_115]; exact in9_t (by omega) (by omega)
    have G125 : in9 (125 + nI k) 451 = True := by rw [ax_125]; exact in9_t (by omega) (by omega)
    have G135 : in9 (135 + nI k) 451 = True := by rw [ax_135]; exact in9_t (by omega) (by omega)
    have M105 : ((105 : Int32) + nI k).toNatClampNeg = 105 + k := by rw [ax_105]; exact tN (by omega)
    have M115 : ((115 : Int32) + nI k).toNatClampNeg = 115 + k := by rw [ax_115]; exact tN (by omega)
    have M125 : ((125 : Int32) + nI k).toNatClampNeg = 125 + k := by rw [ax_125]; exact tN (by omega)
    have M135 : ((135 : Int32) + nI k).toNatClampNeg = 135 + k := by rw [ax_135]; exact tN (by omega)
    rw [← L_5] at d1 d2
    by_cases c1 : I' 206 (135 + k) = 0
    · rcases Nat.lt_or_ge vd 3 with c4 | c4
      · have c3' : ((3 : Int32) ≤ nI vd) = False := by rw [c3]; exact eq_false (by omega)
        have c2' : (nI vd ≤ (2 : Int32)) = True := by rw [c2]; exact eq_true (by omega)
        simp only [↓reduceIte, T_1, cF, mF, A1, G0, G135, M135, tk, st, c1, G125, M125, dp, ed, c3', c2', d1, d2, Option.bind_some, nS]
        have hr5 : r = 0 ∨ r = 1 ∨ r = 2 ∨ r = 3 ∨ r = 4 := by omega
        rcases hr5 with rfl | rfl | rfl | rfl | rfl
        · have fr : True := trivial
          simp only [↓reduceIte, State_shift, G0, G105, G115, M105, M115, tk, Option.bind_some, show (nI 0 = (1 : Int32)) = False from eq_false (by decide), show (nI 0 = (2 : Int32)) = False from eq_false (by decide), show (nI 0 = (3 : Int32)) = False from eq_false (by decide), show (nI 0 = (4 : Int32)) = False from eq_false (by decide), show (nI 0 ≤ (0 : Int32)) = True from eq_true (by decide), sx, sy, ex2, ey2, Int32.add_zero]
          obtain ⟨r3, s3, hr3, d3, d4⟩ := draw_q (n := 3) (by omega) (by omega) hs2
          rw [← L_3] at d3 d4
          simp only [↓reduceIte, d3, d4, Option.bind_some, Bool.false_eq_true, G125, M125, tk]
          obtain ⟨v, I1, I1', g1, g2, g3, g4, g5⟩ := ih (k + 1) n n' acc _ _ ((h2.seed (s := s3) (s' := s3)).set_deep (i := k) (by omega) ⟨r3, by omega, rfl⟩) ((congrFun (u_o (by omega)) 0).trans ((by rw [u_s, u_s] : up2 (up2 I 192 0 s) 192 0 s3 192 0 = up2 (up2 I' 204 25 s) 204 25 s3 204 25).trans (congrFun (u_o (by omega)) 25).symm)) (by omega) (by omega) (by omega);  exact ⟨v, I1, I1', g1, g2, g3, g4, fun j hj => by rw [g5 j hj]; simp (disch := omega) only [u_j, u_o]⟩

        · have fr : True := trivial
          simp only [↓reduceIte, State_shift, G0, G105, G115, M105, M115, tk, Option.bind_some, show (nI 1 = (1 : Int32)) = True from eq_true rfl, show (nI 1 = (2 : Int32)) = False from eq_false (by decide), show (nI 1 = (3 : Int32)) = False from eq_false (by decide), show (nI 1 = (4 : Int32)) = False from eq_false (by decide), show (nI 1 ≤ (0 : Int32)) = False from eq_false (by decide), sx, sy, ex2, ey2, Int32.add_zero]
          rcases is_cell h2 (nI vx + 1) (nI vy) with ⟨ca, cb, i, j, hi, hj, ei, ej⟩ | ⟨ca, cb⟩
          · simp only [↓reduceIte, ca, cb, Option.bind_some]
            have h3 := (h2.set_x (i := k) (by omega) (v := nI vx + 1) ⟨i, hi, ei⟩).set_y (i := k) (by omega) (v := nI vy) ⟨j, hj, ej⟩
            have hs3 : up2 (up2 (up2 I 192 0 s) (b + 1) k (nI vx + 1)) (b + 2) k (nI vy) 192 0 = up2 (up2 (up2 I' 204 25 s) 206 (105 + k) (nI vx + 1)) 206 (115 + k) (nI vy) 204 25 := (congrFun (u_o (by omega)) 0).trans ((congrFun (u_o (by omega)) 0).trans (hs2.trans ((congrFun (u_o (by omega)) 25).symm.trans (congrFun (u_o (by omega)) 25).symm)))
            obtain ⟨r3, s3, hr3, d3, d4⟩ := draw_q (n := 3) (by omega) (by omega) hs3
            rw [← L_3] at d3 d4
            simp only [↓reduceIte, d3, d4, Option.bind_some, M125, tk]
            obtain ⟨v, I1, I1', g1, g2, g3, g4, g5⟩ := ih (k + 1) n n' (acc + 1) _ _ ((h3.seed (s := s3) (s' := s3)).set_deep (i := k) (by omega) ⟨r3, by omega, rfl⟩) ((congrFun (u_o (by omega)) 0).trans ((u_s.trans u_s.symm).trans (congrFun (u_o (by omega)) 25).symm)) (by omega) (by omega) (by omega);  exact ⟨v, I1, I1', g1, g2, g3, g4, fun j hj => by rw [g5 j hj]; simp (disch := omega) only [u_j, u_o]⟩
          · simp only [↓reduceIte, ca, cb, Option.bind_some, Bool.false_eq_true]
            obtain ⟨r3, s3, hr3, d3, d4⟩ := draw_q (n := 3) (by omega) (by omega) hs2
            rw [← L_3] at d3 d4
            simp only [↓reduceIte, d3, d4, Option.bind_some, M125, tk]
            obtain ⟨v, I1, I1', g1, g2, g3, g4, g5⟩ := ih (k + 1) n n' acc _ _ ((h2.seed (s := s3) (s' := s3)).set_deep (i := k) (by omega) ⟨r3, by omega, rfl⟩) ((congrFun (u_o (by omega)) 0).trans ((u_s.trans u_s.symm).trans (congrFun (u_o (by omega)) 25).symm)) (by omega) (by omega) (by omega);  exact ⟨v, I1, I1', g1, g2, g3, g4, fun j hj => by rw [g5 j hj]; simp (disch := omega) only [u_j, u_o]⟩

        · have fr : True := trivial
          simp only [↓reduceIte, State_shift, G0, G105, G115, M105, M115, tk, Option.bind_some, show (nI 2 = (1 : Int32)) = False from eq_false (by decide), show (nI 2 = (2 : Int32)) = True from eq_true rfl, show (nI 2 = (3 : Int32)) = False from eq_false (by decide), show (nI 2 = (4 : Int32)) = False from eq_false (by decide), show (nI 2 ≤ (0 : Int32)) = False from eq_false (by decide), sx, sy, ex2, ey2, Int32.add_zero]
          rcases is_cell h2 (nI vx + (-1)) (nI vy) with ⟨ca, cb, i, j, hi, hj, ei, ej⟩ | ⟨ca, cb⟩
          · simp only [↓reduceIte, ca, cb, Option.bind_some]
            have h3 := (h2.set_x (i := k) (by omega) (v := nI vx + (-1)) ⟨i, hi, ei⟩).set_y (i := k) (by omega) (v := nI vy) ⟨j, hj, ej⟩
            have hs3 : up2 (up2 (up2 I 192 0 s) (b + 1) k (nI vx + (-1))) (b + 2) k (nI vy) 192 0 = up2 (up2 (up2 I' 204 25 s) 206 (105 + k) (nI vx + (-1))) 206 (115 + k) (nI vy) 204 25 := (congrFun (u_o (by omega)) 0).trans ((congrFun (u_o (by omega)) 0).trans (hs2.trans ((congrFun (u_o (by omega)) 25).symm.trans (congrFun (u_o (by omega)) 25).symm)))
            obtain ⟨r3, s3, hr3, d3, d4⟩ := draw_q (n := 3) (by omega) (by omega) hs3
            rw [← L_3] at d3 d4
            simp only [↓reduceIte, d3, d4, Option.bind_some, M125, tk]
            obtain ⟨v, I1, I1', g1, g2, g3, g4, g5⟩ := ih (k + 1) n n' (acc + 1) _ _ ((h3.seed (s := s3) (s' := s3)).set_deep (i := k) (by omega) ⟨r3, by omega, rfl⟩) ((congrFun (u_o (by omega)) 0).trans ((u_s.trans u_s.symm).trans (congrFun (u_o (by omega)) 25).symm)) (by omega) (by omega) (by omega);  exact ⟨v, I1, I1', g1, g2, g3, g4, fun j hj => by rw [g5 j hj]; simp (disch := omega) only [u_j, u_o]⟩
          · simp only [↓reduceIte, ca, cb, Option.bind_some, Bool.false_eq_true]
            obtain ⟨r3, s3, hr3, d3, d4⟩ := draw_q (n := 3) (by omega) (by omega) hs2
            rw [← L_3] at d3 d4
            simp only [↓reduceIte, d3, d4, Option.bind_some, M125, tk]
            obtain ⟨v, I1, I1', g1, g2, g3, g4, g5⟩ := ih (k + 1) n n' acc _ _ ((h2.seed (s := s3) (s' := s3)).set_deep (i := k) (by omega) ⟨r3, by omega, rfl⟩) ((congrFun (u_o (by omega)) 0).trans ((u_s.trans u_s.symm).trans (congrFun (u_o (by omega)) 25).symm)) (by omega) (by omega) (by omega);  exact ⟨v, I1, I1', g1, g2, g3, g4, fun j hj => by rw [g5 j hj]; simp (disch := omega) only [u_j, u_o]⟩

        · have fr : True := trivial
          simp only [↓reduceIte, State_shift, G0, G105, G115, M105, M115, tk, Option.bind_some, show (nI 3 = (1 : Int32)) = False from eq_false (by decide), show (nI 3 = (2 : Int32)) = False from eq_false (by decide), show (nI 3 = (3 : Int32)) = True from eq_true rfl, show (nI 3 = (4 : Int32)) = False from eq_false (by decide), show (nI 3 ≤ (0 : Int32)) = False from eq_false (by decide), sx, sy, ex2, ey2, Int32.add_zero]
          rcases is_cell h2 (nI vx) (nI vy + 1) with ⟨ca, cb, i, j, hi, hj, ei, ej⟩ | ⟨ca, cb⟩
          · simp only [↓reduceIte, ca, cb, Option.bind_some]
            have h3 := (h2.set_x (i := k) (by omega) (v := nI vx) ⟨i, hi, ei⟩).set_y (i := k) (by omega) (v := nI vy + 1) ⟨j, hj, ej⟩
            have hs3 : up2 (up2 (up2 I 192 0 s) (b + 1) k (nI vx)) (b + 2) k (nI vy + 1) 192 0 = up2 (up2 (up2 I' 204 25 s) 206 (105 + k) (nI vx)) 206 (115 + k) (nI vy + 1) 204 25 := (congrFun (u_o (by omega)) 0).trans ((congrFun (u_o (by omega)) 0).trans (hs2.trans ((congrFun (u_o (by omega)) 25).symm.trans (congrFun (u_o (by omega)) 25).symm)))
            obtain ⟨r3, s3, hr3, d3, d4⟩ := draw_q (n := 3) (by omega) (by omega) hs3
            rw [← L_3] at d3 d4
            simp only [↓reduceIte, d3, d4, Option.bind_some, M125, tk]
            obtain ⟨v, I1, I1', g1, g2, g3, g4, g5⟩ := ih (k + 1) n n' (acc + 1) _ _ ((h3.seed (s := s3) (s' := s3)).set_deep (i := k) (by omega) ⟨r3, by omega, rfl⟩) ((congrFun (u_o (by omega)) 0).trans ((u_s.trans u_s.symm).trans (congrFun (u_o (by omega)) 25).symm)) (by omega) (by omega) (by omega);  exact ⟨v, I1, I1', g1, g2, g3, g4, fun j hj => by rw [g5 j hj]; simp (disch := omega) only [u_j, u_o]⟩
          · simp only [↓reduceIte, ca, cb, Option.bind_some, Bool.false_eq_true]
            obtain ⟨r3, s3, hr3, d3, d4⟩ := draw_q (n := 3) (by omega) (by omega) hs2
            rw [← L_3] at d3 d4
            simp only [↓reduceIte, d3, d4, Option.bind_some, M125, tk]
            obtain ⟨v, I1, I1', g1, g2, g3, g4, g5⟩ := ih (k + 1) n n' acc _ _ ((h2.seed (s := s3) (s' := s3)).set_deep (i := k) (by omega) ⟨r3, by omega, rfl⟩) ((congrFun (u_o (by omega)) 0).trans ((u_s.trans u_s.symm).trans (congrFun (u_o (by omega)) 25).symm)) (by omega) (by omega) (by omega);  exact ⟨v, I1, I1', g1, g2, g3, g4, fun j hj => by rw [g5 j hj]; simp (disch := omega) only [u_j, u_o]⟩

        · have fr : True := trivial
          simp only [↓reduceIte, State_shift, G0, G105, G115, M105, M115, tk, Option.bind_some, show (nI 4 = (1 : Int32)) = False from eq_false (by decide), show (nI 4 = (2 : Int32)) = False from eq_false (by decide), show (nI 4 = (3 : Int32)) = False from eq_false (by decide), show (nI 4 = (4 : Int32)) = True from eq_true rfl, show (nI 4 ≤ (0 : Int32)) = False from eq_false (by decide), sx, sy, ex2, ey2, Int32.add_zero]
          rcases is_cell h2 (nI vx) (nI vy + (-1)) with ⟨ca, cb, i, j, hi, hj, ei, ej⟩ | ⟨ca, cb⟩
          · simp only [↓reduceIte, ca, cb, Option.bind_some]
            have h3 := (h2.set_x (i := k) (by omega) (v := nI vx) ⟨i, hi, ei⟩).set_y (i := k) (by omega) (v := nI vy + (-1)) ⟨j, hj, ej⟩
            have hs3 : up2 (up2 (up2 I 192 0 s) (b + 1) k (nI vx)) (b + 2) k (nI vy + (-1)) 192 0 = up2 (up2 (up2 I' 204 25 s) 206 (105 + k) (nI vx)) 206 (115 + k) (nI vy + (-1)) 204 25 := (congrFun (u_o (by omega)) 0).trans ((congrFun (u_o (by omega)) 0).trans (hs2.trans ((congrFun (u_o (by omega)) 25).symm.trans (congrFun (u_o (by omega)) 25).symm)))
            obtain ⟨r3, s3, hr3, d3, d4⟩ := draw_q (n := 3) (by omega) (by omega) hs3
            rw [← L_3] at d3 d4
            simp only [↓reduceIte, d3, d4, Option.bind_some, M125, tk]
            obtain ⟨v, I1, I1', g1, g2, g3, g4, g5⟩ := ih (k + 1) n n' (acc + 1) _ _ ((h3.seed (s := s3) (s' := s3)).set_deep (i := k) (by omega) ⟨r3, by omega, rfl⟩) ((congrFun (u_o (by omega)) 0).trans ((u_s.trans u_s.symm).trans (congrFun (u_o (by omega)) 25).symm)) (by omega) (by omega) (by omega);  exact ⟨v, I1, I1', g1, g2, g3, g4, fun j hj => by rw [g5 j hj]; simp (disch := omega) only [u_j, u_o]⟩
          · simp only [↓reduceIte, ca, cb, Option.bind_some, Bool.false_eq_true]
            obtain ⟨r3, s3, hr3, d3, d4⟩ := draw_q (n := 3) (by omega) (by omega) hs2
            rw [← L_3] at d3 d4
            simp only [↓reduceIte, d3, d4, Option.bind_some, M125, tk]
            obtain ⟨v, I1, I1', g1, g2, g3, g4, g5⟩ := ih (k + 1) n n' acc _ _ ((h2.seed (s := s3) (s' := s3)).set_deep (i := k) (by omega) ⟨r3, by omega, rfl⟩) ((congrFun (u_o (by omega)) 0).trans ((u_s.trans u_s.symm).trans (congrFun (u_o (by omega)) 25).symm)) (by omega) (by omega) (by omega);  exact ⟨v, I1, I1', g1, g2, g3, g4, fun j hj => by rw [g5 j hj]; simp (disch := omega) only [u_j, u_o]⟩
      · have c3' : ((3 : Int32) ≤ nI vd) = True := by rw [c3]; exact eq_true (by omega)
        have c2' : (nI vd ≤ (2 : Int32)) = False := by rw [c2]; exact eq_false (by omega)
        simp only [↓reduceIte, T_1, cF, mF, A1, G0, G135, M135, tk, st, c1, G125, M125, dp, ed, c3', c2', nS]
        exact ih (k + 1) n n' acc I I' h hs (by omega) (by omega) (by omega)
    · simp only [↓reduceIte, T_1, cF, mF, A1, G0, G135, M135, tk, st, c1, nS]
      exact ih (k + 1) n n' acc I I' h hs (by omega) (by omega) (by omega)
theorem turn_q (h : QR N b ln nP nF nE nW nH nR I I') (hs : I 192 0 = I' 204 25) : ∃ v I1 I1', State_turnOver N b ln 192 I = some (v, I1) ∧ Mod_doPlough N I' = some (v, I1') ∧ QR N b ln nP nF nE nW nH nR I1 I1' ∧ I1 192 0 = I1' 204 25 ∧ (∀ j, j < 102 ∨ 209 ≤ j → I1' 206 j = I' 206 j) :=
  turn_l nF 0 N N 0 I I' h hs (by omega) (by have := h.bd; have := h.nN; omega) (by have := h.bd; have := h.nN; omega)
end Q29
