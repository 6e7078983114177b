/-! a book is lived: both sides -/
section Q70
variable {N b ln sp sn ss nP nF nE nW nH nR : Nat} {I I' : FI} {J J' : FJ} {k : Nat}
/-- what the model does behind the lines -/
def tailM (N : Nat) (l1 l2 l3 : Int32) (I : FI) (J : FJ) : Option (Int32 × FI × FJ) := Option.bind (some (up2 I 223 ((0 : Int32).toNatClampNeg) l3)) fun I5 => (Option.bind (some (up2 I5 223 ((1 : Int32).toNatClampNeg) l2)) fun I6 => (Option.bind (some (up2 I6 223 ((2 : Int32).toNatClampNeg) (I6 206 ((102 : Int32).toNatClampNeg)))) fun I7 => (Option.bind (Mod_those N 2 I7) fun x8 => (Option.bind (some (up2 I7 223 ((3 : Int32).toNatClampNeg) x8)) fun I9 => (Option.bind (some (up2 I9 204 40 (1 : Int32))) fun I10 => (if l1 = 1 then (if l2 ≤ 0 then (Option.bind (Mod_stay N false I10) fun x11 => (if l3 = 0 then (some ((-1), x11, J)) else (some (l2, x11, J)))) else (Option.bind (Mod_stay N true I10) fun x12 => (if l3 = 0 then (some ((-1), x12, J)) else (some (l2, x12, J))))) else (Option.bind (Mod_stay N false I10) fun x13 => (if l3 = 0 then (some ((-1), x13, J)) else (some (l2, x13, J))))))))))
theorem book73 (N n : Nat) (l1 l2 l3 : Int32) (I : FI) (J : FJ) : Mod_book_73 N (n + 1) l1 l2 l3 I J = (if (I 204 39) ≤ l2 then tailM N l1 l2 l3 I J else (if l3 = 0 then (Option.bind (Mod_whyLine (4 * l2) I) fun x14 => (if x14 = 0 then (Option.bind (Mod_live N (4 * l2) I) fun x15 => (Mod_book_73 N n l1 (l2 + 1) x14 x15 J)) else (if in9 (4 * l2) 160 then (Mod_book_73 N n l1 l2 (x14 + (10 * (I 222 ((4 * l2).toNatClampNeg)))) I J) else none))) else tailM N l1 l2 l3 I J)) := rfl
theorem live_l {n : Nat} (hn : n ≤ 40) : ∀ r k f f' (I I' : FI), k + r = n → r + 1 < f → r + 2 < f' → QR N 35 ln nP nF nE nW nH nR I I' → I 55 4 = nI n → I' 204 39 = nI n → I 55 5 = 0 → (∀ j, j < n → LnR nP nF j I I') → ∃ q w I1 I1', Book_live_8 N 55 ln 35 192 f (nI k) I = some (nI q, I1) ∧ (∀ l1 J', Mod_book_73 N f' l1 (nI k) 0 I' J' = tailM N l1 (nI q) w I1' J') ∧ q ≤ 40 ∧ I1 55 5 = w ∧ QR N 35 ln nP nF nE nW nH nR I1 I1' ∧ (∀ x j, (x < 36 ∨ 44 < x) → ¬ (x = 35 ∧ (j = 9 ∨ j = 10)) → ¬ (x = 192 ∧ j = 0) → ¬ (x = 55 ∧ j = 5) → I1 x j = I x j) ∧ (∀ x j, x ≠ 206 → ¬ (x = 204 ∧ j = 25) → I1' x j = I' x j) ∧ (∀ j, j < 102 ∨ 209 ≤ j → I1' 206 j = I' 206 j) := by
  intro r
  induction r with
  | zero =>
    intro k f f' I I' hk hf hf' h h55 h39 h5 hl
    obtain ⟨e, rfl⟩ : ∃ e, f = e + 1 := ⟨f - 1, by omega⟩
    obtain ⟨e', rfl⟩ : ∃ e, f' = e + 1 := ⟨f' - 1, by omega⟩
    have t1 : (nI n ≤ nI k) = True := by rw [le_nI (by omega) (by omega)]; exact eq_true (by omega)
    refine ⟨n, 0, I, I', ?_, fun l1 J' => ?_, hn, h5, h, fun _ _ _ _ _ _ => rfl, fun _ _ _ _ => rfl, fun _ _ => rfl⟩
    · simp only [↓reduceIte, Book_live_8, h55, t1]
    · rw [book73, if_pos (by rw [h39, t1]; trivial), show k = n by omega]
  | succ r ih =>
    intro k f f' I I' hk hf hf' h h55 h39 h5 hl
    obtain ⟨e, rfl⟩ : ∃ e, f = e + 1 := ⟨f - 1, by omega⟩
    obtain ⟨e', rfl⟩ : ∃ e, f' = e + 1 + 1 := ⟨f' - 2, by omega⟩
    have t1 : (nI n ≤ nI k) = False := by rw [le_nI (by omega) (by omega)]; exact eq_false (by omega)
    have t2 : (40 ≤ nI k) = False := by rw [L_40, le_nI (by omega) (by omega)]; exact eq_false (by omega)
    have m4 : 4 * nI k = nI (4 * k) := mx_4 k
    have g0 : in9 (nI (4 * k)) 160 = True := in9_t (by omega) (by omega)
    have g1 : (nI (4 * k)).toNatClampNeg = 4 * k := tN (by omega)
    have u5 : ∀ v, up2 I 55 5 v 55 5 = v := fun v => u_s
    have z0 : ((0 : Int32) = 0) = True := eq_true rfl
    rcases live_1 h (show k < 40 by omega) (hl k (by omega)) with ⟨w, w0, e1, e2, e3, e4, e5⟩ | ⟨e1, e2, I1, I1', e3, e4, e5, e6⟩
    · have y1 : (w = 0) = False := eq_false e3
      have y2 : (w0 = 0) = False := eq_false e4
      refine ⟨k, w, up2 I 55 5 w, I', ?_, fun l1 J' => ?_, by omega, u_s, h.up5, fun x j _ _ _ w4 => up2_ff w4, fun _ _ _ _ => rfl, fun _ _ => rfl⟩
      · simp only [↓reduceIte, Book_live_8, h55, t1, t2, e1, u5, y1, Option.bind_some]
      · rw [book73]
        simp only [↓reduceIte, h39, t1, m4, e2, y2, g0, g1, Option.bind_some]
        rw [← e5, book73]
        simp only [↓reduceIte, h39, t1, y1]
    · have frI : ∀ x j, (x < 36 ∨ 44 < x) → ¬ (x = 35 ∧ (j = 9 ∨ j = 10)) → ¬ (x = 192 ∧ j = 0) → I1 x j = up2 I 55 5 0 x j := fun x j w1 w2 w3 => fr_Book_liveLine (by omega) (by omega) (by omega) (by omega) (by omega) (by omega) (by omega) (by omega) (by omega) (by omega) (by omega) (by omega) e3
      have frM : ∀ x j, x ≠ 206 → ¬ (x = 204 ∧ j = 25) → I1' x j = I' x j := fun x j w1 w2 => fr_Mod_live w1 w2 e4
      obtain ⟨q, w, I2, I2', d1, d2, d3, d4, d5, d6, d7, d8⟩ := ih (k + 1) e (e' + 1) I1 I1' (by omega) (by omega) (by omega) e5 (by rw [frI _ _ (by omega) (by omega) (by omega), u_j (by omega)]; exact h55) (by rw [frM _ _ (by omega) (by omega)]; exact h39) (by rw [frI _ _ (by omega) (by omega) (by omega), u_s]) (fun j hj => (hl j hj).to (fun x x1 x2 => by rw [frI _ _ (by omega) (by omega) (by omega), u_o (by omega)]) (fun l l1 l2 => frM _ _ (by omega) (by omega)))
      refine ⟨q, w, I2, I2', ?_, fun l1 J' => ?_, d3, d4, d5, fun x j w1 w2 w3 w4 => ?_, fun x j w1 w2 => ?_, fun j hj => ?_⟩
      · rw [Book_live_8]
        simp only [↓reduceIte, h55, t1, t2, e1, u5, e3, nS, Option.bind_some]
        exact d1
      · rw [book73]
        simp only [↓reduceIte, h39, t1, m4, e2, e4, nS, Option.bind_some]
        exact d2 l1 J'
      · rw [d6 x j w1 w2 w3 w4, frI x j w1 w2 w3, up2_ff w4]
      · rw [d7 x j w1 w2, frM x j w1 w2]
      · rw [d8 j hj, e6 j hj]
/-- the two rows of what is so change places -/
theorem stay_l (bb : Bool) : ∀ r k f (I : FI), k + r = 107 → ∃ I1, Mod_stay_2 N bb (f + r + 1) (nI k) I = (if bb then (Option.bind (Mod_snap N I1) fun x1 => (Option.bind (Mod_takeBack N x1) fun x2 => (some x2))) else (some I1)) ∧ (∀ j, k ≤ j → j < 107 → I1 206 (102 + j) = I 210 j ∧ I1 210 j = I 206 (102 + j)) ∧ (∀ j, ¬ (102 + k ≤ j ∧ j < 209) → I1 206 j = I 206 j) ∧ (∀ j, ¬ (k ≤ j ∧ j < 107) → I1 210 j = I 210 j) ∧ (∀ x j, x ≠ 206 → x ≠ 210 → I1 x j = I x j) := by
  intro r
  induction r with
  | zero =>
    intro k f I hk
    have t1 : (107 ≤ nI k) = True := by rw [L_107, le_nI (by omega) (by omega)]; exact eq_true (by omega)
    refine ⟨I, ?_, fun j h1 h2 => absurd h2 (by omega), fun _ _ => rfl, fun _ _ => rfl, fun _ _ _ _ => rfl⟩
    simp only [↓reduceIte, Mod_stay_2, t1]
  | succ r ih =>
    intro k f I hk
    have t1 : (107 ≤ nI k) = False := by rw [L_107, le_nI (by omega) (by omega)]; exact eq_false (by omega)
    have t2 : in9 (nI (102 + k)) 451 = True := in9_t (by omega) (by omega)
    have t3 : in9 (nI k) 107 = True := in9_t (by omega) (by omega)
    have t4 : (nI (102 + k)).toNatClampNeg = 102 + k := tN (by omega)
    have t5 : (nI k).toNatClampNeg = k := tN (by omega)
    obtain ⟨I1, e1, e2, e3, e4, e5⟩ := ih (k + 1) f (up2 (up2 I 206 (102 + k) (I 210 k)) 210 k (I 206 (102 + k))) (by omega)
    refine ⟨I1, ?_, fun j h1 h2 => ?_, fun j h => ?_, fun j h => ?_, fun x j w1 w2 => ?_⟩
    · rw [← e1, show f + (r + 1) + 1 = (f + r + 1) + 1 from rfl]
      conv => lhs; rw [Mod_stay_2]
      simp only [↓reduceIte, t1, ax_102, t2, t3, t4, t5, nS, Option.bind_some]
    · by_cases q : j = k
      · rw [q, e3 _ (by omega), e4 _ (by omega), u_o (by omega), u_s, u_s]
        exact ⟨rfl, rfl⟩
      · obtain ⟨a1, a2⟩ := e2 j (by omega) h2
        rw [a1, a2, u_j q, u_o (by omega), u_o (by omega), u_j (by omega)]
        exact ⟨rfl, rfl⟩
    · rw [e3 j (by omega), u_o (by omega), u_j (by omega)]
    · rw [e4 j (by omega), u_j (by omega), u_o (by omega)]
    · rw [e5 x j w1 w2, u_o w2, u_o w1]
theorem QR.copyback (h : QR N 35 ln nP nF nE nW nH nR I I') (hd : ln + 8 < 25) : ∃ I1, State_copy 25 35 I = some I1 ∧ QR N 25 ln nP nF nE nW nH nR I1 I' ∧ (∀ q j, q < 25 ∨ 34 < q → I1 q j = I q j) := by
  have hb := h.bd
  obtain ⟨I1, e1, e2, e3⟩ := copy_e (a := 25) (b := 35) (Or.inl (by omega)) I
  exact ⟨I1, e1, ⟨h.nN, h.lw, h.ld.of (fun q j h1 h2 => e3 q j (by omega)) (fun _ _ => rfl) hb.2.1 hb.2.2.1, e2 nF _ hb.2.1 h.st, h.sw, hd, by omega⟩, fun q j hq => e3 q j (by omega)⟩
end Q70
