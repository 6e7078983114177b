/-! a book is read to its end: both sides -/
section Q68
variable {N b ln sp sn ss nP nF nE nW nH nR : Nat} {I I' : FI} {J J' : FJ} {t : Nat × Nat × List Nat} {m i k : Nat}
theorem LnR.to {I1 I1' : FI} (h : LnR nP nF k I I') (hI : ∀ x, 56 ≤ x → x ≤ 59 → I1 x k = I x k) (hM : ∀ j, 4 * k ≤ j → j < 4 * k + 4 → I1' 222 j = I' 222 j) : LnR nP nF k I1 I1' := by
  unfold LnR
  rw [hI 56 (by omega) (by omega), hI 57 (by omega) (by omega), hI 58 (by omega) (by omega), hI 59 (by omega) (by omega), hM (4 * k) (by omega) (by omega), hM (4 * k + 1) (by omega) (by omega), hM (4 * k + 2) (by omega) (by omega), hM (4 * k + 3) (by omega) (by omega)]
  exact h
/-- what reading a book may touch -/
def KpB (I : FI) (J : FJ) (I' : FI) (J' : FJ) (I1 : FI) (J1 : FJ) (I1' : FI) (J1' : FJ) : Prop := (∀ x j, ¬ (x = 1 ∧ 8 ≤ j ∧ j ≤ 15) → ¬ (55 ≤ x ∧ x ≤ 59) → I1 x j = I x j) ∧ (∀ x j, ¬ (x = 1 ∧ j = 10) → J1 x j = J x j) ∧ (∀ x j, ¬ (x = 204 ∧ ((5 ≤ j ∧ j ≤ 13) ∨ j = 39)) → x ≠ 222 → I1' x j = I' x j) ∧ (∀ x j, ¬ (x = 204 ∧ j = 12) → J1' x j = J' x j)
theorem KpB.trans {I1 I1' I2 I2' : FI} {J1 J1' J2 J2' : FJ} (h : KpB I J I' J' I1 J1 I1' J1') (g : KpB I1 J1 I1' J1' I2 J2 I2' J2') : KpB I J I' J' I2 J2 I2' J2' := ⟨fun x j w u => (g.1 x j w u).trans (h.1 x j w u), fun x j w => (g.2.1 x j w).trans (h.2.1 x j w), fun x j w u => (g.2.2.1 x j w u).trans (h.2.2.1 x j w u), fun x j w => (g.2.2.2 x j w).trans (h.2.2.2 x j w)⟩
theorem KpL.bk {I1 I1' : FI} {J1 J1' : FJ} (h : KpL k I J I' J' I1 J1 I1' J1') : KpB I J I' J' I1 J1 I1' J1' := ⟨fun x j w u => h.1 x j w (by omega), h.2.1, fun x j w u => h.2.2.1 x j (by omega) (by omega), h.2.2.2⟩
theorem NmR.to2 {I1 I1' : FI} {J1 J1' : FJ} (h : NmR ln nP nF I J I' J') (g : KpB I J I' J' I1 J1 I1' J1') : NmR ln nP nF I1 J1 I1' J1' := by
  obtain ⟨h1, h2, h3, h4, h5, h6, h7, h8, h9, h10⟩ := h
  refine ⟨h1, h2, h3, h4, ?_, ?_, ?_, ?_, fun k hk => ?_, fun k hk => ?_⟩
  · rw [g.1 _ _ (by omega) (by omega)]; exact h5
  · rw [g.1 _ _ (by omega) (by omega)]; exact h6
  · rw [g.2.2.1 _ _ (by omega) (by omega)]; exact h7
  · rw [g.2.2.1 _ _ (by omega) (by omega)]; exact h8
  · rw [g.2.1 _ _ (by omega), g.2.2.2 _ _ (by omega)]; exact h9 k hk
  · rw [g.2.1 _ _ (by omega), g.2.2.2 _ _ (by omega)]; exact h10 k hk
theorem book_1 (hN : 2000 ≤ N) (h : At 400 i t I J I' J') (hn : NmR ln nP nF I J I' J') (h55 : I 55 4 = nI k) (h39 : I' 204 39 = nI k) (hk : k ≤ 40) (hl : ∀ j, j < k → LnR nP nF j I I') : ∃ I1 J1 I1' J1', KpB I J I' J' I1 J1 I1' J1' ∧ (((∀ f, Book_read_14 N 55 1 ln (f + 1) (nI k) I J = some (false, I1, J1)) ∧ (∀ f l1, Mod_book_30 N (f + 1) l1 I' J' = some ((-2) - (I1' 204 11), I1', J1')) ∧ FlR I1 I1') ∨ ((∀ f, Book_read_14 N 55 1 ln (f + 1) (nI k) I J = some (true, I1, J1)) ∧ (∀ f l1, Mod_book_30 N (f + 1) l1 I' J' = Option.bind (Mod_layAside N I1') fun x4 => (Mod_book_73 N N l1 0 0 x4 J1')) ∧ I1 55 4 = nI k ∧ I1' 204 39 = nI k ∧ (∀ j, j < k → LnR nP nF j I1 I1') ∧ I1 1 14 = nI 0 ∧ I1' 204 10 = nI 0) ∨ (k < 40 ∧ ∃ i' t', At 400 i' t' I1 J1 I1' J1' ∧ I1 55 4 = nI (k + 1) ∧ I1' 204 39 = nI (k + 1) ∧ (∀ j, j < k + 1 → LnR nP nF j I1 I1') ∧ (∀ f, Book_read_14 N 55 1 ln (f + 1) (nI k) I J = Book_read_14 N 55 1 ln f (nI (k + 1)) I1 J1) ∧ (∀ f l1, Mod_book_30 N (f + 1) l1 I' J' = Mod_book_30 N f l1 I1' J1'))) := by
  have hO := h.ok
  have lt := tok_lt hO
  have t4 : (400 ≤ nI k) = False := by rw [L_400, le_nI (by omega) (by omega)]; exact eq_false (by omega)
  have e0 : (I 1 9 = (0 : Int32)) = (t.1 = 0) := by rw [h.curB.1.1, L_0, eq_nI (by omega) (by omega)]
  have k0 : (I' 204 7 = (0 : Int32)) = (mk t.1 = 0) := kind_e h.curM (k := 0) (by omega)
  by_cases z : t.1 = 0
  · have y0 : (t.1 = 0) = True := eq_true z
    have y1 : (mk t.1 = 0) = True := eq_true (mk_0.mpr z)
    have hz : I 1 14 = nI 0 ∧ I' 204 10 = nI 0 := by obtain ⟨c, n, L, a1, a2, a3, a4, a5, a6, a7, a8⟩ := h; exact ⟨a7, a8⟩
    refine ⟨I, J, I', J', ⟨fun _ _ _ _ => rfl, fun _ _ _ => rfl, fun _ _ _ _ => rfl, fun _ _ _ => rfl⟩, Or.inr (Or.inl ⟨fun f => ?_, fun f l1 => ?_, h55, h39, hl, hz.1, hz.2⟩)⟩
    · simp only [↓reduceIte, Book_read_14, t4, e0, y0]
    · simp only [↓reduceIte, Mod_book_30, k0, y1]
  · have y0 : (t.1 = 0) = False := eq_false z
    have y1 : (mk t.1 = 0) = False := eq_false (fun q => z (mk_0.mp q))
    obtain ⟨v, I1, J1, I1', J1', a1, a2, a3, a4, a5⟩ := line_q hN h hn h55 h39 hk
    cases v with
    | false =>
      refine ⟨I1, J1, I1', J1', a3.bk, Or.inl ⟨fun f => ?_, fun f l1 => ?_, a5 rfl⟩⟩
      · simp only [↓reduceIte, Book_read_14, t4, e0, y0, a1, Option.bind_some, Bool.false_eq_true]
      · simp only [↓reduceIte, Mod_book_30, k0, y1, a2, endM, Option.bind_some, Bool.false_eq_true]
    | true =>
      obtain ⟨hk2, i', t', b1, b2, b3⟩ := a4 rfl
      obtain ⟨w, I2, J2, I2', J2', c1, c2, c3, c4, c5⟩ := readEnd_q hN b2
      have kp : KpB I J I' J' I2 J2 I2' J2' := a3.bk.trans (c3.l (k := k)).bk
      cases w with
      | false =>
        refine ⟨I2, J2, I2', J2', kp, Or.inl ⟨fun f => ?_, fun f l1 => ?_, c5 rfl⟩⟩
        · simp only [↓reduceIte, Book_read_14, t4, e0, y0, a1, c1, Option.bind_some, Bool.false_eq_true]
        · simp only [↓reduceIte, Mod_book_30, k0, y1, a2, endM, c2, Option.bind_some, Bool.false_eq_true]
      | true =>
        obtain ⟨t2, d1⟩ := c4 rfl
        have q55 : I2 55 4 = nI k := by rw [c3.1 _ _ (by omega), a3.1 _ _ (by omega) (by omega)]; exact h55
        have q39 : I2' 204 39 = nI k := by rw [c3.2.2.1 _ _ (by omega), a3.2.2.1 _ _ (by omega) (by omega)]; exact h39
        refine ⟨up2 I2 55 4 (nI (k + 1)), J2, up2 I2' 204 39 (nI (k + 1)), J2', ⟨fun x j w u => (up2_ff (by omega)).trans (kp.1 x j w u), kp.2.1, fun x j w u => (up2_ff (by omega)).trans (kp.2.2.1 x j w u), kp.2.2.2⟩, Or.inr (Or.inr ⟨hk2, i' + 1, t2, (d1.upI (by omega) (by omega) (by omega)).upM (by omega) (by omega), u_s, u_s, fun j hj => ?_, fun f => ?_, fun f l1 => ?_⟩)⟩
        · by_cases q : j = k
          · rw [q]
            exact b3.to (fun x x1 x2 => by rw [u_o (by omega), c3.1 _ _ (by omega)]) (fun l l1 l2 => by rw [u_o (by omega), c3.2.2.1 _ _ (by omega)])
          · exact (hl j (by omega)).to (fun x x1 x2 => by rw [u_o (by omega), c3.1 _ _ (by omega), a3.1 _ _ (by omega) (by omega)]) (fun l l1 l2 => by rw [u_o (by omega), c3.2.2.1 _ _ (by omega), a3.2.2.1 _ _ (by omega) (by omega)])
        · conv => lhs; rw [Book_read_14]
          simp only [↓reduceIte, t4, e0, y0, a1, c1, q55, nS, Option.bind_some]
        · conv => lhs; rw [Mod_book_30]
          simp only [↓reduceIte, k0, y1, a2, endM, c2, q39, nS, Option.bind_some]
theorem book_l (hN : 2000 ≤ N) : ∀ r k f i t (I : FI) (J : FJ) (I' : FI) (J' : FJ), k + r = 40 → At 400 i t I J I' J' → NmR ln nP nF I J I' J' → I 55 4 = nI k → I' 204 39 = nI k → (∀ j, j < k → LnR nP nF j I I') → ∃ I1 J1 I1' J1', KpB I J I' J' I1 J1 I1' J1' ∧ ((Book_read_14 N 55 1 ln (f + r + 1) (nI k) I J = some (false, I1, J1) ∧ (∀ l1, Mod_book_30 N (f + r + 1) l1 I' J' = some ((-2) - (I1' 204 11), I1', J1')) ∧ FlR I1 I1') ∨ (∃ n, n ≤ 40 ∧ Book_read_14 N 55 1 ln (f + r + 1) (nI k) I J = some (true, I1, J1) ∧ (∀ l1, Mod_book_30 N (f + r + 1) l1 I' J' = Option.bind (Mod_layAside N I1') fun x4 => (Mod_book_73 N N l1 0 0 x4 J1')) ∧ I1 55 4 = nI n ∧ I1' 204 39 = nI n ∧ (∀ j, j < n → LnR nP nF j I1 I1') ∧ I1 1 14 = nI 0 ∧ I1' 204 10 = nI 0)) := by
  intro r
  induction r with
  | zero =>
    intro k f i t I J I' J' hk h hn h55 h39 hl
    obtain ⟨I1, J1, I1', J1', kp, c | c | c⟩ := book_1 hN h hn h55 h39 (by omega) hl
    · exact ⟨I1, J1, I1', J1', kp, Or.inl ⟨c.1 _, c.2.1 _, c.2.2⟩⟩
    · exact ⟨I1, J1, I1', J1', kp, Or.inr ⟨k, by omega, c.1 _, c.2.1 _, c.2.2⟩⟩
    · exact absurd c.1 (by omega)
  | succ r ih =>
    intro k f i t I J I' J' hk h hn h55 h39 hl
    obtain ⟨I1, J1, I1', J1', kp, c | c | c⟩ := book_1 hN h hn h55 h39 (by omega) hl
    · exact ⟨I1, J1, I1', J1', kp, Or.inl ⟨c.1 _, c.2.1 _, c.2.2⟩⟩
    · exact ⟨I1, J1, I1', J1', kp, Or.inr ⟨k, by omega, c.1 _, c.2.1 _, c.2.2⟩⟩
    · obtain ⟨c1, i', t', c2, c3, c4, c5, c6, c7⟩ := c
      obtain ⟨I2, J2, I2', J2', kp2, d⟩ := ih (k + 1) f i' t' I1 J1 I1' J1' (by omega) c2 (hn.to2 kp) c3 c4 c5
      refine ⟨I2, J2, I2', J2', kp.trans kp2, ?_⟩
      rw [show f + (r + 1) + 1 = (f + r + 1) + 1 from rfl, c6]
      rcases d with ⟨d1, d2, d3⟩ | ⟨n, d0, d1, d2, d3⟩
      · exact Or.inl ⟨d1, fun l1 => by rw [c7]; exact d2 l1, d3⟩
      · exact Or.inr ⟨n, d0, d1, fun l1 => by rw [c7]; exact d2 l1, d3⟩
end Q68
