/-! writes on both sides keep the picture -/
section Q27
variable {N b ln nP nF nE nW nH nR : Nat} {I I' I1 I1' : FI}
theorem LdR.of {a nF nE : Nat} {I I1 : FI} {w w1 : Nat → Int32} (h : LdR a nF nE I w) (h1 : ∀ q j, a ≤ q → q ≤ a + 8 → I1 q j = I q j) (h2 : ∀ j, j < 102 → w1 j = w j) (hF : nF ≤ 10) (hE : nE ≤ 6) : LdR a nF nE I1 w1 := by
  obtain ⟨⟨a1, a2, a3, a4, a5, a6⟩, b, c, d, e, f⟩ := h
  refine ⟨⟨?_, ?_, ?_, ?_, ?_, ?_⟩, fun k hk => ?_, fun k hk => ?_, fun k hk => ?_, fun k hk => ?_, fun k hk => ?_⟩
  · rw [h1 _ _ (by omega) (by omega), h2 _ (by omega)]; exact a1
  · rw [h1 _ _ (by omega) (by omega), h2 _ (by omega)]; exact a2
  · rw [h1 _ _ (by omega) (by omega), h2 _ (by omega)]; exact a3
  · rw [h1 _ _ (by omega) (by omega), h2 _ (by omega)]; exact a4
  · rw [h1 _ _ (by omega) (by omega), h2 _ (by omega)]; exact a5
  · rw [h1 _ _ (by omega) (by omega), h2 _ (by omega)]; exact a6
  · rw [h1 _ _ (by omega) (by omega), h2 _ (by omega)]; exact b k hk
  · rw [h1 _ _ (by omega) (by omega), h2 _ (by omega)]; exact c k hk
  · rw [h1 _ _ (by omega) (by omega), h2 _ (by omega)]; exact d k hk
  · rw [h1 _ _ (by omega) (by omega), h2 _ (by omega), h1 _ _ (by omega) (by omega), h2 _ (by omega), h1 _ _ (by omega) (by omega), h2 _ (by omega), h1 _ _ (by omega) (by omega), h2 _ (by omega), h1 _ _ (by omega) (by omega), h2 _ (by omega), h1 _ _ (by omega) (by omega), h2 _ (by omega)]; exact e k hk
  · rw [h1 _ _ (by omega) (by omega), h2 _ (by omega), h1 _ _ (by omega) (by omega), h2 _ (by omega)]; exact f k hk
theorem LW.of {w w1 : Nat → Int32} {nP nF nE nW nH nR : Nat} (h : LW w nP nF nE nW nH nR) (h2 : ∀ j, j < 102 → w1 j = w j) : LW w1 nP nF nE nW nH nR := by
  obtain ⟨a1, a2, a3, a4, a5, a6, b, c, d, e, f⟩ := h
  refine ⟨?_, ?_, ?_, ?_, ?_, ?_, fun k hk => ?_, fun k hk => ?_, fun k hk => ?_, fun k hk => ?_, fun k hk => ?_⟩
  · rw [h2 _ (by omega)]; exact a1
  · rw [h2 _ (by omega)]; exact a2
  · rw [h2 _ (by omega)]; exact a3
  · rw [h2 _ (by omega)]; exact a4
  · rw [h2 _ (by omega)]; exact a5
  · rw [h2 _ (by omega)]; exact a6
  · rw [h2 _ (by omega)]; exact b k hk
  · rw [h2 _ (by omega)]; exact c k hk
  · rw [h2 _ (by omega)]; exact d k hk
  · rw [h2 _ (by omega), h2 _ (by omega), h2 _ (by omega), h2 _ (by omega), h2 _ (by omega), h2 _ (by omega)]; exact e k hk
  · rw [h2 _ (by omega), h2 _ (by omega)]; exact f k hk
theorem SW.of {w w1 : Nat → Int32} {nP nF nW nH : Nat} (h : SW w nP nF nW nH) (hF : nF ≤ 10) (h2 : ∀ j, 102 ≤ j → j < 209 → w1 j = w j) : SW w1 nP nF nW nH := by
  obtain ⟨a, c, d, e, f, g⟩ := h
  refine ⟨fun k hk => ?_, fun k hk => ?_, fun k hk => ?_, fun k hk => ?_, ?_, ?_⟩
  · rw [h2 _ (by omega) (by omega)]; exact a k hk
  · rw [h2 _ (by omega) (by omega), h2 _ (by omega) (by omega)]; exact c k hk
  · rw [h2 _ (by omega) (by omega), h2 _ (by omega) (by omega), h2 _ (by omega) (by omega)]; exact d k hk
  · rw [h2 _ (by omega) (by omega)]; exact e k hk
  · rw [h2 _ (by omega) (by omega)]; exact f
  · rw [h2 _ (by omega) (by omega), h2 _ (by omega) (by omega), h2 _ (by omega) (by omega), h2 _ (by omega) (by omega), h2 _ (by omega) (by omega), h2 _ (by omega) (by omega), h2 _ (by omega) (by omega)]; exact g
/-- what is not touched stays -/
theorem QR.of (h : QR N b ln nP nF nE nW nH nR I I') (h1 : ∀ q j, q ≤ 44 → I1 q j = I q j) (h2 : ∀ j, j < 209 → I1' 206 j = I' 206 j) : QR N b ln nP nF nE nW nH nR I1 I1' :=
  ⟨h.nN, h.lw.of (fun j hj => h2 j (by omega)), h.ld.of (fun q j _ g => h1 q j (by have := h.dis; omega)) (fun j hj => h2 j (by omega)) h.bd.2.1 h.bd.2.2.1, h.st.of (fun q j _ g => h1 q j (by have := h.dis; omega)) (fun j _ hj => h2 j hj) h.bd.2.1, h.sw.of h.bd.2.1 (fun j _ hj => h2 j hj), h.dis⟩
theorem QR.set_x (h : QR N b ln nP nF nE nW nH nR I I') {i : Nat} (hi : i < nF) {v : Int32} (hv : ∃ x, x < nW ∧ v = nI x) : QR N b ln nP nF nE nW nH nR (up2 I (b + 1) i v) (up2 I' 206 (105 + i) v) := by
  have hb := h.bd
  have hd := h.dis
  refine ⟨h.nN, h.lw.of (fun j hj => u_j (by omega)), h.ld.of (fun q j _ g => by rw [u_o (by omega)]) (fun j hj => u_j (by omega)) h.bd.2.1 h.bd.2.2.1, h.st.set_x h.bd.2.1 (by omega), ?_, h.dis⟩
  obtain ⟨a, c, d, e, f, g⟩ := h.sw
  exact ⟨fun f hf => by rw [u_j (by omega)]; exact a f hf, fun f hf => by rw [u_j (by omega), u_j (by omega)]; exact c f hf, fun f hf => by
    by_cases q : f = i
    · subst q; rw [u_s, u_j (by omega), u_j (by omega)]; obtain ⟨x1, x2, x3⟩ := d f hf; exact ⟨hv, x2, x3⟩
    · rw [u_j (by omega), u_j (by omega), u_j (by omega)]; exact d f hf, fun f hf => by rw [u_j (by omega)]; exact e f hf, by rw [u_j (by omega)]; exact f, by rw [u_j (by omega), u_j (by omega), u_j (by omega), u_j (by omega), u_j (by omega), u_j (by omega), u_j (by omega)]; exact g⟩
theorem QR.set_y (h : QR N b ln nP nF nE nW nH nR I I') {i : Nat} (hi : i < nF) {v : Int32} (hv : ∃ x, x < nH ∧ v = nI x) : QR N b ln nP nF nE nW nH nR (up2 I (b + 2) i v) (up2 I' 206 (115 + i) v) := by
  have hb := h.bd
  have hd := h.dis
  refine ⟨h.nN, h.lw.of (fun j hj => u_j (by omega)), h.ld.of (fun q j _ g => by rw [u_o (by omega)]) (fun j hj => u_j (by omega)) h.bd.2.1 h.bd.2.2.1, h.st.set_y h.bd.2.1 (by omega), ?_, h.dis⟩
  obtain ⟨a, c, d, e, f, g⟩ := h.sw
  exact ⟨fun f hf => by rw [u_j (by omega)]; exact a f hf, fun f hf => by rw [u_j (by omega), u_j (by omega)]; exact c f hf, fun f hf => by
    by_cases q : f = i
    · subst q; rw [u_j (by omega), u_s, u_j (by omega)]; obtain ⟨x1, x2, x3⟩ := d f hf; exact ⟨x1, hv, x3⟩
    · rw [u_j (by omega), u_j (by omega), u_j (by omega)]; exact d f hf, fun f hf => by rw [u_j (by omega)]; exact e f hf, by rw [u_j (by omega)]; exact f, by rw [u_j (by omega), u_j (by omega), u_j (by omega), u_j (by omega), u_j (by omega), u_j (by omega), u_j (by omega)]; exact g⟩
theorem QR.set_deep (h : QR N b ln nP nF nE nW nH nR I I') {i : Nat} (hi : i < nF) {v : Int32} (hv : ∃ x, x ≤ 9 ∧ v = nI x) : QR N b ln nP nF nE nW nH nR (up2 I (b + 3) i v) (up2 I' 206 (125 + i) v) := by
  have hb := h.bd
  have hd := h.dis
  refine ⟨h.nN, h.lw.of (fun j hj => u_j (by omega)), h.ld.of (fun q j _ g => by rw [u_o (by omega)]) (fun j hj => u_j (by omega)) h.bd.2.1 h.bd.2.2.1, h.st.set_deep h.bd.2.1 (by omega), ?_, h.dis⟩
  obtain ⟨a, c, d, e, f, g⟩ := h.sw
  exact ⟨fun f hf => by rw [u_j (by omega)]; exact a f hf, fun f hf => by rw [u_j (by omega), u_j (by omega)]; exact c f hf, fun f hf => by
    by_cases q : f = i
    · subst q; rw [u_j (by omega), u_j (by omega), u_s]; obtain ⟨x1, x2, x3⟩ := d f hf; exact ⟨x1, x2, hv⟩
    · rw [u_j (by omega), u_j (by omega), u_j (by omega)]; exact d f hf, fun f hf => by rw [u_j (by omega)]; exact e f hf, by rw [u_j (by omega)]; exact f, by rw [u_j (by omega), u_j (by omega), u_j (by omega), u_j (by omega), u_j (by omega), u_j (by omega), u_j (by omega)]; exact g⟩
theorem QR.set_stat (h : QR N b ln nP nF nE nW nH nR I I') {i : Nat} (hi : i < nF) {v : Int32} (hv : ∃ x, x ≤ 3 ∧ v = nI x) (hw : v = nI 1 → ∃ x, x < nP ∧ I' 206 (145 + i) = nI x) : QR N b ln nP nF nE nW nH nR (up2 I (b + 4) i v) (up2 I' 206 (135 + i) v) := by
  have hb := h.bd
  have hd := h.dis
  refine ⟨h.nN, h.lw.of (fun j hj => u_j (by omega)), h.ld.of (fun q j _ g => by rw [u_o (by omega)]) (fun j hj => u_j (by omega)) h.bd.2.1 h.bd.2.2.1, h.st.set_st h.bd.2.1 (by omega), ?_, h.dis⟩
  obtain ⟨a, c, d, e, f, g⟩ := h.sw
  exact ⟨fun f hf => by
    by_cases q : f = i
    · subst q; rw [u_s]; exact hv
    · rw [u_j (by omega)]; exact a f hf, fun f hf => by
    by_cases q : f = i
    · subst q; rw [u_s, u_j (by omega)]; exact hw
    · rw [u_j (by omega), u_j (by omega)]; exact c f hf, fun f hf => by rw [u_j (by omega), u_j (by omega), u_j (by omega)]; exact d f hf, fun f hf => by rw [u_j (by omega)]; exact e f hf, by rw [u_j (by omega)]; exact f, by rw [u_j (by omega), u_j (by omega), u_j (by omega), u_j (by omega), u_j (by omega), u_j (by omega), u_j (by omega)]; exact g⟩
theorem QR.set_who (h : QR N b ln nP nF nE nW nH nR I I') {i : Nat} (hi : i < nF) {v : Int32} (hv : ∃ x, x < nP ∧ v = nI x) : QR N b ln nP nF nE nW nH nR (up2 I (b + 5) i v) (up2 I' 206 (145 + i) v) := by
  have hb := h.bd
  have hd := h.dis
  refine ⟨h.nN, h.lw.of (fun j hj => u_j (by omega)), h.ld.of (fun q j _ g => by rw [u_o (by omega)]) (fun j hj => u_j (by omega)) h.bd.2.1 h.bd.2.2.1, h.st.set_who h.bd.2.1 (by omega), ?_, h.dis⟩
  obtain ⟨a, c, d, e, f, g⟩ := h.sw
  exact ⟨fun f hf => by rw [u_j (by omega)]; exact a f hf, fun f hf => by
    by_cases q : f = i
    · subst q; rw [u_s]; exact fun _ => hv
    · rw [u_j (by omega), u_j (by omega)]; exact c f hf, fun f hf => by rw [u_j (by omega), u_j (by omega), u_j (by omega)]; exact d f hf, fun f hf => by rw [u_j (by omega)]; exact e f hf, by rw [u_j (by omega)]; exact f, by rw [u_j (by omega), u_j (by omega), u_j (by omega), u_j (by omega), u_j (by omega), u_j (by omega), u_j (by omega)]; exact g⟩
theorem QR.set_coin (h : QR N b ln nP nF nE nW nH nR I I') {i : Nat} (hi : i < 6) {v : Int32} : QR N b ln nP nF nE nW nH nR (up2 I (b + 6) i v) (up2 I' 206 (155 + i) v) := by
  have hb := h.bd
  have hd := h.dis
  refine ⟨h.nN, h.lw.of (fun j hj => u_j (by omega)), h.ld.of (fun q j _ g => by rw [u_o (by omega)]) (fun j hj => u_j (by omega)) h.bd.2.1 h.bd.2.2.1, h.st.set_coin h.bd.2.1 (by omega), ?_, h.dis⟩
  obtain ⟨a, c, d, e, f, g⟩ := h.sw
  exact ⟨fun f hf => by rw [u_j (by omega)]; exact a f hf, fun f hf => by rw [u_j (by omega), u_j (by omega)]; exact c f hf, fun f hf => by rw [u_j (by omega), u_j (by omega), u_j (by omega)]; exact d f hf, fun f hf => by rw [u_j (by omega)]; exact e f hf, by rw [u_j (by omega)]; exact f, by rw [u_j (by omega), u_j (by omega), u_j (by omega), u_j (by omega), u_j (by omega), u_j (by omega), u_j (by omega)]; exact g⟩
theorem QR.set_got (h : QR N b ln nP nF nE nW nH nR I I') {i : Nat} (hi : i < 6) {v : Int32} : QR N b ln nP nF nE nW nH nR (up2 I (b + 8) i v) (up2 I' 206 (167 + i) v) := by
  have hb := h.bd
  have hd := h.dis
  refine ⟨h.nN, h.lw.of (fun j hj => u_j (by omega)), h.ld.of (fun q j _ g => by rw [u_o (by omega)]) (fun j hj => u_j (by omega)) h.bd.2.1 h.bd.2.2.1, h.st.set_got h.bd.2.1 (by omega), ?_, h.dis⟩
  obtain ⟨a, c, d, e, f, g⟩ := h.sw
  exact ⟨fun f hf => by rw [u_j (by omega)]; exact a f hf, fun f hf => by rw [u_j (by omega), u_j (by omega)]; exact c f hf, fun f hf => by rw [u_j (by omega), u_j (by omega), u_j (by omega)]; exact d f hf, fun f hf => by rw [u_j (by omega)]; exact e f hf, by rw [u_j (by omega)]; exact f, by rw [u_j (by omega), u_j (by omega), u_j (by omega), u_j (by omega), u_j (by omega), u_j (by omega), u_j (by omega)]; exact g⟩
theorem QR.set_dug (h : QR N b ln nP nF nE nW nH nR I I') {i : Nat} (hi : i < 36) {v : Int32} (hv : ∃ x, x ≤ 10 ∧ v = nI x) : QR N b ln nP nF nE nW nH nR (up2 I (b + 9) i v) (up2 I' 206 (173 + i) v) := by
  have hb := h.bd
  have hd := h.dis
  refine ⟨h.nN, h.lw.of (fun j hj => u_j (by omega)), h.ld.of (fun q j _ g => by rw [u_o (by omega)]) (fun j hj => u_j (by omega)) h.bd.2.1 h.bd.2.2.1, h.st.set_dug h.bd.2.1 (by omega), ?_, h.dis⟩
  obtain ⟨a, c, d, e, f, g⟩ := h.sw
  exact ⟨fun f hf => by rw [u_j (by omega)]; exact a f hf, fun f hf => by rw [u_j (by omega), u_j (by omega)]; exact c f hf, fun f hf => by rw [u_j (by omega), u_j (by omega), u_j (by omega)]; exact d f hf, fun f hf => by
    by_cases q : f = i
    · subst q; rw [u_s]; exact hv
    · rw [u_j (by omega)]; exact e f hf, by rw [u_j (by omega)]; exact f, by rw [u_j (by omega), u_j (by omega), u_j (by omega), u_j (by omega), u_j (by omega), u_j (by omega), u_j (by omega)]; exact g⟩
theorem QR.set_night (h : QR N b ln nP nF nE nW nH nR I I') {v : Int32} (hv : ∃ x, x ≤ 400 ∧ v = nI x) : QR N b ln nP nF nE nW nH nR (up2 I b 9 v) (up2 I' 206 102 v) := by
  have hb := h.bd
  have hd := h.dis
  refine ⟨h.nN, h.lw.of (fun j hj => u_j (by omega)), h.ld.of (fun q j _ g => by rw [u_o (by omega)]) (fun j hj => u_j (by omega)) h.bd.2.1 h.bd.2.2.1, h.st.set_night h.bd.2.1, ?_, h.dis⟩
  obtain ⟨a, c, d, e, f, g⟩ := h.sw
  exact ⟨fun f hf => by rw [u_j (by omega)]; exact a f hf, fun f hf => by rw [u_j (by omega), u_j (by omega)]; exact c f hf, fun f hf => by rw [u_j (by omega), u_j (by omega), u_j (by omega)]; exact d f hf, fun f hf => by rw [u_j (by omega)]; exact e f hf, by rw [u_s]; exact hv, by rw [u_j (by omega), u_j (by omega), u_j (by omega), u_j (by omega), u_j (by omega), u_j (by omega), u_j (by omega)]; exact g⟩
theorem QR.set_ploughs (h : QR N b ln nP nF nE nW nH nR I I') {v : Int32} : QR N b ln nP nF nE nW nH nR (up2 I b 10 v) (up2 I' 206 104 v) := by
  have hb := h.bd
  have hd := h.dis
  refine ⟨h.nN, h.lw.of (fun j hj => u_j (by omega)), h.ld.of (fun q j _ g => by rw [u_o (by omega)]) (fun j hj => u_j (by omega)) h.bd.2.1 h.bd.2.2.1, h.st.set_ploughs h.bd.2.1, ?_, h.dis⟩
  obtain ⟨a, c, d, e, f, g⟩ := h.sw
  exact ⟨fun f hf => by rw [u_j (by omega)]; exact a f hf, fun f hf => by rw [u_j (by omega), u_j (by omega)]; exact c f hf, fun f hf => by rw [u_j (by omega), u_j (by omega), u_j (by omega)]; exact d f hf, fun f hf => by rw [u_j (by omega)]; exact e f hf, by rw [u_j (by omega)]; exact f, by rw [u_j (by omega), u_j (by omega), u_j (by omega), u_j (by omega), u_j (by omega), u_j (by omega), u_j (by omega)]; exact g⟩
/-- one more dug by a person -/
theorem QR.set_digs (h : QR N b ln nP nF nE nW nH nR I I') {i : Nat} (hi : i < 6) : QR N b ln nP nF nE nW nH nR (up2 I (b + 7) i (I (b + 7) i + 1)) (up2 (up2 I' 206 103 (I' 206 103 + 1)) 206 (161 + i) (I' 206 (161 + i) + 1)) := by
  have hb := h.bd
  have hd := h.dis
  have e0 : StR b nF I ((up2 I' 206 103 (I' 206 103 + 1)) 206) := ⟨fun f hf => by rw [u_j (by omega)]; exact h.x hf, fun f hf => by rw [u_j (by omega)]; exact h.y hf, fun f hf => by rw [u_j (by omega)]; exact h.deep hf, fun f hf => by rw [u_j (by omega)]; exact h.stat hf, fun f hf => by rw [u_j (by omega)]; exact h.who hf, fun f hf => by rw [u_j (by omega)]; exact h.coin hf, fun f hf => by rw [u_j (by omega)]; exact h.digs hf, fun f hf => by rw [u_j (by omega)]; exact h.got hf, fun f hf => by rw [u_j (by omega)]; exact h.dug hf, by rw [u_j (by omega)]; exact h.night, by rw [u_j (by omega)]; exact h.ploughs⟩
  rw [h.digs hi]
  refine ⟨h.nN, h.lw.of (fun j hj => by rw [u_j (by omega), u_j (by omega)]), h.ld.of (fun q j _ g => by rw [u_o (by omega)]) (fun j hj => by rw [u_j (by omega), u_j (by omega)]) h.bd.2.1 h.bd.2.2.1, e0.set_digs h.bd.2.1 (by omega), ?_, h.dis⟩
  obtain ⟨a, c, d, e, f, g⟩ := h.sw
  refine ⟨fun f hf => by rw [u_j (by omega), u_j (by omega)]; exact a f hf, fun f hf => by rw [u_j (by omega), u_j (by omega), u_j (by omega), u_j (by omega)]; exact c f hf, fun f hf => by rw [u_j (by omega), u_j (by omega), u_j (by omega), u_j (by omega), u_j (by omega), u_j (by omega)]; exact d f hf, fun f hf => by rw [u_j (by omega), u_j (by omega)]; exact e f hf, by rw [u_j (by omega), u_j (by omega)]; exact f, ?_⟩
  rw [u_j (j := 103) (by omega), u_s, g]
  have : i = 0 ∨ i = 1 ∨ i = 2 ∨ i = 3 ∨ i = 4 ∨ i = 5 := by omega
  rcases this with rfl | rfl | rfl | rfl | rfl | rfl
  all_goals
    simp [up2]
    try ac_rfl
end Q27
