/-! what holds between two turns of the law's loop -/
section TURN0
variable {S S' : Nat → Nat × Nat} {P P' : Nat → Nat → Option Nat} {a ln sp sn ss : Nat}
theorem O0.of2 (h : O0 S P a) (eS : ∀ x, x < 226 → S' x = S x) (eP : ∀ x k, x < 226 → P' x k = P x k) (ha : a + 9 < 226) : O0 S' P' a := by
  unfold O0 at h ⊢
  simp (disch := omega) only [eS, eP]
  exact h
theorem O1.of2 (h : O1 S P a) (eS : ∀ x, x < 226 → S' x = S x) (eP : ∀ x k, x < 226 → P' x k = P x k) (ha : a + 9 < 226) : O1 S' P' a := by
  unfold O1 at h ⊢
  simp (disch := omega) only [eS, eP]
  exact h
theorem O2.of2 (h : O2 S P a) (eS : ∀ x, x < 226 → S' x = S x) (eP : ∀ x k, x < 226 → P' x k = P x k) (ha : a + 9 < 226) : O2 S' P' a := by
  unfold O2 at h ⊢
  simp (disch := omega) only [eS, eP]
  exact h
theorem O5.of2 (h : O5 S P a) (eS : ∀ x, x < 226 → S' x = S x) (eP : ∀ x k, x < 226 → P' x k = P x k) (ha : a + 9 < 226) : O5 S' P' a := by
  unfold O5 at h ⊢
  simp (disch := omega) only [eS, eP]
  exact h
theorem O6.of2 (h : O6 S P a) (eS : ∀ x, x < 226 → S' x = S x) (eP : ∀ x k, x < 226 → P' x k = P x k) (ha : a + 9 < 226) : O6 S' P' a := by
  unfold O6 at h ⊢
  simp (disch := omega) only [eS, eP]
  exact h
theorem O7.of2 (h : O7 S P a) (eS : ∀ x, x < 226 → S' x = S x) (eP : ∀ x k, x < 226 → P' x k = P x k) (ha : a + 9 < 226) : O7 S' P' a := by
  unfold O7 at h ⊢
  simp (disch := omega) only [eS, eP]
  exact h
theorem O8.of2 (h : O8 S P a) (eS : ∀ x, x < 226 → S' x = S x) (eP : ∀ x k, x < 226 → P' x k = P x k) (ha : a + 9 < 226) : O8 S' P' a := by
  unfold O8 at h ⊢
  simp (disch := omega) only [eS, eP]
  exact h
theorem O9.of2 (h : O9 S P a) (eS : ∀ x, x < 226 → S' x = S x) (eP : ∀ x k, x < 226 → P' x k = P x k) (ha : a + 9 < 226) : O9 S' P' a := by
  unfold O9 at h ⊢
  simp (disch := omega) only [eS, eP]
  exact h
theorem O10.of2 (h : O10 S P a) (eS : ∀ x, x < 226 → S' x = S x) (eP : ∀ x k, x < 226 → P' x k = P x k) (ha : a + 9 < 226) : O10 S' P' a := by
  unfold O10 at h ⊢
  simp (disch := omega) only [eS, eP]
  exact h
theorem O3.of2 (h : O3 S P a) (eS : ∀ x, x < 226 → S' x = S x) (eP : ∀ x k, x < 226 → P' x k = P x k) (ha : a + 90 < 226) : O3 S' P' a := by
  obtain ⟨h1, ⟨h2, h3⟩, h4⟩ := h
  exact ⟨by rw [eS _ (by omega)]; exact h1, ⟨by rw [eP _ _ (by omega)]; exact h2, by rw [eS _ (by omega)]; exact h3⟩, fun i hi => ⟨by rw [eP _ _ (by omega)]; exact (h4 i hi).1, (h4 i hi).2.of2 eS eP (by omega)⟩⟩
theorem O4.of2 (h : O4 S P a) (eS : ∀ x, x < 226 → S' x = S x) (eP : ∀ x k, x < 226 → P' x k = P x k) (ha : a + 40 < 226) : O4 S' P' a := by
  obtain ⟨h1, ⟨h2, h3⟩, ⟨h4, h5⟩, ⟨h6, h7⟩⟩ := h
  exact ⟨by rw [eS _ (by omega)]; exact h1, ⟨by rw [eP _ _ (by omega)]; exact h2, h3.of2 eS eP (by omega)⟩, ⟨by rw [eP _ _ (by omega)]; exact h4, h5.of2 eS eP (by omega)⟩, ⟨by rw [eP _ _ (by omega)]; exact h6, h7.of2 eS eP (by omega)⟩⟩
theorem OH.of2 (h : OH S P ln sp sn ss) (eS : ∀ x, x < 226 → S' x = S x) (eP : ∀ x k, x < 226 → P' x k = P x k) (h1 : ln + 9 < 226) (h2 : sp + 9 < 226) (h3 : sn + 9 < 226) (h4 : ss + 9 < 226) : OH S' P' ln sp sn ss := by
  have e0 : ∀ k, P' 0 k = P 0 k := fun k => eP 0 k (by omega)
  exact ⟨by rw [eS _ (by omega)]; exact OH.o h, ⟨by rw [e0]; exact OH.p0 h, (OH.q0 h).of2 eS eP (by omega)⟩, ⟨by rw [e0]; exact OH.p1 h, (OH.q1 h).of2 eS eP (by omega)⟩, ⟨by rw [e0]; exact OH.p2 h, (OH.q2 h).of2 eS eP (by omega)⟩, ⟨by rw [e0]; exact OH.p3 h, (OH.q3 h).of2 eS eP (by omega)⟩, ⟨by rw [e0]; exact OH.p4 h, (OH.q4 h).of2 eS eP (by omega)⟩, ⟨by rw [e0]; exact OH.p5 h, (OH.q5 h).of2 eS eP (by omega)⟩, ⟨by rw [e0]; exact OH.p6 h, (OH.q6 h).of2 eS eP (by omega)⟩, ⟨by rw [e0]; exact OH.p7 h, (OH.q7 h).of2 eS eP (by omega)⟩, ⟨by rw [e0]; exact OH.p8 h, (OH.q8 h).of2 eS eP (by omega)⟩, ⟨by rw [e0]; exact OH.p9 h, (OH.q9 h).of2 eS eP (by omega)⟩, ⟨by rw [e0]; exact OH.p10 h, (OH.q10 h).of2 eS eP (by omega)⟩, ⟨by rw [e0]; exact OH.p11 h, (OH.q11 h).of2 eS eP (by omega)⟩, ⟨by rw [e0]; exact OH.p12 h, (OH.q12 h).of2 eS eP (by omega)⟩, ⟨by rw [e0]; exact OH.p13 h, (OH.q13 h).of2 eS eP (by omega)⟩, ⟨by rw [e0]; exact OH.p14 h, (OH.q14 h).of2 eS eP (by omega)⟩, ⟨by rw [e0]; exact OH.p15 h, by rw [eS _ (by omega)]; exact OH.s15 h⟩, ⟨by rw [e0]; exact OH.p16 h, by rw [eS _ (by omega)]; exact OH.s16 h⟩⟩
theorem OM.of2 (h : OM S P) (eS : ∀ x, x < 226 → S' x = S x) (eP : ∀ k, P' 204 k = P 204 k) : OM S' P' := by
  unfold OM at h ⊢
  simp (disch := omega) only [eS, eP]
  exact h
end TURN0
/-- between two turns: S the shapes, P the references, I and J the numbers -/
def Tn (L : Nat) (xs : Nat → Int32) (S : Nat → Nat × Nat) (P : Nat → Nat → Option Nat) (I : FI) (J : FJ) (ln sp sn ss : Nat) : Prop := OH S P ln sp sn ss ∧ OM S P ∧ Inv 2000 ln sp sn ss I J I J ∧ S oFF = (6, L) ∧ S 225 = (4, 1) ∧ ∀ j, I oFF j = xs j
/-- from here on the law comes to its end with 1, in its room -/
def Fn (B pc : Nat) (i : Int32) (μ : Mem) : Prop := ∃ μ', Go 1001 305 pc [some (.ref oFF), some (.ref 0), some (.ref 204), some (.ref 225), some (.int i), none, none, none] [] μ (some (.int 1), false, μ') ∧ mHp μ' ≤ 226 + B ∧ mSl μ' ≤ 10648 + 6 * B
/-- the turn is done: so it goes on -/
def Kn (L : Nat) (xs : Nat → Int32) (B : Nat) (i : Int32) (c : Nat × Nat) : Prop := ∀ (c1 : Nat × Nat) (S1 : Nat → Nat × Nat) (I1 : FI) (J1 : FJ) (P1 : Nat → Nat → Option Nat) (ln1 sp1 sn1 ss1 : Nat), Tn L xs S1 P1 I1 J1 ln1 sp1 sn1 ss1 → c.1 ≤ c1.1 → c1.1 ≤ c.1 + 1 → c1.2 ≤ c.2 + 6 → Fn B 1551 i (c1, S1, I1, J1, P1)
def Ix (L : Nat) (i : Int32) : Prop := in9 (i + 1) L ∧ in9 (i + 2) L ∧ in9 (i + 3) L ∧ in9 (i + 4) L ∧ in9 (i + 5) L
theorem oFF_225 : 225 ≤ oFF := Nat.le_of_ble_eq_true rfl
theorem oFF_204 : 204 ≤ oFF := Nat.le_of_ble_eq_true rfl
section TURN1
variable {L B i0 ln sp sn ss : Nat} {xs : Nat → Int32} {S : Nat → Nat × Nat} {P : Nat → Nat → Option Nat} {I : FI} {J : FJ} {c : Nat × Nat}
/-- an exception's object more: nothing of it is seen -/
theorem Tn.new (h : Tn L xs S P I J ln sp sn ss) (hc : 226 ≤ c.1 ∧ c.1 < oFF) {I1 : FI} {J1 : FJ} (hI : Inv 2000 ln sp sn ss I1 J1 I1 J1) (hx : ∀ j, I1 oFF j = xs j) : Tn L xs (fun b => if b = c.1 then (9, 0) else S b) (z2 P c.1 none) I1 J1 ln sp sn ss := by
  obtain ⟨hH, hM, hv, hS, hO, -⟩ := h
  have hl := hv.l6
  have eS : ∀ x, x < 226 → (fun b => if b = c.1 then (9, 0) else S b) x = S x := fun x hx => if_neg (by omega)
  have eP : ∀ x k, x < 226 → z2 P c.1 none x k = P x k := fun x k hx => if_neg (by omega)
  exact ⟨hH.of2 eS eP (by omega) (by omega) (by omega) (by omega), hM.of2 eS (fun k => eP _ _ (by omega)), hI, (if_neg (by omega)).trans hS, (if_neg (by omega)).trans hO, hx⟩
theorem thr_s {I : FI} {v : Int32} : Mod_thrown (up2 I 204 0 v) = v := by
  unfold Mod_thrown
  exact u_s
theorem z2_lo {α : Type} {f : Nat → Nat → α} {k : Nat} {v : α} {x j : Nat} (h : x ≠ k) : z2 f k v x j = f x j := if_neg h
end TURN1
