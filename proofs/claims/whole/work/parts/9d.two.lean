/-! both sides of each op, one after the other on one memory -/
section TWO
variable {N ln sp sn ss : Nat} {I I' I1 I1' : FI} {J J' J1 J1' : FJ}
theorem Inv.l6 (h : Inv N ln sp sn ss I J I' J') : 7 ≤ ln ∧ ln ≤ 16 ∧ 45 ≤ sn ∧ sn ≤ 50 ∧ 45 ≤ ss ∧ ss ≤ 50 ∧ (sn + 5 ≤ ss ∨ ss + 5 ≤ sn) ∧ 7 ≤ sp ∧ sp ≤ 16 ∧ (ln + 9 ≤ sp ∨ sp + 9 ≤ ln) := by
  obtain ⟨nP, nF, nE, nW, nH, nR, hp⟩ := h
  exact hp.l6
theorem Inv.fr (h : Inv N ln sp sn ss I J I' J') (a1 : ∀ x j, x < 204 → I1 x j = I x j) (a2 : ∀ x j, 204 ≤ x → x < 225 → I1' x j = I' x j) (a3 : ∀ x j, x < 204 → J1 x j = J x j) (a4 : ∀ x j, 204 ≤ x → x < 225 → J1' x j = J' x j) : Inv N ln sp sn ss I1 J1 I1' J1' := by
  have hl := h.l6
  obtain ⟨nP, nF, nE, nW, nH, nR, hp⟩ := h
  refine ⟨nP, nF, nE, nW, nH, nR, hp.keep (fun x j w => a1 x j ?_) (fun x j w => a2 x j ?_ ?_) (fun x j w => a3 x j (by omega)) (fun x j w => a4 x j (by omega) (by omega))⟩
  · unfold KI at w; omega
  · unfold KM at w; omega
  · unfold KM at w; omega
theorem q_lo {x j : Nat} {v : Int32} (h : x < 204) : up2 I 204 0 v x j = I x j := up2_ff (by omega)
theorem q_hi {x j : Nat} {v : Int32} (h : 225 ≤ x) : up2 I 204 0 v x j = I x j := up2_ff (by omega)
theorem two_person (h : Inv N ln sp sn ss I J I J) (l1 l2 : Int32) : ∃ v, Hol_person N ln sp sn ss l1 l2 I = some v ∧ Mod_person N l1 l2 I = some (v, up2 I 204 0 0) ∧ Inv N ln sp sn ss (up2 I 204 0 0) J (up2 I 204 0 0) J := by
  obtain ⟨v, k1, k2, w⟩ := inv_person h l1 l2
  exact ⟨v, k1, k2, w.both (fun x j hx => q_lo hx) (fun _ _ _ => rfl)⟩
theorem two_cell (h : Inv N ln sp sn ss I J I J) (l1 l2 l3 : Int32) : ∃ v, Hol_cell N ln sp sn ss l1 l2 l3 I = some v ∧ Mod_cell N l1 l2 l3 I = some (v, up2 I 204 0 0) ∧ Inv N ln sp sn ss (up2 I 204 0 0) J (up2 I 204 0 0) J := by
  obtain ⟨v, k1, k2, w⟩ := inv_cell h l1 l2 l3
  exact ⟨v, k1, k2, w.both (fun x j hx => q_lo hx) (fun _ _ _ => rfl)⟩
theorem two_now (h : Inv N ln sp sn ss I J I J) (l1 : Int32) : ∃ v, Hol_now N ln sp sn ss l1 I = some v ∧ Mod_now N l1 I = some (v, up2 I 204 0 0) ∧ Inv N ln sp sn ss (up2 I 204 0 0) J (up2 I 204 0 0) J := by
  obtain ⟨v, k1, k2, w⟩ := inv_now h l1
  exact ⟨v, k1, k2, w.both (fun x j hx => q_lo hx) (fun _ _ _ => rfl)⟩
theorem two_fear (h : Inv N ln sp sn ss I J I J) (l1 l2 : Int32) : ∃ v, Hol_fear ln sp sn ss l1 l2 I = some v ∧ Mod_fear l1 l2 I = some (v, up2 I 204 0 0) ∧ Inv N ln sp sn ss (up2 I 204 0 0) J (up2 I 204 0 0) J := by
  obtain ⟨v, k1, k2, w⟩ := inv_fear h l1 l2
  exact ⟨v, k1, k2, w.both (fun x j hx => q_lo hx) (fun _ _ _ => rfl)⟩
theorem two_spread (h : Inv N ln sp sn ss I J I J) : ∃ v, Hol_spread N ln sp sn ss I = some v ∧ Mod_spread N I = some (v, up2 I 204 0 0) ∧ Inv N ln sp sn ss (up2 I 204 0 0) J (up2 I 204 0 0) J := by
  obtain ⟨v, k1, k2, w⟩ := inv_spread h
  exact ⟨v, k1, k2, w.both (fun x j hx => q_lo hx) (fun _ _ _ => rfl)⟩
theorem two_fears (h : Inv N ln sp sn ss I J I J) : ∃ v, Hol_fears N ln sp sn ss I = some v ∧ Mod_fears N I = some (v, up2 I 204 0 0) ∧ Inv N ln sp sn ss (up2 I 204 0 0) J (up2 I 204 0 0) J := by
  obtain ⟨v, k1, k2, w⟩ := inv_fears h
  exact ⟨v, k1, k2, w.both (fun x j hx => q_lo hx) (fun _ _ _ => rfl)⟩
theorem two_told (h : Inv N ln sp sn ss I J I J) (l1 : Int32) : ∃ v, Hol_told ln sp sn ss l1 I = some v ∧ Mod_told l1 I = some (v, up2 I 204 0 0) ∧ Inv N ln sp sn ss (up2 I 204 0 0) J (up2 I 204 0 0) J := by
  obtain ⟨v, k1, k2, w⟩ := inv_told h l1
  exact ⟨v, k1, k2, w.both (fun x j hx => q_lo hx) (fun _ _ _ => rfl)⟩
theorem two_byteAt (h : Inv N ln sp sn ss I J I J) (l1 : Int32) : ∃ v, Hol_byteAt ln sp sn ss l1 I = some v ∧ Mod_byteAt l1 I = some (v, up2 I 204 0 0) ∧ Inv N ln sp sn ss (up2 I 204 0 0) J (up2 I 204 0 0) J := by
  obtain ⟨v, k1, k2, w⟩ := inv_byteAt h l1
  exact ⟨v, k1, k2, w.both (fun x j hx => q_lo hx) (fun _ _ _ => rfl)⟩
theorem two_routeAt (h : Inv N ln sp sn ss I J I J) (l1 : Int32) : ∃ v, Hol_routeAt ln sp sn ss l1 I = some v ∧ Mod_routeAt l1 I = some (v, up2 I 204 0 0) ∧ Inv N ln sp sn ss (up2 I 204 0 0) J (up2 I 204 0 0) J := by
  obtain ⟨v, k1, k2, w⟩ := inv_routeAt h l1
  exact ⟨v, k1, k2, w.both (fun x j hx => q_lo hx) (fun _ _ _ => rfl)⟩
theorem two_early (h : Inv N ln sp sn ss I J I J) : ∃ v, Hol_early ln sp sn ss I = v ∧ Mod_early I = some (v, up2 I 204 0 0) ∧ Inv N ln sp sn ss (up2 I 204 0 0) J (up2 I 204 0 0) J := by
  obtain ⟨k2, w⟩ := inv_early h
  exact ⟨_, rfl, k2, w.both (fun x j hx => q_lo hx) (fun _ _ _ => rfl)⟩
theorem two_parted (h : Inv N ln sp sn ss I J I J) : ∃ v, Hol_parted ln sp sn ss I = v ∧ Mod_parted I = some (v, up2 I 204 0 0) ∧ Inv N ln sp sn ss (up2 I 204 0 0) J (up2 I 204 0 0) J := by
  obtain ⟨k2, w⟩ := inv_parted h
  exact ⟨_, rfl, k2, w.both (fun x j hx => q_lo hx) (fun _ _ _ => rfl)⟩
theorem two_fault (h : Inv N ln sp sn ss I J I J) : ∃ v, Hol_fault ln sp sn ss I = v ∧ Mod_fault I = some (v, up2 I 204 0 0) ∧ Inv N ln sp sn ss (up2 I 204 0 0) J (up2 I 204 0 0) J := by
  obtain ⟨k2, w⟩ := inv_fault h
  exact ⟨_, rfl, k2, w.both (fun x j hx => q_lo hx) (fun _ _ _ => rfl)⟩
theorem two_count (h : Inv N ln sp sn ss I J I J) (l1 : Int32) : ∃ v, Hol_count ln sp sn ss l1 I = v ∧ Mod_count l1 I = some (v, up2 I 204 0 0) ∧ Inv N ln sp sn ss (up2 I 204 0 0) J (up2 I 204 0 0) J := by
  obtain ⟨k2, w⟩ := inv_count h l1
  exact ⟨_, rfl, k2, w.both (fun x j hx => q_lo hx) (fun _ _ _ => rfl)⟩
theorem two_reading (h : Inv N ln sp sn ss I J I J) : ∃ v J1 J2, Hol_reading N ln sp sn ss I J = some (v, J1) ∧ Mod_reading N I J1 = some (v, up2 I 204 0 0, J2) ∧ Inv N ln sp sn ss (up2 I 204 0 0) J2 (up2 I 204 0 0) J2 := by
  have hl := h.l6
  obtain ⟨v, J1, J1', k1, k2, w⟩ := inv_reading h
  have m1 : ∀ x j, 204 ≤ x → J1 x j = J x j := fun x j hx => fj_Hol_reading (by omega) (by omega) k1
  obtain ⟨v2, J1b, J2, k3, k4, w2⟩ := inv_reading (h.book (I1 := I) (J1 := J1) (fun _ _ _ => rfl) m1)
  cases k1.symm.trans k3
  exact ⟨v, J1, J2, k1, k4, w2.both (fun x j hx => q_lo hx) (fun x j hx => fj_Mod_reading (by omega) k4)⟩
theorem two_asks (h : Inv N ln sp sn ss I J I J) : ∃ v J1 J2, Hol_asks N ln sp sn ss I J = some (v, J1) ∧ Mod_asks N I J1 = some (v, up2 I 204 0 0, J2) ∧ Inv N ln sp sn ss (up2 I 204 0 0) J2 (up2 I 204 0 0) J2 := by
  have hl := h.l6
  obtain ⟨v, J1, J1', k1, k2, w⟩ := inv_asks h
  have m1 : ∀ x j, 204 ≤ x → J1 x j = J x j := fun x j hx => fj_Hol_asks (by omega) (by omega) k1
  obtain ⟨v2, J1b, J2, k3, k4, w2⟩ := inv_asks (h.book (I1 := I) (J1 := J1) (fun _ _ _ => rfl) m1)
  cases k1.symm.trans k3
  exact ⟨v, J1, J2, k1, k4, w2.both (fun x j hx => q_lo hx) (fun x j hx => fj_Mod_asks (by omega) k4)⟩
theorem two_best (h : Inv N ln sp sn ss I J I J) (l1 : Int32) : ∃ v J1 J2, Hol_best N ln sp sn ss l1 I J = some (v, J1) ∧ Mod_best N l1 I J1 = some (v, up2 I 204 0 0, J2) ∧ Inv N ln sp sn ss (up2 I 204 0 0) J2 (up2 I 204 0 0) J2 := by
  have hl := h.l6
  obtain ⟨v, J1, J1', k1, k2, w⟩ := inv_best h l1
  have m1 : ∀ x j, 204 ≤ x → J1 x j = J x j := fun x j hx => fj_Hol_best (by omega) (by omega) k1
  obtain ⟨v2, J1b, J2, k3, k4, w2⟩ := inv_best (h.book (I1 := I) (J1 := J1) (fun _ _ _ => rfl) m1) l1
  cases k1.symm.trans k3
  exact ⟨v, J1, J2, k1, k4, w2.both (fun x j hx => q_lo hx) (fun x j hx => fj_Mod_best (by omega) k4)⟩
theorem two_tell (h : Inv N ln sp sn ss I J I J) (l1 : Int32) : ∃ v I1 I2, Hol_tell ln sp sn ss l1 I = some (v, I1) ∧ Mod_tell N l1 I1 = some (v, I2) ∧ Inv N ln sp sn ss I2 J I2 J ∧ (∀ x j, 204 ≤ x → I1 x j = I x j) ∧ (∀ x j, 225 ≤ x → I2 x j = I x j) := by
  have hl := h.l6
  obtain ⟨v, I1, I1', k1, k2, w⟩ := inv_tell h l1
  have n1 : ∀ x j, 204 ≤ x → I1 x j = I x j := fun x j hx => fr_Hol_tell (by omega) (by omega) (by omega) (by omega) k1
  obtain ⟨v2, I1b, I2, k3, k4, w2⟩ := inv_tell (h.book (I1 := I1) (J1 := J) n1 (fun _ _ _ => rfl)) l1
  cases k1.symm.trans k3
  have n2 : ∀ x j, x < 204 ∨ 225 ≤ x → I2 x j = I1 x j := fun x j hx => fr_Mod_tell (by omega) (by omega) (by omega) (by omega) k4
  exact ⟨v, I1, I2, k1, k4, w2.both (fun x j hx => n2 x j (Or.inl hx)) (fun _ _ _ => rfl), n1, fun x j hx => (n2 x j (Or.inr hx)).trans (n1 x j (by omega))⟩
theorem two_sell (h : Inv N ln sp sn ss I J I J) (l1 : Int32) : ∃ v I1 I2, Hol_sell ln sp sn ss l1 I = some (v, I1) ∧ Mod_sell N l1 I1 = some (v, I2) ∧ Inv N ln sp sn ss I2 J I2 J ∧ (∀ x j, 204 ≤ x → I1 x j = I x j) ∧ (∀ x j, 225 ≤ x → I2 x j = I x j) := by
  have hl := h.l6
  obtain ⟨v, I1, I1', k1, k2, w⟩ := inv_sell h l1
  have n1 : ∀ x j, 204 ≤ x → I1 x j = I x j := fun x j hx => fr_Hol_sell (by omega) (by omega) (by omega) (by omega) (by omega) k1
  obtain ⟨v2, I1b, I2, k3, k4, w2⟩ := inv_sell (h.book (I1 := I1) (J1 := J) n1 (fun _ _ _ => rfl)) l1
  cases k1.symm.trans k3
  have n2 : ∀ x j, x < 204 ∨ 225 ≤ x → I2 x j = I1 x j := fun x j hx => fr_Mod_sell (by omega) (by omega) (by omega) (by omega) k4
  exact ⟨v, I1, I2, k1, k4, w2.both (fun x j hx => n2 x j (Or.inl hx)) (fun _ _ _ => rfl), n1, fun x j hx => (n2 x j (Or.inr hx)).trans (n1 x j (by omega))⟩
theorem two_lay (h : Inv N ln sp sn ss I J I J) (l1 l2 l3 : Int32) : ∃ v I1 I2, Hol_lay ln sp sn ss l1 l2 l3 I = some (v, I1) ∧ Mod_lay N l1 l2 l3 I1 = some (v, I2) ∧ Inv N ln sp sn ss I2 J I2 J ∧ (∀ x j, 204 ≤ x → I1 x j = I x j) ∧ (∀ x j, 225 ≤ x → I2 x j = I x j) := by
  have hl := h.l6
  obtain ⟨v, I1, I1', k1, k2, w⟩ := inv_lay h l1 l2 l3
  have n1 : ∀ x j, 204 ≤ x → I1 x j = I x j := fun x j hx => fr_Hol_lay (by omega) (by omega) (by omega) (by omega) (by omega) (by omega) (by omega) k1
  obtain ⟨v2, I1b, I2, k3, k4, w2⟩ := inv_lay (h.book (I1 := I1) (J1 := J) n1 (fun _ _ _ => rfl)) l1 l2 l3
  cases k1.symm.trans k3
  have n2 : ∀ x j, x < 204 ∨ 225 ≤ x → I2 x j = I1 x j := fun x j hx => fr_Mod_lay (by omega) (by omega) (by omega) (by omega) k4
  exact ⟨v, I1, I2, k1, k4, w2.both (fun x j hx => n2 x j (Or.inl hx)) (fun _ _ _ => rfl), n1, fun x j hx => (n2 x j (Or.inr hx)).trans (n1 x j (by omega))⟩
theorem two_give (h : Inv N ln sp sn ss I J I J) (l1 l2 : Int32) : ∃ v I1 I2, Hol_give ln sp sn ss l1 l2 I = some (v, I1) ∧ Mod_give N l1 l2 I1 = some (v, I2) ∧ Inv N ln sp sn ss I2 J I2 J ∧ (∀ x j, 204 ≤ x → I1 x j = I x j) ∧ (∀ x j, 225 ≤ x → I2 x j = I x j) := by
  have hl := h.l6
  obtain ⟨v, I1, I1', k1, k2, w⟩ := inv_give h l1 l2
  have n1 : ∀ x j, 204 ≤ x → I1 x j = I x j := fun x j hx => fr_Hol_give (by omega) (by omega) (by omega) (by omega) k1
  obtain ⟨v2, I1b, I2, k3, k4, w2⟩ := inv_give (h.book (I1 := I1) (J1 := J) n1 (fun _ _ _ => rfl)) l1 l2
  cases k1.symm.trans k3
  have n2 : ∀ x j, x < 204 ∨ 225 ≤ x → I2 x j = I1 x j := fun x j hx => fr_Mod_give (by omega) (by omega) (by omega) (by omega) k4
  exact ⟨v, I1, I2, k1, k4, w2.both (fun x j hx => n2 x j (Or.inl hx)) (fun _ _ _ => rfl), n1, fun x j hx => (n2 x j (Or.inr hx)).trans (n1 x j (by omega))⟩
theorem two_dig (h : Inv N ln sp sn ss I J I J) (l1 l2 l3 : Int32) : ∃ v I1 I2, Hol_dig N ln sp sn ss l1 l2 l3 I = some (v, I1) ∧ Mod_dig N l1 l2 l3 I1 = some (v, I2) ∧ Inv N ln sp sn ss I2 J I2 J ∧ (∀ x j, 204 ≤ x → I1 x j = I x j) ∧ (∀ x j, 225 ≤ x → I2 x j = I x j) := by
  have hl := h.l6
  obtain ⟨v, I1, I1', k1, k2, w⟩ := inv_dig h l1 l2 l3
  have n1 : ∀ x j, 204 ≤ x → I1 x j = I x j := fun x j hx => fr_Hol_dig (by omega) (by omega) (by omega) (by omega) (by omega) (by omega) (by omega) (by omega) k1
  obtain ⟨v2, I1b, I2, k3, k4, w2⟩ := inv_dig (h.book (I1 := I1) (J1 := J) n1 (fun _ _ _ => rfl)) l1 l2 l3
  cases k1.symm.trans k3
  have n2 : ∀ x j, x < 204 ∨ 225 ≤ x → I2 x j = I1 x j := fun x j hx => fr_Mod_dig (by omega) (by omega) (by omega) (by omega) k4
  exact ⟨v, I1, I2, k1, k4, w2.both (fun x j hx => n2 x j (Or.inl hx)) (fun _ _ _ => rfl), n1, fun x j hx => (n2 x j (Or.inr hx)).trans (n1 x j (by omega))⟩
theorem two_plough (h : Inv N ln sp sn ss I J I J) (l1 : Int32) : ∃ v I1 I2, Hol_plough N ln sp sn ss l1 I = some (v, I1) ∧ Mod_plough N l1 I1 = some (v, I2) ∧ Inv N ln sp sn ss I2 J I2 J ∧ (∀ x j, 204 ≤ x → I1 x j = I x j) ∧ (∀ x j, 225 ≤ x → I2 x j = I x j) := by
  have hl := h.l6
  obtain ⟨v, I1, I1', k1, k2, w⟩ := inv_plough h l1
  have n1 : ∀ x j, 204 ≤ x → I1 x j = I x j := fun x j hx => fr_Hol_plough (by omega) (by omega) (by omega) (by omega) (by omega) (by omega) (by omega) (by omega) (by omega) k1
  obtain ⟨v2, I1b, I2, k3, k4, w2⟩ := inv_plough (h.book (I1 := I1) (J1 := J) n1 (fun _ _ _ => rfl)) l1
  cases k1.symm.trans k3
  have n2 : ∀ x j, x < 204 ∨ 225 ≤ x → I2 x j = I1 x j := fun x j hx => fr_Mod_plough (by omega) (by omega) (by omega) (by omega) (by omega) k4
  exact ⟨v, I1, I2, k1, k4, w2.both (fun x j hx => n2 x j (Or.inl hx)) (fun _ _ _ => rfl), n1, fun x j hx => (n2 x j (Or.inr hx)).trans (n1 x j (by omega))⟩
theorem two_nights (h : Inv N ln sp sn ss I J I J) (l1 l2 : Int32) : ∃ v I1 I2, Hol_nights N ln sp sn ss l1 l2 I = some (v, I1) ∧ Mod_nights N l1 l2 I1 = some (v, I2) ∧ Inv N ln sp sn ss I2 J I2 J ∧ (∀ x j, 204 ≤ x → I1 x j = I x j) ∧ (∀ x j, 225 ≤ x → I2 x j = I x j) := by
  have hl := h.l6
  obtain ⟨v, I1, I1', k1, k2, w⟩ := inv_nights h l1 l2
  have n1 : ∀ x j, 204 ≤ x → I1 x j = I x j := fun x j hx => fr_Hol_nights (by omega) (by omega) (by omega) (by omega) (by omega) (by omega) (by omega) (by omega) (by omega) (by omega) (by omega) k1
  obtain ⟨v2, I1b, I2, k3, k4, w2⟩ := inv_nights (h.book (I1 := I1) (J1 := J) n1 (fun _ _ _ => rfl)) l1 l2
  cases k1.symm.trans k3
  have n2 : ∀ x j, x < 204 ∨ 225 ≤ x → I2 x j = I1 x j := fun x j hx => fr_Mod_nights (by omega) (by omega) (by omega) (by omega) (by omega) k4
  exact ⟨v, I1, I2, k1, k4, w2.both (fun x j hx => n2 x j (Or.inl hx)) (fun _ _ _ => rfl), n1, fun x j hx => (n2 x j (Or.inr hx)).trans (n1 x j (by omega))⟩
theorem two_undo (h : Inv N ln sp sn ss I J I J) : ∃ v I1 I2, Hol_undo ln sp sn ss I = some (v, I1) ∧ Mod_undo N I1 = some (v, I2) ∧ Inv N ln sp sn ss I2 J I2 J ∧ (∀ x j, 204 ≤ x → I1 x j = I x j) ∧ (∀ x j, 225 ≤ x → I2 x j = I x j) := by
  have hl := h.l6
  obtain ⟨v, I1, I1', k1, k2, w⟩ := inv_undo h
  have n1 : ∀ x j, 204 ≤ x → I1 x j = I x j := fun x j hx => fr_Hol_undo (by omega) (by omega) (by omega) (by omega) (by omega) (by omega) (by omega) (by omega) (by omega) (by omega) (by omega) (by omega) k1
  obtain ⟨v2, I1b, I2, k3, k4, w2⟩ := inv_undo (h.book (I1 := I1) (J1 := J) n1 (fun _ _ _ => rfl))
  cases k1.symm.trans k3
  have n2 : ∀ x j, x < 204 ∨ 225 ≤ x → I2 x j = I1 x j := fun x j hx => fr_Mod_undo (by omega) (by omega) (by omega) k4
  exact ⟨v, I1, I2, k1, k4, w2.both (fun x j hx => n2 x j (Or.inl hx)) (fun _ _ _ => rfl), n1, fun x j hx => (n2 x j (Or.inr hx)).trans (n1 x j (by omega))⟩
theorem two_odds (h : Inv N ln sp sn ss I J I J) (l1 l2 l3 : Int32) : ∃ v I1 I2, Hol_odds N ln sp sn ss l1 l2 l3 I = some (v, I1) ∧ Mod_odds N l1 l2 l3 I1 = some (v, I2) ∧ Inv N ln sp sn ss I2 J I2 J ∧ (∀ x j, 204 ≤ x → I1 x j = I x j) ∧ (∀ x j, 225 ≤ x → I2 x j = I x j) := by
  have hl := h.l6
  obtain ⟨v, I1, I1', k1, k2, w⟩ := inv_odds h l1 l2 l3
  have n1 : ∀ x j, 204 ≤ x → I1 x j = I x j := fun x j hx => fr_Hol_odds (by omega) (by omega) (by omega) (by omega) (by omega) (by omega) (by omega) (by omega) (by omega) (by omega) (by omega) (by omega) k1
  obtain ⟨v2, I1b, I2, k3, k4, w2⟩ := inv_odds (h.book (I1 := I1) (J1 := J) n1 (fun _ _ _ => rfl)) l1 l2 l3
  cases k1.symm.trans k3
  have n2 : ∀ x j, x < 204 ∨ 225 ≤ x → I2 x j = I1 x j := fun x j hx => fr_Mod_odds (by omega) (by omega) (by omega) (by omega) k4
  exact ⟨v, I1, I2, k1, k4, w2.both (fun x j hx => n2 x j (Or.inl hx)) (fun _ _ _ => rfl), n1, fun x j hx => (n2 x j (Or.inr hx)).trans (n1 x j (by omega))⟩
theorem two_doubt (h : Inv N ln sp sn ss I J I J) (l1 l2 l3 l4 : Int32) : ∃ v I1 I2, Hol_doubt N ln sp sn ss l1 l2 l3 l4 I = some (v, I1) ∧ Mod_doubt N l1 l2 l3 l4 I1 = some (v, I2) ∧ Inv N ln sp sn ss I2 J I2 J ∧ (∀ x j, 204 ≤ x → I1 x j = I x j) ∧ (∀ x j, 225 ≤ x → I2 x j = I x j) := by
  have hl := h.l6
  obtain ⟨v, I1, I1', k1, k2, w⟩ := inv_doubt h l1 l2 l3 l4
  have n1 : ∀ x j, 204 ≤ x → I1 x j = I x j := fun x j hx => fr_Hol_doubt (by omega) (by omega) (by omega) (by omega) (by omega) (by omega) (by omega) (by omega) (by omega) (by omega) (by omega) (by omega) k1
  obtain ⟨v2, I1b, I2, k3, k4, w2⟩ := inv_doubt (h.book (I1 := I1) (J1 := J) n1 (fun _ _ _ => rfl)) l1 l2 l3 l4
  cases k1.symm.trans k3
  have n2 : ∀ x j, x < 204 ∨ 225 ≤ x → I2 x j = I1 x j := fun x j hx => fr_Mod_doubt (by omega) (by omega) (by omega) (by omega) k4
  exact ⟨v, I1, I2, k1, k4, w2.both (fun x j hx => n2 x j (Or.inl hx)) (fun _ _ _ => rfl), n1, fun x j hx => (n2 x j (Or.inr hx)).trans (n1 x j (by omega))⟩
theorem two_pots (h : Inv N ln sp sn ss I J I J) : ∃ v I1 I2, Hol_pots N ln sp sn ss I = some (v, I1) ∧ Mod_pots N I1 = some (v, I2) ∧ Inv N ln sp sn ss I2 J I2 J ∧ (∀ x j, 204 ≤ x → I1 x j = I x j) ∧ (∀ x j, 225 ≤ x → I2 x j = I x j) := by
  have hl := h.l6
  obtain ⟨v, I1, I1', k1, k2, w⟩ := inv_pots h
  have n1 : ∀ x j, 204 ≤ x → I1 x j = I x j := fun x j hx => fr_Hol_pots (by omega) (by omega) k1
  obtain ⟨v2, I1b, I2, k3, k4, w2⟩ := inv_pots (h.book (I1 := I1) (J1 := J) n1 (fun _ _ _ => rfl))
  cases k1.symm.trans k3
  have n2 : ∀ x j, x < 204 ∨ 225 ≤ x → I2 x j = I1 x j := fun x j hx => fr_Mod_pots (by omega) (by omega) (by omega) k4
  exact ⟨v, I1, I2, k1, k4, w2.both (fun x j hx => n2 x j (Or.inl hx)) (fun _ _ _ => rfl), n1, fun x j hx => (n2 x j (Or.inr hx)).trans (n1 x j (by omega))⟩
theorem two_parts (h : Inv N ln sp sn ss I J I J) : ∃ v I1 I2, Hol_parts N ln sp sn ss I = some (v, I1) ∧ Mod_parts N I1 = some (v, I2) ∧ Inv N ln sp sn ss I2 J I2 J ∧ (∀ x j, 204 ≤ x → I1 x j = I x j) ∧ (∀ x j, 225 ≤ x → I2 x j = I x j) := by
  have hl := h.l6
  obtain ⟨v, I1, I1', k1, k2, w⟩ := inv_parts h
  have n1 : ∀ x j, 204 ≤ x → I1 x j = I x j := fun x j hx => fr_Hol_parts (by omega) k1
  obtain ⟨v2, I1b, I2, k3, k4, w2⟩ := inv_parts (h.book (I1 := I1) (J1 := J) n1 (fun _ _ _ => rfl))
  cases k1.symm.trans k3
  have n2 : ∀ x j, x < 204 ∨ 225 ≤ x → I2 x j = I1 x j := fun x j hx => fr_Mod_parts (by omega) (by omega) k4
  exact ⟨v, I1, I2, k1, k4, w2.both (fun x j hx => n2 x j (Or.inl hx)) (fun _ _ _ => rfl), n1, fun x j hx => (n2 x j (Or.inr hx)).trans (n1 x j (by omega))⟩
theorem two_route (h : Inv N ln sp sn ss I J I J) (l1 l2 l3 : Int32) : ∃ v I1 I2, Hol_route N ln sp sn ss l1 l2 l3 I = some (v, I1) ∧ Mod_route N l1 l2 l3 I1 = some (v, I2) ∧ Inv N ln sp sn ss I2 J I2 J ∧ (∀ x j, 204 ≤ x → I1 x j = I x j) ∧ (∀ x j, 225 ≤ x → I2 x j = I x j) := by
  have hl := h.l6
  obtain ⟨v, I1, I1', k1, k2, w⟩ := inv_route h l1 l2 l3
  have n1 : ∀ x j, 204 ≤ x → I1 x j = I x j := fun x j hx => fr_Hol_route (by omega) (by omega) (by omega) (by omega) (by omega) (by omega) (by omega) k1
  obtain ⟨v2, I1b, I2, k3, k4, w2⟩ := inv_route (h.book (I1 := I1) (J1 := J) n1 (fun _ _ _ => rfl)) l1 l2 l3
  cases k1.symm.trans k3
  have n2 : ∀ x j, x < 204 ∨ 225 ≤ x → I2 x j = I1 x j := fun x j hx => fr_Mod_route (by omega) (by omega) (by omega) (by omega) (by omega) (by omega) k4
  exact ⟨v, I1, I2, k1, k4, w2.both (fun x j hx => n2 x j (Or.inl hx)) (fun _ _ _ => rfl), n1, fun x j hx => (n2 x j (Or.inr hx)).trans (n1 x j (by omega))⟩
theorem two_feed (h : Inv N ln sp sn ss I J I J) (l1 l2 l3 l4 l5 : Int32) : ∃ v I1 I2, Hol_feed N ln sp sn ss l1 l2 l3 l4 l5 I = some (v, I1) ∧ Mod_feed N l1 l2 l3 l4 l5 I1 = some (v, I2) ∧ Inv N ln sp sn ss I2 J I2 J ∧ (∀ x j, 204 ≤ x → I1 x j = I x j) ∧ (∀ x j, 225 ≤ x → I2 x j = I x j) := by
  have hl := h.l6
  obtain ⟨v, I1, I1', k1, k2, w⟩ := inv_feed h l1 l2 l3 l4 l5
  have n1 : ∀ x j, 204 ≤ x → I1 x j = I x j := fun x j hx => fr_Hol_feed (by omega) (by omega) k1
  obtain ⟨v2, I1b, I2, k3, k4, w2⟩ := inv_feed (h.book (I1 := I1) (J1 := J) n1 (fun _ _ _ => rfl)) l1 l2 l3 l4 l5
  cases k1.symm.trans k3
  have n2 : ∀ x j, x < 204 ∨ 225 ≤ x → I2 x j = I1 x j := fun x j hx => fr_Mod_feed (by omega) (by omega) (by omega) k4
  exact ⟨v, I1, I2, k1, k4, w2.both (fun x j hx => n2 x j (Or.inl hx)) (fun _ _ _ => rfl), n1, fun x j hx => (n2 x j (Or.inr hx)).trans (n1 x j (by omega))⟩
theorem two_end (h : Inv N ln sp sn ss I J I J) (l1 : Int32) : ∃ v I1 I2, Hol_end ln sp sn ss l1 I = some (v, I1) ∧ Mod_end l1 I1 = some (v, I2) ∧ Inv N ln sp sn ss I2 J I2 J ∧ (∀ x j, 204 ≤ x → I1 x j = I x j) ∧ (∀ x j, 225 ≤ x → I2 x j = I x j) := by
  have hl := h.l6
  obtain ⟨v, I1, I1', k1, k2, w⟩ := inv_end h l1
  have n1 : ∀ x j, 204 ≤ x → I1 x j = I x j := fun x j hx => fr_Hol_end (by omega) k1
  obtain ⟨v2, I1b, I2, k3, k4, w2⟩ := inv_end (h.book (I1 := I1) (J1 := J) n1 (fun _ _ _ => rfl)) l1
  cases k1.symm.trans k3
  have n2 : ∀ x j, x < 204 ∨ 225 ≤ x → I2 x j = I1 x j := fun x j hx => fr_Mod_end (by omega) (by omega) k4
  exact ⟨v, I1, I2, k1, k4, w2.both (fun x j hx => n2 x j (Or.inl hx)) (fun _ _ _ => rfl), n1, fun x j hx => (n2 x j (Or.inr hx)).trans (n1 x j (by omega))⟩
theorem two_label (h : Inv N ln sp sn ss I J I J) (l1 : Int32) : ∃ v I1 I2, Hol_label N ln sp sn ss l1 I J = some (v, I1) ∧ Mod_label N l1 I1 J = some (v, I2) ∧ Inv N ln sp sn ss I2 J I2 J ∧ (∀ x j, 204 ≤ x → I1 x j = I x j) ∧ (∀ x j, 225 ≤ x → I2 x j = I x j) := by
  have hl := h.l6
  obtain ⟨v, I1, I1', k1, k2, w⟩ := inv_label h l1
  have n1 : ∀ x j, 204 ≤ x → I1 x j = I x j := fun x j hx => fr_Hol_label (by omega) (by omega) k1
  obtain ⟨v2, I1b, I2, k3, k4, w2⟩ := inv_label (h.book (I1 := I1) (J1 := J) n1 (fun _ _ _ => rfl)) l1
  cases k1.symm.trans k3
  have n2 : ∀ x j, x < 204 ∨ 225 ≤ x → I2 x j = I1 x j := fun x j hx => fr_Mod_label (by omega) (by omega) (by omega) k4
  exact ⟨v, I1, I2, k1, k4, w2.both (fun x j hx => n2 x j (Or.inl hx)) (fun _ _ _ => rfl), n1, fun x j hx => (n2 x j (Or.inr hx)).trans (n1 x j (by omega))⟩
theorem two_said (h : Inv N ln sp sn ss I J I J) (l1 : Int32) : ∃ v I1, Hol_said N ln sp sn ss l1 I = some (v, I1) ∧ Mod_said N l1 I1 = some (v, up2 I1 204 0 0) ∧ Inv N ln sp sn ss (up2 I1 204 0 0) J (up2 I1 204 0 0) J ∧ (∀ x j, 204 ≤ x → I1 x j = I x j) ∧ (∀ x j, 225 ≤ x → up2 I1 204 0 0 x j = I x j) := by
  have hl := h.l6
  obtain ⟨v, I1, k1, k2, w⟩ := inv_said h l1
  have n1 : ∀ x j, 204 ≤ x → I1 x j = I x j := fun x j hx => fr_Hol_said (by omega) k1
  obtain ⟨v2, I1b, k3, k4, w2⟩ := inv_said (h.book (I1 := I1) (J1 := J) n1 (fun _ _ _ => rfl)) l1
  cases k1.symm.trans k3
  exact ⟨v, I1, k1, k4, w2.both (fun x j hx => q_lo hx) (fun _ _ _ => rfl), n1, fun x j hx => (q_hi hx).trans (n1 x j (by omega))⟩
theorem two_book (h : Inv N ln sp sn ss I J I J) (l1 : Int32) : ∃ v I1 J1 I2 J2, Hol_book N ln sp sn ss l1 I J = some (v, I1, J1) ∧ Mod_book N l1 I1 J1 = some (v, I2, J2) ∧ Inv N ln sp sn ss I2 J2 I2 J2 ∧ (∀ x j, 204 ≤ x → I1 x j = I x j) ∧ (∀ x j, 225 ≤ x → I2 x j = I x j) := by
  have hl := h.l6
  obtain ⟨v, I1, J1, I1', J1', k1, k2, w⟩ := inv_book h l1
  have n1 : ∀ x j, 204 ≤ x → I1 x j = I x j := fun x j hx => fr_Hol_book (by omega) (by omega) (by omega) (by omega) (by omega) (by omega) (by omega) (by omega) (by omega) (by omega) (by omega) (by omega) (by omega) (by omega) (by omega) (by omega) (by omega) (by omega) (by omega) (by omega) (by omega) (by omega) (by omega) (by omega) (by omega) (by omega) (by omega) (by omega) (by omega) (by omega) (by omega) (by omega) (by omega) (by omega) (by omega) (by omega) (by omega) (by omega) (by omega) (by omega) (by omega) (by omega) (by omega) (by omega) (by omega) (by omega) k1
  have m1 : ∀ x j, 204 ≤ x → J1 x j = J x j := fun x j hx => fj_Hol_book (by omega) (by omega) k1
  obtain ⟨v2, I1b, J1b, I2, J2, k3, k4, w2⟩ := inv_book (h.book (I1 := I1) (J1 := J1) n1 m1) l1
  cases k1.symm.trans k3
  have n2 : ∀ x j, x < 204 ∨ 225 ≤ x → I2 x j = I1 x j := fun x j hx => fr_Mod_book (by omega) (by omega) (by omega) (by omega) (by omega) (by omega) (by omega) (by omega) (by omega) (by omega) (by omega) (by omega) (by omega) (by omega) (by omega) (by omega) (by omega) (by omega) (by omega) (by omega) (by omega) k4
  exact ⟨v, I1, J1, I2, J2, k1, k4, w2.both (fun x j hx => n2 x j (Or.inl hx)) (fun x j hx => fj_Mod_book (by omega) k4), n1, fun x j hx => (n2 x j (Or.inr hx)).trans (n1 x j (by omega))⟩
theorem two_image (h : Inv N ln sp sn ss I J I J) (l1 : Int32) : ∃ v I1 J1 I2 J2, Hol_image ln sp sn ss l1 I J = some (v, I1, J1) ∧ Mod_image N l1 I1 J1 = some (v, I2, J2) ∧ Inv N ln sp sn ss I2 J2 I2 J2 ∧ (∀ x j, 204 ≤ x → I1 x j = I x j) ∧ (∀ x j, 225 ≤ x → I2 x j = I x j) := by
  have hl := h.l6
  obtain ⟨v, I1, J1, I1', J1', k1, k2, w⟩ := inv_image h l1
  have n1 : ∀ x j, 204 ≤ x → I1 x j = I x j := fun x j hx => fr_Hol_image (by omega) (by omega) (by omega) (by omega) (by omega) (by omega) (by omega) (by omega) (by omega) (by omega) (by omega) (by omega) (by omega) (by omega) (by omega) (by omega) (by omega) (by omega) (by omega) (by omega) (by omega) (by omega) (by omega) (by omega) (by omega) (by omega) (by omega) (by omega) (by omega) (by omega) (by omega) (by omega) (by omega) (by omega) (by omega) (by omega) (by omega) (by omega) (by omega) (by omega) (by omega) (by omega) (by omega) (by omega) (by omega) (by omega) (by omega) (by omega) (by omega) (by omega) (by omega) (by omega) (by omega) (by omega) (by omega) (by omega) (by omega) (by omega) (by omega) (by omega) k1
  have m1 : ∀ x j, 204 ≤ x → J1 x j = J x j := fun x j hx => fj_Hol_image (by omega) (by omega) (by omega) (by omega) (by omega) (by omega) k1
  obtain ⟨v2, I1b, J1b, I2, J2, k3, k4, w2⟩ := inv_image (h.book (I1 := I1) (J1 := J1) n1 m1) l1
  cases k1.symm.trans k3
  have n2 : ∀ x j, x < 204 ∨ 225 ≤ x → I2 x j = I1 x j := fun x j hx => fr_Mod_image (by omega) (by omega) (by omega) k4
  exact ⟨v, I1, J1, I2, J2, k1, k4, w2.both (fun x j hx => n2 x j (Or.inl hx)) (fun x j hx => fj_Mod_image (by omega) k4), n1, fun x j hx => (n2 x j (Or.inr hx)).trans (n1 x j (by omega))⟩
theorem two_restore (h : Inv N ln sp sn ss I J I J) (l1 : Int32) : ∃ v I1 J1 I2 J2, Hol_restore ln sp sn ss l1 I J = some (v, I1, J1) ∧ Mod_restore N l1 I1 J1 = some (v, I2, J2) ∧ Inv N ln sp sn ss I2 J2 I2 J2 ∧ (∀ x j, 204 ≤ x → I1 x j = I x j) ∧ (∀ x j, 225 ≤ x → I2 x j = I x j) := by
  have hl := h.l6
  obtain ⟨v, I1, J1, I1', J1', k1, k2, w⟩ := inv_restore h l1
  have n1 : ∀ x j, 204 ≤ x → I1 x j = I x j := fun x j hx => fr_Hol_restore (by omega) (by omega) (by omega) (by omega) (by omega) (by omega) (by omega) (by omega) (by omega) (by omega) (by omega) (by omega) (by omega) (by omega) (by omega) (by omega) (by omega) (by omega) (by omega) (by omega) (by omega) (by omega) (by omega) (by omega) (by omega) (by omega) (by omega) (by omega) (by omega) (by omega) k1
  have m1 : ∀ x j, 204 ≤ x → J1 x j = J x j := fun x j hx => fj_Hol_restore (by omega) (by omega) (by omega) k1
  obtain ⟨v2, I1b, J1b, I2, J2, k3, k4, w2⟩ := inv_restore (h.book (I1 := I1) (J1 := J1) n1 m1) l1
  cases k1.symm.trans k3
  have n2 : ∀ x j, x < 204 ∨ 225 ≤ x → I2 x j = I1 x j := fun x j hx => fr_Mod_restore (by omega) (by omega) (by omega) k4
  exact ⟨v, I1, J1, I2, J2, k1, k4, w2.both (fun x j hx => n2 x j (Or.inl hx)) (fun x j hx => fj_Mod_restore (by omega) k4), n1, fun x j hx => (n2 x j (Or.inr hx)).trans (n1 x j (by omega))⟩
theorem fr_Fld {r : Int32 × Bool × FI × FJ} {x j : Nat} (hs : 7 ≤ sp ∧ sp ≤ 16 ∧ 45 ≤ sn ∧ sn ≤ 50) (hx : 204 ≤ x) (h : Fld N sp sn I J = some r) : r.2.2.1 x j = I x j ∧ r.2.2.2 x j = J x j := by
  unfold Fld at h
  obtain ⟨x1, e1, h⟩ := bnd h
  obtain ⟨I2, e2, h⟩ := bnd h
  obtain ⟨I3, e3, h⟩ := bnd h
  have f1 : x1.2.1 x j = I x j := fr_Land_read (by omega) (by omega) (by omega) (by omega) (by omega) (by omega) (by omega) (by omega) (by omega) (by omega) (by omega) (by omega) (by omega) (by omega) (by omega) (by omega) (by omega) (by omega) (by omega) (by omega) (by omega) (by omega) (by omega) (by omega) e1
  have f2 : x1.2.2 x j = J x j := fj_Land_read (by omega) (by omega) (by omega) (by omega) (by omega) e1
  have f3 : I3 x j = I x j := by
    rw [← Option.some.inj e3, ← Option.some.inj e2, up2_ff (by omega), up2_ff (by omega)]; exact f1
  split at h
  · obtain ⟨I4, e4, h⟩ := bnd h
    obtain ⟨I5, e5, h⟩ := bnd h
    obtain ⟨I6, e6, h⟩ := bnd h
    rw [← Option.some.inj h]
    refine ⟨?_, f2⟩
    show I6 x j = _
    rw [fr_History_clear (by omega) e6, fr_Sentence_clear (by omega) (by omega) e5, fr_State_begin (by omega) (by omega) (by omega) (by omega) (by omega) (by omega) (by omega) (by omega) (by omega) (by omega) (by omega) e4]
    exact f3
  · rw [← Option.some.inj h]
    exact ⟨f3, f2⟩
theorem fr_Snt {r : Int32 × Bool × FI × FJ} {x j : Nat} (hs : 45 ≤ ss ∧ ss ≤ 50) (hx : 204 ≤ x) (h : Snt N ln ss I J = some r) : r.2.2.1 x j = I x j ∧ r.2.2.2 x j = J x j := by
  unfold Snt at h
  obtain ⟨x1, e1, h⟩ := bnd h
  obtain ⟨I2, e2, h⟩ := bnd h
  obtain ⟨I3, e3, h⟩ := bnd h
  have f1 : x1.2.1 x j = I x j := fr_Sentence_read (by omega) (by omega) (by omega) (by omega) (by omega) (by omega) (by omega) (by omega) (by omega) (by omega) (by omega) (by omega) (by omega) (by omega) (by omega) (by omega) e1
  have f2 : x1.2.2 x j = J x j := fj_Sentence_read (by omega) (by omega) e1
  have f3 : I3 x j = I x j := by
    rw [← Option.some.inj e3, ← Option.some.inj e2, up2_ff (by omega), up2_ff (by omega)]; exact f1
  split at h
  · rw [← Option.some.inj h]
    exact ⟨f3, f2⟩
  · rw [← Option.some.inj h]
    exact ⟨f3, f2⟩
theorem two_field (h : Inv N ln sp sn ss I J I J) : ∃ v g I1 J1 I2 J2, Fld N sp sn I J = some (v, g, I1, J1) ∧ Mod_field N I1 J1 = some (v, I2, J2) ∧ (g = true → Inv N sp ln sn ss I2 J2 I2 J2) ∧ (g = false → Inv N ln sp sn ss I2 J2 I2 J2) ∧ (∀ x j, 204 ≤ x → I1 x j = I x j) ∧ (∀ x j, 225 ≤ x → I2 x j = I x j) := by
  have hl := h.l6
  obtain ⟨v, g, I1, J1, I1', J1', k1, k2, w⟩ := inv_field h
  have n1 : ∀ x j, 204 ≤ x → I1 x j = I x j := fun x j hx => (fr_Fld (by omega) hx k1).1
  have m1 : ∀ x j, 204 ≤ x → J1 x j = J x j := fun x j hx => (fr_Fld (by omega) hx k1).2
  obtain ⟨v2, g2, I1b, J1b, I2, J2, k3, k4, w2, w3⟩ := inv_field (h.book (I1 := I1) (J1 := J1) n1 m1)
  cases k1.symm.trans k3
  have n2 : ∀ x j, x < 204 ∨ 225 ≤ x → I2 x j = I1 x j := fun x j hx => fr_Mod_field (by omega) (by omega) (by omega) (by omega) (by omega) (by omega) (by omega) (by omega) (by omega) (by omega) (by omega) (by omega) (by omega) (by omega) (by omega) (by omega) k4
  have m2 : ∀ x j, x < 204 → J2 x j = J1 x j := fun x j hx => fj_Mod_field (by omega) (by omega) (by omega) k4
  exact ⟨v, g, I1, J1, I2, J2, k1, k4, fun e => (w2 e).both (fun x j hx => n2 x j (Or.inl hx)) m2, fun e => (w3 e).both (fun x j hx => n2 x j (Or.inl hx)) m2, n1, fun x j hx => (n2 x j (Or.inr hx)).trans (n1 x j (by omega))⟩
theorem two_sentence (h : Inv N ln sp sn ss I J I J) : ∃ v g I1 J1 I2 J2, Snt N ln ss I J = some (v, g, I1, J1) ∧ Mod_sentence N I1 J1 = some (v, I2, J2) ∧ (g = true → Inv N ln sp ss sn I2 J2 I2 J2) ∧ (g = false → Inv N ln sp sn ss I2 J2 I2 J2) ∧ (∀ x j, 204 ≤ x → I1 x j = I x j) ∧ (∀ x j, 225 ≤ x → I2 x j = I x j) := by
  have hl := h.l6
  obtain ⟨v, g, I1, J1, I1', J1', k1, k2, w⟩ := inv_sentence h
  have n1 : ∀ x j, 204 ≤ x → I1 x j = I x j := fun x j hx => (fr_Snt (by omega) hx k1).1
  have m1 : ∀ x j, 204 ≤ x → J1 x j = J x j := fun x j hx => (fr_Snt (by omega) hx k1).2
  obtain ⟨v2, g2, I1b, J1b, I2, J2, k3, k4, w2, w3⟩ := inv_sentence (h.book (I1 := I1) (J1 := J1) n1 m1)
  cases k1.symm.trans k3
  have n2 : ∀ x j, x < 204 ∨ 225 ≤ x → I2 x j = I1 x j := fun x j hx => fr_Mod_sentence (by omega) (by omega) (by omega) (by omega) (by omega) (by omega) (by omega) (by omega) (by omega) (by omega) (by omega) (by omega) (by omega) (by omega) (by omega) (by omega) (by omega) (by omega) k4
  have m2 : ∀ x j, x < 204 → J2 x j = J1 x j := fun x j hx => fj_Mod_sentence (by omega) k4
  exact ⟨v, g, I1, J1, I2, J2, k1, k4, fun e => (w2 e).both (fun x j hx => n2 x j (Or.inl hx)) m2, fun e => (w3 e).both (fun x j hx => n2 x j (Or.inl hx)) m2, n1, fun x j hx => (n2 x j (Or.inr hx)).trans (n1 x j (by omega))⟩
theorem two_find (h : Inv N ln sp sn ss I J I J) (l1 l2 : Int32) : (∃ v, Hol_find ln sp sn ss l1 l2 I = some (some v) ∧ ∀ (I1 : FI) (J2 : FJ), (∀ x j, x < 225 → I1 x j = I x j) → (∀ x j, x < 225 → J2 x j = J x j) → Mod_find l1 l2 I1 = some (v, up2 I1 204 0 0) ∧ Inv N ln sp sn ss (up2 I1 204 0 0) J2 (up2 I1 204 0 0) J2) ∨ (Hol_find ln sp sn ss l1 l2 I = some none ∧ ∀ (I1 : FI) (J2 : FJ), (∀ x j, x < 225 → I1 x j = I x j) → (∀ x j, x < 225 → J2 x j = J x j) → Mod_find l1 l2 I1 = some (0, up2 (up2 I1 204 0 0) 204 0 1) ∧ Inv N ln sp sn ss (up2 (up2 I1 204 0 0) 204 0 1) J2 (up2 (up2 I1 204 0 0) 204 0 1) J2) := by
  rcases inv_find h l1 l2 with ⟨v, k1, k2, w⟩ | ⟨k1, k2, w⟩
  · refine Or.inl ⟨v, k1, fun I1 J2 a1 a2 => ?_⟩
    rcases inv_find (h.fr (I1 := I) (J1 := J) (I1' := I1) (J1' := J2) (fun _ _ _ => rfl) (fun x j _ hx => a1 x j hx) (fun _ _ _ => rfl) (fun x j _ hx => a2 x j hx)) l1 l2 with ⟨v2, k3, k4, w2⟩ | ⟨k3, k4, w2⟩
    · cases k1.symm.trans k3
      exact ⟨k4, w2.both (fun x j hx => (q_lo hx).trans (a1 x j (by omega))) (fun x j hx => a2 x j (by omega))⟩
    · cases k1.symm.trans k3
  · refine Or.inr ⟨k1, fun I1 J2 a1 a2 => ?_⟩
    rcases inv_find (h.fr (I1 := I) (J1 := J) (I1' := I1) (J1' := J2) (fun _ _ _ => rfl) (fun x j _ hx => a1 x j hx) (fun _ _ _ => rfl) (fun x j _ hx => a2 x j hx)) l1 l2 with ⟨v2, k3, k4, w2⟩ | ⟨k3, k4, w2⟩
    · cases k1.symm.trans k3
    · exact ⟨k4, w2.both (fun x j hx => (q_lo hx).trans ((q_lo hx).trans (a1 x j (by omega)))) (fun x j hx => a2 x j (by omega))⟩
theorem two_belief (h : Inv N ln sp sn ss I J I J) (l1 l2 : Int32) : (∃ v J1, Hol_belief N ln sp sn ss l1 l2 I J = some (some v, J1) ∧ (∀ x j, 204 ≤ x → J1 x j = J x j) ∧ ∀ (I1 : FI) (J2 : FJ), (∀ x j, x < 225 → I1 x j = I x j) → (∀ x j, x < 225 → J2 x j = J1 x j) → ∃ J3, Mod_belief N l1 l2 I1 J2 = some (v, up2 I1 204 0 0, J3) ∧ Inv N ln sp sn ss (up2 I1 204 0 0) J3 (up2 I1 204 0 0) J3 ∧ ∀ x j, 225 ≤ x → J3 x j = J2 x j) ∨ (Hol_belief N ln sp sn ss l1 l2 I J = some (none, J) ∧ ∀ (I1 : FI) (J2 : FJ), (∀ x j, x < 225 → I1 x j = I x j) → (∀ x j, x < 225 → J2 x j = J x j) → Mod_belief N l1 l2 I1 J2 = some (0, up2 (up2 I1 204 0 0) 204 0 1, J2) ∧ Inv N ln sp sn ss (up2 (up2 I1 204 0 0) 204 0 1) J2 (up2 (up2 I1 204 0 0) 204 0 1) J2) := by
  rcases inv_belief h l1 l2 with ⟨v, J1, J1', k1, k2, w⟩ | ⟨k1, k2, w⟩
  · have m1 : ∀ x j, 204 ≤ x → J1 x j = J x j := fun x j hx => fj_Hol_belief (by omega) (by omega) k1
    refine Or.inl ⟨v, J1, k1, m1, fun I1 J2 a1 a2 => ?_⟩
    rcases inv_belief (h.fr (I1 := I) (J1 := J) (I1' := I1) (J1' := J2) (fun _ _ _ => rfl) (fun x j _ hx => a1 x j hx) (fun _ _ _ => rfl) (fun x j hy hx => (a2 x j hx).trans (m1 x j hy))) l1 l2 with ⟨v2, J1b, J3, k3, k4, w2⟩ | ⟨k3, k4, w2⟩
    · cases k1.symm.trans k3
      exact ⟨J3, k4, w2.both (fun x j hx => (q_lo hx).trans (a1 x j (by omega))) (fun x j hx => (show J3 x j = J2 x j from fj_Mod_belief (by omega) k4).trans (a2 x j (by omega))), fun x j hx => fj_Mod_belief (by omega) k4⟩
    · cases k1.symm.trans k3
  · refine Or.inr ⟨k1, fun I1 J2 a1 a2 => ?_⟩
    rcases inv_belief (h.fr (I1 := I) (J1 := J) (I1' := I1) (J1' := J2) (fun _ _ _ => rfl) (fun x j _ hx => a1 x j hx) (fun _ _ _ => rfl) (fun x j _ hx => a2 x j hx)) l1 l2 with ⟨v2, J1b, J3, k3, k4, w2⟩ | ⟨k3, k4, w2⟩
    · cases k1.symm.trans k3
    · exact ⟨k4, w2.both (fun x j hx => (q_lo hx).trans ((q_lo hx).trans (a1 x j (by omega)))) (fun x j hx => a2 x j (by omega))⟩
theorem two_sure (h : Inv N ln sp sn ss I J I J) (l1 l2 : Int32) : (∃ v J1, Hol_sure N ln sp sn ss l1 l2 I J = some (some v, J1) ∧ (∀ x j, 204 ≤ x → J1 x j = J x j) ∧ ∀ (I1 : FI) (J2 : FJ), (∀ x j, x < 225 → I1 x j = I x j) → (∀ x j, x < 225 → J2 x j = J1 x j) → ∃ J3, Mod_sure N l1 l2 I1 J2 = some (v, up2 I1 204 0 0, J3) ∧ Inv N ln sp sn ss (up2 I1 204 0 0) J3 (up2 I1 204 0 0) J3 ∧ ∀ x j, 225 ≤ x → J3 x j = J2 x j) ∨ (Hol_sure N ln sp sn ss l1 l2 I J = some (none, J) ∧ ∀ (I1 : FI) (J2 : FJ), (∀ x j, x < 225 → I1 x j = I x j) → (∀ x j, x < 225 → J2 x j = J x j) → Mod_sure N l1 l2 I1 J2 = some (0, up2 (up2 I1 204 0 0) 204 0 1, J2) ∧ Inv N ln sp sn ss (up2 (up2 I1 204 0 0) 204 0 1) J2 (up2 (up2 I1 204 0 0) 204 0 1) J2) := by
  rcases inv_sure h l1 l2 with ⟨v, J1, J1', k1, k2, w⟩ | ⟨k1, k2, w⟩
  · have m1 : ∀ x j, 204 ≤ x → J1 x j = J x j := fun x j hx => fj_Hol_sure (by omega) (by omega) k1
    refine Or.inl ⟨v, J1, k1, m1, fun I1 J2 a1 a2 => ?_⟩
    rcases inv_sure (h.fr (I1 := I) (J1 := J) (I1' := I1) (J1' := J2) (fun _ _ _ => rfl) (fun x j _ hx => a1 x j hx) (fun _ _ _ => rfl) (fun x j hy hx => (a2 x j hx).trans (m1 x j hy))) l1 l2 with ⟨v2, J1b, J3, k3, k4, w2⟩ | ⟨k3, k4, w2⟩
    · cases k1.symm.trans k3
      exact ⟨J3, k4, w2.both (fun x j hx => (q_lo hx).trans (a1 x j (by omega))) (fun x j hx => (show J3 x j = J2 x j from fj_Mod_sure (by omega) k4).trans (a2 x j (by omega))), fun x j hx => fj_Mod_sure (by omega) k4⟩
    · cases k1.symm.trans k3
  · refine Or.inr ⟨k1, fun I1 J2 a1 a2 => ?_⟩
    rcases inv_sure (h.fr (I1 := I) (J1 := J) (I1' := I1) (J1' := J2) (fun _ _ _ => rfl) (fun x j _ hx => a1 x j hx) (fun _ _ _ => rfl) (fun x j _ hx => a2 x j hx)) l1 l2 with ⟨v2, J1b, J3, k3, k4, w2⟩ | ⟨k3, k4, w2⟩
    · cases k1.symm.trans k3
    · exact ⟨k4, w2.both (fun x j hx => (q_lo hx).trans ((q_lo hx).trans (a1 x j (by omega)))) (fun x j hx => a2 x j (by omega))⟩
theorem two_gains (h : Inv N ln sp sn ss I J I J) (l1 l2 : Int32) : (∃ v J1, Hol_gains N ln sp sn ss l1 l2 I J = some (some v, J1) ∧ (∀ x j, 204 ≤ x → J1 x j = J x j) ∧ ∀ (I1 : FI) (J2 : FJ), (∀ x j, x < 225 → I1 x j = I x j) → (∀ x j, x < 225 → J2 x j = J1 x j) → ∃ J3, Mod_gains N l1 l2 I1 J2 = some (v, up2 I1 204 0 0, J3) ∧ Inv N ln sp sn ss (up2 I1 204 0 0) J3 (up2 I1 204 0 0) J3 ∧ ∀ x j, 225 ≤ x → J3 x j = J2 x j) ∨ (Hol_gains N ln sp sn ss l1 l2 I J = some (none, J) ∧ ∀ (I1 : FI) (J2 : FJ), (∀ x j, x < 225 → I1 x j = I x j) → (∀ x j, x < 225 → J2 x j = J x j) → Mod_gains N l1 l2 I1 J2 = some (0, up2 (up2 I1 204 0 0) 204 0 1, J2) ∧ Inv N ln sp sn ss (up2 (up2 I1 204 0 0) 204 0 1) J2 (up2 (up2 I1 204 0 0) 204 0 1) J2) := by
  rcases inv_gains h l1 l2 with ⟨v, J1, J1', k1, k2, w⟩ | ⟨k1, k2, w⟩
  · have m1 : ∀ x j, 204 ≤ x → J1 x j = J x j := fun x j hx => fj_Hol_gains (by omega) (by omega) k1
    refine Or.inl ⟨v, J1, k1, m1, fun I1 J2 a1 a2 => ?_⟩
    rcases inv_gains (h.fr (I1 := I) (J1 := J) (I1' := I1) (J1' := J2) (fun _ _ _ => rfl) (fun x j _ hx => a1 x j hx) (fun _ _ _ => rfl) (fun x j hy hx => (a2 x j hx).trans (m1 x j hy))) l1 l2 with ⟨v2, J1b, J3, k3, k4, w2⟩ | ⟨k3, k4, w2⟩
    · cases k1.symm.trans k3
      exact ⟨J3, k4, w2.both (fun x j hx => (q_lo hx).trans (a1 x j (by omega))) (fun x j hx => (show J3 x j = J2 x j from fj_Mod_gains (by omega) k4).trans (a2 x j (by omega))), fun x j hx => fj_Mod_gains (by omega) k4⟩
    · cases k1.symm.trans k3
  · refine Or.inr ⟨k1, fun I1 J2 a1 a2 => ?_⟩
    rcases inv_gains (h.fr (I1 := I) (J1 := J) (I1' := I1) (J1' := J2) (fun _ _ _ => rfl) (fun x j _ hx => a1 x j hx) (fun _ _ _ => rfl) (fun x j _ hx => a2 x j hx)) l1 l2 with ⟨v2, J1b, J3, k3, k4, w2⟩ | ⟨k3, k4, w2⟩
    · cases k1.symm.trans k3
    · exact ⟨k4, w2.both (fun x j hx => (q_lo hx).trans ((q_lo hx).trans (a1 x j (by omega)))) (fun x j hx => a2 x j (by omega))⟩
end TWO
