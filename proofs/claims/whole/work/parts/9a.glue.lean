/-! one memory for both: the invariant reads the book's below 204, the model's from 204 on -/
section GLUE
variable {N b ln sp sn ss nP nF nE nW nH nR : Nat} {I I' I1 I1' I2 : FI} {J J' J1 J1' J2 : FJ}
theorem Inv.glue (h : Inv N ln sp sn ss I J I' J') (a1 : ∀ x j, x < 204 → I1 x j = I x j) (a2 : ∀ x j, 204 ≤ x → I1' x j = I' x j) (a3 : ∀ x j, x < 204 → J1 x j = J x j) (a4 : ∀ x j, 204 ≤ x → J1' x j = J' x j) : Inv N ln sp sn ss I1 J1 I1' J1' := by
  obtain ⟨nP, nF, nE, nW, nH, nR, hp⟩ := h
  refine ⟨nP, nF, nE, nW, nH, nR, hp.keep (fun x j w => a1 x j ?_) (fun x j w => a2 x j ?_) (fun x j w => a3 x j (by omega)) (fun x j w => a4 x j (by omega))⟩
  · unfold KI at w; omega
  · unfold KM at w; omega
/-- the book has gone on: its memory is the model's too -/
theorem Inv.book (h : Inv N ln sp sn ss I J I J) (a1 : ∀ x j, 204 ≤ x → I1 x j = I x j) (a2 : ∀ x j, 204 ≤ x → J1 x j = J x j) : Inv N ln sp sn ss I J I1 J1 := h.glue (fun _ _ _ => rfl) a1 (fun _ _ _ => rfl) a2
/-- both have gone on -/
theorem Inv.both (h : Inv N ln sp sn ss I1 J1 I2 J2) (a1 : ∀ x j, x < 204 → I2 x j = I1 x j) (a2 : ∀ x j, x < 204 → J2 x j = J1 x j) : Inv N ln sp sn ss I2 J2 I2 J2 := h.glue a1 (fun _ _ _ => rfl) a2 (fun _ _ _ => rfl)
end GLUE
theorem s_Inv2 : Inv 2000 7 16 45 50 (mI (m3 D9)) (mJ (m3 D9)) (mI (m3 D9)) (mJ (m3 D9)) := by
  have h : Inv 2000 7 16 45 50 (mI (m2 D9)) (mJ (m2 D9)) (mI (m2 D9)) (mJ (m2 D9)) := ⟨0, 0, 0, 4, 4, 3, s_Inv⟩
  have e : ∀ x j, x ≠ 225 → mI (m3 D9) x j = mI (m2 D9) x j := fun x j hx => by
    show (if x = mHp (m2 D9) then 0 else mI (m2 D9) x j) = _
    rw [m2_hp.1, if_neg hx]
  have e2 : ∀ x j, x ≠ 225 → mJ (m3 D9) x j = mJ (m2 D9) x j := fun x j hx => by
    show (if x = mHp (m2 D9) then 0 else mJ (m2 D9) x j) = _
    rw [m2_hp.1, if_neg hx]
  obtain ⟨nP, nF, nE, nW, nH, nR, hp⟩ := h
  refine ⟨nP, nF, nE, nW, nH, nR, hp.keep (fun x j w => e x j ?_) (fun x j w => e x j ?_) (fun x j w => e2 x j (by omega)) (fun x j w => e2 x j (by omega))⟩
  · unfold KI at w; omega
  · unfold KM at w; omega
