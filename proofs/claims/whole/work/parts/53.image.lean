/-! images: the model's side -/
section Q53
variable {N b ln sp sn ss nP nF nE nW nH nR : Nat} {I I' : FI} {J J' : FJ}
theorem img_j {c : Nat} (hN : 2000 ≤ N) (hc : c < 2) : Mod_image_51 N N (nI c) 0 I J = some (true, up2 I 214 c (vp_nar .boolean 1), cp2 J 211 0 213 (22 * c) 22) := by
  have key : ∀ m k f, k + m = 22 → m < f → Mod_image_51 N f (nI c) (nI k) I (cp2 J 211 0 213 (22 * c) k) = some (true, up2 I 214 c (vp_nar .boolean 1), cp2 J 211 0 213 (22 * c) 22) := by
    intro m
    induction m with
    | zero =>
      intro k f hk hf
      obtain ⟨f, rfl⟩ : ∃ e, f = e + 1 := ⟨f - 1, by omega⟩
      obtain rfl : k = 22 := by omega
      simp (disch := omega) only [Mod_image_51, L_22, le_nI, ifT, in9_t, if_true, tN, Option.bind_some]
    | succ m ih =>
      intro k f hk hf
      obtain ⟨f, rfl⟩ : ∃ e, f = e + 1 := ⟨f - 1, by omega⟩
      have h1 := ih (k + 1) f (by omega) (by omega)
      have e := cp2_s (f := J) (s := 211) (sp := 0) (d := 213) (dp := 22 * c) (k := k)
      rw [Nat.zero_add] at e
      have e2 : cp2 J 211 0 213 (22 * c) k 211 = J 211 := cp2_o (by omega)
      have A : ((22 : Int32) ≤ nI k) = False := by rw [L_22, le_nI (by omega) (by omega)]; exact eq_false (by omega)
      have G : in9 (nI k) 22 = True := in9_t (by omega) (by omega)
      have t : (nI k).toNatClampNeg = k := tN (by omega)
      have i1 : (22 : Int32) * nI c + nI k = nI (22 * c + k) := by rw [mx_22, nA]
      have G1 : in9 (nI (22 * c + k)) 44 = True := in9_t (by omega) (by omega)
      have t1 : (nI (22 * c + k)).toNatClampNeg = 22 * c + k := tN (by omega)
      rw [← h1]
      simp only [↓reduceIte, Mod_image_51, A, G, t, i1, G1, t1, e2, e, nS, Option.bind_some]
  have := key 22 0 N (by omega) (by omega)
  rw [cp2_0] at this
  exact this
theorem img_i {c : Nat} (hN : 2000 ≤ N) (hc : c < 2) : Mod_image_18 N N (nI c) 0 I J = some (true, up2 (cp2 I 206 0 208 (451 * c) 451) 214 c (vp_nar .boolean 1), cp2 J 211 0 213 (22 * c) 22) := by
  have key : ∀ m k f, k + m = 451 → m < f → Mod_image_18 N f (nI c) (nI k) (cp2 I 206 0 208 (451 * c) k) J = some (true, up2 (cp2 I 206 0 208 (451 * c) 451) 214 c (vp_nar .boolean 1), cp2 J 211 0 213 (22 * c) 22) := by
    intro m
    induction m with
    | zero =>
      intro k f hk hf
      obtain ⟨f, rfl⟩ : ∃ e, f = e + 1 := ⟨f - 1, by omega⟩
      obtain rfl : k = 451 := by omega
      have A : ((451 : Int32) ≤ nI 451) = True := eq_true (by decide)
      simp only [↓reduceIte, Mod_image_18, A]
      exact img_j hN hc
    | succ m ih =>
      intro k f hk hf
      obtain ⟨f, rfl⟩ : ∃ e, f = e + 1 := ⟨f - 1, by omega⟩
      have h1 := ih (k + 1) f (by omega) (by omega)
      have e := cp2_s (f := I) (s := 206) (sp := 0) (d := 208) (dp := 451 * c) (k := k)
      rw [Nat.zero_add] at e
      have e2 : cp2 I 206 0 208 (451 * c) k 206 = I 206 := cp2_o (by omega)
      have A : ((451 : Int32) ≤ nI k) = False := by rw [L_451, le_nI (by omega) (by omega)]; exact eq_false (by omega)
      have G : in9 (nI k) 451 = True := in9_t (by omega) (by omega)
      have t : (nI k).toNatClampNeg = k := tN (by omega)
      have i1 : (451 : Int32) * nI c + nI k = nI (451 * c + k) := by rw [mx_451, nA]
      have G1 : in9 (nI (451 * c + k)) 902 = True := in9_t (by omega) (by omega)
      have t1 : (nI (451 * c + k)).toNatClampNeg = 451 * c + k := tN (by omega)
      rw [← h1]
      simp only [↓reduceIte, Mod_image_18, A, G, t, i1, G1, t1, e2, e, nS, Option.bind_some]
  have := key 451 0 N (by omega) (by omega)
  rw [cp2_0] at this
  exact this
theorem res_j {c : Nat} (hN : 2000 ≤ N) (hc : c < 2) : Mod_restore_60 N N (nI c) 0 I J = some (true, up2 I 204 24 0, cp2 J 213 (22 * c) 211 0 22) := by
  have key : ∀ m k f, k + m = 22 → m < f → Mod_restore_60 N f (nI c) (nI k) I (cp2 J 213 (22 * c) 211 0 k) = some (true, up2 I 204 24 0, cp2 J 213 (22 * c) 211 0 22) := by
    intro m
    induction m with
    | zero =>
      intro k f hk hf
      obtain ⟨f, rfl⟩ : ∃ e, f = e + 1 := ⟨f - 1, by omega⟩
      obtain rfl : k = 22 := by omega
      have A : ((22 : Int32) ≤ nI 22) = True := eq_true (by decide)
      simp only [↓reduceIte, Mod_restore_60, A, Option.bind_some]
    | succ m ih =>
      intro k f hk hf
      obtain ⟨f, rfl⟩ : ∃ e, f = e + 1 := ⟨f - 1, by omega⟩
      have h1 := ih (k + 1) f (by omega) (by omega)
      have e := cp2_s (f := J) (s := 213) (sp := 22 * c) (d := 211) (dp := 0) (k := k)
      rw [Nat.zero_add] at e
      have e2 : cp2 J 213 (22 * c) 211 0 k 213 = J 213 := cp2_o (by omega)
      have A : ((22 : Int32) ≤ nI k) = False := by rw [L_22, le_nI (by omega) (by omega)]; exact eq_false (by omega)
      have G : in9 (nI k) 22 = True := in9_t (by omega) (by omega)
      have t : (nI k).toNatClampNeg = k := tN (by omega)
      have i1 : (22 : Int32) * nI c + nI k = nI (22 * c + k) := by rw [mx_22, nA]
      have G1 : in9 (nI (22 * c + k)) 44 = True := in9_t (by omega) (by omega)
      have t1 : (nI (22 * c + k)).toNatClampNeg = 22 * c + k := tN (by omega)
      rw [← h1]
      simp only [↓reduceIte, Mod_restore_60, A, G, t, i1, G1, t1, e2, e, nS, Option.bind_some]
  have := key 22 0 N (by omega) (by omega)
  rw [cp2_0] at this
  exact this
theorem res_i {c : Nat} (hN : 2000 ≤ N) (hc : c < 2) : Mod_restore_27 N N (nI c) 0 I J = some (true, up2 (cp2 I 208 (451 * c) 206 0 451) 204 24 0, cp2 J 213 (22 * c) 211 0 22) := by
  have key : ∀ m k f, k + m = 451 → m < f → Mod_restore_27 N f (nI c) (nI k) (cp2 I 208 (451 * c) 206 0 k) J = some (true, up2 (cp2 I 208 (451 * c) 206 0 451) 204 24 0, cp2 J 213 (22 * c) 211 0 22) := by
    intro m
    induction m with
    | zero =>
      intro k f hk hf
      obtain ⟨f, rfl⟩ : ∃ e, f = e + 1 := ⟨f - 1, by omega⟩
      obtain rfl : k = 451 := by omega
      have A : ((451 : Int32) ≤ nI 451) = True := eq_true (by decide)
      simp only [↓reduceIte, Mod_restore_27, A]
      exact res_j hN hc
    | succ m ih =>
      intro k f hk hf
      obtain ⟨f, rfl⟩ : ∃ e, f = e + 1 := ⟨f - 1, by omega⟩
      have h1 := ih (k + 1) f (by omega) (by omega)
      have e := cp2_s (f := I) (s := 208) (sp := 451 * c) (d := 206) (dp := 0) (k := k)
      rw [Nat.zero_add] at e
      have e2 : cp2 I 208 (451 * c) 206 0 k 208 = I 208 := cp2_o (by omega)
      have A : ((451 : Int32) ≤ nI k) = False := by rw [L_451, le_nI (by omega) (by omega)]; exact eq_false (by omega)
      have G : in9 (nI k) 451 = True := in9_t (by omega) (by omega)
      have t : (nI k).toNatClampNeg = k := tN (by omega)
      have i1 : (451 : Int32) * nI c + nI k = nI (451 * c + k) := by rw [mx_451, nA]
      have G1 : in9 (nI (451 * c + k)) 902 = True := in9_t (by omega) (by omega)
      have t1 : (nI (451 * c + k)).toNatClampNeg = 451 * c + k := tN (by omega)
      rw [← h1]
      simp only [↓reduceIte, Mod_restore_27, A, G, t, i1, G1, t1, e2, e, nS, Option.bind_some]
  have := key 451 0 N (by omega) (by omega)
  rw [cp2_0] at this
  exact this
end Q53
