/-! the start: the invariant holds there, whole -/
theorem s_Hist : HistR 0 0 4 4 (mI (m2 D9)) (mI (m2 D9)) :=
  ⟨0, 0, zB (a := 60) (o := 1) (n := 2) (v := 0) (by decide) _ (by omega), by omega, zB (a := 60) (o := 1) (n := 2) (v := 0) (by decide) _ (by omega), by omega, zM (a := 204) (o := 24) (n := 1) (v := 0) (by decide) _ (by omega), fun i hi => absurd hi (Nat.not_lt_zero _)⟩
theorem s_Tape : TapeR (mI (m2 D9)) (mI (m2 D9)) 0 := by
  refine ⟨by omega, zB (a := 1) (o := 5) (n := 1) (v := 0) (by decide) _ (by omega), zM (a := 204) (o := 2) (n := 1) (v := 0) (by decide) _ (by omega), fun i hi => ?_, fun i hi => ⟨0, by omega, m2_t205 i hi⟩⟩
  rw [m2_t2 i hi, m2_t205 i hi]
  decide
theorem s_Route : RouteR (mI (m2 D9)) (mI (m2 D9)) :=
  ⟨⟨0, by omega, zB (a := 195) (o := 5) (n := 1) (v := 0) (by decide) _ (by omega), zM (a := 204) (o := 30) (n := 1) (v := 0) (by decide) _ (by omega), fun j hj => absurd hj (Nat.not_lt_zero _)⟩, fun c hc => zM (a := 219) (o := 0) (n := 36) (v := 0) (by decide) _ (by omega)⟩
theorem s_Told : ToldR (mI (m2 D9)) (mI (m2 D9)) := by
  intro j hj
  rw [zB (a := 202) (o := 0) (n := 4) (v := -1) (by decide) j (by omega), zM (a := 204) (o := 40) (n := 1) (v := 0) (by decide) 40 (by omega), if_pos rfl]
theorem s_Lab : LabR (mI (m2 D9)) (mI (m2 D9)) 0 :=
  ⟨by omega, zB (a := 200) (o := 1) (n := 1) (v := 0) (by decide) _ (by omega), zM (a := 204) (o := 36) (n := 1) (v := 0) (by decide) _ (by omega), fun j hj => absurd hj (Nat.not_lt_zero _)⟩
theorem s_Img : ImgR (mI (m2 D9)) (mJ (m2 D9)) (mI (m2 D9)) (mJ (m2 D9)) := by
  intro c hc
  refine Or.inl ⟨?_, zM (a := 214) (o := 0) (n := 2) (v := 0) (by decide) _ (by omega)⟩
  rcases (show c = 0 ∨ c = 1 by omega) with rfl | rfl
  · exact zB (a := 142) (o := 3) (n := 1) (v := 0) (by decide) _ (by omega)
  · exact zB (a := 167) (o := 3) (n := 1) (v := 0) (by decide) _ (by omega)
theorem s_Sent : SentR 0 45 (mI (m2 D9)) (mI (m2 D9) 206) :=
  Or.inl ⟨zB (a := 45) (o := 5) (n := 1) (v := 0) (by decide) _ (by omega), zM (a := 206) (o := 155) (n := 55) (v := 0) (by decide) _ (by omega)⟩
theorem s_Words : WordsJ (mJ (m2 D9)) := by
  intro i hi
  have := List.all_eq_true.mp m2_W i (List.mem_range.mpr hi)
  exact eq_of_beq this
theorem s_Inv : InvP 2000 7 16 45 50 0 0 0 4 4 3 (mI (m2 D9)) (mJ (m2 D9)) (mI (m2 D9)) (mJ (m2 D9)) := by
  refine ⟨⟨Or.inl ⟨rfl, rfl⟩, Or.inl ⟨rfl, rfl⟩⟩, s_QR, s_Hist, ⟨0, s_Tape⟩, s_Route, s_Told, ⟨0, s_Lab⟩, ⟨?_, ?_, ?_⟩, ⟨fun k hk => absurd hk (Nat.not_lt_zero _), fun k hk => absurd hk (Nat.not_lt_zero _), fun k hk => absurd hk (Nat.not_lt_zero _)⟩, s_Img, s_Sent, s_Words⟩
  · rw [zB (a := 0) (o := 17) (n := 1) (v := 0) (by decide) 17 (by omega), zM (a := 204) (o := 10) (n := 1) (v := 0) (by decide) 10 (by omega)]
  · rw [zB (a := 0) (o := 18) (n := 2) (v := -1) (by decide) 18 (by omega), zM (a := 204) (o := 33) (n := 2) (v := -1) (by decide) 33 (by omega)]
  · rw [zB (a := 0) (o := 18) (n := 2) (v := -1) (by decide) 19 (by omega), zM (a := 204) (o := 33) (n := 2) (v := -1) (by decide) 34 (by omega)]
/-- the two constructors come to these memories -/
theorem go_Hol_init : Go D9 M_Hol_init 0 (arg9 (mL9 M_Hol_init) [.ref 0]) [] (mNew m0 (0, 11) 20) (none, false, m1 D9) := go_run (memR_e m1_ok)
theorem go_Mod_init : Go D9 M_Mod_init 0 (arg9 (mL9 M_Mod_init) [.ref 204]) [] (mNew (m1 D9) (0, 12) 46) (none, false, m2 D9) := by
  have h := m2_ok
  rw [Bool.and_eq_true] at h
  exact go_run (memR_e h.1)
theorem m1_hp : mHp (m1 D9) = 204 := by
  have h := m2_ok
  rw [Bool.and_eq_true, Bool.and_eq_true] at h
  exact eq_of_beq h.2.1
theorem m2_hp : mHp (m2 D9) = 225 ∧ mSl (m2 D9) = 10647 := by
  have h := m2_ok
  rw [Bool.and_eq_true, Bool.and_eq_true, Bool.and_eq_true, Bool.and_eq_true] at h
  exact ⟨eq_of_beq h.2.2.1, eq_of_beq h.2.2.2.1⟩
