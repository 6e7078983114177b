set_option maxRecDepth 8000 in
theorem fj_Hol_asks {N : Nat} {ln sp sn ss : Nat} {I : FI} {J : FJ} {r : Int32 × FJ} {b j : Nat} (w0 : b ≠ 194) (w1 : ¬ (b = 193 ∧ j = 1)) (h : Hol_asks N ln sp sn ss I J = some r) : r.2 b j = J b j := by
  unfold Hol_asks at h
  obtain ⟨x1, hx, h⟩ := bnd h
  have q2 : x1 b j = J b j := (fj_Beliefs_weigh w0 w1 hx).trans rfl
  obtain ⟨x3, hx, h⟩ := bnd h
  obtain rfl := Option.some.inj h; exact q2
set_option maxRecDepth 8000 in
theorem fj_Hol_best {N : Nat} {ln sp sn ss : Nat} {l1 : Int32} {I : FI} {J : FJ} {r : Int32 × FJ} {b j : Nat} (w0 : b ≠ 194) (w1 : ¬ (b = 193 ∧ j = 1)) (h : Hol_best N ln sp sn ss l1 I J = some r) : r.2 b j = J b j := by
  unfold Hol_best at h
  rcases iteC h with ⟨hb, h⟩ | ⟨hb, h⟩
  rotate_left
  · skip
    obtain rfl := Option.some.inj h; exact rfl
  · skip
    obtain ⟨hg1, h⟩ := grd h
    rcases iteC h with ⟨hb, h⟩ | ⟨hb, h⟩
    · skip
      obtain ⟨x2, hx, h⟩ := bnd h
      have q3 : x2 b j = J b j := (fj_Beliefs_weigh w0 w1 hx).trans rfl
      obtain ⟨x4, hx, h⟩ := bnd h
      obtain ⟨x5, hx, h⟩ := bnd h
      rcases iteC h with ⟨hb, h⟩ | ⟨hb, h⟩
      rotate_left
      · skip
        obtain rfl := Option.some.inj h; exact q3
      · skip
        obtain rfl := Option.some.inj h; exact q3
    · skip
      obtain rfl := Option.some.inj h; exact rfl
set_option maxRecDepth 8000 in
theorem fj_Hol_book {N : Nat} {ln sp sn ss : Nat} {l1 : Int32} {I : FI} {J : FJ} {r : Int32 × FI × FJ} {b j : Nat} (w0 : b ≠ 6) (w1 : ¬ (b = 1 ∧ j = 10)) (h : Hol_book N ln sp sn ss l1 I J = some r) : r.2.2 b j = J b j := by
  unfold Hol_book at h
  rcases iteC h with ⟨hb, h⟩ | ⟨hb, h⟩
  · skip
    obtain ⟨x1, hx, h⟩ := bnd h
    have q2 : x1.2.2 b j = J b j := (fj_Book_read w0 w1 hx).trans rfl
    obtain ⟨I3, e1, h⟩ := bnd h
    obtain ⟨I4, e1, h⟩ := bnd h
    rcases iteC h with ⟨hb, h⟩ | ⟨hb, h⟩
    rotate_left
    · skip
      obtain rfl := Option.some.inj h; exact q2
    · skip
      obtain ⟨x5, hx, h⟩ := bnd h
      obtain ⟨x6, hx, h⟩ := bnd h
      obtain ⟨I7, e1, h⟩ := bnd h
      obtain ⟨I8, e1, h⟩ := bnd h
      obtain ⟨I9, e1, h⟩ := bnd h
      obtain ⟨x10, hx, h⟩ := bnd h
      obtain ⟨I11, e1, h⟩ := bnd h
      rcases iteC h with ⟨hb, h⟩ | ⟨hb, h⟩
      · skip
        rcases iteC h with ⟨hb, h⟩ | ⟨hb, h⟩
        · skip
          rcases iteC h with ⟨hb, h⟩ | ⟨hb, h⟩
          · skip
            obtain rfl := Option.some.inj h; exact q2
          · skip
            obtain rfl := Option.some.inj h; exact q2
        · skip
          obtain ⟨x12, hx, h⟩ := bnd h
          obtain ⟨x13, hx, h⟩ := bnd h
          rcases iteC h with ⟨hb, h⟩ | ⟨hb, h⟩
          · skip
            obtain rfl := Option.some.inj h; exact q2
          · skip
            obtain rfl := Option.some.inj h; exact q2
      · skip
        rcases iteC h with ⟨hb, h⟩ | ⟨hb, h⟩
        · skip
          obtain rfl := Option.some.inj h; exact q2
        · skip
          obtain rfl := Option.some.inj h; exact q2
  · skip
    rcases iteC h with ⟨hb, h⟩ | ⟨hb, h⟩
    · skip
      obtain ⟨x14, hx, h⟩ := bnd h
      have q15 : x14.2.2 b j = J b j := (fj_Book_read w0 w1 hx).trans rfl
      obtain ⟨I16, e1, h⟩ := bnd h
      obtain ⟨I17, e1, h⟩ := bnd h
      rcases iteC h with ⟨hb, h⟩ | ⟨hb, h⟩
      rotate_left
      · skip
        obtain rfl := Option.some.inj h; exact q15
      · skip
        obtain ⟨x18, hx, h⟩ := bnd h
        obtain ⟨x19, hx, h⟩ := bnd h
        obtain ⟨I20, e1, h⟩ := bnd h
        obtain ⟨I21, e1, h⟩ := bnd h
        obtain ⟨I22, e1, h⟩ := bnd h
        obtain ⟨x23, hx, h⟩ := bnd h
        obtain ⟨I24, e1, h⟩ := bnd h
        rcases iteC h with ⟨hb, h⟩ | ⟨hb, h⟩
        · skip
          rcases iteC h with ⟨hb, h⟩ | ⟨hb, h⟩
          · skip
            rcases iteC h with ⟨hb, h⟩ | ⟨hb, h⟩
            · skip
              obtain rfl := Option.some.inj h; exact q15
            · skip
              obtain rfl := Option.some.inj h; exact q15
          · skip
            obtain ⟨x25, hx, h⟩ := bnd h
            obtain ⟨x26, hx, h⟩ := bnd h
            rcases iteC h with ⟨hb, h⟩ | ⟨hb, h⟩
            · skip
              obtain rfl := Option.some.inj h; exact q15
            · skip
              obtain rfl := Option.some.inj h; exact q15
        · skip
          rcases iteC h with ⟨hb, h⟩ | ⟨hb, h⟩
          · skip
            obtain rfl := Option.some.inj h; exact q15
          · skip
            obtain rfl := Option.some.inj h; exact q15
    · skip
      obtain rfl := Option.some.inj h; exact rfl
set_option maxRecDepth 8000 in
theorem fj_Hol_image {ln sp sn ss : Nat} {l1 : Int32} {I : FI} {J : FJ} {r : Bool × FI × FJ} {b j : Nat} (w0 : b ≠ 144) (w1 : b ≠ 145) (w2 : b ≠ 146) (w3 : b ≠ 169) (w4 : b ≠ 170) (w5 : b ≠ 171) (h : Hol_image ln sp sn ss l1 I J = some r) : r.2.2 b j = J b j := by
  unfold Hol_image at h
  rcases iteC h with ⟨hb, h⟩ | ⟨hb, h⟩
  · skip
    rcases iteC h with ⟨hb, h⟩ | ⟨hb, h⟩
    · skip
      obtain ⟨x1, hx, h⟩ := bnd h
      have q2 : x1.2 b j = J b j := (fj_Land_copy w0 w1 w2 hx).trans rfl
      obtain ⟨x3, hx, h⟩ := bnd h
      obtain ⟨x4, hx, h⟩ := bnd h
      obtain ⟨I5, e1, h⟩ := bnd h
      obtain rfl := Option.some.inj h; exact q2
    · skip
      obtain ⟨x6, hx, h⟩ := bnd h
      have q7 : x6.2 b j = J b j := (fj_Land_copy w3 w4 w5 hx).trans rfl
      obtain ⟨x8, hx, h⟩ := bnd h
      obtain ⟨x9, hx, h⟩ := bnd h
      obtain ⟨I10, e1, h⟩ := bnd h
      obtain rfl := Option.some.inj h; exact q7
  · skip
    rcases iteC h with ⟨hb, h⟩ | ⟨hb, h⟩
    · skip
      rcases iteC h with ⟨hb, h⟩ | ⟨hb, h⟩
      · skip
        obtain ⟨x11, hx, h⟩ := bnd h
        have q12 : x11.2 b j = J b j := (fj_Land_copy w0 w1 w2 hx).trans rfl
        obtain ⟨x13, hx, h⟩ := bnd h
        obtain ⟨x14, hx, h⟩ := bnd h
        obtain ⟨I15, e1, h⟩ := bnd h
        obtain rfl := Option.some.inj h; exact q12
      · skip
        obtain ⟨x16, hx, h⟩ := bnd h
        have q17 : x16.2 b j = J b j := (fj_Land_copy w3 w4 w5 hx).trans rfl
        obtain ⟨x18, hx, h⟩ := bnd h
        obtain ⟨x19, hx, h⟩ := bnd h
        obtain ⟨I20, e1, h⟩ := bnd h
        obtain rfl := Option.some.inj h; exact q17
    · skip
      obtain rfl := Option.some.inj h; exact rfl
set_option maxRecDepth 8000 in
theorem fj_Hol_restore {ln sp sn ss : Nat} {l1 : Int32} {I : FI} {J : FJ} {r : Bool × FI × FJ} {b j : Nat} (w0 : b ≠ (ln + 1)) (w1 : b ≠ (ln + 2)) (w2 : b ≠ (ln + 3)) (h : Hol_restore ln sp sn ss l1 I J = some r) : r.2.2 b j = J b j := by
  unfold Hol_restore at h
  rcases iteC h with ⟨hb, h⟩ | ⟨hb, h⟩
  · skip
    rcases iteC h with ⟨hb, h⟩ | ⟨hb, h⟩
    · skip
      rcases iteC h with ⟨hb, h⟩ | ⟨hb, h⟩
      · skip
        obtain rfl := Option.some.inj h; exact rfl
      · skip
        obtain ⟨x1, hx, h⟩ := bnd h
        have q2 : x1.2 b j = J b j := (fj_Land_copy w0 w1 w2 hx).trans rfl
        obtain ⟨x3, hx, h⟩ := bnd h
        obtain ⟨x4, hx, h⟩ := bnd h
        obtain ⟨x5, hx, h⟩ := bnd h
        obtain rfl := Option.some.inj h; exact q2
    · skip
      rcases iteC h with ⟨hb, h⟩ | ⟨hb, h⟩
      · skip
        obtain rfl := Option.some.inj h; exact rfl
      · skip
        obtain ⟨x6, hx, h⟩ := bnd h
        have q7 : x6.2 b j = J b j := (fj_Land_copy w0 w1 w2 hx).trans rfl
        obtain ⟨x8, hx, h⟩ := bnd h
        obtain ⟨x9, hx, h⟩ := bnd h
        obtain ⟨x10, hx, h⟩ := bnd h
        obtain rfl := Option.some.inj h; exact q7
  · skip
    rcases iteC h with ⟨hb, h⟩ | ⟨hb, h⟩
    · skip
      rcases iteC h with ⟨hb, h⟩ | ⟨hb, h⟩
      · skip
        rcases iteC h with ⟨hb, h⟩ | ⟨hb, h⟩
        · skip
          obtain rfl := Option.some.inj h; exact rfl
        · skip
          obtain ⟨x11, hx, h⟩ := bnd h
          have q12 : x11.2 b j = J b j := (fj_Land_copy w0 w1 w2 hx).trans rfl
          obtain ⟨x13, hx, h⟩ := bnd h
          obtain ⟨x14, hx, h⟩ := bnd h
          obtain ⟨x15, hx, h⟩ := bnd h
          obtain rfl := Option.some.inj h; exact q12
      · skip
        rcases iteC h with ⟨hb, h⟩ | ⟨hb, h⟩
        · skip
          obtain rfl := Option.some.inj h; exact rfl
        · skip
          obtain ⟨x16, hx, h⟩ := bnd h
          have q17 : x16.2 b j = J b j := (fj_Land_copy w0 w1 w2 hx).trans rfl
          obtain ⟨x18, hx, h⟩ := bnd h
          obtain ⟨x19, hx, h⟩ := bnd h
          obtain ⟨x20, hx, h⟩ := bnd h
          obtain rfl := Option.some.inj h; exact q17
    · skip
      obtain rfl := Option.some.inj h; exact rfl
set_option maxRecDepth 8000 in
theorem fj_Hol_belief {N : Nat} {ln sp sn ss : Nat} {l1 : Int32} {l2 : Int32} {I : FI} {J : FJ} {r : (Option Int64) × FJ} {b j : Nat} (w0 : b ≠ 194) (w1 : ¬ (b = 193 ∧ j = 1)) (h : Hol_belief N ln sp sn ss l1 l2 I J = some r) : r.2 b j = J b j := by
  unfold Hol_belief at h
  rcases iteC h with ⟨hb, h⟩ | ⟨hb, h⟩
  · skip
    obtain rfl := Option.some.inj h; exact rfl
  · skip
    rcases iteC h with ⟨hb, h⟩ | ⟨hb, h⟩
    · skip
      obtain rfl := Option.some.inj h; exact rfl
    · skip
      rcases iteC h with ⟨hb, h⟩ | ⟨hb, h⟩
      · skip
        obtain rfl := Option.some.inj h; exact rfl
      · skip
        rcases iteC h with ⟨hb, h⟩ | ⟨hb, h⟩
        · skip
          obtain ⟨x1, hx, h⟩ := bnd h
          have q2 : x1 b j = J b j := (fj_Beliefs_weigh w0 w1 hx).trans rfl
          obtain ⟨hg3, h⟩ := grd h
          obtain ⟨x4, hx, h⟩ := bnd h
          obtain rfl := Option.some.inj h; exact q2
        · skip
          obtain rfl := Option.some.inj h; exact rfl
set_option maxRecDepth 8000 in
theorem fj_Hol_sure {N : Nat} {ln sp sn ss : Nat} {l1 : Int32} {l2 : Int32} {I : FI} {J : FJ} {r : (Option Int64) × FJ} {b j : Nat} (w0 : b ≠ 194) (w1 : ¬ (b = 193 ∧ j = 1)) (h : Hol_sure N ln sp sn ss l1 l2 I J = some r) : r.2 b j = J b j := by
  unfold Hol_sure at h
  rcases iteC h with ⟨hb, h⟩ | ⟨hb, h⟩
  · skip
    obtain rfl := Option.some.inj h; exact rfl
  · skip
    rcases iteC h with ⟨hb, h⟩ | ⟨hb, h⟩
    · skip
      obtain rfl := Option.some.inj h; exact rfl
    · skip
      rcases iteC h with ⟨hb, h⟩ | ⟨hb, h⟩
      · skip
        obtain rfl := Option.some.inj h; exact rfl
      · skip
        rcases iteC h with ⟨hb, h⟩ | ⟨hb, h⟩
        · skip
          obtain ⟨x1, hx, h⟩ := bnd h
          have q2 : x1 b j = J b j := (fj_Beliefs_weigh w0 w1 hx).trans rfl
          obtain ⟨x3, hx, h⟩ := bnd h
          obtain ⟨x4, hx, h⟩ := bnd h
          obtain rfl := Option.some.inj h; exact q2
        · skip
          obtain rfl := Option.some.inj h; exact rfl
set_option maxRecDepth 8000 in
theorem fj_Hol_gains {N : Nat} {ln sp sn ss : Nat} {l1 : Int32} {l2 : Int32} {I : FI} {J : FJ} {r : (Option Int64) × FJ} {b j : Nat} (w0 : b ≠ 194) (w1 : ¬ (b = 193 ∧ j = 1)) (h : Hol_gains N ln sp sn ss l1 l2 I J = some r) : r.2 b j = J b j := by
  unfold Hol_gains at h
  rcases iteC h with ⟨hb, h⟩ | ⟨hb, h⟩
  · skip
    obtain rfl := Option.some.inj h; exact rfl
  · skip
    rcases iteC h with ⟨hb, h⟩ | ⟨hb, h⟩
    · skip
      obtain rfl := Option.some.inj h; exact rfl
    · skip
      rcases iteC h with ⟨hb, h⟩ | ⟨hb, h⟩
      · skip
        obtain rfl := Option.some.inj h; exact rfl
      · skip
        rcases iteC h with ⟨hb, h⟩ | ⟨hb, h⟩
        · skip
          obtain ⟨x1, hx, h⟩ := bnd h
          have q2 : x1 b j = J b j := (fj_Beliefs_weigh w0 w1 hx).trans rfl
          obtain ⟨x3, hx, h⟩ := bnd h
          obtain ⟨x4, hx, h⟩ := bnd h
          obtain ⟨x5, hx, h⟩ := bnd h
          obtain rfl := Option.some.inj h; exact q2
        · skip
          obtain rfl := Option.some.inj h; exact rfl
set_option maxRecDepth 8000 in
theorem fj_Mod_go_215 {N : Nat} {r : FI × FJ} {b j : Nat} (w0 : ¬ (b = 204 ∧ j = 12)) : ∀ (n : Nat) (l1 : Int32) (l2 : Int32) (l3 : Int32) (I : FI) (J : FJ), Mod_go_215 N n l1 l2 l3 I J = some r → r.2 b j = J b j := by
  intro n
  induction n with
  | zero =>
    intro l1 l2 l3 I J h
    cases h
  | succ n ih =>
    intro l1 l2 l3 I J h
    unfold Mod_go_215 at h
    obtain ⟨x27, hx, h⟩ := bnd h
    rcases iteC h with ⟨hb, h⟩ | ⟨hb, h⟩
    rotate_left
    · skip
      obtain ⟨x28, hx, h⟩ := bnd h
      rcases iteC h with ⟨hb, h⟩ | ⟨hb, h⟩
      rotate_left
      · skip
        rcases iteC h with ⟨hb, h⟩ | ⟨hb, h⟩
        · skip
          obtain ⟨I29, e1, h⟩ := bnd h
          obtain rfl := Option.some.inj h; exact rfl
        · skip
          rcases iteC h with ⟨hb, h⟩ | ⟨hb, h⟩
          · skip
            rcases iteC h with ⟨hb, h⟩ | ⟨hb, h⟩
            · skip
              rcases iteC h with ⟨hb, h⟩ | ⟨hb, h⟩
              · skip
                obtain ⟨I30, e1, h⟩ := bnd h
                obtain rfl := Option.some.inj h; exact rfl
              · skip
                obtain ⟨I31, e1, h⟩ := bnd h
                obtain rfl := Option.some.inj h; exact rfl
            · skip
              obtain ⟨I32, e1, h⟩ := bnd h
              obtain rfl := Option.some.inj h; exact rfl
          · skip
            rcases iteC h with ⟨hb, h⟩ | ⟨hb, h⟩
            · skip
              rcases iteC h with ⟨hb, h⟩ | ⟨hb, h⟩
              · skip
                obtain ⟨I33, e1, h⟩ := bnd h
                obtain rfl := Option.some.inj h; exact rfl
              · skip
                obtain ⟨I34, e1, h⟩ := bnd h
                obtain rfl := Option.some.inj h; exact rfl
            · skip
              obtain ⟨I35, e1, h⟩ := bnd h
              obtain rfl := Option.some.inj h; exact rfl
      · skip
        obtain ⟨hg36, h⟩ := grd h
        rcases iteC h with ⟨hb, h⟩ | ⟨hb, h⟩
        · skip
          rcases iteC h with ⟨hb, h⟩ | ⟨hb, h⟩
          · skip
            rcases iteC h with ⟨hb, h⟩ | ⟨hb, h⟩
            · skip
              obtain ⟨I37, e1, h⟩ := bnd h
              exact (ih l1 l2 0 I37 J h).trans rfl
            · skip
              obtain ⟨I38, e1, h⟩ := bnd h
              obtain ⟨I39, e1, h⟩ := bnd h
              exact (ih l1 l2 0 I39 J h).trans rfl
          · skip
            obtain ⟨J40, e1, h⟩ := bnd h
            have q41 : J40 b j = J b j := by rw [← Option.some.inj e1]; exact (up2_ff w0).trans rfl
            rcases iteC h with ⟨hb, h⟩ | ⟨hb, h⟩
            · skip
              obtain ⟨I42, e1, h⟩ := bnd h
              exact (ih l1 l2 0 I42 J40 h).trans q41
            · skip
              obtain ⟨I43, e1, h⟩ := bnd h
              obtain ⟨I44, e1, h⟩ := bnd h
              exact (ih l1 l2 0 I44 J40 h).trans q41
        · skip
          rcases iteC h with ⟨hb, h⟩ | ⟨hb, h⟩
          · skip
            rcases iteC h with ⟨hb, h⟩ | ⟨hb, h⟩
            · skip
              rcases iteC h with ⟨hb, h⟩ | ⟨hb, h⟩
              · skip
                obtain ⟨I45, e1, h⟩ := bnd h
                exact (ih l1 l2 1 I45 J h).trans rfl
              · skip
                obtain ⟨I46, e1, h⟩ := bnd h
                obtain ⟨I47, e1, h⟩ := bnd h
                exact (ih l1 l2 1 I47 J h).trans rfl
            · skip
              obtain ⟨J48, e1, h⟩ := bnd h
              have q49 : J48 b j = J b j := by rw [← Option.some.inj e1]; exact (up2_ff w0).trans rfl
              rcases iteC h with ⟨hb, h⟩ | ⟨hb, h⟩
              · skip
                obtain ⟨I50, e1, h⟩ := bnd h
                exact (ih l1 l2 1 I50 J48 h).trans q49
              · skip
                obtain ⟨I51, e1, h⟩ := bnd h
                obtain ⟨I52, e1, h⟩ := bnd h
                exact (ih l1 l2 1 I52 J48 h).trans q49
          · skip
            rcases iteC h with ⟨hb, h⟩ | ⟨hb, h⟩
            · skip
              rcases iteC h with ⟨hb, h⟩ | ⟨hb, h⟩
              · skip
                obtain ⟨I53, e1, h⟩ := bnd h
                exact (ih l1 l2 0 I53 J h).trans rfl
              · skip
                obtain ⟨I54, e1, h⟩ := bnd h
                obtain ⟨I55, e1, h⟩ := bnd h
                exact (ih l1 l2 0 I55 J h).trans rfl
            · skip
              obtain ⟨J56, e1, h⟩ := bnd h
              have q57 : J56 b j = J b j := by rw [← Option.some.inj e1]; exact (up2_ff w0).trans rfl
              rcases iteC h with ⟨hb, h⟩ | ⟨hb, h⟩
              · skip
                obtain ⟨I58, e1, h⟩ := bnd h
                exact (ih l1 l2 0 I58 J56 h).trans q57
              · skip
                obtain ⟨I59, e1, h⟩ := bnd h
                obtain ⟨I60, e1, h⟩ := bnd h
                exact (ih l1 l2 0 I60 J56 h).trans q57
    · skip
      obtain ⟨hg61, h⟩ := grd h
      rcases iteC h with ⟨hb, h⟩ | ⟨hb, h⟩
      · skip
        rcases iteC h with ⟨hb, h⟩ | ⟨hb, h⟩
        · skip
          rcases iteC h with ⟨hb, h⟩ | ⟨hb, h⟩
          · skip
            obtain ⟨I62, e1, h⟩ := bnd h
            exact (ih l1 l2 0 I62 J h).trans rfl
          · skip
            obtain ⟨I63, e1, h⟩ := bnd h
            obtain ⟨I64, e1, h⟩ := bnd h
            exact (ih l1 l2 0 I64 J h).trans rfl
        · skip
          obtain ⟨J65, e1, h⟩ := bnd h
          have q66 : J65 b j = J b j := by rw [← Option.some.inj e1]; exact (up2_ff w0).trans rfl
          rcases iteC h with ⟨hb, h⟩ | ⟨hb, h⟩
          · skip
            obtain ⟨I67, e1, h⟩ := bnd h
            exact (ih l1 l2 0 I67 J65 h).trans q66
          · skip
            obtain ⟨I68, e1, h⟩ := bnd h
            obtain ⟨I69, e1, h⟩ := bnd h
            exact (ih l1 l2 0 I69 J65 h).trans q66
      · skip
        rcases iteC h with ⟨hb, h⟩ | ⟨hb, h⟩
        · skip
          rcases iteC h with ⟨hb, h⟩ | ⟨hb, h⟩
          · skip
            rcases iteC h with ⟨hb, h⟩ | ⟨hb, h⟩
            · skip
              obtain ⟨I70, e1, h⟩ := bnd h
              exact (ih l1 l2 1 I70 J h).trans rfl
            · skip
              obtain ⟨I71, e1, h⟩ := bnd h
              obtain ⟨I72, e1, h⟩ := bnd h
              exact (ih l1 l2 1 I72 J h).trans rfl
          · skip
            obtain ⟨J73, e1, h⟩ := bnd h
            have q74 : J73 b j = J b j := by rw [← Option.some.inj e1]; exact (up2_ff w0).trans rfl
            rcases iteC h with ⟨hb, h⟩ | ⟨hb, h⟩
            · skip
              obtain ⟨I75, e1, h⟩ := bnd h
              exact (ih l1 l2 1 I75 J73 h).trans q74
            · skip
              obtain ⟨I76, e1, h⟩ := bnd h
              obtain ⟨I77, e1, h⟩ := bnd h
              exact (ih l1 l2 1 I77 J73 h).trans q74
        · skip
          rcases iteC h with ⟨hb, h⟩ | ⟨hb, h⟩
          · skip
            rcases iteC h with ⟨hb, h⟩ | ⟨hb, h⟩
            · skip
              obtain ⟨I78, e1, h⟩ := bnd h
              exact (ih l1 l2 0 I78 J h).trans rfl
            · skip
              obtain ⟨I79, e1, h⟩ := bnd h
              obtain ⟨I80, e1, h⟩ := bnd h
              exact (ih l1 l2 0 I80 J h).trans rfl
          · skip
            obtain ⟨J81, e1, h⟩ := bnd h
            have q82 : J81 b j = J b j := by rw [← Option.some.inj e1]; exact (up2_ff w0).trans rfl
            rcases iteC h with ⟨hb, h⟩ | ⟨hb, h⟩
            · skip
              obtain ⟨I83, e1, h⟩ := bnd h
              exact (ih l1 l2 0 I83 J81 h).trans q82
            · skip
              obtain ⟨I84, e1, h⟩ := bnd h
              obtain ⟨I85, e1, h⟩ := bnd h
              exact (ih l1 l2 0 I85 J81 h).trans q82
set_option maxRecDepth 8000 in
theorem fj_Mod_go_0 {N : Nat} {r : FI × FJ} {b j : Nat} (w0 : ¬ (b = 204 ∧ j = 12)) : ∀ (n : Nat) (I : FI) (J : FJ), Mod_go_0 N n I J = some r → r.2 b j = J b j := by
  intro n
  induction n with
  | zero =>
    intro I J h
    cases h
  | succ n ih =>
    intro I J h
    unfold Mod_go_0 at h
    rcases iteC h with ⟨hb, h⟩ | ⟨hb, h⟩
    · skip
      obtain ⟨I123, e1, h⟩ := bnd h
      rcases iteC h with ⟨hb, h⟩ | ⟨hb, h⟩
      · skip
        rcases iteC h with ⟨hb, h⟩ | ⟨hb, h⟩
        · skip
          obtain ⟨hg124, h⟩ := grd h
          rcases iteC h with ⟨hb, h⟩ | ⟨hb, h⟩
          rotate_left
          · skip
            rcases iteC h with ⟨hb, h⟩ | ⟨hb, h⟩
            rotate_left
            · skip
              rcases iteC h with ⟨hb, h⟩ | ⟨hb, h⟩
              · skip
                obtain ⟨I125, e1, h⟩ := bnd h
                obtain ⟨I126, e1, h⟩ := bnd h
                obtain ⟨I127, e1, h⟩ := bnd h
                obtain rfl := Option.some.inj h; exact rfl
              · skip
                rcases iteC h with ⟨hb, h⟩ | ⟨hb, h⟩
                · skip
                  obtain ⟨I128, e1, h⟩ := bnd h
                  obtain ⟨I129, e1, h⟩ := bnd h
                  obtain ⟨I130, e1, h⟩ := bnd h
                  obtain rfl := Option.some.inj h; exact rfl
                · skip
                  rcases iteC h with ⟨hb, h⟩ | ⟨hb, h⟩
                  · skip
                    obtain ⟨I131, e1, h⟩ := bnd h
                    obtain ⟨I132, e1, h⟩ := bnd h
                    obtain ⟨I133, e1, h⟩ := bnd h
                    obtain rfl := Option.some.inj h; exact rfl
                  · skip
                    rcases iteC h with ⟨hb, h⟩ | ⟨hb, h⟩
                    · skip
                      obtain ⟨I134, e1, h⟩ := bnd h
                      obtain ⟨I135, e1, h⟩ := bnd h
                      obtain ⟨I136, e1, h⟩ := bnd h
                      obtain rfl := Option.some.inj h; exact rfl
                    · skip
                      rcases iteC h with ⟨hb, h⟩ | ⟨hb, h⟩
                      · skip
                        obtain ⟨I137, e1, h⟩ := bnd h
                        obtain ⟨I138, e1, h⟩ := bnd h
                        obtain ⟨I139, e1, h⟩ := bnd h
                        obtain rfl := Option.some.inj h; exact rfl
                      · skip
                        rcases iteC h with ⟨hb, h⟩ | ⟨hb, h⟩
                        · skip
                          obtain ⟨I140, e1, h⟩ := bnd h
                          obtain ⟨I141, e1, h⟩ := bnd h
                          obtain ⟨I142, e1, h⟩ := bnd h
                          obtain rfl := Option.some.inj h; exact rfl
                        · skip
                          obtain ⟨I143, e1, h⟩ := bnd h
                          obtain ⟨I144, e1, h⟩ := bnd h
                          obtain ⟨I145, e1, h⟩ := bnd h
                          obtain rfl := Option.some.inj h; exact rfl
            · skip
              obtain ⟨J146, e1, h⟩ := bnd h
              have q147 : J146 b j = J b j := by rw [← Option.some.inj e1]; exact (up2_ff w0).trans rfl
              obtain ⟨I148, e1, h⟩ := bnd h
              exact (fj_Mod_go_215 w0 _ (I123 205 ((I123 204 5).toNatClampNeg)) (b2i (Mod_isLetter (I123 205 ((I123 204 5).toNatClampNeg)))) 1 I148 J146 h).trans q147
          · skip
            obtain ⟨J149, e1, h⟩ := bnd h
            have q150 : J149 b j = J b j := by rw [← Option.some.inj e1]; exact (up2_ff w0).trans rfl
            obtain ⟨I151, e1, h⟩ := bnd h
            exact (fj_Mod_go_215 w0 _ (I123 205 ((I123 204 5).toNatClampNeg)) (b2i (Mod_isLetter (I123 205 ((I123 204 5).toNatClampNeg)))) 1 I151 J149 h).trans q150
        · skip
          obtain ⟨I152, e1, h⟩ := bnd h
          obtain rfl := Option.some.inj h; exact rfl
      · skip
        rcases iteC h with ⟨hb, h⟩ | ⟨hb, h⟩
        · skip
          rcases iteC h with ⟨hb, h⟩ | ⟨hb, h⟩
          · skip
            obtain ⟨hg153, h⟩ := grd h
            rcases iteC h with ⟨hb, h⟩ | ⟨hb, h⟩
            rotate_left
            · skip
              rcases iteC h with ⟨hb, h⟩ | ⟨hb, h⟩
              rotate_left
              · skip
                rcases iteC h with ⟨hb, h⟩ | ⟨hb, h⟩
                · skip
                  obtain ⟨I154, e1, h⟩ := bnd h
                  obtain ⟨I155, e1, h⟩ := bnd h
                  obtain ⟨I156, e1, h⟩ := bnd h
                  obtain rfl := Option.some.inj h; exact rfl
                · skip
                  rcases iteC h with ⟨hb, h⟩ | ⟨hb, h⟩
                  · skip
                    obtain ⟨I157, e1, h⟩ := bnd h
                    obtain ⟨I158, e1, h⟩ := bnd h
                    obtain ⟨I159, e1, h⟩ := bnd h
                    obtain rfl := Option.some.inj h; exact rfl
                  · skip
                    rcases iteC h with ⟨hb, h⟩ | ⟨hb, h⟩
                    · skip
                      obtain ⟨I160, e1, h⟩ := bnd h
                      obtain ⟨I161, e1, h⟩ := bnd h
                      obtain ⟨I162, e1, h⟩ := bnd h
                      obtain rfl := Option.some.inj h; exact rfl
                    · skip
                      rcases iteC h with ⟨hb, h⟩ | ⟨hb, h⟩
                      · skip
                        obtain ⟨I163, e1, h⟩ := bnd h
                        obtain ⟨I164, e1, h⟩ := bnd h
                        obtain ⟨I165, e1, h⟩ := bnd h
                        obtain rfl := Option.some.inj h; exact rfl
                      · skip
                        rcases iteC h with ⟨hb, h⟩ | ⟨hb, h⟩
                        · skip
                          obtain ⟨I166, e1, h⟩ := bnd h
                          obtain ⟨I167, e1, h⟩ := bnd h
                          obtain ⟨I168, e1, h⟩ := bnd h
                          obtain rfl := Option.some.inj h; exact rfl
                        · skip
                          rcases iteC h with ⟨hb, h⟩ | ⟨hb, h⟩
                          · skip
                            obtain ⟨I169, e1, h⟩ := bnd h
                            obtain ⟨I170, e1, h⟩ := bnd h
                            obtain ⟨I171, e1, h⟩ := bnd h
                            obtain rfl := Option.some.inj h; exact rfl
                          · skip
                            obtain ⟨I172, e1, h⟩ := bnd h
                            obtain ⟨I173, e1, h⟩ := bnd h
                            obtain ⟨I174, e1, h⟩ := bnd h
                            obtain rfl := Option.some.inj h; exact rfl
              · skip
                obtain ⟨J175, e1, h⟩ := bnd h
                have q176 : J175 b j = J b j := by rw [← Option.some.inj e1]; exact (up2_ff w0).trans rfl
                obtain ⟨I177, e1, h⟩ := bnd h
                exact (fj_Mod_go_215 w0 _ (I123 205 ((I123 204 5).toNatClampNeg)) (b2i (Mod_isLetter (I123 205 ((I123 204 5).toNatClampNeg)))) 1 I177 J175 h).trans q176
            · skip
              obtain ⟨J178, e1, h⟩ := bnd h
              have q179 : J178 b j = J b j := by rw [← Option.some.inj e1]; exact (up2_ff w0).trans rfl
              obtain ⟨I180, e1, h⟩ := bnd h
              exact (fj_Mod_go_215 w0 _ (I123 205 ((I123 204 5).toNatClampNeg)) (b2i (Mod_isLetter (I123 205 ((I123 204 5).toNatClampNeg)))) 1 I180 J178 h).trans q179
          · skip
            obtain ⟨I181, e1, h⟩ := bnd h
            obtain rfl := Option.some.inj h; exact rfl
        · skip
          obtain ⟨I182, e1, h⟩ := bnd h
          obtain ⟨I183, e1, h⟩ := bnd h
          obtain rfl := Option.some.inj h; exact rfl
    · skip
      obtain ⟨hg184, h⟩ := grd h
      rcases iteC h with ⟨hb, h⟩ | ⟨hb, h⟩
      · skip
        obtain ⟨I185, e1, h⟩ := bnd h
        exact (ih I185 J h).trans rfl
      · skip
        rcases iteC h with ⟨hb, h⟩ | ⟨hb, h⟩
        · skip
          obtain ⟨I186, e1, h⟩ := bnd h
          exact (ih I186 J h).trans rfl
        · skip
          obtain ⟨I187, e1, h⟩ := bnd h
          rcases iteC h with ⟨hb, h⟩ | ⟨hb, h⟩
          · skip
            rcases iteC h with ⟨hb, h⟩ | ⟨hb, h⟩
            · skip
              obtain ⟨hg188, h⟩ := grd h
              rcases iteC h with ⟨hb, h⟩ | ⟨hb, h⟩
              rotate_left
              · skip
                rcases iteC h with ⟨hb, h⟩ | ⟨hb, h⟩
                rotate_left
                · skip
                  rcases iteC h with ⟨hb, h⟩ | ⟨hb, h⟩
                  · skip
                    obtain ⟨I189, e1, h⟩ := bnd h
                    obtain ⟨I190, e1, h⟩ := bnd h
                    obtain ⟨I191, e1, h⟩ := bnd h
                    obtain rfl := Option.some.inj h; exact rfl
                  · skip
                    rcases iteC h with ⟨hb, h⟩ | ⟨hb, h⟩
                    · skip
                      obtain ⟨I192, e1, h⟩ := bnd h
                      obtain ⟨I193, e1, h⟩ := bnd h
                      obtain ⟨I194, e1, h⟩ := bnd h
                      obtain rfl := Option.some.inj h; exact rfl
                    · skip
                      rcases iteC h with ⟨hb, h⟩ | ⟨hb, h⟩
                      · skip
                        obtain ⟨I195, e1, h⟩ := bnd h
                        obtain ⟨I196, e1, h⟩ := bnd h
                        obtain ⟨I197, e1, h⟩ := bnd h
                        obtain rfl := Option.some.inj h; exact rfl
                      · skip
                        rcases iteC h with ⟨hb, h⟩ | ⟨hb, h⟩
                        · skip
                          obtain ⟨I198, e1, h⟩ := bnd h
                          obtain ⟨I199, e1, h⟩ := bnd h
                          obtain ⟨I200, e1, h⟩ := bnd h
                          obtain rfl := Option.some.inj h; exact rfl
                        · skip
                          rcases iteC h with ⟨hb, h⟩ | ⟨hb, h⟩
                          · skip
                            obtain ⟨I201, e1, h⟩ := bnd h
                            obtain ⟨I202, e1, h⟩ := bnd h
                            obtain ⟨I203, e1, h⟩ := bnd h
                            obtain rfl := Option.some.inj h; exact rfl
                          · skip
                            rcases iteC h with ⟨hb, h⟩ | ⟨hb, h⟩
                            · skip
                              obtain ⟨I204, e1, h⟩ := bnd h
                              obtain ⟨I205, e1, h⟩ := bnd h
                              obtain ⟨I206, e1, h⟩ := bnd h
                              obtain rfl := Option.some.inj h; exact rfl
                            · skip
                              obtain ⟨I207, e1, h⟩ := bnd h
                              obtain ⟨I208, e1, h⟩ := bnd h
                              obtain ⟨I209, e1, h⟩ := bnd h
                              obtain rfl := Option.some.inj h; exact rfl
                · skip
                  obtain ⟨J210, e1, h⟩ := bnd h
                  have q211 : J210 b j = J b j := by rw [← Option.some.inj e1]; exact (up2_ff w0).trans rfl
                  obtain ⟨I212, e1, h⟩ := bnd h
                  exact (fj_Mod_go_215 w0 _ (I187 205 ((I187 204 5).toNatClampNeg)) (b2i (Mod_isLetter (I187 205 ((I187 204 5).toNatClampNeg)))) 1 I212 J210 h).trans q211
              · skip
                obtain ⟨J213, e1, h⟩ := bnd h
                have q214 : J213 b j = J b j := by rw [← Option.some.inj e1]; exact (up2_ff w0).trans rfl
                obtain ⟨I215, e1, h⟩ := bnd h
                exact (fj_Mod_go_215 w0 _ (I187 205 ((I187 204 5).toNatClampNeg)) (b2i (Mod_isLetter (I187 205 ((I187 204 5).toNatClampNeg)))) 1 I215 J213 h).trans q214
            · skip
              obtain ⟨I216, e1, h⟩ := bnd h
              obtain rfl := Option.some.inj h; exact rfl
          · skip
            rcases iteC h with ⟨hb, h⟩ | ⟨hb, h⟩
            · skip
              rcases iteC h with ⟨hb, h⟩ | ⟨hb, h⟩
              · skip
                obtain ⟨hg217, h⟩ := grd h
                rcases iteC h with ⟨hb, h⟩ | ⟨hb, h⟩
                rotate_left
                · skip
                  rcases iteC h with ⟨hb, h⟩ | ⟨hb, h⟩
                  rotate_left
                  · skip
                    rcases iteC h with ⟨hb, h⟩ | ⟨hb, h⟩
                    · skip
                      obtain ⟨I218, e1, h⟩ := bnd h
                      obtain ⟨I219, e1, h⟩ := bnd h
                      obtain ⟨I220, e1, h⟩ := bnd h
                      obtain rfl := Option.some.inj h; exact rfl
                    · skip
                      rcases iteC h with ⟨hb, h⟩ | ⟨hb, h⟩
                      · skip
                        obtain ⟨I221, e1, h⟩ := bnd h
                        obtain ⟨I222, e1, h⟩ := bnd h
                        obtain ⟨I223, e1, h⟩ := bnd h
                        obtain rfl := Option.some.inj h; exact rfl
                      · skip
                        rcases iteC h with ⟨hb, h⟩ | ⟨hb, h⟩
                        · skip
                          obtain ⟨I224, e1, h⟩ := bnd h
                          obtain ⟨I225, e1, h⟩ := bnd h
                          obtain ⟨I226, e1, h⟩ := bnd h
                          obtain rfl := Option.some.inj h; exact rfl
                        · skip
                          rcases iteC h with ⟨hb, h⟩ | ⟨hb, h⟩
                          · skip
                            obtain ⟨I227, e1, h⟩ := bnd h
                            obtain ⟨I228, e1, h⟩ := bnd h
                            obtain ⟨I229, e1, h⟩ := bnd h
                            obtain rfl := Option.some.inj h; exact rfl
                          · skip
                            rcases iteC h with ⟨hb, h⟩ | ⟨hb, h⟩
                            · skip
                              obtain ⟨I230, e1, h⟩ := bnd h
                              obtain ⟨I231, e1, h⟩ := bnd h
                              obtain ⟨I232, e1, h⟩ := bnd h
                              obtain rfl := Option.some.inj h; exact rfl
                            · skip
                              rcases iteC h with ⟨hb, h⟩ | ⟨hb, h⟩
                              · skip
                                obtain ⟨I233, e1, h⟩ := bnd h
                                obtain ⟨I234, e1, h⟩ := bnd h
                                obtain ⟨I235, e1, h⟩ := bnd h
                                obtain rfl := Option.some.inj h; exact rfl
                              · skip
                                obtain ⟨I236, e1, h⟩ := bnd h
                                obtain ⟨I237, e1, h⟩ := bnd h
                                obtain ⟨I238, e1, h⟩ := bnd h
                                obtain rfl := Option.some.inj h; exact rfl
                  · skip
                    obtain ⟨J239, e1, h⟩ := bnd h
                    have q240 : J239 b j = J b j := by rw [← Option.some.inj e1]; exact (up2_ff w0).trans rfl
                    obtain ⟨I241, e1, h⟩ := bnd h
                    exact (fj_Mod_go_215 w0 _ (I187 205 ((I187 204 5).toNatClampNeg)) (b2i (Mod_isLetter (I187 205 ((I187 204 5).toNatClampNeg)))) 1 I241 J239 h).trans q240
                · skip
                  obtain ⟨J242, e1, h⟩ := bnd h
                  have q243 : J242 b j = J b j := by rw [← Option.some.inj e1]; exact (up2_ff w0).trans rfl
                  obtain ⟨I244, e1, h⟩ := bnd h
                  exact (fj_Mod_go_215 w0 _ (I187 205 ((I187 204 5).toNatClampNeg)) (b2i (Mod_isLetter (I187 205 ((I187 204 5).toNatClampNeg)))) 1 I244 J242 h).trans q243
              · skip
                obtain ⟨I245, e1, h⟩ := bnd h
                obtain rfl := Option.some.inj h; exact rfl
            · skip
              obtain ⟨I246, e1, h⟩ := bnd h
              obtain ⟨I247, e1, h⟩ := bnd h
              obtain rfl := Option.some.inj h; exact rfl
set_option maxRecDepth 8000 in
theorem fj_Mod_go {N : Nat} {I : FI} {J : FJ} {r : FI × FJ} {b j : Nat} (w0 : ¬ (b = 204 ∧ j = 12)) (h : Mod_go N I J = some r) : r.2 b j = J b j := by
  unfold Mod_go at h
  rcases iteC h with ⟨hb, h⟩ | ⟨hb, h⟩
  · skip
    obtain ⟨I1, e1, h⟩ := bnd h
    rcases iteC h with ⟨hb, h⟩ | ⟨hb, h⟩
    · skip
      rcases iteC h with ⟨hb, h⟩ | ⟨hb, h⟩
      · skip
        obtain ⟨hg2, h⟩ := grd h
        rcases iteC h with ⟨hb, h⟩ | ⟨hb, h⟩
        rotate_left
        · skip
          rcases iteC h with ⟨hb, h⟩ | ⟨hb, h⟩
          rotate_left
          · skip
            rcases iteC h with ⟨hb, h⟩ | ⟨hb, h⟩
            · skip
              obtain ⟨I3, e1, h⟩ := bnd h
              obtain ⟨I4, e1, h⟩ := bnd h
              obtain ⟨I5, e1, h⟩ := bnd h
              obtain rfl := Option.some.inj h; exact rfl
            · skip
              rcases iteC h with ⟨hb, h⟩ | ⟨hb, h⟩
              · skip
                obtain ⟨I6, e1, h⟩ := bnd h
                obtain ⟨I7, e1, h⟩ := bnd h
                obtain ⟨I8, e1, h⟩ := bnd h
                obtain rfl := Option.some.inj h; exact rfl
              · skip
                rcases iteC h with ⟨hb, h⟩ | ⟨hb, h⟩
                · skip
                  obtain ⟨I9, e1, h⟩ := bnd h
                  obtain ⟨I10, e1, h⟩ := bnd h
                  obtain ⟨I11, e1, h⟩ := bnd h
                  obtain rfl := Option.some.inj h; exact rfl
                · skip
                  rcases iteC h with ⟨hb, h⟩ | ⟨hb, h⟩
                  · skip
                    obtain ⟨I12, e1, h⟩ := bnd h
                    obtain ⟨I13, e1, h⟩ := bnd h
                    obtain ⟨I14, e1, h⟩ := bnd h
                    obtain rfl := Option.some.inj h; exact rfl
                  · skip
                    rcases iteC h with ⟨hb, h⟩ | ⟨hb, h⟩
                    · skip
                      obtain ⟨I15, e1, h⟩ := bnd h
                      obtain ⟨I16, e1, h⟩ := bnd h
                      obtain ⟨I17, e1, h⟩ := bnd h
                      obtain rfl := Option.some.inj h; exact rfl
                    · skip
                      rcases iteC h with ⟨hb, h⟩ | ⟨hb, h⟩
                      · skip
                        obtain ⟨I18, e1, h⟩ := bnd h
                        obtain ⟨I19, e1, h⟩ := bnd h
                        obtain ⟨I20, e1, h⟩ := bnd h
                        obtain rfl := Option.some.inj h; exact rfl
                      · skip
                        obtain ⟨I21, e1, h⟩ := bnd h
                        obtain ⟨I22, e1, h⟩ := bnd h
                        obtain ⟨I23, e1, h⟩ := bnd h
                        obtain rfl := Option.some.inj h; exact rfl
          · skip
            obtain ⟨J24, e1, h⟩ := bnd h
            have q25 : J24 b j = J b j := by rw [← Option.some.inj e1]; exact (up2_ff w0).trans rfl
            obtain ⟨I26, e1, h⟩ := bnd h
            exact (fj_Mod_go_215 w0 _ (I1 205 ((I1 204 5).toNatClampNeg)) (b2i (Mod_isLetter (I1 205 ((I1 204 5).toNatClampNeg)))) 1 I26 J24 h).trans q25
        · skip
          obtain ⟨J86, e1, h⟩ := bnd h
          have q87 : J86 b j = J b j := by rw [← Option.some.inj e1]; exact (up2_ff w0).trans rfl
          obtain ⟨I88, e1, h⟩ := bnd h
          exact (fj_Mod_go_215 w0 _ (I1 205 ((I1 204 5).toNatClampNeg)) (b2i (Mod_isLetter (I1 205 ((I1 204 5).toNatClampNeg)))) 1 I88 J86 h).trans q87
      · skip
        obtain ⟨I89, e1, h⟩ := bnd h
        obtain rfl := Option.some.inj h; exact rfl
    · skip
      rcases iteC h with ⟨hb, h⟩ | ⟨hb, h⟩
      · skip
        rcases iteC h with ⟨hb, h⟩ | ⟨hb, h⟩
        · skip
          obtain ⟨hg90, h⟩ := grd h
          rcases iteC h with ⟨hb, h⟩ | ⟨hb, h⟩
          rotate_left
          · skip
            rcases iteC h with ⟨hb, h⟩ | ⟨hb, h⟩
            rotate_left
            · skip
              rcases iteC h with ⟨hb, h⟩ | ⟨hb, h⟩
              · skip
                obtain ⟨I91, e1, h⟩ := bnd h
                obtain ⟨I92, e1, h⟩ := bnd h
                obtain ⟨I93, e1, h⟩ := bnd h
                obtain rfl := Option.some.inj h; exact rfl
              · skip
                rcases iteC h with ⟨hb, h⟩ | ⟨hb, h⟩
                · skip
                  obtain ⟨I94, e1, h⟩ := bnd h
                  obtain ⟨I95, e1, h⟩ := bnd h
                  obtain ⟨I96, e1, h⟩ := bnd h
                  obtain rfl := Option.some.inj h; exact rfl
                · skip
                  rcases iteC h with ⟨hb, h⟩ | ⟨hb, h⟩
                  · skip
                    obtain ⟨I97, e1, h⟩ := bnd h
                    obtain ⟨I98, e1, h⟩ := bnd h
                    obtain ⟨I99, e1, h⟩ := bnd h
                    obtain rfl := Option.some.inj h; exact rfl
                  · skip
                    rcases iteC h with ⟨hb, h⟩ | ⟨hb, h⟩
                    · skip
                      obtain ⟨I100, e1, h⟩ := bnd h
                      obtain ⟨I101, e1, h⟩ := bnd h
                      obtain ⟨I102, e1, h⟩ := bnd h
                      obtain rfl := Option.some.inj h; exact rfl
                    · skip
                      rcases iteC h with ⟨hb, h⟩ | ⟨hb, h⟩
                      · skip
                        obtain ⟨I103, e1, h⟩ := bnd h
                        obtain ⟨I104, e1, h⟩ := bnd h
                        obtain ⟨I105, e1, h⟩ := bnd h
                        obtain rfl := Option.some.inj h; exact rfl
                      · skip
                        rcases iteC h with ⟨hb, h⟩ | ⟨hb, h⟩
                        · skip
                          obtain ⟨I106, e1, h⟩ := bnd h
                          obtain ⟨I107, e1, h⟩ := bnd h
                          obtain ⟨I108, e1, h⟩ := bnd h
                          obtain rfl := Option.some.inj h; exact rfl
                        · skip
                          obtain ⟨I109, e1, h⟩ := bnd h
                          obtain ⟨I110, e1, h⟩ := bnd h
                          obtain ⟨I111, e1, h⟩ := bnd h
                          obtain rfl := Option.some.inj h; exact rfl
            · skip
              obtain ⟨J112, e1, h⟩ := bnd h
              have q113 : J112 b j = J b j := by rw [← Option.some.inj e1]; exact (up2_ff w0).trans rfl
              obtain ⟨I114, e1, h⟩ := bnd h
              exact (fj_Mod_go_215 w0 _ (I1 205 ((I1 204 5).toNatClampNeg)) (b2i (Mod_isLetter (I1 205 ((I1 204 5).toNatClampNeg)))) 1 I114 J112 h).trans q113
          · skip
            obtain ⟨J115, e1, h⟩ := bnd h
            have q116 : J115 b j = J b j := by rw [← Option.some.inj e1]; exact (up2_ff w0).trans rfl
            obtain ⟨I117, e1, h⟩ := bnd h
            exact (fj_Mod_go_215 w0 _ (I1 205 ((I1 204 5).toNatClampNeg)) (b2i (Mod_isLetter (I1 205 ((I1 204 5).toNatClampNeg)))) 1 I117 J115 h).trans q116
        · skip
          obtain ⟨I118, e1, h⟩ := bnd h
          obtain rfl := Option.some.inj h; exact rfl
      · skip
        obtain ⟨I119, e1, h⟩ := bnd h
        obtain ⟨I120, e1, h⟩ := bnd h
        obtain rfl := Option.some.inj h; exact rfl
  · skip
    obtain ⟨hg121, h⟩ := grd h
    rcases iteC h with ⟨hb, h⟩ | ⟨hb, h⟩
    · skip
      obtain ⟨I122, e1, h⟩ := bnd h
      exact (fj_Mod_go_0 w0 _ I122 J h).trans rfl
    · skip
      rcases iteC h with ⟨hb, h⟩ | ⟨hb, h⟩
      · skip
        obtain ⟨I248, e1, h⟩ := bnd h
        exact (fj_Mod_go_0 w0 _ I248 J h).trans rfl
      · skip
        obtain ⟨I249, e1, h⟩ := bnd h
        rcases iteC h with ⟨hb, h⟩ | ⟨hb, h⟩
        · skip
          rcases iteC h with ⟨hb, h⟩ | ⟨hb, h⟩
          · skip
            obtain ⟨hg250, h⟩ := grd h
            rcases iteC h with ⟨hb, h⟩ | ⟨hb, h⟩
            rotate_left
            · skip
              rcases iteC h with ⟨hb, h⟩ | ⟨hb, h⟩
              rotate_left
              · skip
                rcases iteC h with ⟨hb, h⟩ | ⟨hb, h⟩
                · skip
                  obtain ⟨I251, e1, h⟩ := bnd h
                  obtain ⟨I252, e1, h⟩ := bnd h
                  obtain ⟨I253, e1, h⟩ := bnd h
                  obtain rfl := Option.some.inj h; exact rfl
                · skip
                  rcases iteC h with ⟨hb, h⟩ | ⟨hb, h⟩
                  · skip
                    obtain ⟨I254, e1, h⟩ := bnd h
                    obtain ⟨I255, e1, h⟩ := bnd h
                    obtain ⟨I256, e1, h⟩ := bnd h
                    obtain rfl := Option.some.inj h; exact rfl
                  · skip
                    rcases iteC h with ⟨hb, h⟩ | ⟨hb, h⟩
                    · skip
                      obtain ⟨I257, e1, h⟩ := bnd h
                      obtain ⟨I258, e1, h⟩ := bnd h
                      obtain ⟨I259, e1, h⟩ := bnd h
                      obtain rfl := Option.some.inj h; exact rfl
                    · skip
                      rcases iteC h with ⟨hb, h⟩ | ⟨hb, h⟩
                      · skip
                        obtain ⟨I260, e1, h⟩ := bnd h
                        obtain ⟨I261, e1, h⟩ := bnd h
                        obtain ⟨I262, e1, h⟩ := bnd h
                        obtain rfl := Option.some.inj h; exact rfl
                      · skip
                        rcases iteC h with ⟨hb, h⟩ | ⟨hb, h⟩
                        · skip
                          obtain ⟨I263, e1, h⟩ := bnd h
                          obtain ⟨I264, e1, h⟩ := bnd h
                          obtain ⟨I265, e1, h⟩ := bnd h
                          obtain rfl := Option.some.inj h; exact rfl
                        · skip
                          rcases iteC h with ⟨hb, h⟩ | ⟨hb, h⟩
                          · skip
                            obtain ⟨I266, e1, h⟩ := bnd h
                            obtain ⟨I267, e1, h⟩ := bnd h
                            obtain ⟨I268, e1, h⟩ := bnd h
                            obtain rfl := Option.some.inj h; exact rfl
                          · skip
                            obtain ⟨I269, e1, h⟩ := bnd h
                            obtain ⟨I270, e1, h⟩ := bnd h
                            obtain ⟨I271, e1, h⟩ := bnd h
                            obtain rfl := Option.some.inj h; exact rfl
              · skip
                obtain ⟨J272, e1, h⟩ := bnd h
                have q273 : J272 b j = J b j := by rw [← Option.some.inj e1]; exact (up2_ff w0).trans rfl
                obtain ⟨I274, e1, h⟩ := bnd h
                exact (fj_Mod_go_215 w0 _ (I249 205 ((I249 204 5).toNatClampNeg)) (b2i (Mod_isLetter (I249 205 ((I249 204 5).toNatClampNeg)))) 1 I274 J272 h).trans q273
            · skip
              obtain ⟨J275, e1, h⟩ := bnd h
              have q276 : J275 b j = J b j := by rw [← Option.some.inj e1]; exact (up2_ff w0).trans rfl
              obtain ⟨I277, e1, h⟩ := bnd h
              exact (fj_Mod_go_215 w0 _ (I249 205 ((I249 204 5).toNatClampNeg)) (b2i (Mod_isLetter (I249 205 ((I249 204 5).toNatClampNeg)))) 1 I277 J275 h).trans q276
          · skip
            obtain ⟨I278, e1, h⟩ := bnd h
            obtain rfl := Option.some.inj h; exact rfl
        · skip
          rcases iteC h with ⟨hb, h⟩ | ⟨hb, h⟩
          · skip
            rcases iteC h with ⟨hb, h⟩ | ⟨hb, h⟩
            · skip
              obtain ⟨hg279, h⟩ := grd h
              rcases iteC h with ⟨hb, h⟩ | ⟨hb, h⟩
              rotate_left
              · skip
                rcases iteC h with ⟨hb, h⟩ | ⟨hb, h⟩
                rotate_left
                · skip
                  rcases iteC h with ⟨hb, h⟩ | ⟨hb, h⟩
                  · skip
                    obtain ⟨I280, e1, h⟩ := bnd h
                    obtain ⟨I281, e1, h⟩ := bnd h
                    obtain ⟨I282, e1, h⟩ := bnd h
                    obtain rfl := Option.some.inj h; exact rfl
                  · skip
                    rcases iteC h with ⟨hb, h⟩ | ⟨hb, h⟩
                    · skip
                      obtain ⟨I283, e1, h⟩ := bnd h
                      obtain ⟨I284, e1, h⟩ := bnd h
                      obtain ⟨I285, e1, h⟩ := bnd h
                      obtain rfl := Option.some.inj h; exact rfl
                    · skip
                      rcases iteC h with ⟨hb, h⟩ | ⟨hb, h⟩
                      · skip
                        obtain ⟨I286, e1, h⟩ := bnd h
                        obtain ⟨I287, e1, h⟩ := bnd h
                        obtain ⟨I288, e1, h⟩ := bnd h
                        obtain rfl := Option.some.inj h; exact rfl
                      · skip
                        rcases iteC h with ⟨hb, h⟩ | ⟨hb, h⟩
                        · skip
                          obtain ⟨I289, e1, h⟩ := bnd h
                          obtain ⟨I290, e1, h⟩ := bnd h
                          obtain ⟨I291, e1, h⟩ := bnd h
                          obtain rfl := Option.some.inj h; exact rfl
                        · skip
                          rcases iteC h with ⟨hb, h⟩ | ⟨hb, h⟩
                          · skip
                            obtain ⟨I292, e1, h⟩ := bnd h
                            obtain ⟨I293, e1, h⟩ := bnd h
                            obtain ⟨I294, e1, h⟩ := bnd h
                            obtain rfl := Option.some.inj h; exact rfl
                          · skip
                            rcases iteC h with ⟨hb, h⟩ | ⟨hb, h⟩
                            · skip
                              obtain ⟨I295, e1, h⟩ := bnd h
                              obtain ⟨I296, e1, h⟩ := bnd h
                              obtain ⟨I297, e1, h⟩ := bnd h
                              obtain rfl := Option.some.inj h; exact rfl
                            · skip
                              obtain ⟨I298, e1, h⟩ := bnd h
                              obtain ⟨I299, e1, h⟩ := bnd h
                              obtain ⟨I300, e1, h⟩ := bnd h
                              obtain rfl := Option.some.inj h; exact rfl
                · skip
                  obtain ⟨J301, e1, h⟩ := bnd h
                  have q302 : J301 b j = J b j := by rw [← Option.some.inj e1]; exact (up2_ff w0).trans rfl
                  obtain ⟨I303, e1, h⟩ := bnd h
                  exact (fj_Mod_go_215 w0 _ (I249 205 ((I249 204 5).toNatClampNeg)) (b2i (Mod_isLetter (I249 205 ((I249 204 5).toNatClampNeg)))) 1 I303 J301 h).trans q302
              · skip
                obtain ⟨J304, e1, h⟩ := bnd h
                have q305 : J304 b j = J b j := by rw [← Option.some.inj e1]; exact (up2_ff w0).trans rfl
                obtain ⟨I306, e1, h⟩ := bnd h
                exact (fj_Mod_go_215 w0 _ (I249 205 ((I249 204 5).toNatClampNeg)) (b2i (Mod_isLetter (I249 205 ((I249 204 5).toNatClampNeg)))) 1 I306 J304 h).trans q305
            · skip
              obtain ⟨I307, e1, h⟩ := bnd h
              obtain rfl := Option.some.inj h; exact rfl
          · skip
            obtain ⟨I308, e1, h⟩ := bnd h
            obtain ⟨I309, e1, h⟩ := bnd h
            obtain rfl := Option.some.inj h; exact rfl
set_option maxRecDepth 8000 in
theorem fj_Mod_begin {N : Nat} {l1 : Int32} {I : FI} {J : FJ} {r : FI × FJ} {b j : Nat} (w0 : ¬ (b = 204 ∧ j = 12)) (h : Mod_begin N l1 I J = some r) : r.2 b j = J b j := by
  unfold Mod_begin at h
  obtain ⟨I1, e1, h⟩ := bnd h
  obtain ⟨x2, hx, h⟩ := bnd h
  obtain ⟨I3, e1, h⟩ := bnd h
  obtain ⟨I4, e1, h⟩ := bnd h
  obtain ⟨I5, e1, h⟩ := bnd h
  obtain ⟨I6, e1, h⟩ := bnd h
  obtain ⟨x7, hx, h⟩ := bnd h
  have q8 : x7.2 b j = J b j := (fj_Mod_go w0 hx).trans rfl
  obtain rfl := Option.some.inj h; exact q8
set_option maxRecDepth 8000 in
theorem fj_Mod_isFresh {N : Nat} {l1 : Int32} {I : FI} {J : FJ} {r : Bool × FI × FJ} {b j : Nat} (w0 : ¬ (b = 204 ∧ j = 12)) (h : Mod_isFresh N l1 I J = some r) : r.2.2 b j = J b j := by
  unfold Mod_isFresh at h
  obtain ⟨hg1, h⟩ := grd h
  rcases iteC h with ⟨hb, h⟩ | ⟨hb, h⟩
  · skip
    obtain ⟨I2, e1, h⟩ := bnd h
    obtain ⟨x3, hx, h⟩ := bnd h
    have q4 : x3.2 b j = J b j := (fj_Mod_go w0 hx).trans rfl
    obtain rfl := Option.some.inj h; exact q4
  · skip
    obtain ⟨x5, hx, h⟩ := bnd h
    obtain rfl := Option.some.inj h; exact rfl
set_option maxRecDepth 8000 in
theorem fj_Mod_readNumber {N : Nat} {l1 : Int32} {l2 : Int32} {I : FI} {J : FJ} {r : Bool × FI × FJ} {b j : Nat} (w0 : ¬ (b = 204 ∧ j = 12)) (h : Mod_readNumber N l1 l2 I J = some r) : r.2.2 b j = J b j := by
  unfold Mod_readNumber at h
  rcases iteC h with ⟨hb, h⟩ | ⟨hb, h⟩
  · skip
    rcases iteC h with ⟨hb, h⟩ | ⟨hb, h⟩
    rotate_left
    · skip
      obtain ⟨x1, hx, h⟩ := bnd h
      obtain rfl := Option.some.inj h; exact rfl
    · skip
      obtain ⟨I2, e1, h⟩ := bnd h
      obtain ⟨x3, hx, h⟩ := bnd h
      have q4 : x3.2 b j = J b j := (fj_Mod_go w0 hx).trans rfl
      obtain rfl := Option.some.inj h; exact q4
  · skip
    obtain ⟨x5, hx, h⟩ := bnd h
    obtain rfl := Option.some.inj h; exact rfl
set_option maxRecDepth 8000 in
theorem fj_Mod_readField {N : Nat} {I : FI} {J : FJ} {r : Bool × FI × FJ} {b j : Nat} (w0 : ¬ (b = 204 ∧ j = 12)) (h : Mod_readField N I J = some r) : r.2.2 b j = J b j := by
  unfold Mod_readField at h
  rcases iteC h with ⟨hb, h⟩ | ⟨hb, h⟩
  · skip
    obtain ⟨x1, hx, h⟩ := bnd h
    have q2 : x1.2.2 b j = J b j := (fj_Mod_isFresh w0 hx).trans rfl
    rcases iteC h with ⟨hb, h⟩ | ⟨hb, h⟩
    rotate_left
    · skip
      obtain rfl := Option.some.inj h; exact q2
    · skip
      obtain ⟨x3, hx, h⟩ := bnd h
      have q4 : x3.2.2 b j = J b j := (fj_Mod_readNumber w0 hx).trans q2
      obtain ⟨x5, hx, h⟩ := bnd h
      rcases iteC h with ⟨hb, h⟩ | ⟨hb, h⟩
      rotate_left
      · skip
        obtain rfl := Option.some.inj h; exact q4
      · skip
        obtain ⟨x6, hx, h⟩ := bnd h
        have q7 : x6.2.2 b j = J b j := (fj_Mod_readNumber w0 hx).trans q4
        obtain ⟨x8, hx, h⟩ := bnd h
        rcases iteC h with ⟨hb, h⟩ | ⟨hb, h⟩
        rotate_left
        · skip
          obtain rfl := Option.some.inj h; exact q7
        · skip
          obtain rfl := Option.some.inj h; exact q7
  · skip
    obtain ⟨x9, hx, h⟩ := bnd h
    obtain rfl := Option.some.inj h; exact rfl
set_option maxRecDepth 8000 in
theorem fj_Mod_readFirst {N : Nat} {l1 : Int32} {l2 : Int32} {I : FI} {J : FJ} {r : Bool × FI × FJ} {b j : Nat} (w0 : ¬ (b = 204 ∧ j = 12)) (h : Mod_readFirst N l1 l2 I J = some r) : r.2.2 b j = J b j := by
  unfold Mod_readFirst at h
  obtain ⟨hg1, h⟩ := grd h
  rcases iteC h with ⟨hb, h⟩ | ⟨hb, h⟩
  · skip
    obtain ⟨x2, hx, h⟩ := bnd h
    obtain rfl := Option.some.inj h; exact rfl
  · skip
    obtain ⟨x3, hx, h⟩ := bnd h
    have q4 : x3.2 b j = J b j := (fj_Mod_go w0 hx).trans rfl
    obtain rfl := Option.some.inj h; exact q4
set_option maxRecDepth 8000 in
theorem fj_Mod_readNew {N : Nat} {l1 : Int32} {I : FI} {J : FJ} {r : Bool × FI × FJ} {b j : Nat} (w0 : b ≠ 212) (w1 : ¬ (b = 204 ∧ j = 12)) (h : Mod_readNew N l1 I J = some r) : r.2.2 b j = J b j := by
  unfold Mod_readNew at h
  obtain ⟨x1, hx, h⟩ := bnd h
  rcases iteC h with ⟨hb, h⟩ | ⟨hb, h⟩
  rotate_left
  · skip
    obtain ⟨x2, hx, h⟩ := bnd h
    obtain rfl := Option.some.inj h; exact rfl
  · skip
    obtain ⟨x3, hx, h⟩ := bnd h
    rcases iteC h with ⟨hb, h⟩ | ⟨hb, h⟩
    · skip
      obtain ⟨x4, hx, h⟩ := bnd h
      rcases iteC h with ⟨hb, h⟩ | ⟨hb, h⟩
      · skip
        obtain ⟨x5, hx, h⟩ := bnd h
        rcases iteC h with ⟨hb, h⟩ | ⟨hb, h⟩
        · skip
          obtain ⟨hg6, h⟩ := grd h
          obtain ⟨J7, e1, h⟩ := bnd h
          have q8 : J7 b j = J b j := by rw [← Option.some.inj e1]; exact (up2_fa w0).trans rfl
          obtain ⟨x9, hx, h⟩ := bnd h
          have q10 : x9.2 b j = J b j := (fj_Mod_go w1 hx).trans q8
          obtain rfl := Option.some.inj h; exact q10
        · skip
          obtain ⟨x11, hx, h⟩ := bnd h
          obtain rfl := Option.some.inj h; exact rfl
      · skip
        obtain ⟨x12, hx, h⟩ := bnd h
        obtain rfl := Option.some.inj h; exact rfl
    · skip
      obtain ⟨x13, hx, h⟩ := bnd h
      obtain rfl := Option.some.inj h; exact rfl
set_option maxRecDepth 8000 in
theorem fj_Mod_readPerson {N : Nat} {I : FI} {J : FJ} {r : Bool × FI × FJ} {b j : Nat} (w0 : b ≠ 212) (w1 : ¬ (b = 204 ∧ j = 12)) (h : Mod_readPerson N I J = some r) : r.2.2 b j = J b j := by
  unfold Mod_readPerson at h
  obtain ⟨x1, hx, h⟩ := bnd h
  have q2 : x1.2.2 b j = J b j := (fj_Mod_readFirst w1 hx).trans rfl
  rcases iteC h with ⟨hb, h⟩ | ⟨hb, h⟩
  rotate_left
  · skip
    obtain rfl := Option.some.inj h; exact q2
  · skip
    obtain ⟨x3, hx, h⟩ := bnd h
    have q4 : x3.2.2 b j = J b j := (fj_Mod_readNew w0 w1 hx).trans q2
    rcases iteC h with ⟨hb, h⟩ | ⟨hb, h⟩
    rotate_left
    · skip
      obtain rfl := Option.some.inj h; exact q4
    · skip
      obtain ⟨I5, e1, h⟩ := bnd h
      obtain rfl := Option.some.inj h; exact q4
set_option maxRecDepth 8000 in
theorem fj_Mod_readFind {N : Nat} {I : FI} {J : FJ} {r : Bool × FI × FJ} {b j : Nat} (w0 : b ≠ 212) (w1 : ¬ (b = 204 ∧ j = 12)) (h : Mod_readFind N I J = some r) : r.2.2 b j = J b j := by
  unfold Mod_readFind at h
  obtain ⟨x1, hx, h⟩ := bnd h
  have q2 : x1.2.2 b j = J b j := (fj_Mod_readFirst w1 hx).trans rfl
  rcases iteC h with ⟨hb, h⟩ | ⟨hb, h⟩
  rotate_left
  · skip
    obtain rfl := Option.some.inj h; exact q2
  · skip
    obtain ⟨x3, hx, h⟩ := bnd h
    have q4 : x3.2.2 b j = J b j := (fj_Mod_readNew w0 w1 hx).trans q2
    rcases iteC h with ⟨hb, h⟩ | ⟨hb, h⟩
    rotate_left
    · skip
      obtain rfl := Option.some.inj h; exact q4
    · skip
      obtain ⟨x5, hx, h⟩ := bnd h
      obtain ⟨x6, hx, h⟩ := bnd h
      rcases iteC h with ⟨hb, h⟩ | ⟨hb, h⟩
      rotate_left
      · skip
        obtain rfl := Option.some.inj h; exact q4
      · skip
        obtain ⟨x7, hx, h⟩ := bnd h
        have q8 : x7.2 b j = J b j := (fj_Mod_go w1 hx).trans q4
        obtain ⟨x9, hx, h⟩ := bnd h
        have q10 : x9.2.2 b j = J b j := (fj_Mod_readNumber w1 hx).trans q8
        obtain ⟨x11, hx, h⟩ := bnd h
        rcases iteC h with ⟨hb, h⟩ | ⟨hb, h⟩
        rotate_left
        · skip
          obtain rfl := Option.some.inj h; exact q10
        · skip
          obtain ⟨x12, hx, h⟩ := bnd h
          have q13 : x12.2.2 b j = J b j := (fj_Mod_readNumber w1 hx).trans q10
          obtain ⟨x14, hx, h⟩ := bnd h
          rcases iteC h with ⟨hb, h⟩ | ⟨hb, h⟩
          rotate_left
          · skip
            obtain rfl := Option.some.inj h; exact q13
          · skip
            obtain ⟨x15, hx, h⟩ := bnd h
            have q16 : x15.2.2 b j = J b j := (fj_Mod_readNumber w1 hx).trans q13
            obtain ⟨x17, hx, h⟩ := bnd h
            rcases iteC h with ⟨hb, h⟩ | ⟨hb, h⟩
            rotate_left
            · skip
              obtain rfl := Option.some.inj h; exact q16
            · skip
              obtain ⟨x18, hx, h⟩ := bnd h
              have q19 : x18.2.2 b j = J b j := (fj_Mod_readNumber w1 hx).trans q16
              obtain ⟨x20, hx, h⟩ := bnd h
              rcases iteC h with ⟨hb, h⟩ | ⟨hb, h⟩
              rotate_left
              · skip
                obtain rfl := Option.some.inj h; exact q19
              · skip
                obtain ⟨x21, hx, h⟩ := bnd h
                have q22 : x21.2.2 b j = J b j := (fj_Mod_readNumber w1 hx).trans q19
                obtain ⟨x23, hx, h⟩ := bnd h
                rcases iteC h with ⟨hb, h⟩ | ⟨hb, h⟩
                rotate_left
                · skip
                  obtain rfl := Option.some.inj h; exact q22
                · skip
                  obtain ⟨I24, e1, h⟩ := bnd h
                  obtain rfl := Option.some.inj h; exact q22
set_option maxRecDepth 8000 in
theorem fj_Mod_readFear {N : Nat} {I : FI} {J : FJ} {r : Bool × FI × FJ} {b j : Nat} (w0 : b ≠ 212) (w1 : ¬ (b = 204 ∧ j = 12)) (h : Mod_readFear N I J = some r) : r.2.2 b j = J b j := by
  unfold Mod_readFear at h
  obtain ⟨x1, hx, h⟩ := bnd h
  have q2 : x1.2.2 b j = J b j := (fj_Mod_readFirst w1 hx).trans rfl
  rcases iteC h with ⟨hb, h⟩ | ⟨hb, h⟩
  rotate_left
  · skip
    obtain rfl := Option.some.inj h; exact q2
  · skip
    obtain ⟨x3, hx, h⟩ := bnd h
    have q4 : x3.2.2 b j = J b j := (fj_Mod_readNew w0 w1 hx).trans q2
    rcases iteC h with ⟨hb, h⟩ | ⟨hb, h⟩
    rotate_left
    · skip
      obtain rfl := Option.some.inj h; exact q4
    · skip
      obtain ⟨x5, hx, h⟩ := bnd h
      have q6 : x5.2.2 b j = J b j := (fj_Mod_readNumber w1 hx).trans q4
      obtain ⟨x7, hx, h⟩ := bnd h
      rcases iteC h with ⟨hb, h⟩ | ⟨hb, h⟩
      rotate_left
      · skip
        obtain rfl := Option.some.inj h; exact q6
      · skip
        obtain ⟨hg8, h⟩ := grd h
        obtain ⟨x9, hx, h⟩ := bnd h
        have q10 : x9.2.2 b j = J b j := (fj_Mod_readNumber w1 hx).trans q6
        obtain ⟨x11, hx, h⟩ := bnd h
        rcases iteC h with ⟨hb, h⟩ | ⟨hb, h⟩
        rotate_left
        · skip
          obtain rfl := Option.some.inj h; exact q10
        · skip
          obtain ⟨I12, e1, h⟩ := bnd h
          obtain rfl := Option.some.inj h; exact q10
set_option maxRecDepth 8000 in
theorem fj_Mod_readReading {N : Nat} {I : FI} {J : FJ} {r : Bool × FI × FJ} {b j : Nat} (w0 : ¬ (b = 204 ∧ j = 12)) (h : Mod_readReading N I J = some r) : r.2.2 b j = J b j := by
  unfold Mod_readReading at h
  obtain ⟨x1, hx, h⟩ := bnd h
  have q2 : x1.2 b j = J b j := (fj_Mod_go w0 hx).trans rfl
  obtain ⟨x3, hx, h⟩ := bnd h
  obtain rfl := Option.some.inj h; exact q2
set_option maxRecDepth 8000 in
theorem fj_Mod_readHint {N : Nat} {I : FI} {J : FJ} {r : Bool × FI × FJ} {b j : Nat} (w0 : ¬ (b = 204 ∧ j = 12)) (h : Mod_readHint N I J = some r) : r.2.2 b j = J b j := by
  unfold Mod_readHint at h
  obtain ⟨x1, hx, h⟩ := bnd h
  have q2 : x1.2.2 b j = J b j := (fj_Mod_readReading w0 hx).trans rfl
  rcases iteC h with ⟨hb, h⟩ | ⟨hb, h⟩
  rotate_left
  · skip
    obtain rfl := Option.some.inj h; exact q2
  · skip
    obtain ⟨x3, hx, h⟩ := bnd h
    have q4 : x3.2 b j = J b j := (fj_Mod_go w0 hx).trans q2
    obtain ⟨x5, hx, h⟩ := bnd h
    rcases iteC h with ⟨hb, h⟩ | ⟨hb, h⟩
    rotate_left
    · skip
      obtain rfl := Option.some.inj h; exact q4
    · skip
      obtain ⟨x6, hx, h⟩ := bnd h
      have q7 : x6.2.2 b j = J b j := (fj_Mod_isFresh w0 hx).trans q4
      rcases iteC h with ⟨hb, h⟩ | ⟨hb, h⟩
      rotate_left
      · skip
        obtain rfl := Option.some.inj h; exact q7
      · skip
        obtain ⟨x8, hx, h⟩ := bnd h
        have q9 : x8.2.2 b j = J b j := (fj_Mod_readNumber w0 hx).trans q7
        obtain ⟨x10, hx, h⟩ := bnd h
        rcases iteC h with ⟨hb, h⟩ | ⟨hb, h⟩
        rotate_left
        · skip
          obtain rfl := Option.some.inj h; exact q9
        · skip
          obtain rfl := Option.some.inj h; exact q9
set_option maxRecDepth 8000 in
theorem fj_Mod_readPrior {N : Nat} {I : FI} {J : FJ} {r : Bool × FI × FJ} {b j : Nat} (w0 : ¬ (b = 204 ∧ j = 12)) (h : Mod_readPrior N I J = some r) : r.2.2 b j = J b j := by
  unfold Mod_readPrior at h
  obtain ⟨x1, hx, h⟩ := bnd h
  have q2 : x1.2.2 b j = J b j := (fj_Mod_readReading w0 hx).trans rfl
  rcases iteC h with ⟨hb, h⟩ | ⟨hb, h⟩
  rotate_left
  · skip
    obtain rfl := Option.some.inj h; exact q2
  · skip
    obtain ⟨x3, hx, h⟩ := bnd h
    have q4 : x3.2.2 b j = J b j := (fj_Mod_isFresh w0 hx).trans q2
    rcases iteC h with ⟨hb, h⟩ | ⟨hb, h⟩
    rotate_left
    · skip
      obtain rfl := Option.some.inj h; exact q4
    · skip
      obtain ⟨x5, hx, h⟩ := bnd h
      have q6 : x5.2.2 b j = J b j := (fj_Mod_readNumber w0 hx).trans q4
      obtain ⟨x7, hx, h⟩ := bnd h
      rcases iteC h with ⟨hb, h⟩ | ⟨hb, h⟩
      rotate_left
      · skip
        obtain rfl := Option.some.inj h; exact q6
      · skip
        obtain rfl := Option.some.inj h; exact q6
set_option maxRecDepth 8000 in
theorem fj_Mod_readGets {N : Nat} {I : FI} {J : FJ} {r : Bool × FI × FJ} {b j : Nat} (w0 : ¬ (b = 204 ∧ j = 12)) (h : Mod_readGets N I J = some r) : r.2.2 b j = J b j := by
  unfold Mod_readGets at h
  obtain ⟨x1, hx, h⟩ := bnd h
  have q2 : x1.2.2 b j = J b j := (fj_Mod_readReading w0 hx).trans rfl
  rcases iteC h with ⟨hb, h⟩ | ⟨hb, h⟩
  rotate_left
  · skip
    obtain rfl := Option.some.inj h; exact q2
  · skip
    obtain ⟨x3, hx, h⟩ := bnd h
    have q4 : x3.2 b j = J b j := (fj_Mod_go w0 hx).trans q2
    obtain ⟨x5, hx, h⟩ := bnd h
    rcases iteC h with ⟨hb, h⟩ | ⟨hb, h⟩
    rotate_left
    · skip
      obtain rfl := Option.some.inj h; exact q4
    · skip
      obtain ⟨x6, hx, h⟩ := bnd h
      have q7 : x6.2.2 b j = J b j := (fj_Mod_isFresh w0 hx).trans q4
      rcases iteC h with ⟨hb, h⟩ | ⟨hb, h⟩
      rotate_left
      · skip
        obtain rfl := Option.some.inj h; exact q7
      · skip
        obtain ⟨x8, hx, h⟩ := bnd h
        have q9 : x8.2.2 b j = J b j := (fj_Mod_readNumber w0 hx).trans q7
        obtain ⟨x10, hx, h⟩ := bnd h
        rcases iteC h with ⟨hb, h⟩ | ⟨hb, h⟩
        rotate_left
        · skip
          obtain rfl := Option.some.inj h; exact q9
        · skip
          obtain rfl := Option.some.inj h; exact q9
set_option maxRecDepth 8000 in
theorem fj_Mod_readLine {N : Nat} {I : FI} {J : FJ} {r : Bool × FI × FJ} {b j : Nat} (w0 : b ≠ 212) (w1 : ¬ (b = 204 ∧ j = 12)) (h : Mod_readLine N I J = some r) : r.2.2 b j = J b j := by
  unfold Mod_readLine at h
  rcases iteC h with ⟨hb, h⟩ | ⟨hb, h⟩
  rotate_left
  · skip
    rcases iteC h with ⟨hb, h⟩ | ⟨hb, h⟩
    rotate_left
    · skip
      rcases iteC h with ⟨hb, h⟩ | ⟨hb, h⟩
      rotate_left
      · skip
        rcases iteC h with ⟨hb, h⟩ | ⟨hb, h⟩
        rotate_left
        · skip
          rcases iteC h with ⟨hb, h⟩ | ⟨hb, h⟩
          rotate_left
          · skip
            rcases iteC h with ⟨hb, h⟩ | ⟨hb, h⟩
            rotate_left
            · skip
              rcases iteC h with ⟨hb, h⟩ | ⟨hb, h⟩
              rotate_left
              · skip
                rcases iteC h with ⟨hb, h⟩ | ⟨hb, h⟩
                rotate_left
                · skip
                  obtain ⟨x1, hx, h⟩ := bnd h
                  obtain rfl := Option.some.inj h; exact rfl
                · skip
                  obtain ⟨x2, hx, h⟩ := bnd h
                  have q3 : x2.2.2 b j = J b j := (fj_Mod_isFresh w1 hx).trans rfl
                  rcases iteC h with ⟨hb, h⟩ | ⟨hb, h⟩
                  rotate_left
                  · skip
                    obtain rfl := Option.some.inj h; exact q3
                  · skip
                    obtain ⟨x4, hx, h⟩ := bnd h
                    have q5 : x4.2.2 b j = J b j := (fj_Mod_readNumber w1 hx).trans q3
                    obtain ⟨x6, hx, h⟩ := bnd h
                    rcases iteC h with ⟨hb, h⟩ | ⟨hb, h⟩
                    rotate_left
                    · skip
                      obtain rfl := Option.some.inj h; exact q5
                    · skip
                      obtain rfl := Option.some.inj h; exact q5
              · skip
                obtain ⟨x7, hx, h⟩ := bnd h
                have q8 : x7.2.2 b j = J b j := (fj_Mod_readGets w1 hx).trans rfl
                obtain rfl := Option.some.inj h; exact q8
            · skip
              obtain ⟨x9, hx, h⟩ := bnd h
              have q10 : x9.2.2 b j = J b j := (fj_Mod_readPrior w1 hx).trans rfl
              obtain rfl := Option.some.inj h; exact q10
          · skip
            obtain ⟨x11, hx, h⟩ := bnd h
            have q12 : x11.2.2 b j = J b j := (fj_Mod_readHint w1 hx).trans rfl
            obtain rfl := Option.some.inj h; exact q12
        · skip
          obtain ⟨x13, hx, h⟩ := bnd h
          have q14 : x13.2.2 b j = J b j := (fj_Mod_readFear w0 w1 hx).trans rfl
          obtain rfl := Option.some.inj h; exact q14
      · skip
        obtain ⟨x15, hx, h⟩ := bnd h
        have q16 : x15.2.2 b j = J b j := (fj_Mod_readFind w0 w1 hx).trans rfl
        obtain rfl := Option.some.inj h; exact q16
    · skip
      obtain ⟨x17, hx, h⟩ := bnd h
      have q18 : x17.2.2 b j = J b j := (fj_Mod_readPerson w0 w1 hx).trans rfl
      obtain rfl := Option.some.inj h; exact q18
  · skip
    obtain ⟨x19, hx, h⟩ := bnd h
    have q20 : x19.2.2 b j = J b j := (fj_Mod_readField w1 hx).trans rfl
    obtain rfl := Option.some.inj h; exact q20
set_option maxRecDepth 8000 in
theorem fj_Mod_readEnd {N : Nat} {I : FI} {J : FJ} {r : Bool × FI × FJ} {b j : Nat} (w0 : ¬ (b = 204 ∧ j = 12)) (h : Mod_readEnd N I J = some r) : r.2.2 b j = J b j := by
  unfold Mod_readEnd at h
  rcases iteC h with ⟨hb, h⟩ | ⟨hb, h⟩
  rotate_left
  · skip
    obtain ⟨x1, hx, h⟩ := bnd h
    obtain rfl := Option.some.inj h; exact rfl
  · skip
    obtain ⟨x2, hx, h⟩ := bnd h
    have q3 : x2.2 b j = J b j := (fj_Mod_go w0 hx).trans rfl
    obtain rfl := Option.some.inj h; exact q3
set_option maxRecDepth 8000 in
theorem fj_Mod_field_75 {N : Nat} {r : Int32 × FI × FJ} {b j : Nat} (w0 : b ≠ 211) (w1 : b ≠ 212) (w2 : ¬ (b = 204 ∧ j = 12)) : ∀ (n : Nat) (l1 : Int32) (l2 : Int32) (I : FI) (J : FJ), Mod_field_75 N n l1 l2 I J = some r → r.2.2 b j = J b j := by
  intro n
  induction n with
  | zero =>
    intro l1 l2 I J h
    cases h
  | succ n ih =>
    intro l1 l2 I J h
    unfold Mod_field_75 at h
    rcases iteC h with ⟨hb, h⟩ | ⟨hb, h⟩
    · skip
      obtain ⟨x4, hx, h⟩ := bnd h
      obtain ⟨I5, e1, h⟩ := bnd h
      obtain rfl := Option.some.inj h; exact rfl
    · skip
      obtain ⟨hg6, h⟩ := grd h
      obtain ⟨J7, e1, h⟩ := bnd h
      have q8 : J7 b j = J b j := by rw [← Option.some.inj e1]; exact (up2_fa w0).trans rfl
      exact (ih l1 (l2 + 1) I J7 h).trans q8
set_option maxRecDepth 8000 in
theorem fj_Mod_field_49 {N : Nat} {r : Int32 × FI × FJ} {b j : Nat} (w0 : b ≠ 211) (w1 : b ≠ 212) (w2 : ¬ (b = 204 ∧ j = 12)) : ∀ (n : Nat) (l1 : Int32) (l2 : Int32) (I : FI) (J : FJ), Mod_field_49 N n l1 l2 I J = some r → r.2.2 b j = J b j := by
  intro n
  induction n with
  | zero =>
    intro l1 l2 I J h
    cases h
  | succ n ih =>
    intro l1 l2 I J h
    unfold Mod_field_49 at h
    rcases iteC h with ⟨hb, h⟩ | ⟨hb, h⟩
    · skip
      exact (fj_Mod_field_75 w0 w1 w2 _ l1 0 I J h).trans rfl
    · skip
      obtain ⟨hg9, h⟩ := grd h
      obtain ⟨hg10, h⟩ := grd h
      obtain ⟨I11, e1, h⟩ := bnd h
      exact (ih l1 (l2 + 1) I11 J h).trans rfl
set_option maxRecDepth 8000 in
theorem fj_Mod_field_13 {N : Nat} {r : Int32 × FI × FJ} {b j : Nat} (w0 : b ≠ 211) (w1 : b ≠ 212) (w2 : ¬ (b = 204 ∧ j = 12)) : ∀ (n : Nat) (l1 : Int32) (I : FI) (J : FJ), Mod_field_13 N n l1 I J = some r → r.2.2 b j = J b j := by
  intro n
  induction n with
  | zero =>
    intro l1 I J h
    cases h
  | succ n ih =>
    intro l1 I J h
    unfold Mod_field_13 at h
    rcases iteC h with ⟨hb, h⟩ | ⟨hb, h⟩
    · skip
      exact (fj_Mod_field_49 w0 w1 w2 _ l1 0 I J h).trans rfl
    · skip
      obtain ⟨x12, hx, h⟩ := bnd h
      have q13 : x12.2.2 b j = J b j := (fj_Mod_readLine w1 w2 hx).trans rfl
      rcases iteC h with ⟨hb, h⟩ | ⟨hb, h⟩
      rotate_left
      · skip
        obtain rfl := Option.some.inj h; exact q13
      · skip
        obtain ⟨x14, hx, h⟩ := bnd h
        have q15 : x14.2.2 b j = J b j := (fj_Mod_readEnd w2 hx).trans q13
        rcases iteC h with ⟨hb, h⟩ | ⟨hb, h⟩
        rotate_left
        · skip
          obtain rfl := Option.some.inj h; exact q15
        · skip
          exact (ih (l1 + 1) x14.2.1 x14.2.2 h).trans q15
set_option maxRecDepth 8000 in
theorem fj_Mod_field {N : Nat} {I : FI} {J : FJ} {r : Int32 × FI × FJ} {b j : Nat} (w0 : b ≠ 211) (w1 : b ≠ 212) (w2 : ¬ (b = 204 ∧ j = 12)) (h : Mod_field N I J = some r) : r.2.2 b j = J b j := by
  unfold Mod_field at h
  obtain ⟨x1, hx, h⟩ := bnd h
  have q2 : x1.2 b j = J b j := (fj_Mod_begin w2 hx).trans rfl
  obtain ⟨x3, hx, h⟩ := bnd h
  exact (fj_Mod_field_13 w0 w1 w2 _ 0 x3 x1.2 h).trans q2
set_option maxRecDepth 8000 in
theorem fj_Mod_layWeights_94 {N : Nat} {r : FJ} {b j : Nat} (w0 : b ≠ 216) : ∀ (n : Nat) (l1 : Int32) (l2 : Int32) (I : FI) (J : FJ), Mod_layWeights_94 N n l1 l2 I J = some r → r b j = J b j := by
  intro n
  induction n with
  | zero =>
    intro l1 l2 I J h
    cases h
  | succ n ih =>
    intro l1 l2 I J h
    unfold Mod_layWeights_94 at h
    rcases iteC h with ⟨hb, h⟩ | ⟨hb, h⟩
    · skip
      obtain rfl := Option.some.inj h; exact rfl
    · skip
      obtain ⟨hg2, h⟩ := grd h
      obtain ⟨J3, e1, h⟩ := bnd h
      have q4 : J3 b j = J b j := by rw [← Option.some.inj e1]; exact (up2_fa w0).trans rfl
      exact (ih l1 (l2 + 1) I J3 h).trans q4
set_option maxRecDepth 8000 in
theorem fj_Mod_layWeights_25 {N : Nat} {K : Int32 → Int32 → FI → FJ → Option (FJ)} {r : FJ} {b j : Nat} (w0 : b ≠ 216) (hK : ∀ (x1 : Int32) (x2 : Int32) (I : FI) (J : FJ), K x1 x2 I J = some r → r b j = J b j) : ∀ (n : Nat) (l1 : Int32) (l2 : Int32) (l3 : Int32) (I : FI) (J : FJ), Mod_layWeights_25 N K n l1 l2 l3 I J = some r → r b j = J b j := by
  intro n
  induction n with
  | zero =>
    intro l1 l2 l3 I J h
    cases h
  | succ n ih =>
    intro l1 l2 l3 I J h
    unfold Mod_layWeights_25 at h
    rcases iteC h with ⟨hb, h⟩ | ⟨hb, h⟩
    · skip
      exact (hK l1 (l2 + 1) I J h).trans rfl
    · skip
      rcases iteC h with ⟨hb, h⟩ | ⟨hb, h⟩
      rotate_left
      · skip
        exact (ih l1 l2 (l3 + 1) I J h).trans rfl
      · skip
        obtain ⟨hg9, h⟩ := grd h
        obtain ⟨hg10, h⟩ := grd h
        obtain ⟨hg11, h⟩ := grd h
        obtain ⟨J12, e1, h⟩ := bnd h
        have q13 : J12 b j = J b j := by rw [← Option.some.inj e1]; exact (up2_fa w0).trans rfl
        exact (ih l1 l2 (l3 + 1) I J12 h).trans q13
set_option maxRecDepth 8000 in
theorem fj_Mod_layWeights_2 {N : Nat} {r : FJ} {b j : Nat} (w0 : b ≠ 216) : ∀ (n : Nat) (l1 : Int32) (l2 : Int32) (I : FI) (J : FJ), Mod_layWeights_2 N n l1 l2 I J = some r → r b j = J b j := by
  intro n
  induction n with
  | zero =>
    intro l1 l2 I J h
    cases h
  | succ n ih =>
    intro l1 l2 I J h
    unfold Mod_layWeights_2 at h
    rcases iteC h with ⟨hb, h⟩ | ⟨hb, h⟩
    · skip
      obtain ⟨x1, hx, h⟩ := bnd h
      rcases iteC h with ⟨hb, h⟩ | ⟨hb, h⟩
      · skip
        exact (fj_Mod_layWeights_94 w0 _ l1 0 I J h).trans rfl
      · skip
        obtain rfl := Option.some.inj h; exact rfl
    · skip
      obtain ⟨hg5, h⟩ := grd h
      obtain ⟨hg6, h⟩ := grd h
      obtain ⟨J7, e1, h⟩ := bnd h
      have q8 : J7 b j = J b j := by rw [← Option.some.inj e1]; exact (up2_fa w0).trans rfl
      exact (fj_Mod_layWeights_25 w0 (fun x1 x2 I J h => ih x1 x2 I J h) _ l1 l2 0 I J7 h).trans q8
set_option maxRecDepth 8000 in
theorem fj_Mod_layWeights {N : Nat} {l1 : Int32} {I : FI} {J : FJ} {r : FJ} {b j : Nat} (w0 : b ≠ 216) (h : Mod_layWeights N l1 I J = some r) : r b j = J b j := by
  unfold Mod_layWeights at h
  exact (fj_Mod_layWeights_2 w0 _ l1 0 I J h).trans rfl
set_option maxRecDepth 8000 in
theorem fj_Mod_belief {N : Nat} {l1 : Int32} {l2 : Int32} {I : FI} {J : FJ} {r : Int64 × FI × FJ} {b j : Nat} (w0 : b ≠ 216) (h : Mod_belief N l1 l2 I J = some r) : r.2.2 b j = J b j := by
  unfold Mod_belief at h
  obtain ⟨I1, e1, h⟩ := bnd h
  rcases iteC h with ⟨hb, h⟩ | ⟨hb, h⟩
  rotate_left
  · skip
    obtain ⟨x2, hx, h⟩ := bnd h
    obtain rfl := Option.some.inj h; exact rfl
  · skip
    rcases iteC h with ⟨hb, h⟩ | ⟨hb, h⟩
    rotate_left
    · skip
      obtain ⟨x3, hx, h⟩ := bnd h
      obtain rfl := Option.some.inj h; exact rfl
    · skip
      obtain ⟨x4, hx, h⟩ := bnd h
      obtain ⟨x5, hx, h⟩ := bnd h
      have q6 : x5 b j = J b j := (fj_Mod_layWeights w0 hx).trans rfl
      obtain ⟨hg7, h⟩ := grd h
      obtain ⟨x8, hx, h⟩ := bnd h
      obtain ⟨x9, hx, h⟩ := bnd h
      obtain rfl := Option.some.inj h; exact q6
set_option maxRecDepth 8000 in
theorem fj_Mod_reading_18 {N : Nat} {r : Int32 × FI × FJ} {b j : Nat} (w0 : b ≠ 216) : ∀ (n : Nat) (l1 : Int32) (l2 : Int32) (I : FI) (J : FJ), Mod_reading_18 N n l1 l2 I J = some r → r.2.2 b j = J b j := by
  intro n
  induction n with
  | zero =>
    intro l1 l2 I J h
    cases h
  | succ n ih =>
    intro l1 l2 I J h
    unfold Mod_reading_18 at h
    rcases iteC h with ⟨hb, h⟩ | ⟨hb, h⟩
    · skip
      obtain rfl := Option.some.inj h; exact rfl
    · skip
      obtain ⟨hg5, h⟩ := grd h
      obtain ⟨hg6, h⟩ := grd h
      rcases iteC h with ⟨hb, h⟩ | ⟨hb, h⟩
      · skip
        exact (ih l1 (l2 + 1) I J h).trans rfl
      · skip
        exact (ih l2 (l2 + 1) I J h).trans rfl
set_option maxRecDepth 8000 in
theorem fj_Mod_reading {N : Nat} {I : FI} {J : FJ} {r : Int32 × FI × FJ} {b j : Nat} (w0 : b ≠ 216) (h : Mod_reading N I J = some r) : r.2.2 b j = J b j := by
  unfold Mod_reading at h
  obtain ⟨I1, e1, h⟩ := bnd h
  obtain ⟨x2, hx, h⟩ := bnd h
  obtain ⟨x3, hx, h⟩ := bnd h
  have q4 : x3 b j = J b j := (fj_Mod_layWeights w0 hx).trans rfl
  exact (fj_Mod_reading_18 w0 _ 0 1 I1 x3 h).trans q4
set_option maxRecDepth 8000 in
theorem fj_Mod_sure {N : Nat} {l1 : Int32} {l2 : Int32} {I : FI} {J : FJ} {r : Int64 × FI × FJ} {b j : Nat} (w0 : b ≠ 216) (h : Mod_sure N l1 l2 I J = some r) : r.2.2 b j = J b j := by
  unfold Mod_sure at h
  obtain ⟨I1, e1, h⟩ := bnd h
  rcases iteC h with ⟨hb, h⟩ | ⟨hb, h⟩
  rotate_left
  · skip
    obtain ⟨x2, hx, h⟩ := bnd h
    obtain rfl := Option.some.inj h; exact rfl
  · skip
    rcases iteC h with ⟨hb, h⟩ | ⟨hb, h⟩
    rotate_left
    · skip
      obtain ⟨x3, hx, h⟩ := bnd h
      obtain rfl := Option.some.inj h; exact rfl
    · skip
      obtain ⟨x4, hx, h⟩ := bnd h
      obtain ⟨x5, hx, h⟩ := bnd h
      have q6 : x5 b j = J b j := (fj_Mod_layWeights w0 hx).trans rfl
      obtain ⟨x7, hx, h⟩ := bnd h
      obtain ⟨x8, hx, h⟩ := bnd h
      obtain ⟨x9, hx, h⟩ := bnd h
      obtain rfl := Option.some.inj h; exact q6
set_option maxRecDepth 8000 in
theorem fj_Mod_asks_18 {N : Nat} {r : Int32 × FI × FJ} {b j : Nat} (w0 : b ≠ 216) : ∀ (n : Nat) (l1 : Int32) (l2 : Int32) (I : FI) (J : FJ), Mod_asks_18 N n l1 l2 I J = some r → r.2.2 b j = J b j := by
  intro n
  induction n with
  | zero =>
    intro l1 l2 I J h
    cases h
  | succ n ih =>
    intro l1 l2 I J h
    unfold Mod_asks_18 at h
    rcases iteC h with ⟨hb, h⟩ | ⟨hb, h⟩
    · skip
      obtain rfl := Option.some.inj h; exact rfl
    · skip
      obtain ⟨x5, hx, h⟩ := bnd h
      obtain ⟨x6, hx, h⟩ := bnd h
      rcases iteC h with ⟨hb, h⟩ | ⟨hb, h⟩
      · skip
        exact (ih l1 (l2 + 1) I J h).trans rfl
      · skip
        exact (ih l2 (l2 + 1) I J h).trans rfl
set_option maxRecDepth 8000 in
theorem fj_Mod_asks {N : Nat} {I : FI} {J : FJ} {r : Int32 × FI × FJ} {b j : Nat} (w0 : b ≠ 216) (h : Mod_asks N I J = some r) : r.2.2 b j = J b j := by
  unfold Mod_asks at h
  obtain ⟨I1, e1, h⟩ := bnd h
  obtain ⟨x2, hx, h⟩ := bnd h
  obtain ⟨x3, hx, h⟩ := bnd h
  have q4 : x3 b j = J b j := (fj_Mod_layWeights w0 hx).trans rfl
  exact (fj_Mod_asks_18 w0 _ 0 1 I1 x3 h).trans q4
set_option maxRecDepth 8000 in
theorem fj_Mod_gains {N : Nat} {l1 : Int32} {l2 : Int32} {I : FI} {J : FJ} {r : Int64 × FI × FJ} {b j : Nat} (w0 : b ≠ 216) (h : Mod_gains N l1 l2 I J = some r) : r.2.2 b j = J b j := by
  unfold Mod_gains at h
  obtain ⟨I1, e1, h⟩ := bnd h
  rcases iteC h with ⟨hb, h⟩ | ⟨hb, h⟩
  rotate_left
  · skip
    obtain ⟨x2, hx, h⟩ := bnd h
    obtain rfl := Option.some.inj h; exact rfl
  · skip
    rcases iteC h with ⟨hb, h⟩ | ⟨hb, h⟩
    rotate_left
    · skip
      obtain ⟨x3, hx, h⟩ := bnd h
      obtain rfl := Option.some.inj h; exact rfl
    · skip
      obtain ⟨x4, hx, h⟩ := bnd h
      obtain ⟨x5, hx, h⟩ := bnd h
      have q6 : x5 b j = J b j := (fj_Mod_layWeights w0 hx).trans rfl
      obtain ⟨x7, hx, h⟩ := bnd h
      obtain ⟨x8, hx, h⟩ := bnd h
      obtain ⟨x9, hx, h⟩ := bnd h
      obtain ⟨x10, hx, h⟩ := bnd h
      obtain ⟨x11, hx, h⟩ := bnd h
      obtain rfl := Option.some.inj h; exact q6
set_option maxRecDepth 8000 in
theorem fj_Mod_best {N : Nat} {l1 : Int32} {I : FI} {J : FJ} {r : Int32 × FI × FJ} {b j : Nat} (w0 : b ≠ 216) (h : Mod_best N l1 I J = some r) : r.2.2 b j = J b j := by
  unfold Mod_best at h
  obtain ⟨I1, e1, h⟩ := bnd h
  obtain ⟨x2, hx, h⟩ := bnd h
  rcases iteC h with ⟨hb, h⟩ | ⟨hb, h⟩
  rotate_left
  · skip
    obtain rfl := Option.some.inj h; exact rfl
  · skip
    obtain ⟨x3, hx, h⟩ := bnd h
    rcases iteC h with ⟨hb, h⟩ | ⟨hb, h⟩
    rotate_left
    · skip
      obtain rfl := Option.some.inj h; exact rfl
    · skip
      obtain ⟨x4, hx, h⟩ := bnd h
      obtain ⟨x5, hx, h⟩ := bnd h
      have q6 : x5 b j = J b j := (fj_Mod_layWeights w0 hx).trans rfl
      obtain ⟨hg7, h⟩ := grd h
      obtain ⟨x8, hx, h⟩ := bnd h
      obtain ⟨x9, hx, h⟩ := bnd h
      rcases iteC h with ⟨hb, h⟩ | ⟨hb, h⟩
      · skip
        obtain rfl := Option.some.inj h; exact q6
      · skip
        obtain rfl := Option.some.inj h; exact q6
set_option maxRecDepth 8000 in
theorem fj_Mod_readMany {N : Nat} {l1 : Int32} {l2 : Int32} {l3 : Int32} {l4 : Int32} {I : FI} {J : FJ} {r : Bool × FI × FJ} {b j : Nat} (w0 : ¬ (b = 204 ∧ j = 12)) (h : Mod_readMany N l1 l2 l3 l4 I J = some r) : r.2.2 b j = J b j := by
  unfold Mod_readMany at h
  obtain ⟨hg1, h⟩ := grd h
  obtain ⟨I2, e1, h⟩ := bnd h
  obtain ⟨x3, hx, h⟩ := bnd h
  have q4 : x3.2 b j = J b j := (fj_Mod_go w0 hx).trans rfl
  obtain ⟨x5, hx, h⟩ := bnd h
  have q6 : x5.2.2 b j = J b j := (fj_Mod_readNumber w0 hx).trans q4
  rcases iteC h with ⟨hb, h⟩ | ⟨hb, h⟩
  rotate_left
  · skip
    obtain rfl := Option.some.inj h; exact q6
  · skip
    obtain ⟨hg7, h⟩ := grd h
    obtain ⟨I8, e1, h⟩ := bnd h
    obtain rfl := Option.some.inj h; exact q6
set_option maxRecDepth 8000 in
theorem fj_Mod_readPlace {N : Nat} {l1 : Int32} {I : FI} {J : FJ} {r : Bool × FI × FJ} {b j : Nat} (w0 : ¬ (b = 204 ∧ j = 12)) (h : Mod_readPlace N l1 I J = some r) : r.2.2 b j = J b j := by
  unfold Mod_readPlace at h
  obtain ⟨x1, hx, h⟩ := bnd h
  have q2 : x1.2.2 b j = J b j := (fj_Mod_readNumber w0 hx).trans rfl
  rcases iteC h with ⟨hb, h⟩ | ⟨hb, h⟩
  rotate_left
  · skip
    obtain rfl := Option.some.inj h; exact q2
  · skip
    obtain ⟨hg3, h⟩ := grd h
    obtain ⟨I4, e1, h⟩ := bnd h
    obtain ⟨x5, hx, h⟩ := bnd h
    have q6 : x5.2.2 b j = J b j := (fj_Mod_readNumber w0 hx).trans q2
    rcases iteC h with ⟨hb, h⟩ | ⟨hb, h⟩
    rotate_left
    · skip
      obtain rfl := Option.some.inj h; exact q6
    · skip
      obtain ⟨hg7, h⟩ := grd h
      obtain ⟨I8, e1, h⟩ := bnd h
      obtain rfl := Option.some.inj h; exact q6
set_option maxRecDepth 8000 in
theorem fj_Mod_readDoes {N : Nat} {l1 : Int32} {I : FI} {J : FJ} {r : Bool × FI × FJ} {b j : Nat} (w0 : ¬ (b = 204 ∧ j = 12)) (h : Mod_readDoes N l1 I J = some r) : r.2.2 b j = J b j := by
  unfold Mod_readDoes at h
  rcases iteC h with ⟨hb, h⟩ | ⟨hb, h⟩
  rotate_left
  · skip
    rcases iteC h with ⟨hb, h⟩ | ⟨hb, h⟩
    rotate_left
    · skip
      obtain ⟨x1, hx, h⟩ := bnd h
      rcases iteC h with ⟨hb, h⟩ | ⟨hb, h⟩
      · skip
        obtain ⟨x2, hx, h⟩ := bnd h
        obtain ⟨hg3, h⟩ := grd h
        obtain ⟨I4, e1, h⟩ := bnd h
        obtain ⟨x5, hx, h⟩ := bnd h
        have q6 : x5.2 b j = J b j := (fj_Mod_go w0 hx).trans rfl
        rcases iteC h with ⟨hb, h⟩ | ⟨hb, h⟩
        · skip
          rcases iteC h with ⟨hb, h⟩ | ⟨hb, h⟩
          rotate_left
          · skip
            rcases iteC h with ⟨hb, h⟩ | ⟨hb, h⟩
            rotate_left
            · skip
              rcases iteC h with ⟨hb, h⟩ | ⟨hb, h⟩
              rotate_left
              · skip
                rcases iteC h with ⟨hb, h⟩ | ⟨hb, h⟩
                rotate_left
                · skip
                  obtain ⟨x7, hx, h⟩ := bnd h
                  obtain rfl := Option.some.inj h; exact q6
                · skip
                  obtain ⟨hg8, h⟩ := grd h
                  obtain ⟨I9, e1, h⟩ := bnd h
                  obtain ⟨x10, hx, h⟩ := bnd h
                  have q11 : x10.2 b j = J b j := (fj_Mod_go w0 hx).trans q6
                  obtain ⟨x12, hx, h⟩ := bnd h
                  rcases iteC h with ⟨hb, h⟩ | ⟨hb, h⟩
                  rotate_left
                  · skip
                    obtain ⟨x13, hx, h⟩ := bnd h
                    obtain rfl := Option.some.inj h; exact q11
                  · skip
                    obtain ⟨x14, hx, h⟩ := bnd h
                    obtain ⟨hg15, h⟩ := grd h
                    obtain ⟨I16, e1, h⟩ := bnd h
                    rcases iteC h with ⟨hb, h⟩ | ⟨hb, h⟩
                    · skip
                      obtain ⟨x17, hx, h⟩ := bnd h
                      obtain rfl := Option.some.inj h; exact q11
                    · skip
                      obtain ⟨x18, hx, h⟩ := bnd h
                      have q19 : x18.2 b j = J b j := (fj_Mod_go w0 hx).trans q11
                      obtain rfl := Option.some.inj h; exact q19
              · skip
                obtain ⟨hg20, h⟩ := grd h
                obtain ⟨I21, e1, h⟩ := bnd h
                obtain ⟨x22, hx, h⟩ := bnd h
                have q23 : x22.2 b j = J b j := (fj_Mod_go w0 hx).trans q6
                obtain ⟨x24, hx, h⟩ := bnd h
                have q25 : x24.2.2 b j = J b j := (fj_Mod_readPlace w0 hx).trans q23
                obtain rfl := Option.some.inj h; exact q25
            · skip
              obtain ⟨hg26, h⟩ := grd h
              obtain ⟨I27, e1, h⟩ := bnd h
              obtain ⟨x28, hx, h⟩ := bnd h
              have q29 : x28.2 b j = J b j := (fj_Mod_go w0 hx).trans q6
              obtain rfl := Option.some.inj h; exact q29
          · skip
            obtain ⟨hg30, h⟩ := grd h
            obtain ⟨I31, e1, h⟩ := bnd h
            obtain ⟨x32, hx, h⟩ := bnd h
            have q33 : x32.2 b j = J b j := (fj_Mod_go w0 hx).trans q6
            obtain rfl := Option.some.inj h; exact q33
        · skip
          obtain ⟨hg34, h⟩ := grd h
          obtain ⟨I35, e1, h⟩ := bnd h
          rcases iteC h with ⟨hb, h⟩ | ⟨hb, h⟩
          rotate_left
          · skip
            obtain ⟨x36, hx, h⟩ := bnd h
            obtain rfl := Option.some.inj h; exact q6
          · skip
            obtain ⟨x37, hx, h⟩ := bnd h
            have q38 : x37.2 b j = J b j := (fj_Mod_go w0 hx).trans q6
            obtain ⟨x39, hx, h⟩ := bnd h
            have q40 : x39.2.2 b j = J b j := (fj_Mod_readPlace w0 hx).trans q38
            obtain rfl := Option.some.inj h; exact q40
      · skip
        obtain ⟨hg41, h⟩ := grd h
        obtain ⟨I42, e1, h⟩ := bnd h
        obtain ⟨x43, hx, h⟩ := bnd h
        have q44 : x43.2 b j = J b j := (fj_Mod_go w0 hx).trans rfl
        rcases iteC h with ⟨hb, h⟩ | ⟨hb, h⟩
        · skip
          rcases iteC h with ⟨hb, h⟩ | ⟨hb, h⟩
          rotate_left
          · skip
            rcases iteC h with ⟨hb, h⟩ | ⟨hb, h⟩
            rotate_left
            · skip
              rcases iteC h with ⟨hb, h⟩ | ⟨hb, h⟩
              rotate_left
              · skip
                rcases iteC h with ⟨hb, h⟩ | ⟨hb, h⟩
                rotate_left
                · skip
                  obtain ⟨x45, hx, h⟩ := bnd h
                  obtain rfl := Option.some.inj h; exact q44
                · skip
                  obtain ⟨hg46, h⟩ := grd h
                  obtain ⟨I47, e1, h⟩ := bnd h
                  obtain ⟨x48, hx, h⟩ := bnd h
                  have q49 : x48.2 b j = J b j := (fj_Mod_go w0 hx).trans q44
                  obtain ⟨x50, hx, h⟩ := bnd h
                  rcases iteC h with ⟨hb, h⟩ | ⟨hb, h⟩
                  rotate_left
                  · skip
                    obtain ⟨x51, hx, h⟩ := bnd h
                    obtain rfl := Option.some.inj h; exact q49
                  · skip
                    obtain ⟨x52, hx, h⟩ := bnd h
                    obtain ⟨hg53, h⟩ := grd h
                    obtain ⟨I54, e1, h⟩ := bnd h
                    rcases iteC h with ⟨hb, h⟩ | ⟨hb, h⟩
                    · skip
                      obtain ⟨x55, hx, h⟩ := bnd h
                      obtain rfl := Option.some.inj h; exact q49
                    · skip
                      obtain ⟨x56, hx, h⟩ := bnd h
                      have q57 : x56.2 b j = J b j := (fj_Mod_go w0 hx).trans q49
                      obtain rfl := Option.some.inj h; exact q57
              · skip
                obtain ⟨hg58, h⟩ := grd h
                obtain ⟨I59, e1, h⟩ := bnd h
                obtain ⟨x60, hx, h⟩ := bnd h
                have q61 : x60.2 b j = J b j := (fj_Mod_go w0 hx).trans q44
                obtain ⟨x62, hx, h⟩ := bnd h
                have q63 : x62.2.2 b j = J b j := (fj_Mod_readPlace w0 hx).trans q61
                obtain rfl := Option.some.inj h; exact q63
            · skip
              obtain ⟨hg64, h⟩ := grd h
              obtain ⟨I65, e1, h⟩ := bnd h
              obtain ⟨x66, hx, h⟩ := bnd h
              have q67 : x66.2 b j = J b j := (fj_Mod_go w0 hx).trans q44
              obtain rfl := Option.some.inj h; exact q67
          · skip
            obtain ⟨hg68, h⟩ := grd h
            obtain ⟨I69, e1, h⟩ := bnd h
            obtain ⟨x70, hx, h⟩ := bnd h
            have q71 : x70.2 b j = J b j := (fj_Mod_go w0 hx).trans q44
            obtain rfl := Option.some.inj h; exact q71
        · skip
          obtain ⟨hg72, h⟩ := grd h
          obtain ⟨I73, e1, h⟩ := bnd h
          rcases iteC h with ⟨hb, h⟩ | ⟨hb, h⟩
          rotate_left
          · skip
            obtain ⟨x74, hx, h⟩ := bnd h
            obtain rfl := Option.some.inj h; exact q44
          · skip
            obtain ⟨x75, hx, h⟩ := bnd h
            have q76 : x75.2 b j = J b j := (fj_Mod_go w0 hx).trans q44
            obtain ⟨x77, hx, h⟩ := bnd h
            have q78 : x77.2.2 b j = J b j := (fj_Mod_readPlace w0 hx).trans q76
            obtain rfl := Option.some.inj h; exact q78
    · skip
      obtain ⟨x79, hx, h⟩ := bnd h
      have q80 : x79.2.2 b j = J b j := (fj_Mod_readMany w0 hx).trans rfl
      obtain rfl := Option.some.inj h; exact q80
  · skip
    obtain ⟨x81, hx, h⟩ := bnd h
    have q82 : x81.2.2 b j = J b j := (fj_Mod_readMany w0 hx).trans rfl
    obtain rfl := Option.some.inj h; exact q82
set_option maxRecDepth 8000 in
theorem fj_Mod_readBookLine {N : Nat} {I : FI} {J : FJ} {r : Bool × FI × FJ} {b j : Nat} (w0 : ¬ (b = 204 ∧ j = 12)) (h : Mod_readBookLine N I J = some r) : r.2.2 b j = J b j := by
  unfold Mod_readBookLine at h
  rcases iteC h with ⟨hb, h⟩ | ⟨hb, h⟩
  rotate_left
  · skip
    rcases iteC h with ⟨hb, h⟩ | ⟨hb, h⟩
    rotate_left
    · skip
      obtain ⟨x1, hx, h⟩ := bnd h
      rcases iteC h with ⟨hb, h⟩ | ⟨hb, h⟩
      rotate_left
      · skip
        obtain ⟨x2, hx, h⟩ := bnd h
        obtain rfl := Option.some.inj h; exact rfl
      · skip
        obtain ⟨x3, hx, h⟩ := bnd h
        rcases iteC h with ⟨hb, h⟩ | ⟨hb, h⟩
        · skip
          obtain ⟨x4, hx, h⟩ := bnd h
          rcases iteC h with ⟨hb, h⟩ | ⟨hb, h⟩
          · skip
            obtain ⟨x5, hx, h⟩ := bnd h
            obtain rfl := Option.some.inj h; exact rfl
          · skip
            rcases iteC h with ⟨hb, h⟩ | ⟨hb, h⟩
            · skip
              obtain ⟨x6, hx, h⟩ := bnd h
              obtain rfl := Option.some.inj h; exact rfl
            · skip
              obtain ⟨x7, hx, h⟩ := bnd h
              have q8 : x7.2.2 b j = J b j := (fj_Mod_readDoes w0 hx).trans rfl
              rcases iteC h with ⟨hb, h⟩ | ⟨hb, h⟩
              rotate_left
              · skip
                obtain rfl := Option.some.inj h; exact q8
              · skip
                obtain ⟨x9, hx, h⟩ := bnd h
                have q10 : x9.2.2 b j = J b j := (fj_Mod_readEnd w0 hx).trans q8
                rcases iteC h with ⟨hb, h⟩ | ⟨hb, h⟩
                rotate_left
                · skip
                  obtain rfl := Option.some.inj h; exact q10
                · skip
                  obtain rfl := Option.some.inj h; exact q10
        · skip
          rcases iteC h with ⟨hb, h⟩ | ⟨hb, h⟩
          · skip
            obtain ⟨x11, hx, h⟩ := bnd h
            obtain rfl := Option.some.inj h; exact rfl
          · skip
            obtain ⟨x12, hx, h⟩ := bnd h
            have q13 : x12.2.2 b j = J b j := (fj_Mod_readDoes w0 hx).trans rfl
            rcases iteC h with ⟨hb, h⟩ | ⟨hb, h⟩
            rotate_left
            · skip
              obtain rfl := Option.some.inj h; exact q13
            · skip
              obtain ⟨x14, hx, h⟩ := bnd h
              have q15 : x14.2.2 b j = J b j := (fj_Mod_readEnd w0 hx).trans q13
              rcases iteC h with ⟨hb, h⟩ | ⟨hb, h⟩
              rotate_left
              · skip
                obtain rfl := Option.some.inj h; exact q15
              · skip
                obtain rfl := Option.some.inj h; exact q15
    · skip
      rcases iteC h with ⟨hb, h⟩ | ⟨hb, h⟩
      · skip
        obtain ⟨x16, hx, h⟩ := bnd h
        obtain rfl := Option.some.inj h; exact rfl
      · skip
        obtain ⟨x17, hx, h⟩ := bnd h
        have q18 : x17.2.2 b j = J b j := (fj_Mod_readDoes w0 hx).trans rfl
        rcases iteC h with ⟨hb, h⟩ | ⟨hb, h⟩
        rotate_left
        · skip
          obtain rfl := Option.some.inj h; exact q18
        · skip
          obtain ⟨x19, hx, h⟩ := bnd h
          have q20 : x19.2.2 b j = J b j := (fj_Mod_readEnd w0 hx).trans q18
          rcases iteC h with ⟨hb, h⟩ | ⟨hb, h⟩
          rotate_left
          · skip
            obtain rfl := Option.some.inj h; exact q20
          · skip
            obtain rfl := Option.some.inj h; exact q20
  · skip
    rcases iteC h with ⟨hb, h⟩ | ⟨hb, h⟩
    · skip
      obtain ⟨x21, hx, h⟩ := bnd h
      obtain rfl := Option.some.inj h; exact rfl
    · skip
      obtain ⟨x22, hx, h⟩ := bnd h
      have q23 : x22.2.2 b j = J b j := (fj_Mod_readDoes w0 hx).trans rfl
      rcases iteC h with ⟨hb, h⟩ | ⟨hb, h⟩
      rotate_left
      · skip
        obtain rfl := Option.some.inj h; exact q23
      · skip
        obtain ⟨x24, hx, h⟩ := bnd h
        have q25 : x24.2.2 b j = J b j := (fj_Mod_readEnd w0 hx).trans q23
        rcases iteC h with ⟨hb, h⟩ | ⟨hb, h⟩
        rotate_left
        · skip
          obtain rfl := Option.some.inj h; exact q25
        · skip
          obtain rfl := Option.some.inj h; exact q25
set_option maxRecDepth 8000 in
theorem fj_Mod_book_73 {N : Nat} {r : Int32 × FI × FJ} {b j : Nat} (w0 : ¬ (b = 204 ∧ j = 12)) : ∀ (n : Nat) (l1 : Int32) (l2 : Int32) (l3 : Int32) (I : FI) (J : FJ), Mod_book_73 N n l1 l2 l3 I J = some r → r.2.2 b j = J b j := by
  intro n
  induction n with
  | zero =>
    intro l1 l2 l3 I J h
    cases h
  | succ n ih =>
    intro l1 l2 l3 I J h
    unfold Mod_book_73 at h
    rcases iteC h with ⟨hb, h⟩ | ⟨hb, h⟩
    · skip
      obtain ⟨I6, e1, h⟩ := bnd h
      obtain ⟨I7, e1, h⟩ := bnd h
      obtain ⟨I8, e1, h⟩ := bnd h
      obtain ⟨x9, hx, h⟩ := bnd h
      obtain ⟨I10, e1, h⟩ := bnd h
      obtain ⟨I11, e1, h⟩ := bnd h
      rcases iteC h with ⟨hb, h⟩ | ⟨hb, h⟩
      · skip
        rcases iteC h with ⟨hb, h⟩ | ⟨hb, h⟩
        · skip
          obtain ⟨x12, hx, h⟩ := bnd h
          rcases iteC h with ⟨hb, h⟩ | ⟨hb, h⟩
          · skip
            obtain rfl := Option.some.inj h; exact rfl
          · skip
            obtain rfl := Option.some.inj h; exact rfl
        · skip
          obtain ⟨x13, hx, h⟩ := bnd h
          rcases iteC h with ⟨hb, h⟩ | ⟨hb, h⟩
          · skip
            obtain rfl := Option.some.inj h; exact rfl
          · skip
            obtain rfl := Option.some.inj h; exact rfl
      · skip
        obtain ⟨x14, hx, h⟩ := bnd h
        rcases iteC h with ⟨hb, h⟩ | ⟨hb, h⟩
        · skip
          obtain rfl := Option.some.inj h; exact rfl
        · skip
          obtain rfl := Option.some.inj h; exact rfl
    · skip
      rcases iteC h with ⟨hb, h⟩ | ⟨hb, h⟩
      · skip
        obtain ⟨x15, hx, h⟩ := bnd h
        rcases iteC h with ⟨hb, h⟩ | ⟨hb, h⟩
        · skip
          obtain ⟨x16, hx, h⟩ := bnd h
          exact (ih l1 (l2 + 1) x15 x16 J h).trans rfl
        · skip
          obtain ⟨hg17, h⟩ := grd h
          exact (ih l1 l2 (x15 + (10 * (I 222 ((4 * l2).toNatClampNeg)))) I J h).trans rfl
      · skip
        obtain ⟨I18, e1, h⟩ := bnd h
        obtain ⟨I19, e1, h⟩ := bnd h
        obtain ⟨I20, e1, h⟩ := bnd h
        obtain ⟨x21, hx, h⟩ := bnd h
        obtain ⟨I22, e1, h⟩ := bnd h
        obtain ⟨I23, e1, h⟩ := bnd h
        rcases iteC h with ⟨hb, h⟩ | ⟨hb, h⟩
        · skip
          rcases iteC h with ⟨hb, h⟩ | ⟨hb, h⟩
          · skip
            obtain ⟨x24, hx, h⟩ := bnd h
            rcases iteC h with ⟨hb, h⟩ | ⟨hb, h⟩
            · skip
              obtain rfl := Option.some.inj h; exact rfl
            · skip
              obtain rfl := Option.some.inj h; exact rfl
          · skip
            obtain ⟨x25, hx, h⟩ := bnd h
            rcases iteC h with ⟨hb, h⟩ | ⟨hb, h⟩
            · skip
              obtain rfl := Option.some.inj h; exact rfl
            · skip
              obtain rfl := Option.some.inj h; exact rfl
        · skip
          obtain ⟨x26, hx, h⟩ := bnd h
          rcases iteC h with ⟨hb, h⟩ | ⟨hb, h⟩
          · skip
            obtain rfl := Option.some.inj h; exact rfl
          · skip
            obtain rfl := Option.some.inj h; exact rfl
set_option maxRecDepth 8000 in
theorem fj_Mod_book_30 {N : Nat} {r : Int32 × FI × FJ} {b j : Nat} (w0 : ¬ (b = 204 ∧ j = 12)) : ∀ (n : Nat) (l1 : Int32) (I : FI) (J : FJ), Mod_book_30 N n l1 I J = some r → r.2.2 b j = J b j := by
  intro n
  induction n with
  | zero =>
    intro l1 I J h
    cases h
  | succ n ih =>
    intro l1 I J h
    unfold Mod_book_30 at h
    rcases iteC h with ⟨hb, h⟩ | ⟨hb, h⟩
    · skip
      obtain ⟨x5, hx, h⟩ := bnd h
      exact (fj_Mod_book_73 w0 _ l1 0 0 x5 J h).trans rfl
    · skip
      obtain ⟨x27, hx, h⟩ := bnd h
      have q28 : x27.2.2 b j = J b j := (fj_Mod_readBookLine w0 hx).trans rfl
      rcases iteC h with ⟨hb, h⟩ | ⟨hb, h⟩
      rotate_left
      · skip
        obtain rfl := Option.some.inj h; exact q28
      · skip
        obtain ⟨I29, e1, h⟩ := bnd h
        exact (ih l1 I29 x27.2.2 h).trans q28
set_option maxRecDepth 8000 in
theorem fj_Mod_book {N : Nat} {l1 : Int32} {I : FI} {J : FJ} {r : Int32 × FI × FJ} {b j : Nat} (w0 : ¬ (b = 204 ∧ j = 12)) (h : Mod_book N l1 I J = some r) : r.2.2 b j = J b j := by
  unfold Mod_book at h
  obtain ⟨I1, e1, h⟩ := bnd h
  rcases iteC h with ⟨hb, h⟩ | ⟨hb, h⟩
  rotate_left
  · skip
    obtain rfl := Option.some.inj h; exact rfl
  · skip
    obtain ⟨x2, hx, h⟩ := bnd h
    have q3 : x2.2 b j = J b j := (fj_Mod_begin w0 hx).trans rfl
    obtain ⟨I4, e1, h⟩ := bnd h
    exact (fj_Mod_book_30 w0 _ l1 I4 x2.2 h).trans q3
set_option maxRecDepth 8000 in
theorem fj_Mod_readAnd_14 {R : FI → FJ → Option (Bool × FI × FJ)} {N : Nat} {r : Bool × FI × FJ} {b j : Nat} (hR : ∀ (I : FI) (J : FJ) (r : Bool × FI × FJ), R I J = some r → r.2.2 b j = J b j) (w0 : ¬ (b = 204 ∧ j = 12)) : ∀ (n : Nat) (l1 : Int32) (I : FI) (J : FJ), Mod_readAnd_14 R N n l1 I J = some r → r.2.2 b j = J b j := by
  intro n
  induction n with
  | zero =>
    intro l1 I J h
    cases h
  | succ n ih =>
    intro l1 I J h
    unfold Mod_readAnd_14 at h
    rcases iteC h with ⟨hb, h⟩ | ⟨hb, h⟩
    rotate_left
    · skip
      obtain ⟨I3, e1, h⟩ := bnd h
      obtain rfl := Option.some.inj h; exact rfl
    · skip
      obtain ⟨x4, hx, h⟩ := bnd h
      have q5 : x4.2 b j = J b j := (fj_Mod_go w0 hx).trans rfl
      obtain ⟨x6, hx, h⟩ := bnd h
      have q7 : x6.2.2 b j = J b j := (hR _ _ _ hx).trans q5
      rcases iteC h with ⟨hb, h⟩ | ⟨hb, h⟩
      rotate_left
      · skip
        obtain rfl := Option.some.inj h; exact q7
      · skip
        obtain ⟨x8, hx, h⟩ := bnd h
        exact (ih x8.1 x8.2 x6.2.2 h).trans q7
set_option maxRecDepth 8000 in
theorem fj_Mod_readAnd {R : FI → FJ → Option (Bool × FI × FJ)} {N : Nat} {I : FI} {J : FJ} {r : Bool × FI × FJ} {b j : Nat} (hR : ∀ (I : FI) (J : FJ) (r : Bool × FI × FJ), R I J = some r → r.2.2 b j = J b j) (w0 : ¬ (b = 204 ∧ j = 12)) (h : Mod_readAnd R N I J = some r) : r.2.2 b j = J b j := by
  unfold Mod_readAnd at h
  obtain ⟨x1, hx, h⟩ := bnd h
  have q2 : x1.2.2 b j = J b j := (hR _ _ _ hx).trans rfl
  rcases iteC h with ⟨hb, h⟩ | ⟨hb, h⟩
  rotate_left
  · skip
    obtain rfl := Option.some.inj h; exact q2
  · skip
    exact (fj_Mod_readAnd_14 hR w0 _ (x1.2.1 204 45) x1.2.1 x1.2.2 h).trans q2
set_option maxRecDepth 8000 in
theorem fj_Mod_readOr_14 {R : FI → FJ → Option (Bool × FI × FJ)} {N : Nat} {r : Bool × FI × FJ} {b j : Nat} (hR : ∀ (I : FI) (J : FJ) (r : Bool × FI × FJ), R I J = some r → r.2.2 b j = J b j) (w0 : ¬ (b = 204 ∧ j = 12)) : ∀ (n : Nat) (l1 : Int32) (I : FI) (J : FJ), Mod_readOr_14 R N n l1 I J = some r → r.2.2 b j = J b j := by
  intro n
  induction n with
  | zero =>
    intro l1 I J h
    cases h
  | succ n ih =>
    intro l1 I J h
    unfold Mod_readOr_14 at h
    rcases iteC h with ⟨hb, h⟩ | ⟨hb, h⟩
    rotate_left
    · skip
      obtain ⟨I3, e1, h⟩ := bnd h
      obtain rfl := Option.some.inj h; exact rfl
    · skip
      obtain ⟨x4, hx, h⟩ := bnd h
      have q5 : x4.2 b j = J b j := (fj_Mod_go w0 hx).trans rfl
      obtain ⟨x6, hx, h⟩ := bnd h
      have q7 : x6.2.2 b j = J b j := (fj_Mod_readAnd hR w0 hx).trans q5
      rcases iteC h with ⟨hb, h⟩ | ⟨hb, h⟩
      rotate_left
      · skip
        obtain rfl := Option.some.inj h; exact q7
      · skip
        obtain ⟨x8, hx, h⟩ := bnd h
        exact (ih x8.1 x8.2 x6.2.2 h).trans q7
set_option maxRecDepth 8000 in
theorem fj_Mod_readOr {R : FI → FJ → Option (Bool × FI × FJ)} {N : Nat} {I : FI} {J : FJ} {r : Bool × FI × FJ} {b j : Nat} (hR : ∀ (I : FI) (J : FJ) (r : Bool × FI × FJ), R I J = some r → r.2.2 b j = J b j) (w0 : ¬ (b = 204 ∧ j = 12)) (h : Mod_readOr R N I J = some r) : r.2.2 b j = J b j := by
  unfold Mod_readOr at h
  obtain ⟨x1, hx, h⟩ := bnd h
  have q2 : x1.2.2 b j = J b j := (fj_Mod_readAnd hR w0 hx).trans rfl
  rcases iteC h with ⟨hb, h⟩ | ⟨hb, h⟩
  rotate_left
  · skip
    obtain rfl := Option.some.inj h; exact q2
  · skip
    exact (fj_Mod_readOr_14 hR w0 _ (x1.2.1 204 45) x1.2.1 x1.2.2 h).trans q2
set_option maxRecDepth 8000 in
theorem fj_Mod_readBracket {R : FI → FJ → Option (Bool × FI × FJ)} {N : Nat} {I : FI} {J : FJ} {r : Bool × FI × FJ} {b j : Nat} (hR : ∀ (I : FI) (J : FJ) (r : Bool × FI × FJ), R I J = some r → r.2.2 b j = J b j) (w0 : ¬ (b = 204 ∧ j = 12)) (h : Mod_readBracket R N I J = some r) : r.2.2 b j = J b j := by
  unfold Mod_readBracket at h
  obtain ⟨x1, hx, h⟩ := bnd h
  have q2 : x1.2.2 b j = J b j := (fj_Mod_readOr hR w0 hx).trans rfl
  rcases iteC h with ⟨hb, h⟩ | ⟨hb, h⟩
  rotate_left
  · skip
    obtain rfl := Option.some.inj h; exact q2
  · skip
    rcases iteC h with ⟨hb, h⟩ | ⟨hb, h⟩
    rotate_left
    · skip
      obtain ⟨x3, hx, h⟩ := bnd h
      obtain rfl := Option.some.inj h; exact q2
    · skip
      obtain ⟨x4, hx, h⟩ := bnd h
      have q5 : x4.2 b j = J b j := (fj_Mod_go w0 hx).trans q2
      obtain rfl := Option.some.inj h; exact q5
set_option maxRecDepth 8000 in
theorem fj_Mod_readNot {R : FI → FJ → Option (Bool × FI × FJ)} {N : Nat} {I : FI} {J : FJ} {r : Bool × FI × FJ} {b j : Nat} (hR : ∀ (I : FI) (J : FJ) (r : Bool × FI × FJ), R I J = some r → r.2.2 b j = J b j) (w0 : ¬ (b = 204 ∧ j = 12)) (h : Mod_readNot R N I J = some r) : r.2.2 b j = J b j := by
  unfold Mod_readNot at h
  obtain ⟨x1, hx, h⟩ := bnd h
  have q2 : x1.2.2 b j = J b j := (hR _ _ _ hx).trans rfl
  rcases iteC h with ⟨hb, h⟩ | ⟨hb, h⟩
  rotate_left
  · skip
    obtain rfl := Option.some.inj h; exact q2
  · skip
    obtain ⟨x3, hx, h⟩ := bnd h
    obtain ⟨I4, e1, h⟩ := bnd h
    obtain rfl := Option.some.inj h; exact q2
set_option maxRecDepth 8000 in
theorem fj_Mod_readWhom {N : Nat} {I : FI} {J : FJ} {r : Bool × FI × FJ} {b j : Nat} (w0 : ¬ (b = 204 ∧ j = 12)) (h : Mod_readWhom N I J = some r) : r.2.2 b j = J b j := by
  unfold Mod_readWhom at h
  obtain ⟨x1, hx, h⟩ := bnd h
  rcases iteC h with ⟨hb, h⟩ | ⟨hb, h⟩
  rotate_left
  · skip
    obtain ⟨x2, hx, h⟩ := bnd h
    obtain rfl := Option.some.inj h; exact rfl
  · skip
    obtain ⟨x3, hx, h⟩ := bnd h
    obtain ⟨I4, e1, h⟩ := bnd h
    rcases iteC h with ⟨hb, h⟩ | ⟨hb, h⟩
    · skip
      obtain ⟨x5, hx, h⟩ := bnd h
      obtain rfl := Option.some.inj h; exact rfl
    · skip
      obtain ⟨x6, hx, h⟩ := bnd h
      have q7 : x6.2 b j = J b j := (fj_Mod_go w0 hx).trans rfl
      obtain rfl := Option.some.inj h; exact q7
set_option maxRecDepth 8000 in
theorem fj_Mod_readOf {N : Nat} {l1 : Int32} {I : FI} {J : FJ} {r : Bool × FI × FJ} {b j : Nat} (w0 : ¬ (b = 204 ∧ j = 12)) (h : Mod_readOf N l1 I J = some r) : r.2.2 b j = J b j := by
  unfold Mod_readOf at h
  obtain ⟨x1, hx, h⟩ := bnd h
  have q2 : x1.2.2 b j = J b j := (fj_Mod_readWhom w0 hx).trans rfl
  rcases iteC h with ⟨hb, h⟩ | ⟨hb, h⟩
  rotate_left
  · skip
    obtain rfl := Option.some.inj h; exact q2
  · skip
    obtain ⟨x3, hx, h⟩ := bnd h
    obtain ⟨I4, e1, h⟩ := bnd h
    obtain rfl := Option.some.inj h; exact q2
set_option maxRecDepth 8000 in
theorem fj_Mod_readCompare {N : Nat} {l1 : Int32} {I : FI} {J : FJ} {r : Bool × FI × FJ} {b j : Nat} (w0 : ¬ (b = 204 ∧ j = 12)) (h : Mod_readCompare N l1 I J = some r) : r.2.2 b j = J b j := by
  unfold Mod_readCompare at h
  rcases iteC h with ⟨hb, h⟩ | ⟨hb, h⟩
  rotate_left
  · skip
    rcases iteC h with ⟨hb, h⟩ | ⟨hb, h⟩
    rotate_left
    · skip
      rcases iteC h with ⟨hb, h⟩ | ⟨hb, h⟩
      rotate_left
      · skip
        obtain ⟨x1, hx, h⟩ := bnd h
        obtain rfl := Option.some.inj h; exact rfl
      · skip
        obtain ⟨x2, hx, h⟩ := bnd h
        have q3 : x2.2 b j = J b j := (fj_Mod_go w0 hx).trans rfl
        obtain ⟨x4, hx, h⟩ := bnd h
        have q5 : x4.2.2 b j = J b j := (fj_Mod_readNumber w0 hx).trans q3
        rcases iteC h with ⟨hb, h⟩ | ⟨hb, h⟩
        rotate_left
        · skip
          obtain rfl := Option.some.inj h; exact q5
        · skip
          obtain ⟨x6, hx, h⟩ := bnd h
          obtain ⟨I7, e1, h⟩ := bnd h
          obtain rfl := Option.some.inj h; exact q5
    · skip
      obtain ⟨x8, hx, h⟩ := bnd h
      have q9 : x8.2 b j = J b j := (fj_Mod_go w0 hx).trans rfl
      obtain ⟨x10, hx, h⟩ := bnd h
      have q11 : x10.2.2 b j = J b j := (fj_Mod_readNumber w0 hx).trans q9
      rcases iteC h with ⟨hb, h⟩ | ⟨hb, h⟩
      rotate_left
      · skip
        obtain rfl := Option.some.inj h; exact q11
      · skip
        obtain ⟨x12, hx, h⟩ := bnd h
        obtain ⟨I13, e1, h⟩ := bnd h
        obtain rfl := Option.some.inj h; exact q11
  · skip
    obtain ⟨x14, hx, h⟩ := bnd h
    have q15 : x14.2 b j = J b j := (fj_Mod_go w0 hx).trans rfl
    obtain ⟨x16, hx, h⟩ := bnd h
    have q17 : x16.2.2 b j = J b j := (fj_Mod_readNumber w0 hx).trans q15
    rcases iteC h with ⟨hb, h⟩ | ⟨hb, h⟩
    rotate_left
    · skip
      obtain rfl := Option.some.inj h; exact q17
    · skip
      obtain ⟨x18, hx, h⟩ := bnd h
      obtain ⟨I19, e1, h⟩ := bnd h
      obtain rfl := Option.some.inj h; exact q17
set_option maxRecDepth 8000 in
theorem fj_Mod_readSaid_10 {R : FI → FJ → Option (Bool × FI × FJ)} {N : Nat} {r : Bool × FI × FJ} {b j : Nat} (hR : ∀ (I : FI) (J : FJ) (r : Bool × FI × FJ), R I J = some r → r.2.2 b j = J b j) (w0 : ¬ (b = 204 ∧ j = 12)) : ∀ (n : Nat) (l1 : Int32) (l2 : Int32) (I : FI) (J : FJ), Mod_readSaid_10 R N n l1 l2 I J = some r → r.2.2 b j = J b j := by
  intro n
  induction n with
  | zero =>
    intro l1 l2 I J h
    cases h
  | succ n ih =>
    intro l1 l2 I J h
    unfold Mod_readSaid_10 at h
    rcases iteC h with ⟨hb, h⟩ | ⟨hb, h⟩
    · skip
      rcases iteC h with ⟨hb, h⟩ | ⟨hb, h⟩
      · skip
        rcases iteC h with ⟨hb, h⟩ | ⟨hb, h⟩
        · skip
          rcases iteC h with ⟨hb, h⟩ | ⟨hb, h⟩
          · skip
            obtain ⟨x1, hx, h⟩ := bnd h
            obtain rfl := Option.some.inj h; exact rfl
          · skip
            rcases iteC h with ⟨hb, h⟩ | ⟨hb, h⟩
            · skip
              obtain ⟨x2, hx, h⟩ := bnd h
              obtain rfl := Option.some.inj h; exact rfl
            · skip
              obtain ⟨I3, e1, h⟩ := bnd h
              obtain ⟨I4, e1, h⟩ := bnd h
              obtain ⟨x5, hx, h⟩ := bnd h
              have q6 : x5.2 b j = J b j := (fj_Mod_go w0 hx).trans rfl
              rcases iteC h with ⟨hb, h⟩ | ⟨hb, h⟩
              · skip
                rcases iteC h with ⟨hb, h⟩ | ⟨hb, h⟩
                · skip
                  obtain ⟨x7, hx, h⟩ := bnd h
                  have q8 : x7.2.2 b j = J b j := (fj_Mod_readNot hR w0 hx).trans q6
                  obtain ⟨I9, e1, h⟩ := bnd h
                  obtain rfl := Option.some.inj h; exact q8
                · skip
                  rcases iteC h with ⟨hb, h⟩ | ⟨hb, h⟩
                  · skip
                    rcases iteC h with ⟨hb, h⟩ | ⟨hb, h⟩
                    · skip
                      obtain ⟨x10, hx, h⟩ := bnd h
                      have q11 : x10.2.2 b j = J b j := (fj_Mod_readCompare w0 hx).trans q6
                      obtain ⟨I12, e1, h⟩ := bnd h
                      obtain rfl := Option.some.inj h; exact q11
                    · skip
                      obtain ⟨x13, hx, h⟩ := bnd h
                      have q14 : x13.2.2 b j = J b j := (fj_Mod_readOf w0 hx).trans q6
                      obtain ⟨I15, e1, h⟩ := bnd h
                      obtain rfl := Option.some.inj h; exact q14
                  · skip
                    obtain ⟨x16, hx, h⟩ := bnd h
                    obtain ⟨I17, e1, h⟩ := bnd h
                    obtain ⟨I18, e1, h⟩ := bnd h
                    obtain rfl := Option.some.inj h; exact q6
              · skip
                obtain ⟨x19, hx, h⟩ := bnd h
                have q20 : x19.2.2 b j = J b j := (fj_Mod_readBracket hR w0 hx).trans q6
                obtain ⟨I21, e1, h⟩ := bnd h
                obtain rfl := Option.some.inj h; exact q20
        · skip
          obtain ⟨x22, hx, h⟩ := bnd h
          obtain rfl := Option.some.inj h; exact rfl
      · skip
        rcases iteC h with ⟨hb, h⟩ | ⟨hb, h⟩
        · skip
          obtain ⟨x23, hx, h⟩ := bnd h
          obtain rfl := Option.some.inj h; exact rfl
        · skip
          rcases iteC h with ⟨hb, h⟩ | ⟨hb, h⟩
          · skip
            obtain ⟨x24, hx, h⟩ := bnd h
            obtain rfl := Option.some.inj h; exact rfl
          · skip
            obtain ⟨I25, e1, h⟩ := bnd h
            obtain ⟨I26, e1, h⟩ := bnd h
            obtain ⟨x27, hx, h⟩ := bnd h
            have q28 : x27.2 b j = J b j := (fj_Mod_go w0 hx).trans rfl
            rcases iteC h with ⟨hb, h⟩ | ⟨hb, h⟩
            · skip
              rcases iteC h with ⟨hb, h⟩ | ⟨hb, h⟩
              · skip
                obtain ⟨x29, hx, h⟩ := bnd h
                have q30 : x29.2.2 b j = J b j := (fj_Mod_readNot hR w0 hx).trans q28
                obtain ⟨I31, e1, h⟩ := bnd h
                obtain rfl := Option.some.inj h; exact q30
              · skip
                rcases iteC h with ⟨hb, h⟩ | ⟨hb, h⟩
                · skip
                  rcases iteC h with ⟨hb, h⟩ | ⟨hb, h⟩
                  · skip
                    obtain ⟨x32, hx, h⟩ := bnd h
                    have q33 : x32.2.2 b j = J b j := (fj_Mod_readCompare w0 hx).trans q28
                    obtain ⟨I34, e1, h⟩ := bnd h
                    obtain rfl := Option.some.inj h; exact q33
                  · skip
                    obtain ⟨x35, hx, h⟩ := bnd h
                    have q36 : x35.2.2 b j = J b j := (fj_Mod_readOf w0 hx).trans q28
                    obtain ⟨I37, e1, h⟩ := bnd h
                    obtain rfl := Option.some.inj h; exact q36
                · skip
                  obtain ⟨x38, hx, h⟩ := bnd h
                  obtain ⟨I39, e1, h⟩ := bnd h
                  obtain ⟨I40, e1, h⟩ := bnd h
                  obtain rfl := Option.some.inj h; exact q28
            · skip
              obtain ⟨x41, hx, h⟩ := bnd h
              have q42 : x41.2.2 b j = J b j := (fj_Mod_readBracket hR w0 hx).trans q28
              obtain ⟨I43, e1, h⟩ := bnd h
              obtain rfl := Option.some.inj h; exact q42
    · skip
      rcases iteC h with ⟨hb, h⟩ | ⟨hb, h⟩
      rotate_left
      · skip
        exact (ih l1 (l2 + 1) I J h).trans rfl
      · skip
        rcases iteC h with ⟨hb, h⟩ | ⟨hb, h⟩
        · skip
          rcases iteC h with ⟨hb, h⟩ | ⟨hb, h⟩
          · skip
            rcases iteC h with ⟨hb, h⟩ | ⟨hb, h⟩
            · skip
              obtain ⟨x44, hx, h⟩ := bnd h
              obtain rfl := Option.some.inj h; exact rfl
            · skip
              rcases iteC h with ⟨hb, h⟩ | ⟨hb, h⟩
              · skip
                obtain ⟨x45, hx, h⟩ := bnd h
                obtain rfl := Option.some.inj h; exact rfl
              · skip
                obtain ⟨I46, e1, h⟩ := bnd h
                obtain ⟨I47, e1, h⟩ := bnd h
                obtain ⟨x48, hx, h⟩ := bnd h
                have q49 : x48.2 b j = J b j := (fj_Mod_go w0 hx).trans rfl
                rcases iteC h with ⟨hb, h⟩ | ⟨hb, h⟩
                · skip
                  rcases iteC h with ⟨hb, h⟩ | ⟨hb, h⟩
                  · skip
                    obtain ⟨x50, hx, h⟩ := bnd h
                    have q51 : x50.2.2 b j = J b j := (fj_Mod_readNot hR w0 hx).trans q49
                    obtain ⟨I52, e1, h⟩ := bnd h
                    obtain rfl := Option.some.inj h; exact q51
                  · skip
                    rcases iteC h with ⟨hb, h⟩ | ⟨hb, h⟩
                    · skip
                      rcases iteC h with ⟨hb, h⟩ | ⟨hb, h⟩
                      · skip
                        obtain ⟨x53, hx, h⟩ := bnd h
                        have q54 : x53.2.2 b j = J b j := (fj_Mod_readCompare w0 hx).trans q49
                        obtain ⟨I55, e1, h⟩ := bnd h
                        obtain rfl := Option.some.inj h; exact q54
                      · skip
                        obtain ⟨x56, hx, h⟩ := bnd h
                        have q57 : x56.2.2 b j = J b j := (fj_Mod_readOf w0 hx).trans q49
                        obtain ⟨I58, e1, h⟩ := bnd h
                        obtain rfl := Option.some.inj h; exact q57
                    · skip
                      obtain ⟨x59, hx, h⟩ := bnd h
                      obtain ⟨I60, e1, h⟩ := bnd h
                      obtain ⟨I61, e1, h⟩ := bnd h
                      obtain rfl := Option.some.inj h; exact q49
                · skip
                  obtain ⟨x62, hx, h⟩ := bnd h
                  have q63 : x62.2.2 b j = J b j := (fj_Mod_readBracket hR w0 hx).trans q49
                  obtain ⟨I64, e1, h⟩ := bnd h
                  obtain rfl := Option.some.inj h; exact q63
          · skip
            obtain ⟨x65, hx, h⟩ := bnd h
            obtain rfl := Option.some.inj h; exact rfl
        · skip
          rcases iteC h with ⟨hb, h⟩ | ⟨hb, h⟩
          · skip
            obtain ⟨x66, hx, h⟩ := bnd h
            obtain rfl := Option.some.inj h; exact rfl
          · skip
            rcases iteC h with ⟨hb, h⟩ | ⟨hb, h⟩
            · skip
              obtain ⟨x67, hx, h⟩ := bnd h
              obtain rfl := Option.some.inj h; exact rfl
            · skip
              obtain ⟨I68, e1, h⟩ := bnd h
              obtain ⟨I69, e1, h⟩ := bnd h
              obtain ⟨x70, hx, h⟩ := bnd h
              have q71 : x70.2 b j = J b j := (fj_Mod_go w0 hx).trans rfl
              rcases iteC h with ⟨hb, h⟩ | ⟨hb, h⟩
              · skip
                rcases iteC h with ⟨hb, h⟩ | ⟨hb, h⟩
                · skip
                  obtain ⟨x72, hx, h⟩ := bnd h
                  have q73 : x72.2.2 b j = J b j := (fj_Mod_readNot hR w0 hx).trans q71
                  obtain ⟨I74, e1, h⟩ := bnd h
                  obtain rfl := Option.some.inj h; exact q73
                · skip
                  rcases iteC h with ⟨hb, h⟩ | ⟨hb, h⟩
                  · skip
                    rcases iteC h with ⟨hb, h⟩ | ⟨hb, h⟩
                    · skip
                      obtain ⟨x75, hx, h⟩ := bnd h
                      have q76 : x75.2.2 b j = J b j := (fj_Mod_readCompare w0 hx).trans q71
                      obtain ⟨I77, e1, h⟩ := bnd h
                      obtain rfl := Option.some.inj h; exact q76
                    · skip
                      obtain ⟨x78, hx, h⟩ := bnd h
                      have q79 : x78.2.2 b j = J b j := (fj_Mod_readOf w0 hx).trans q71
                      obtain ⟨I80, e1, h⟩ := bnd h
                      obtain rfl := Option.some.inj h; exact q79
                  · skip
                    obtain ⟨x81, hx, h⟩ := bnd h
                    obtain ⟨I82, e1, h⟩ := bnd h
                    obtain ⟨I83, e1, h⟩ := bnd h
                    obtain rfl := Option.some.inj h; exact q71
              · skip
                obtain ⟨x84, hx, h⟩ := bnd h
                have q85 : x84.2.2 b j = J b j := (fj_Mod_readBracket hR w0 hx).trans q71
                obtain ⟨I86, e1, h⟩ := bnd h
                obtain rfl := Option.some.inj h; exact q85
set_option maxRecDepth 8000 in
theorem fj_Mod_readSaid {R : FI → FJ → Option (Bool × FI × FJ)} {N : Nat} {I : FI} {J : FJ} {r : Bool × FI × FJ} {b j : Nat} (hR : ∀ (I : FI) (J : FJ) (r : Bool × FI × FJ), R I J = some r → r.2.2 b j = J b j) (w0 : ¬ (b = 204 ∧ j = 12)) (h : Mod_readSaid R N I J = some r) : r.2.2 b j = J b j := by
  unfold Mod_readSaid at h
  exact (fj_Mod_readSaid_10 hR w0 _ (b2i (Mod_isSign 40 I)) 21 I J h).trans rfl
set_option maxRecDepth 8000 in
theorem fj_Mod_readSaid_R {N : Nat} {b j : Nat} (w0 : ¬ (b = 204 ∧ j = 12)) : ∀ (k : Nat) (I : FI) (J : FJ) (r : Bool × FI × FJ), Mod_readSaid_R N k I J = some r → r.2.2 b j = J b j := by
  intro k
  induction k with
  | zero =>
    intro I J r h
    cases h
  | succ k ih =>
    intro I J r h
    exact fj_Mod_readSaid (N := N) (R := Mod_readSaid_R N k) ih w0 h
set_option maxRecDepth 8000 in
theorem fj_Mod_sentence_79 {N : Nat} {r : Int32 × FI × FJ} {b j : Nat} (w0 : ¬ (b = 204 ∧ j = 12)) : ∀ (n : Nat) (l1 : Int32) (I : FI) (J : FJ), Mod_sentence_79 N n l1 I J = some r → r.2.2 b j = J b j := by
  intro n
  induction n with
  | zero =>
    intro l1 I J h
    cases h
  | succ n ih =>
    intro l1 I J h
    unfold Mod_sentence_79 at h
    rcases iteC h with ⟨hb, h⟩ | ⟨hb, h⟩
    · skip
      obtain rfl := Option.some.inj h; exact rfl
    · skip
      obtain ⟨hg10, h⟩ := grd h
      obtain ⟨hg11, h⟩ := grd h
      obtain ⟨I12, e1, h⟩ := bnd h
      exact (ih (l1 + 1) I12 J h).trans rfl
set_option maxRecDepth 8000 in
theorem fj_Mod_sentence {N : Nat} {I : FI} {J : FJ} {r : Int32 × FI × FJ} {b j : Nat} (w0 : ¬ (b = 204 ∧ j = 12)) (h : Mod_sentence N I J = some r) : r.2.2 b j = J b j := by
  unfold Mod_sentence at h
  obtain ⟨x1, hx, h⟩ := bnd h
  have q2 : x1.2 b j = J b j := (fj_Mod_begin w0 hx).trans rfl
  obtain ⟨I3, e1, h⟩ := bnd h
  obtain ⟨I4, e1, h⟩ := bnd h
  obtain ⟨I5, e1, h⟩ := bnd h
  obtain ⟨x6, hx, h⟩ := bnd h
  have q7 : x6.2.2 b j = J b j := (fj_Mod_readOr (fun v0 v1 v2 h => fj_Mod_readSaid_R w0 dK v0 v1 v2 h) w0 hx).trans q2
  rcases iteC h with ⟨hb, h⟩ | ⟨hb, h⟩
  rotate_left
  · skip
    obtain rfl := Option.some.inj h; exact q7
  · skip
    rcases iteC h with ⟨hb, h⟩ | ⟨hb, h⟩
    · skip
      obtain ⟨I8, e1, h⟩ := bnd h
      obtain ⟨I9, e1, h⟩ := bnd h
      exact (fj_Mod_sentence_79 w0 _ 0 I9 x6.2.2 h).trans q7
    · skip
      obtain ⟨x13, hx, h⟩ := bnd h
      obtain rfl := Option.some.inj h; exact q7
set_option maxRecDepth 8000 in
theorem fj_Mod_image_51 {N : Nat} {r : Bool × FI × FJ} {b j : Nat} (w0 : b ≠ 213) : ∀ (n : Nat) (l1 : Int32) (l2 : Int32) (I : FI) (J : FJ), Mod_image_51 N n l1 l2 I J = some r → r.2.2 b j = J b j := by
  intro n
  induction n with
  | zero =>
    intro l1 l2 I J h
    cases h
  | succ n ih =>
    intro l1 l2 I J h
    unfold Mod_image_51 at h
    rcases iteC h with ⟨hb, h⟩ | ⟨hb, h⟩
    · skip
      obtain ⟨hg2, h⟩ := grd h
      obtain ⟨I3, e1, h⟩ := bnd h
      obtain rfl := Option.some.inj h; exact rfl
    · skip
      obtain ⟨hg4, h⟩ := grd h
      obtain ⟨hg5, h⟩ := grd h
      obtain ⟨J6, e1, h⟩ := bnd h
      have q7 : J6 b j = J b j := by rw [← Option.some.inj e1]; exact (up2_fa w0).trans rfl
      exact (ih l1 (l2 + 1) I J6 h).trans q7
set_option maxRecDepth 8000 in
theorem fj_Mod_image_18 {N : Nat} {r : Bool × FI × FJ} {b j : Nat} (w0 : b ≠ 213) : ∀ (n : Nat) (l1 : Int32) (l2 : Int32) (I : FI) (J : FJ), Mod_image_18 N n l1 l2 I J = some r → r.2.2 b j = J b j := by
  intro n
  induction n with
  | zero =>
    intro l1 l2 I J h
    cases h
  | succ n ih =>
    intro l1 l2 I J h
    unfold Mod_image_18 at h
    rcases iteC h with ⟨hb, h⟩ | ⟨hb, h⟩
    · skip
      exact (fj_Mod_image_51 w0 _ l1 0 I J h).trans rfl
    · skip
      obtain ⟨hg8, h⟩ := grd h
      obtain ⟨hg9, h⟩ := grd h
      obtain ⟨I10, e1, h⟩ := bnd h
      exact (ih l1 (l2 + 1) I10 J h).trans rfl
set_option maxRecDepth 8000 in
theorem fj_Mod_image {N : Nat} {l1 : Int32} {I : FI} {J : FJ} {r : Bool × FI × FJ} {b j : Nat} (w0 : b ≠ 213) (h : Mod_image N l1 I J = some r) : r.2.2 b j = J b j := by
  unfold Mod_image at h
  obtain ⟨I1, e1, h⟩ := bnd h
  rcases iteC h with ⟨hb, h⟩ | ⟨hb, h⟩
  rotate_left
  · skip
    obtain rfl := Option.some.inj h; exact rfl
  · skip
    exact (fj_Mod_image_18 w0 _ l1 0 I1 J h).trans rfl
set_option maxRecDepth 8000 in
theorem fj_Mod_restore_60 {N : Nat} {r : Bool × FI × FJ} {b j : Nat} (w0 : b ≠ 211) : ∀ (n : Nat) (l1 : Int32) (l2 : Int32) (I : FI) (J : FJ), Mod_restore_60 N n l1 l2 I J = some r → r.2.2 b j = J b j := by
  intro n
  induction n with
  | zero =>
    intro l1 l2 I J h
    cases h
  | succ n ih =>
    intro l1 l2 I J h
    unfold Mod_restore_60 at h
    rcases iteC h with ⟨hb, h⟩ | ⟨hb, h⟩
    · skip
      obtain ⟨I3, e1, h⟩ := bnd h
      obtain rfl := Option.some.inj h; exact rfl
    · skip
      obtain ⟨hg4, h⟩ := grd h
      obtain ⟨hg5, h⟩ := grd h
      obtain ⟨J6, e1, h⟩ := bnd h
      have q7 : J6 b j = J b j := by rw [← Option.some.inj e1]; exact (up2_fa w0).trans rfl
      exact (ih l1 (l2 + 1) I J6 h).trans q7
set_option maxRecDepth 8000 in
theorem fj_Mod_restore_27 {N : Nat} {r : Bool × FI × FJ} {b j : Nat} (w0 : b ≠ 211) : ∀ (n : Nat) (l1 : Int32) (l2 : Int32) (I : FI) (J : FJ), Mod_restore_27 N n l1 l2 I J = some r → r.2.2 b j = J b j := by
  intro n
  induction n with
  | zero =>
    intro l1 l2 I J h
    cases h
  | succ n ih =>
    intro l1 l2 I J h
    unfold Mod_restore_27 at h
    rcases iteC h with ⟨hb, h⟩ | ⟨hb, h⟩
    · skip
      exact (fj_Mod_restore_60 w0 _ l1 0 I J h).trans rfl
    · skip
      obtain ⟨hg8, h⟩ := grd h
      obtain ⟨hg9, h⟩ := grd h
      obtain ⟨I10, e1, h⟩ := bnd h
      exact (ih l1 (l2 + 1) I10 J h).trans rfl
set_option maxRecDepth 8000 in
theorem fj_Mod_restore {N : Nat} {l1 : Int32} {I : FI} {J : FJ} {r : Bool × FI × FJ} {b j : Nat} (w0 : b ≠ 211) (h : Mod_restore N l1 I J = some r) : r.2.2 b j = J b j := by
  unfold Mod_restore at h
  obtain ⟨I1, e1, h⟩ := bnd h
  rcases iteC h with ⟨hb, h⟩ | ⟨hb, h⟩
  rotate_left
  · skip
    obtain rfl := Option.some.inj h; exact rfl
  · skip
    obtain ⟨hg2, h⟩ := grd h
    rcases iteC h with ⟨hb, h⟩ | ⟨hb, h⟩
    · skip
      obtain rfl := Option.some.inj h; exact rfl
    · skip
      exact (fj_Mod_restore_27 w0 _ l1 0 I1 J h).trans rfl
