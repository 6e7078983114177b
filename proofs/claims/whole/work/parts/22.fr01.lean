set_option maxRecDepth 8000 in
theorem fr_Mod_begin {N : Nat} {l1 : Int32} {I : FI} {J : FJ} {r : FI × FJ} {b j : Nat} (w0 : ¬ (b = 204 ∧ j = 0)) (w1 : ¬ (b = 204 ∧ j = 10)) (w2 : ¬ (b = 204 ∧ j = 2)) (w3 : ¬ (b = 204 ∧ j = 3)) (w4 : ¬ (b = 204 ∧ j = 4)) (w5 : ¬ (b = 204 ∧ j = 5)) (w6 : ¬ (b = 204 ∧ j = 6)) (w7 : ¬ (b = 204 ∧ j = 7)) (w8 : ¬ (b = 204 ∧ j = 8)) (w9 : ¬ (b = 204 ∧ j = 9)) (h : Mod_begin N l1 I J = some r) : r.1 b j = I b j := by
  unfold Mod_begin at h
  obtain ⟨I1, e1, h⟩ := bnd h
  have q2 : I1 b j = I b j := by rw [← Option.some.inj e1]; exact (up2_ff w0).trans rfl
  obtain ⟨x3, hx, h⟩ := bnd h
  have q4 : x3.2 b j = I b j := (fr_Mod_take w2 hx).trans q2
  obtain ⟨I5, e1, h⟩ := bnd h
  have q6 : I5 b j = I b j := by rw [← Option.some.inj e1]; exact (up2_ff w3).trans q4
  obtain ⟨I7, e1, h⟩ := bnd h
  have q8 : I7 b j = I b j := by rw [← Option.some.inj e1]; exact (up2_ff w4).trans q6
  obtain ⟨I9, e1, h⟩ := bnd h
  have q10 : I9 b j = I b j := by rw [← Option.some.inj e1]; exact (up2_ff w1).trans q8
  obtain ⟨I11, e1, h⟩ := bnd h
  have q12 : I11 b j = I b j := by rw [← Option.some.inj e1]; exact (up2_ff w5).trans q10
  obtain ⟨x13, hx, h⟩ := bnd h
  have q14 : x13.1 b j = I b j := (fr_Mod_go w5 w6 w7 w8 w9 hx).trans q12
  obtain rfl := Option.some.inj h; exact q14
set_option maxRecDepth 8000 in
theorem fr_Mod_bad {l1 : Int32} {I : FI} {r : Bool × FI} {b j : Nat} (w0 : ¬ (b = 204 ∧ j = 10)) (w1 : ¬ (b = 204 ∧ j = 11)) (h : Mod_bad l1 I = some r) : r.2 b j = I b j := by
  unfold Mod_bad at h
  rcases iteC h with ⟨hb, h⟩ | ⟨hb, h⟩
  · skip
    obtain ⟨I1, e1, h⟩ := bnd h
    have q2 : I1 b j = I b j := by rw [← Option.some.inj e1]; exact (up2_ff w0).trans rfl
    obtain ⟨I3, e1, h⟩ := bnd h
    have q4 : I3 b j = I b j := by rw [← Option.some.inj e1]; exact (up2_ff w1).trans q2
    obtain rfl := Option.some.inj h; exact q4
  · skip
    obtain ⟨I5, e1, h⟩ := bnd h
    have q6 : I5 b j = I b j := by rw [← Option.some.inj e1]; exact (up2_ff w0).trans rfl
    obtain ⟨I7, e1, h⟩ := bnd h
    have q8 : I7 b j = I b j := by rw [← Option.some.inj e1]; exact (up2_ff w1).trans q6
    obtain rfl := Option.some.inj h; exact q8
set_option maxRecDepth 8000 in
theorem fr_Mod_isFresh {N : Nat} {l1 : Int32} {I : FI} {J : FJ} {r : Bool × FI × FJ} {b j : Nat} (w0 : b ≠ 215) (w1 : ¬ (b = 204 ∧ j = 10)) (w2 : ¬ (b = 204 ∧ j = 11)) (w3 : ¬ (b = 204 ∧ j = 5)) (w4 : ¬ (b = 204 ∧ j = 6)) (w5 : ¬ (b = 204 ∧ j = 7)) (w6 : ¬ (b = 204 ∧ j = 8)) (w7 : ¬ (b = 204 ∧ j = 9)) (h : Mod_isFresh N l1 I J = some r) : r.2.1 b j = I b j := by
  unfold Mod_isFresh at h
  obtain ⟨hg1, h⟩ := grd h
  rcases iteC h with ⟨hb, h⟩ | ⟨hb, h⟩
  · skip
    obtain ⟨I2, e1, h⟩ := bnd h
    have q3 : I2 b j = I b j := by rw [← Option.some.inj e1]; exact (up2_fa w0).trans rfl
    obtain ⟨x4, hx, h⟩ := bnd h
    have q5 : x4.1 b j = I b j := (fr_Mod_go w3 w4 w5 w6 w7 hx).trans q3
    obtain rfl := Option.some.inj h; exact q5
  · skip
    obtain ⟨x6, hx, h⟩ := bnd h
    have q7 : x6.2 b j = I b j := (fr_Mod_bad w1 w2 hx).trans rfl
    obtain rfl := Option.some.inj h; exact q7
set_option maxRecDepth 8000 in
theorem fr_Mod_readNumber {N : Nat} {l1 : Int32} {l2 : Int32} {I : FI} {J : FJ} {r : Bool × FI × FJ} {b j : Nat} (w0 : ¬ (b = 204 ∧ j = 10)) (w1 : ¬ (b = 204 ∧ j = 11)) (w2 : ¬ (b = 204 ∧ j = 13)) (w3 : ¬ (b = 204 ∧ j = 5)) (w4 : ¬ (b = 204 ∧ j = 6)) (w5 : ¬ (b = 204 ∧ j = 7)) (w6 : ¬ (b = 204 ∧ j = 8)) (w7 : ¬ (b = 204 ∧ j = 9)) (h : Mod_readNumber N l1 l2 I J = some r) : r.2.1 b j = I b j := by
  unfold Mod_readNumber at h
  rcases iteC h with ⟨hb, h⟩ | ⟨hb, h⟩
  · skip
    rcases iteC h with ⟨hb, h⟩ | ⟨hb, h⟩
    rotate_left
    · skip
      obtain ⟨x1, hx, h⟩ := bnd h
      have q2 : x1.2 b j = I b j := (fr_Mod_bad w0 w1 hx).trans rfl
      obtain rfl := Option.some.inj h; exact q2
    · skip
      obtain ⟨I3, e1, h⟩ := bnd h
      have q4 : I3 b j = I b j := by rw [← Option.some.inj e1]; exact (up2_ff w2).trans rfl
      obtain ⟨x5, hx, h⟩ := bnd h
      have q6 : x5.1 b j = I b j := (fr_Mod_go w3 w4 w5 w6 w7 hx).trans q4
      obtain rfl := Option.some.inj h; exact q6
  · skip
    obtain ⟨x7, hx, h⟩ := bnd h
    have q8 : x7.2 b j = I b j := (fr_Mod_bad w0 w1 hx).trans rfl
    obtain rfl := Option.some.inj h; exact q8
set_option maxRecDepth 8000 in
theorem fr_Mod_put {l1 : Int32} {b2 : Bool} {I : FI} {r : Bool × FI} {b j : Nat} (w0 : b ≠ 207) (h : Mod_put l1 b2 I = some r) : r.2 b j = I b j := by
  unfold Mod_put at h
  rcases iteC h with ⟨hb, h⟩ | ⟨hb, h⟩
  rotate_left
  · skip
    obtain rfl := Option.some.inj h; exact rfl
  · skip
    obtain ⟨hg1, h⟩ := grd h
    obtain ⟨I2, e1, h⟩ := bnd h
    have q3 : I2 b j = I b j := by rw [← Option.some.inj e1]; exact (up2_fa w0).trans rfl
    obtain rfl := Option.some.inj h; exact q3
set_option maxRecDepth 8000 in
theorem fr_Mod_readField {N : Nat} {I : FI} {J : FJ} {r : Bool × FI × FJ} {b j : Nat} (w0 : b ≠ 207) (w1 : b ≠ 215) (w2 : ¬ (b = 204 ∧ j = 10)) (w3 : ¬ (b = 204 ∧ j = 11)) (w4 : ¬ (b = 204 ∧ j = 13)) (w5 : ¬ (b = 204 ∧ j = 5)) (w6 : ¬ (b = 204 ∧ j = 6)) (w7 : ¬ (b = 204 ∧ j = 7)) (w8 : ¬ (b = 204 ∧ j = 8)) (w9 : ¬ (b = 204 ∧ j = 9)) (h : Mod_readField N I J = some r) : r.2.1 b j = I b j := by
  unfold Mod_readField at h
  rcases iteC h with ⟨hb, h⟩ | ⟨hb, h⟩
  · skip
    obtain ⟨x1, hx, h⟩ := bnd h
    have q2 : x1.2.1 b j = I b j := (fr_Mod_isFresh w1 w2 w3 w5 w6 w7 w8 w9 hx).trans rfl
    rcases iteC h with ⟨hb, h⟩ | ⟨hb, h⟩
    rotate_left
    · skip
      obtain rfl := Option.some.inj h; exact q2
    · skip
      obtain ⟨x3, hx, h⟩ := bnd h
      have q4 : x3.2.1 b j = I b j := (fr_Mod_readNumber w2 w3 w4 w5 w6 w7 w8 w9 hx).trans q2
      obtain ⟨x5, hx, h⟩ := bnd h
      have q6 : x5.2 b j = I b j := (fr_Mod_put w0 hx).trans q4
      rcases iteC h with ⟨hb, h⟩ | ⟨hb, h⟩
      rotate_left
      · skip
        obtain rfl := Option.some.inj h; exact q6
      · skip
        obtain ⟨x7, hx, h⟩ := bnd h
        have q8 : x7.2.1 b j = I b j := (fr_Mod_readNumber w2 w3 w4 w5 w6 w7 w8 w9 hx).trans q6
        obtain ⟨x9, hx, h⟩ := bnd h
        have q10 : x9.2 b j = I b j := (fr_Mod_put w0 hx).trans q8
        rcases iteC h with ⟨hb, h⟩ | ⟨hb, h⟩
        rotate_left
        · skip
          obtain rfl := Option.some.inj h; exact q10
        · skip
          obtain rfl := Option.some.inj h; exact q10
  · skip
    obtain ⟨x11, hx, h⟩ := bnd h
    have q12 : x11.2 b j = I b j := (fr_Mod_bad w2 w3 hx).trans rfl
    obtain rfl := Option.some.inj h; exact q12
set_option maxRecDepth 8000 in
theorem fr_Mod_readFirst {N : Nat} {l1 : Int32} {l2 : Int32} {I : FI} {J : FJ} {r : Bool × FI × FJ} {b j : Nat} (w0 : ¬ (b = 204 ∧ j = 10)) (w1 : ¬ (b = 204 ∧ j = 11)) (w2 : ¬ (b = 204 ∧ j = 5)) (w3 : ¬ (b = 204 ∧ j = 6)) (w4 : ¬ (b = 204 ∧ j = 7)) (w5 : ¬ (b = 204 ∧ j = 8)) (w6 : ¬ (b = 204 ∧ j = 9)) (h : Mod_readFirst N l1 l2 I J = some r) : r.2.1 b j = I b j := by
  unfold Mod_readFirst at h
  obtain ⟨hg1, h⟩ := grd h
  rcases iteC h with ⟨hb, h⟩ | ⟨hb, h⟩
  · skip
    obtain ⟨x2, hx, h⟩ := bnd h
    have q3 : x2.2 b j = I b j := (fr_Mod_bad w0 w1 hx).trans rfl
    obtain rfl := Option.some.inj h; exact q3
  · skip
    obtain ⟨x4, hx, h⟩ := bnd h
    have q5 : x4.1 b j = I b j := (fr_Mod_go w2 w3 w4 w5 w6 hx).trans rfl
    obtain rfl := Option.some.inj h; exact q5
set_option maxRecDepth 8000 in
theorem fr_Mod_readNew {N : Nat} {l1 : Int32} {I : FI} {J : FJ} {r : Bool × FI × FJ} {b j : Nat} (w0 : ¬ (b = 204 ∧ j = 10)) (w1 : ¬ (b = 204 ∧ j = 11)) (w2 : ¬ (b = 204 ∧ j = 5)) (w3 : ¬ (b = 204 ∧ j = 6)) (w4 : ¬ (b = 204 ∧ j = 7)) (w5 : ¬ (b = 204 ∧ j = 8)) (w6 : ¬ (b = 204 ∧ j = 9)) (h : Mod_readNew N l1 I J = some r) : r.2.1 b j = I b j := by
  unfold Mod_readNew at h
  obtain ⟨x1, hx, h⟩ := bnd h
  rcases iteC h with ⟨hb, h⟩ | ⟨hb, h⟩
  rotate_left
  · skip
    obtain ⟨x2, hx, h⟩ := bnd h
    have q3 : x2.2 b j = I b j := (fr_Mod_bad w0 w1 hx).trans rfl
    obtain rfl := Option.some.inj h; exact q3
  · skip
    obtain ⟨x4, hx, h⟩ := bnd h
    rcases iteC h with ⟨hb, h⟩ | ⟨hb, h⟩
    · skip
      obtain ⟨x5, hx, h⟩ := bnd h
      rcases iteC h with ⟨hb, h⟩ | ⟨hb, h⟩
      · skip
        obtain ⟨x6, hx, h⟩ := bnd h
        rcases iteC h with ⟨hb, h⟩ | ⟨hb, h⟩
        · skip
          obtain ⟨hg7, h⟩ := grd h
          obtain ⟨J8, e1, h⟩ := bnd h
          obtain ⟨x9, hx, h⟩ := bnd h
          have q10 : x9.1 b j = I b j := (fr_Mod_go w2 w3 w4 w5 w6 hx).trans rfl
          obtain rfl := Option.some.inj h; exact q10
        · skip
          obtain ⟨x11, hx, h⟩ := bnd h
          have q12 : x11.2 b j = I b j := (fr_Mod_bad w0 w1 hx).trans rfl
          obtain rfl := Option.some.inj h; exact q12
      · skip
        obtain ⟨x13, hx, h⟩ := bnd h
        have q14 : x13.2 b j = I b j := (fr_Mod_bad w0 w1 hx).trans rfl
        obtain rfl := Option.some.inj h; exact q14
    · skip
      obtain ⟨x15, hx, h⟩ := bnd h
      have q16 : x15.2 b j = I b j := (fr_Mod_bad w0 w1 hx).trans rfl
      obtain rfl := Option.some.inj h; exact q16
set_option maxRecDepth 8000 in
theorem fr_Mod_readPerson {N : Nat} {I : FI} {J : FJ} {r : Bool × FI × FJ} {b j : Nat} (w0 : b ≠ 207) (w1 : ¬ (b = 204 ∧ j = 10)) (w2 : ¬ (b = 204 ∧ j = 11)) (w3 : ¬ (b = 204 ∧ j = 5)) (w4 : ¬ (b = 204 ∧ j = 6)) (w5 : ¬ (b = 204 ∧ j = 7)) (w6 : ¬ (b = 204 ∧ j = 8)) (w7 : ¬ (b = 204 ∧ j = 9)) (h : Mod_readPerson N I J = some r) : r.2.1 b j = I b j := by
  unfold Mod_readPerson at h
  obtain ⟨x1, hx, h⟩ := bnd h
  have q2 : x1.2.1 b j = I b j := (fr_Mod_readFirst w1 w2 w3 w4 w5 w6 w7 hx).trans rfl
  rcases iteC h with ⟨hb, h⟩ | ⟨hb, h⟩
  rotate_left
  · skip
    obtain rfl := Option.some.inj h; exact q2
  · skip
    obtain ⟨x3, hx, h⟩ := bnd h
    have q4 : x3.2.1 b j = I b j := (fr_Mod_readNew w1 w2 w3 w4 w5 w6 w7 hx).trans q2
    rcases iteC h with ⟨hb, h⟩ | ⟨hb, h⟩
    rotate_left
    · skip
      obtain rfl := Option.some.inj h; exact q4
    · skip
      obtain ⟨I5, e1, h⟩ := bnd h
      have q6 : I5 b j = I b j := by rw [← Option.some.inj e1]; exact (up2_fa w0).trans q4
      obtain rfl := Option.some.inj h; exact q6
set_option maxRecDepth 8000 in
theorem fr_Mod_isOneOf_2 {N : Nat} {r : Bool × FI} {b j : Nat} (w0 : ¬ (b = 204 ∧ j = 10)) (w1 : ¬ (b = 204 ∧ j = 11)) (w2 : ¬ (b = 204 ∧ j = 13)) : ∀ (n : Nat) (l1 : Int32) (l2 : Int32) (l3 : Int32) (I : FI) (J : FJ), Mod_isOneOf_2 N n l1 l2 l3 I J = some r → r.2 b j = I b j := by
  intro n
  induction n with
  | zero =>
    intro l1 l2 l3 I J h
    cases h
  | succ n ih =>
    intro l1 l2 l3 I J h
    unfold Mod_isOneOf_2 at h
    rcases iteC h with ⟨hb, h⟩ | ⟨hb, h⟩
    · skip
      rcases iteC h with ⟨hb, h⟩ | ⟨hb, h⟩
      · skip
        obtain ⟨I1, e1, h⟩ := bnd h
        have q2 : I1 b j = I b j := by rw [← Option.some.inj e1]; exact (up2_ff w2).trans rfl
        obtain rfl := Option.some.inj h; exact q2
      · skip
        obtain ⟨x3, hx, h⟩ := bnd h
        have q4 : x3.2 b j = I b j := (fr_Mod_bad w0 w1 hx).trans rfl
        obtain rfl := Option.some.inj h; exact q4
    · skip
      rcases iteC h with ⟨hb, h⟩ | ⟨hb, h⟩
      rotate_left
      · skip
        exact (ih l1 l2 (l3 + 1) I J h).trans rfl
      · skip
        rcases iteC h with ⟨hb, h⟩ | ⟨hb, h⟩
        · skip
          obtain ⟨I5, e1, h⟩ := bnd h
          have q6 : I5 b j = I b j := by rw [← Option.some.inj e1]; exact (up2_ff w2).trans rfl
          obtain rfl := Option.some.inj h; exact q6
        · skip
          obtain ⟨x7, hx, h⟩ := bnd h
          have q8 : x7.2 b j = I b j := (fr_Mod_bad w0 w1 hx).trans rfl
          obtain rfl := Option.some.inj h; exact q8
set_option maxRecDepth 8000 in
theorem fr_Mod_isOneOf {N : Nat} {l1 : Int32} {l2 : Int32} {I : FI} {J : FJ} {r : Bool × FI} {b j : Nat} (w0 : ¬ (b = 204 ∧ j = 10)) (w1 : ¬ (b = 204 ∧ j = 11)) (w2 : ¬ (b = 204 ∧ j = 13)) (h : Mod_isOneOf N l1 l2 I J = some r) : r.2 b j = I b j := by
  unfold Mod_isOneOf at h
  exact (fr_Mod_isOneOf_2 w0 w1 w2 _ l1 l2 l1 I J h).trans rfl
set_option maxRecDepth 8000 in
theorem fr_Mod_readFind {N : Nat} {I : FI} {J : FJ} {r : Bool × FI × FJ} {b j : Nat} (w0 : b ≠ 207) (w1 : ¬ (b = 204 ∧ j = 10)) (w2 : ¬ (b = 204 ∧ j = 11)) (w3 : ¬ (b = 204 ∧ j = 13)) (w4 : ¬ (b = 204 ∧ j = 5)) (w5 : ¬ (b = 204 ∧ j = 6)) (w6 : ¬ (b = 204 ∧ j = 7)) (w7 : ¬ (b = 204 ∧ j = 8)) (w8 : ¬ (b = 204 ∧ j = 9)) (h : Mod_readFind N I J = some r) : r.2.1 b j = I b j := by
  unfold Mod_readFind at h
  obtain ⟨x1, hx, h⟩ := bnd h
  have q2 : x1.2.1 b j = I b j := (fr_Mod_readFirst w1 w2 w4 w5 w6 w7 w8 hx).trans rfl
  rcases iteC h with ⟨hb, h⟩ | ⟨hb, h⟩
  rotate_left
  · skip
    obtain rfl := Option.some.inj h; exact q2
  · skip
    obtain ⟨x3, hx, h⟩ := bnd h
    have q4 : x3.2.1 b j = I b j := (fr_Mod_readNew w1 w2 w4 w5 w6 w7 w8 hx).trans q2
    rcases iteC h with ⟨hb, h⟩ | ⟨hb, h⟩
    rotate_left
    · skip
      obtain rfl := Option.some.inj h; exact q4
    · skip
      obtain ⟨x5, hx, h⟩ := bnd h
      have q6 : x5.2 b j = I b j := (fr_Mod_isOneOf w1 w2 w3 hx).trans q4
      obtain ⟨x7, hx, h⟩ := bnd h
      have q8 : x7.2 b j = I b j := (fr_Mod_put w0 hx).trans q6
      rcases iteC h with ⟨hb, h⟩ | ⟨hb, h⟩
      rotate_left
      · skip
        obtain rfl := Option.some.inj h; exact q8
      · skip
        obtain ⟨x9, hx, h⟩ := bnd h
        have q10 : x9.1 b j = I b j := (fr_Mod_go w4 w5 w6 w7 w8 hx).trans q8
        obtain ⟨x11, hx, h⟩ := bnd h
        have q12 : x11.2.1 b j = I b j := (fr_Mod_readNumber w1 w2 w3 w4 w5 w6 w7 w8 hx).trans q10
        obtain ⟨x13, hx, h⟩ := bnd h
        have q14 : x13.2 b j = I b j := (fr_Mod_put w0 hx).trans q12
        rcases iteC h with ⟨hb, h⟩ | ⟨hb, h⟩
        rotate_left
        · skip
          obtain rfl := Option.some.inj h; exact q14
        · skip
          obtain ⟨x15, hx, h⟩ := bnd h
          have q16 : x15.2.1 b j = I b j := (fr_Mod_readNumber w1 w2 w3 w4 w5 w6 w7 w8 hx).trans q14
          obtain ⟨x17, hx, h⟩ := bnd h
          have q18 : x17.2 b j = I b j := (fr_Mod_put w0 hx).trans q16
          rcases iteC h with ⟨hb, h⟩ | ⟨hb, h⟩
          rotate_left
          · skip
            obtain rfl := Option.some.inj h; exact q18
          · skip
            obtain ⟨x19, hx, h⟩ := bnd h
            have q20 : x19.2.1 b j = I b j := (fr_Mod_readNumber w1 w2 w3 w4 w5 w6 w7 w8 hx).trans q18
            obtain ⟨x21, hx, h⟩ := bnd h
            have q22 : x21.2 b j = I b j := (fr_Mod_put w0 hx).trans q20
            rcases iteC h with ⟨hb, h⟩ | ⟨hb, h⟩
            rotate_left
            · skip
              obtain rfl := Option.some.inj h; exact q22
            · skip
              obtain ⟨x23, hx, h⟩ := bnd h
              have q24 : x23.2.1 b j = I b j := (fr_Mod_readNumber w1 w2 w3 w4 w5 w6 w7 w8 hx).trans q22
              obtain ⟨x25, hx, h⟩ := bnd h
              have q26 : x25.2 b j = I b j := (fr_Mod_put w0 hx).trans q24
              rcases iteC h with ⟨hb, h⟩ | ⟨hb, h⟩
              rotate_left
              · skip
                obtain rfl := Option.some.inj h; exact q26
              · skip
                obtain ⟨x27, hx, h⟩ := bnd h
                have q28 : x27.2.1 b j = I b j := (fr_Mod_readNumber w1 w2 w3 w4 w5 w6 w7 w8 hx).trans q26
                obtain ⟨x29, hx, h⟩ := bnd h
                have q30 : x29.2 b j = I b j := (fr_Mod_put w0 hx).trans q28
                rcases iteC h with ⟨hb, h⟩ | ⟨hb, h⟩
                rotate_left
                · skip
                  obtain rfl := Option.some.inj h; exact q30
                · skip
                  obtain ⟨I31, e1, h⟩ := bnd h
                  have q32 : I31 b j = I b j := by rw [← Option.some.inj e1]; exact (up2_fa w0).trans q30
                  obtain rfl := Option.some.inj h; exact q32
set_option maxRecDepth 8000 in
theorem fr_Mod_readFear {N : Nat} {I : FI} {J : FJ} {r : Bool × FI × FJ} {b j : Nat} (w0 : b ≠ 207) (w1 : ¬ (b = 204 ∧ j = 10)) (w2 : ¬ (b = 204 ∧ j = 11)) (w3 : ¬ (b = 204 ∧ j = 13)) (w4 : ¬ (b = 204 ∧ j = 5)) (w5 : ¬ (b = 204 ∧ j = 6)) (w6 : ¬ (b = 204 ∧ j = 7)) (w7 : ¬ (b = 204 ∧ j = 8)) (w8 : ¬ (b = 204 ∧ j = 9)) (h : Mod_readFear N I J = some r) : r.2.1 b j = I b j := by
  unfold Mod_readFear at h
  obtain ⟨x1, hx, h⟩ := bnd h
  have q2 : x1.2.1 b j = I b j := (fr_Mod_readFirst w1 w2 w4 w5 w6 w7 w8 hx).trans rfl
  rcases iteC h with ⟨hb, h⟩ | ⟨hb, h⟩
  rotate_left
  · skip
    obtain rfl := Option.some.inj h; exact q2
  · skip
    obtain ⟨x3, hx, h⟩ := bnd h
    have q4 : x3.2.1 b j = I b j := (fr_Mod_readNew w1 w2 w4 w5 w6 w7 w8 hx).trans q2
    rcases iteC h with ⟨hb, h⟩ | ⟨hb, h⟩
    rotate_left
    · skip
      obtain rfl := Option.some.inj h; exact q4
    · skip
      obtain ⟨x5, hx, h⟩ := bnd h
      have q6 : x5.2.1 b j = I b j := (fr_Mod_readNumber w1 w2 w3 w4 w5 w6 w7 w8 hx).trans q4
      obtain ⟨x7, hx, h⟩ := bnd h
      have q8 : x7.2 b j = I b j := (fr_Mod_put w0 hx).trans q6
      rcases iteC h with ⟨hb, h⟩ | ⟨hb, h⟩
      rotate_left
      · skip
        obtain rfl := Option.some.inj h; exact q8
      · skip
        obtain ⟨hg9, h⟩ := grd h
        obtain ⟨x10, hx, h⟩ := bnd h
        have q11 : x10.2.1 b j = I b j := (fr_Mod_readNumber w1 w2 w3 w4 w5 w6 w7 w8 hx).trans q8
        obtain ⟨x12, hx, h⟩ := bnd h
        have q13 : x12.2 b j = I b j := (fr_Mod_put w0 hx).trans q11
        rcases iteC h with ⟨hb, h⟩ | ⟨hb, h⟩
        rotate_left
        · skip
          obtain rfl := Option.some.inj h; exact q13
        · skip
          obtain ⟨I14, e1, h⟩ := bnd h
          have q15 : I14 b j = I b j := by rw [← Option.some.inj e1]; exact (up2_fa w0).trans q13
          obtain rfl := Option.some.inj h; exact q15
set_option maxRecDepth 8000 in
theorem fr_Mod_readReading {N : Nat} {I : FI} {J : FJ} {r : Bool × FI × FJ} {b j : Nat} (w0 : ¬ (b = 204 ∧ j = 10)) (w1 : ¬ (b = 204 ∧ j = 11)) (w2 : ¬ (b = 204 ∧ j = 13)) (w3 : ¬ (b = 204 ∧ j = 5)) (w4 : ¬ (b = 204 ∧ j = 6)) (w5 : ¬ (b = 204 ∧ j = 7)) (w6 : ¬ (b = 204 ∧ j = 8)) (w7 : ¬ (b = 204 ∧ j = 9)) (h : Mod_readReading N I J = some r) : r.2.1 b j = I b j := by
  unfold Mod_readReading at h
  obtain ⟨x1, hx, h⟩ := bnd h
  have q2 : x1.1 b j = I b j := (fr_Mod_go w3 w4 w5 w6 w7 hx).trans rfl
  obtain ⟨x3, hx, h⟩ := bnd h
  have q4 : x3.2 b j = I b j := (fr_Mod_isOneOf w0 w1 w2 hx).trans q2
  obtain rfl := Option.some.inj h; exact q4
set_option maxRecDepth 8000 in
theorem fr_Mod_readHint {N : Nat} {I : FI} {J : FJ} {r : Bool × FI × FJ} {b j : Nat} (w0 : b ≠ 207) (w1 : b ≠ 215) (w2 : ¬ (b = 204 ∧ j = 10)) (w3 : ¬ (b = 204 ∧ j = 11)) (w4 : ¬ (b = 204 ∧ j = 13)) (w5 : ¬ (b = 204 ∧ j = 5)) (w6 : ¬ (b = 204 ∧ j = 6)) (w7 : ¬ (b = 204 ∧ j = 7)) (w8 : ¬ (b = 204 ∧ j = 8)) (w9 : ¬ (b = 204 ∧ j = 9)) (h : Mod_readHint N I J = some r) : r.2.1 b j = I b j := by
  unfold Mod_readHint at h
  obtain ⟨x1, hx, h⟩ := bnd h
  have q2 : x1.2.1 b j = I b j := (fr_Mod_readReading w2 w3 w4 w5 w6 w7 w8 w9 hx).trans rfl
  rcases iteC h with ⟨hb, h⟩ | ⟨hb, h⟩
  rotate_left
  · skip
    obtain rfl := Option.some.inj h; exact q2
  · skip
    obtain ⟨x3, hx, h⟩ := bnd h
    have q4 : x3.1 b j = I b j := (fr_Mod_go w5 w6 w7 w8 w9 hx).trans q2
    obtain ⟨x5, hx, h⟩ := bnd h
    have q6 : x5.2 b j = I b j := (fr_Mod_isOneOf w2 w3 w4 hx).trans q4
    rcases iteC h with ⟨hb, h⟩ | ⟨hb, h⟩
    rotate_left
    · skip
      obtain rfl := Option.some.inj h; exact q6
    · skip
      obtain ⟨x7, hx, h⟩ := bnd h
      have q8 : x7.2.1 b j = I b j := (fr_Mod_isFresh w1 w2 w3 w5 w6 w7 w8 w9 hx).trans q6
      rcases iteC h with ⟨hb, h⟩ | ⟨hb, h⟩
      rotate_left
      · skip
        obtain rfl := Option.some.inj h; exact q8
      · skip
        obtain ⟨x9, hx, h⟩ := bnd h
        have q10 : x9.2.1 b j = I b j := (fr_Mod_readNumber w2 w3 w4 w5 w6 w7 w8 w9 hx).trans q8
        obtain ⟨x11, hx, h⟩ := bnd h
        have q12 : x11.2 b j = I b j := (fr_Mod_put w0 hx).trans q10
        rcases iteC h with ⟨hb, h⟩ | ⟨hb, h⟩
        rotate_left
        · skip
          obtain rfl := Option.some.inj h; exact q12
        · skip
          obtain rfl := Option.some.inj h; exact q12
set_option maxRecDepth 8000 in
theorem fr_Mod_readPrior {N : Nat} {I : FI} {J : FJ} {r : Bool × FI × FJ} {b j : Nat} (w0 : b ≠ 207) (w1 : b ≠ 215) (w2 : ¬ (b = 204 ∧ j = 10)) (w3 : ¬ (b = 204 ∧ j = 11)) (w4 : ¬ (b = 204 ∧ j = 13)) (w5 : ¬ (b = 204 ∧ j = 5)) (w6 : ¬ (b = 204 ∧ j = 6)) (w7 : ¬ (b = 204 ∧ j = 7)) (w8 : ¬ (b = 204 ∧ j = 8)) (w9 : ¬ (b = 204 ∧ j = 9)) (h : Mod_readPrior N I J = some r) : r.2.1 b j = I b j := by
  unfold Mod_readPrior at h
  obtain ⟨x1, hx, h⟩ := bnd h
  have q2 : x1.2.1 b j = I b j := (fr_Mod_readReading w2 w3 w4 w5 w6 w7 w8 w9 hx).trans rfl
  rcases iteC h with ⟨hb, h⟩ | ⟨hb, h⟩
  rotate_left
  · skip
    obtain rfl := Option.some.inj h; exact q2
  · skip
    obtain ⟨x3, hx, h⟩ := bnd h
    have q4 : x3.2.1 b j = I b j := (fr_Mod_isFresh w1 w2 w3 w5 w6 w7 w8 w9 hx).trans q2
    rcases iteC h with ⟨hb, h⟩ | ⟨hb, h⟩
    rotate_left
    · skip
      obtain rfl := Option.some.inj h; exact q4
    · skip
      obtain ⟨x5, hx, h⟩ := bnd h
      have q6 : x5.2.1 b j = I b j := (fr_Mod_readNumber w2 w3 w4 w5 w6 w7 w8 w9 hx).trans q4
      obtain ⟨x7, hx, h⟩ := bnd h
      have q8 : x7.2 b j = I b j := (fr_Mod_put w0 hx).trans q6
      rcases iteC h with ⟨hb, h⟩ | ⟨hb, h⟩
      rotate_left
      · skip
        obtain rfl := Option.some.inj h; exact q8
      · skip
        obtain rfl := Option.some.inj h; exact q8
set_option maxRecDepth 8000 in
theorem fr_Mod_readGets {N : Nat} {I : FI} {J : FJ} {r : Bool × FI × FJ} {b j : Nat} (w0 : b ≠ 207) (w1 : b ≠ 215) (w2 : ¬ (b = 204 ∧ j = 10)) (w3 : ¬ (b = 204 ∧ j = 11)) (w4 : ¬ (b = 204 ∧ j = 13)) (w5 : ¬ (b = 204 ∧ j = 5)) (w6 : ¬ (b = 204 ∧ j = 6)) (w7 : ¬ (b = 204 ∧ j = 7)) (w8 : ¬ (b = 204 ∧ j = 8)) (w9 : ¬ (b = 204 ∧ j = 9)) (h : Mod_readGets N I J = some r) : r.2.1 b j = I b j := by
  unfold Mod_readGets at h
  obtain ⟨x1, hx, h⟩ := bnd h
  have q2 : x1.2.1 b j = I b j := (fr_Mod_readReading w2 w3 w4 w5 w6 w7 w8 w9 hx).trans rfl
  rcases iteC h with ⟨hb, h⟩ | ⟨hb, h⟩
  rotate_left
  · skip
    obtain rfl := Option.some.inj h; exact q2
  · skip
    obtain ⟨x3, hx, h⟩ := bnd h
    have q4 : x3.1 b j = I b j := (fr_Mod_go w5 w6 w7 w8 w9 hx).trans q2
    obtain ⟨x5, hx, h⟩ := bnd h
    have q6 : x5.2 b j = I b j := (fr_Mod_isOneOf w2 w3 w4 hx).trans q4
    rcases iteC h with ⟨hb, h⟩ | ⟨hb, h⟩
    rotate_left
    · skip
      obtain rfl := Option.some.inj h; exact q6
    · skip
      obtain ⟨x7, hx, h⟩ := bnd h
      have q8 : x7.2.1 b j = I b j := (fr_Mod_isFresh w1 w2 w3 w5 w6 w7 w8 w9 hx).trans q6
      rcases iteC h with ⟨hb, h⟩ | ⟨hb, h⟩
      rotate_left
      · skip
        obtain rfl := Option.some.inj h; exact q8
      · skip
        obtain ⟨x9, hx, h⟩ := bnd h
        have q10 : x9.2.1 b j = I b j := (fr_Mod_readNumber w2 w3 w4 w5 w6 w7 w8 w9 hx).trans q8
        obtain ⟨x11, hx, h⟩ := bnd h
        have q12 : x11.2 b j = I b j := (fr_Mod_put w0 hx).trans q10
        rcases iteC h with ⟨hb, h⟩ | ⟨hb, h⟩
        rotate_left
        · skip
          obtain rfl := Option.some.inj h; exact q12
        · skip
          obtain rfl := Option.some.inj h; exact q12
set_option maxRecDepth 8000 in
theorem fr_Mod_readLine {N : Nat} {I : FI} {J : FJ} {r : Bool × FI × FJ} {b j : Nat} (w0 : b ≠ 207) (w1 : b ≠ 215) (w2 : ¬ (b = 204 ∧ j = 10)) (w3 : ¬ (b = 204 ∧ j = 11)) (w4 : ¬ (b = 204 ∧ j = 13)) (w5 : ¬ (b = 204 ∧ j = 5)) (w6 : ¬ (b = 204 ∧ j = 6)) (w7 : ¬ (b = 204 ∧ j = 7)) (w8 : ¬ (b = 204 ∧ j = 8)) (w9 : ¬ (b = 204 ∧ j = 9)) (h : Mod_readLine N I J = some r) : r.2.1 b j = I b j := by
  unfold Mod_readLine at h
  rcases iteC h with ⟨hb, h⟩ | ⟨hb, h⟩
  rotate_left
  · skip
    rcases iteC h with ⟨hb, h⟩ | ⟨hb, h⟩
    rotate_left
    · skip
      rcases iteC h with ⟨hb, h⟩ | ⟨hb, h⟩
      rotate_left
      · skip
        rcases iteC h with ⟨hb, h⟩ | ⟨hb, h⟩
        rotate_left
        · skip
          rcases iteC h with ⟨hb, h⟩ | ⟨hb, h⟩
          rotate_left
          · skip
            rcases iteC h with ⟨hb, h⟩ | ⟨hb, h⟩
            rotate_left
            · skip
              rcases iteC h with ⟨hb, h⟩ | ⟨hb, h⟩
              rotate_left
              · skip
                rcases iteC h with ⟨hb, h⟩ | ⟨hb, h⟩
                rotate_left
                · skip
                  obtain ⟨x1, hx, h⟩ := bnd h
                  have q2 : x1.2 b j = I b j := (fr_Mod_bad w2 w3 hx).trans rfl
                  obtain rfl := Option.some.inj h; exact q2
                · skip
                  obtain ⟨x3, hx, h⟩ := bnd h
                  have q4 : x3.2.1 b j = I b j := (fr_Mod_isFresh w1 w2 w3 w5 w6 w7 w8 w9 hx).trans rfl
                  rcases iteC h with ⟨hb, h⟩ | ⟨hb, h⟩
                  rotate_left
                  · skip
                    obtain rfl := Option.some.inj h; exact q4
                  · skip
                    obtain ⟨x5, hx, h⟩ := bnd h
                    have q6 : x5.2.1 b j = I b j := (fr_Mod_readNumber w2 w3 w4 w5 w6 w7 w8 w9 hx).trans q4
                    obtain ⟨x7, hx, h⟩ := bnd h
                    have q8 : x7.2 b j = I b j := (fr_Mod_put w0 hx).trans q6
                    rcases iteC h with ⟨hb, h⟩ | ⟨hb, h⟩
                    rotate_left
                    · skip
                      obtain rfl := Option.some.inj h; exact q8
                    · skip
                      obtain rfl := Option.some.inj h; exact q8
              · skip
                obtain ⟨x9, hx, h⟩ := bnd h
                have q10 : x9.2.1 b j = I b j := (fr_Mod_readGets w0 w1 w2 w3 w4 w5 w6 w7 w8 w9 hx).trans rfl
                obtain rfl := Option.some.inj h; exact q10
            · skip
              obtain ⟨x11, hx, h⟩ := bnd h
              have q12 : x11.2.1 b j = I b j := (fr_Mod_readPrior w0 w1 w2 w3 w4 w5 w6 w7 w8 w9 hx).trans rfl
              obtain rfl := Option.some.inj h; exact q12
          · skip
            obtain ⟨x13, hx, h⟩ := bnd h
            have q14 : x13.2.1 b j = I b j := (fr_Mod_readHint w0 w1 w2 w3 w4 w5 w6 w7 w8 w9 hx).trans rfl
            obtain rfl := Option.some.inj h; exact q14
        · skip
          obtain ⟨x15, hx, h⟩ := bnd h
          have q16 : x15.2.1 b j = I b j := (fr_Mod_readFear w0 w2 w3 w4 w5 w6 w7 w8 w9 hx).trans rfl
          obtain rfl := Option.some.inj h; exact q16
      · skip
        obtain ⟨x17, hx, h⟩ := bnd h
        have q18 : x17.2.1 b j = I b j := (fr_Mod_readFind w0 w2 w3 w4 w5 w6 w7 w8 w9 hx).trans rfl
        obtain rfl := Option.some.inj h; exact q18
    · skip
      obtain ⟨x19, hx, h⟩ := bnd h
      have q20 : x19.2.1 b j = I b j := (fr_Mod_readPerson w0 w2 w3 w5 w6 w7 w8 w9 hx).trans rfl
      obtain rfl := Option.some.inj h; exact q20
  · skip
    obtain ⟨x21, hx, h⟩ := bnd h
    have q22 : x21.2.1 b j = I b j := (fr_Mod_readField w0 w1 w2 w3 w4 w5 w6 w7 w8 w9 hx).trans rfl
    obtain rfl := Option.some.inj h; exact q22
set_option maxRecDepth 8000 in
theorem fr_Mod_readEnd {N : Nat} {I : FI} {J : FJ} {r : Bool × FI × FJ} {b j : Nat} (w0 : ¬ (b = 204 ∧ j = 10)) (w1 : ¬ (b = 204 ∧ j = 11)) (w2 : ¬ (b = 204 ∧ j = 5)) (w3 : ¬ (b = 204 ∧ j = 6)) (w4 : ¬ (b = 204 ∧ j = 7)) (w5 : ¬ (b = 204 ∧ j = 8)) (w6 : ¬ (b = 204 ∧ j = 9)) (h : Mod_readEnd N I J = some r) : r.2.1 b j = I b j := by
  unfold Mod_readEnd at h
  rcases iteC h with ⟨hb, h⟩ | ⟨hb, h⟩
  rotate_left
  · skip
    obtain ⟨x1, hx, h⟩ := bnd h
    have q2 : x1.2 b j = I b j := (fr_Mod_bad w0 w1 hx).trans rfl
    obtain rfl := Option.some.inj h; exact q2
  · skip
    obtain ⟨x3, hx, h⟩ := bnd h
    have q4 : x3.1 b j = I b j := (fr_Mod_go w2 w3 w4 w5 w6 hx).trans rfl
    obtain rfl := Option.some.inj h; exact q4
set_option maxRecDepth 8000 in
theorem fr_Mod_field_75 {N : Nat} {r : Int32 × FI × FJ} {b j : Nat} (w0 : b ≠ 206) (w1 : b ≠ 207) (w2 : b ≠ 215) (w3 : ¬ (b = 204 ∧ j = 0)) (w4 : ¬ (b = 204 ∧ j = 10)) (w5 : ¬ (b = 204 ∧ j = 11)) (w6 : ¬ (b = 204 ∧ j = 13)) (w7 : ¬ (b = 204 ∧ j = 2)) (w8 : ¬ (b = 204 ∧ j = 24)) (w9 : ¬ (b = 204 ∧ j = 3)) (w10 : ¬ (b = 204 ∧ j = 4)) (w11 : ¬ (b = 204 ∧ j = 5)) (w12 : ¬ (b = 204 ∧ j = 6)) (w13 : ¬ (b = 204 ∧ j = 7)) (w14 : ¬ (b = 204 ∧ j = 8)) (w15 : ¬ (b = 204 ∧ j = 9)) : ∀ (n : Nat) (l1 : Int32) (l2 : Int32) (I : FI) (J : FJ), Mod_field_75 N n l1 l2 I J = some r → r.2.1 b j = I b j := by
  intro n
  induction n with
  | zero =>
    intro l1 l2 I J h
    cases h
  | succ n ih =>
    intro l1 l2 I J h
    unfold Mod_field_75 at h
    rcases iteC h with ⟨hb, h⟩ | ⟨hb, h⟩
    · skip
      obtain ⟨x5, hx, h⟩ := bnd h
      have q6 : x5 b j = I b j := (fr_Mod_startSo w0 hx).trans rfl
      obtain ⟨I7, e1, h⟩ := bnd h
      have q8 : I7 b j = I b j := by rw [← Option.some.inj e1]; exact (up2_ff w8).trans q6
      obtain rfl := Option.some.inj h; exact q8
    · skip
      obtain ⟨hg9, h⟩ := grd h
      obtain ⟨J10, e1, h⟩ := bnd h
      exact (ih l1 (l2 + 1) I J10 h).trans rfl
set_option maxRecDepth 8000 in
theorem fr_Mod_field_49 {N : Nat} {r : Int32 × FI × FJ} {b j : Nat} (w0 : b ≠ 206) (w1 : b ≠ 207) (w2 : b ≠ 215) (w3 : ¬ (b = 204 ∧ j = 0)) (w4 : ¬ (b = 204 ∧ j = 10)) (w5 : ¬ (b = 204 ∧ j = 11)) (w6 : ¬ (b = 204 ∧ j = 13)) (w7 : ¬ (b = 204 ∧ j = 2)) (w8 : ¬ (b = 204 ∧ j = 24)) (w9 : ¬ (b = 204 ∧ j = 3)) (w10 : ¬ (b = 204 ∧ j = 4)) (w11 : ¬ (b = 204 ∧ j = 5)) (w12 : ¬ (b = 204 ∧ j = 6)) (w13 : ¬ (b = 204 ∧ j = 7)) (w14 : ¬ (b = 204 ∧ j = 8)) (w15 : ¬ (b = 204 ∧ j = 9)) : ∀ (n : Nat) (l1 : Int32) (l2 : Int32) (I : FI) (J : FJ), Mod_field_49 N n l1 l2 I J = some r → r.2.1 b j = I b j := by
  intro n
  induction n with
  | zero =>
    intro l1 l2 I J h
    cases h
  | succ n ih =>
    intro l1 l2 I J h
    unfold Mod_field_49 at h
    rcases iteC h with ⟨hb, h⟩ | ⟨hb, h⟩
    · skip
      exact (fr_Mod_field_75 w0 w1 w2 w3 w4 w5 w6 w7 w8 w9 w10 w11 w12 w13 w14 w15 _ l1 0 I J h).trans rfl
    · skip
      obtain ⟨hg11, h⟩ := grd h
      obtain ⟨hg12, h⟩ := grd h
      obtain ⟨I13, e1, h⟩ := bnd h
      have q14 : I13 b j = I b j := by rw [← Option.some.inj e1]; exact (up2_fa w0).trans rfl
      exact (ih l1 (l2 + 1) I13 J h).trans q14
set_option maxRecDepth 8000 in
theorem fr_Mod_field_13 {N : Nat} {r : Int32 × FI × FJ} {b j : Nat} (w0 : b ≠ 206) (w1 : b ≠ 207) (w2 : b ≠ 215) (w3 : ¬ (b = 204 ∧ j = 0)) (w4 : ¬ (b = 204 ∧ j = 10)) (w5 : ¬ (b = 204 ∧ j = 11)) (w6 : ¬ (b = 204 ∧ j = 13)) (w7 : ¬ (b = 204 ∧ j = 2)) (w8 : ¬ (b = 204 ∧ j = 24)) (w9 : ¬ (b = 204 ∧ j = 3)) (w10 : ¬ (b = 204 ∧ j = 4)) (w11 : ¬ (b = 204 ∧ j = 5)) (w12 : ¬ (b = 204 ∧ j = 6)) (w13 : ¬ (b = 204 ∧ j = 7)) (w14 : ¬ (b = 204 ∧ j = 8)) (w15 : ¬ (b = 204 ∧ j = 9)) : ∀ (n : Nat) (l1 : Int32) (I : FI) (J : FJ), Mod_field_13 N n l1 I J = some r → r.2.1 b j = I b j := by
  intro n
  induction n with
  | zero =>
    intro l1 I J h
    cases h
  | succ n ih =>
    intro l1 I J h
    unfold Mod_field_13 at h
    rcases iteC h with ⟨hb, h⟩ | ⟨hb, h⟩
    · skip
      exact (fr_Mod_field_49 w0 w1 w2 w3 w4 w5 w6 w7 w8 w9 w10 w11 w12 w13 w14 w15 _ l1 0 I J h).trans rfl
    · skip
      obtain ⟨x15, hx, h⟩ := bnd h
      have q16 : x15.2.1 b j = I b j := (fr_Mod_readLine w1 w2 w4 w5 w6 w11 w12 w13 w14 w15 hx).trans rfl
      rcases iteC h with ⟨hb, h⟩ | ⟨hb, h⟩
      rotate_left
      · skip
        obtain rfl := Option.some.inj h; exact q16
      · skip
        obtain ⟨x17, hx, h⟩ := bnd h
        have q18 : x17.2.1 b j = I b j := (fr_Mod_readEnd w4 w5 w11 w12 w13 w14 w15 hx).trans q16
        rcases iteC h with ⟨hb, h⟩ | ⟨hb, h⟩
        rotate_left
        · skip
          obtain rfl := Option.some.inj h; exact q18
        · skip
          exact (ih (l1 + 1) x17.2.1 x17.2.2 h).trans q18
set_option maxRecDepth 8000 in
theorem fr_Mod_field {N : Nat} {I : FI} {J : FJ} {r : Int32 × FI × FJ} {b j : Nat} (w0 : b ≠ 206) (w1 : b ≠ 207) (w2 : b ≠ 215) (w3 : ¬ (b = 204 ∧ j = 0)) (w4 : ¬ (b = 204 ∧ j = 10)) (w5 : ¬ (b = 204 ∧ j = 11)) (w6 : ¬ (b = 204 ∧ j = 13)) (w7 : ¬ (b = 204 ∧ j = 2)) (w8 : ¬ (b = 204 ∧ j = 24)) (w9 : ¬ (b = 204 ∧ j = 3)) (w10 : ¬ (b = 204 ∧ j = 4)) (w11 : ¬ (b = 204 ∧ j = 5)) (w12 : ¬ (b = 204 ∧ j = 6)) (w13 : ¬ (b = 204 ∧ j = 7)) (w14 : ¬ (b = 204 ∧ j = 8)) (w15 : ¬ (b = 204 ∧ j = 9)) (h : Mod_field N I J = some r) : r.2.1 b j = I b j := by
  unfold Mod_field at h
  obtain ⟨x1, hx, h⟩ := bnd h
  have q2 : x1.1 b j = I b j := (fr_Mod_begin w3 w4 w7 w9 w10 w11 w12 w13 w14 w15 hx).trans rfl
  obtain ⟨x3, hx, h⟩ := bnd h
  have q4 : x3 b j = I b j := (fr_Mod_startRead w1 w2 hx).trans q2
  exact (fr_Mod_field_13 w0 w1 w2 w3 w4 w5 w6 w7 w8 w9 w10 w11 w12 w13 w14 w15 _ 0 x3 x1.2 h).trans q4
set_option maxRecDepth 8000 in
theorem fr_Mod_fault {I : FI} {r : Int32 × FI} {b j : Nat} (w0 : ¬ (b = 204 ∧ j = 0)) (h : Mod_fault I = some r) : r.2 b j = I b j := by
  unfold Mod_fault at h
  obtain ⟨I1, e1, h⟩ := bnd h
  have q2 : I1 b j = I b j := by rw [← Option.some.inj e1]; exact (up2_ff w0).trans rfl
  obtain rfl := Option.some.inj h; exact q2
set_option maxRecDepth 8000 in
theorem fr_Mod_refuse {I : FI} {r : Int32 × FI} {b j : Nat} (w0 : ¬ (b = 204 ∧ j = 0)) (h : Mod_refuse I = some r) : r.2 b j = I b j := by
  unfold Mod_refuse at h
  obtain ⟨I1, e1, h⟩ := bnd h
  have q2 : I1 b j = I b j := by rw [← Option.some.inj e1]; exact (up2_ff w0).trans rfl
  obtain rfl := Option.some.inj h; exact q2
set_option maxRecDepth 8000 in
theorem fr_Mod_find {l1 : Int32} {l2 : Int32} {I : FI} {r : Int32 × FI} {b j : Nat} (w0 : ¬ (b = 204 ∧ j = 0)) (h : Mod_find l1 l2 I = some r) : r.2 b j = I b j := by
  unfold Mod_find at h
  obtain ⟨I1, e1, h⟩ := bnd h
  have q2 : I1 b j = I b j := by rw [← Option.some.inj e1]; exact (up2_ff w0).trans rfl
  obtain ⟨x3, hx, h⟩ := bnd h
  rcases iteC h with ⟨hb, h⟩ | ⟨hb, h⟩
  rotate_left
  · skip
    obtain ⟨x4, hx, h⟩ := bnd h
    have q5 : x4.2 b j = I b j := (fr_Mod_refuse w0 hx).trans q2
    obtain rfl := Option.some.inj h; exact q5
  · skip
    rcases iteC h with ⟨hb, h⟩ | ⟨hb, h⟩
    · skip
      obtain ⟨hg6, h⟩ := grd h
      obtain rfl := Option.some.inj h; exact q2
    rcases iteC h with ⟨hb, h⟩ | ⟨hb, h⟩
    · skip
      obtain ⟨hg7, h⟩ := grd h
      obtain rfl := Option.some.inj h; exact q2
    rcases iteC h with ⟨hb, h⟩ | ⟨hb, h⟩
    · skip
      obtain ⟨hg8, h⟩ := grd h
      obtain rfl := Option.some.inj h; exact q2
    rcases iteC h with ⟨hb, h⟩ | ⟨hb, h⟩
    · skip
      obtain ⟨hg9, h⟩ := grd h
      obtain rfl := Option.some.inj h; exact q2
    rcases iteC h with ⟨hb, h⟩ | ⟨hb, h⟩
    · skip
      obtain ⟨hg10, h⟩ := grd h
      obtain rfl := Option.some.inj h; exact q2
    rcases iteC h with ⟨hb, h⟩ | ⟨hb, h⟩
    · skip
      obtain ⟨hg11, h⟩ := grd h
      obtain rfl := Option.some.inj h; exact q2
    rcases iteC h with ⟨hb, h⟩ | ⟨hb, h⟩
    · skip
      obtain ⟨hg12, h⟩ := grd h
      obtain rfl := Option.some.inj h; exact q2
    rcases iteC h with ⟨hb, h⟩ | ⟨hb, h⟩
    · skip
      obtain ⟨hg13, h⟩ := grd h
      obtain rfl := Option.some.inj h; exact q2
    obtain ⟨x14, hx, h⟩ := bnd h
    have q15 : x14.2 b j = I b j := (fr_Mod_refuse w0 hx).trans q2
    obtain rfl := Option.some.inj h; exact q15
set_option maxRecDepth 8000 in
theorem fr_Mod_person_62 {N : Nat} {r : Int32 × FI} {b j : Nat} (w0 : ¬ (b = 204 ∧ j = 0)) : ∀ (n : Nat) (l1 : Int32) (l2 : Int32) (l3 : Int32) (l4 : Int32) (I : FI), Mod_person_62 N n l1 l2 l3 l4 I = some r → r.2 b j = I b j := by
  intro n
  induction n with
  | zero =>
    intro l1 l2 l3 l4 I h
    cases h
  | succ n ih =>
    intro l1 l2 l3 l4 I h
    unfold Mod_person_62 at h
    rcases iteC h with ⟨hb, h⟩ | ⟨hb, h⟩
    · skip
      obtain rfl := Option.some.inj h; exact rfl
    · skip
      obtain ⟨hg5, h⟩ := grd h
      rcases iteC h with ⟨hb, h⟩ | ⟨hb, h⟩
      · skip
        obtain ⟨hg6, h⟩ := grd h
        rcases iteC h with ⟨hb, h⟩ | ⟨hb, h⟩
        · skip
          exact (ih l1 l2 (l3 ||| (1 <<< (l4 &&& 31))) (l4 + 1) I h).trans rfl
        · skip
          exact (ih l1 l2 l3 (l4 + 1) I h).trans rfl
      · skip
        exact (ih l1 l2 l3 (l4 + 1) I h).trans rfl
set_option maxRecDepth 8000 in
theorem fr_Mod_person {N : Nat} {l1 : Int32} {l2 : Int32} {I : FI} {r : Int32 × FI} {b j : Nat} (w0 : ¬ (b = 204 ∧ j = 0)) (h : Mod_person N l1 l2 I = some r) : r.2 b j = I b j := by
  unfold Mod_person at h
  obtain ⟨I1, e1, h⟩ := bnd h
  have q2 : I1 b j = I b j := by rw [← Option.some.inj e1]; exact (up2_ff w0).trans rfl
  obtain ⟨x3, hx, h⟩ := bnd h
  rcases iteC h with ⟨hb, h⟩ | ⟨hb, h⟩
  rotate_left
  · skip
    obtain rfl := Option.some.inj h; exact q2
  · skip
    rcases iteC h with ⟨hb, h⟩ | ⟨hb, h⟩
    · skip
      obtain ⟨hg4, h⟩ := grd h
      obtain rfl := Option.some.inj h; exact q2
    rcases iteC h with ⟨hb, h⟩ | ⟨hb, h⟩
    · skip
      exact (fr_Mod_person_62 w0 _ l1 l2 0 0 I1 h).trans q2
    rcases iteC h with ⟨hb, h⟩ | ⟨hb, h⟩
    · skip
      obtain ⟨hg7, h⟩ := grd h
      obtain rfl := Option.some.inj h; exact q2
    rcases iteC h with ⟨hb, h⟩ | ⟨hb, h⟩
    · skip
      obtain ⟨hg8, h⟩ := grd h
      obtain rfl := Option.some.inj h; exact q2
    obtain rfl := Option.some.inj h; exact q2
set_option maxRecDepth 8000 in
theorem fr_Mod_cell_67 {N : Nat} {r : Int32 × FI} {b j : Nat} (w0 : ¬ (b = 204 ∧ j = 0)) : ∀ (n : Nat) (l1 : Int32) (l2 : Int32) (l3 : Int32) (l4 : Int32) (l5 : Int32) (I : FI), Mod_cell_67 N n l1 l2 l3 l4 l5 I = some r → r.2 b j = I b j := by
  intro n
  induction n with
  | zero =>
    intro l1 l2 l3 l4 l5 I h
    cases h
  | succ n ih =>
    intro l1 l2 l3 l4 l5 I h
    unfold Mod_cell_67 at h
    rcases iteC h with ⟨hb, h⟩ | ⟨hb, h⟩
    · skip
      obtain rfl := Option.some.inj h; exact rfl
    · skip
      obtain ⟨hg5, h⟩ := grd h
      rcases iteC h with ⟨hb, h⟩ | ⟨hb, h⟩
      · skip
        obtain ⟨hg6, h⟩ := grd h
        rcases iteC h with ⟨hb, h⟩ | ⟨hb, h⟩
        · skip
          obtain ⟨hg7, h⟩ := grd h
          rcases iteC h with ⟨hb, h⟩ | ⟨hb, h⟩
          · skip
            exact (ih l1 l2 l3 (l4 ||| (1 <<< (l5 &&& 31))) (l5 + 1) I h).trans rfl
          · skip
            exact (ih l1 l2 l3 l4 (l5 + 1) I h).trans rfl
        · skip
          exact (ih l1 l2 l3 l4 (l5 + 1) I h).trans rfl
      · skip
        exact (ih l1 l2 l3 l4 (l5 + 1) I h).trans rfl
set_option maxRecDepth 8000 in
theorem fr_Mod_cell {N : Nat} {l1 : Int32} {l2 : Int32} {l3 : Int32} {I : FI} {r : Int32 × FI} {b j : Nat} (w0 : ¬ (b = 204 ∧ j = 0)) (h : Mod_cell N l1 l2 l3 I = some r) : r.2 b j = I b j := by
  unfold Mod_cell at h
  obtain ⟨I1, e1, h⟩ := bnd h
  have q2 : I1 b j = I b j := by rw [← Option.some.inj e1]; exact (up2_ff w0).trans rfl
  obtain ⟨x3, hx, h⟩ := bnd h
  rcases iteC h with ⟨hb, h⟩ | ⟨hb, h⟩
  rotate_left
  · skip
    obtain rfl := Option.some.inj h; exact q2
  · skip
    rcases iteC h with ⟨hb, h⟩ | ⟨hb, h⟩
    · skip
      obtain ⟨hg4, h⟩ := grd h
      obtain rfl := Option.some.inj h; exact q2
    rcases iteC h with ⟨hb, h⟩ | ⟨hb, h⟩
    · skip
      exact (fr_Mod_cell_67 w0 _ l1 l2 l3 0 0 I1 h).trans q2
    rcases iteC h with ⟨hb, h⟩ | ⟨hb, h⟩
    · skip
      obtain ⟨x8, hx, h⟩ := bnd h
      obtain rfl := Option.some.inj h; exact q2
    obtain rfl := Option.some.inj h; exact q2
set_option maxRecDepth 8000 in
theorem fr_Mod_now_78 {N : Nat} {r : Int32 × FI} {b j : Nat} (w0 : ¬ (b = 204 ∧ j = 0)) : ∀ (n : Nat) (l1 : Int32) (l2 : Int32) (l3 : Int32) (I : FI), Mod_now_78 N n l1 l2 l3 I = some r → r.2 b j = I b j := by
  intro n
  induction n with
  | zero =>
    intro l1 l2 l3 I h
    cases h
  | succ n ih =>
    intro l1 l2 l3 I h
    unfold Mod_now_78 at h
    rcases iteC h with ⟨hb, h⟩ | ⟨hb, h⟩
    · skip
      obtain rfl := Option.some.inj h; exact rfl
    · skip
      obtain ⟨hg7, h⟩ := grd h
      exact (ih l1 (l2 + (I 206 ((155 + l3).toNatClampNeg))) (l3 + 1) I h).trans rfl
set_option maxRecDepth 8000 in
theorem fr_Mod_now {N : Nat} {l1 : Int32} {I : FI} {r : Int32 × FI} {b j : Nat} (w0 : ¬ (b = 204 ∧ j = 0)) (h : Mod_now N l1 I = some r) : r.2 b j = I b j := by
  unfold Mod_now at h
  obtain ⟨I1, e1, h⟩ := bnd h
  have q2 : I1 b j = I b j := by rw [← Option.some.inj e1]; exact (up2_ff w0).trans rfl
  rcases iteC h with ⟨hb, h⟩ | ⟨hb, h⟩
  · skip
    obtain rfl := Option.some.inj h; exact q2
  rcases iteC h with ⟨hb, h⟩ | ⟨hb, h⟩
  · skip
    obtain ⟨x3, hx, h⟩ := bnd h
    obtain rfl := Option.some.inj h; exact q2
  rcases iteC h with ⟨hb, h⟩ | ⟨hb, h⟩
  · skip
    obtain ⟨x4, hx, h⟩ := bnd h
    obtain rfl := Option.some.inj h; exact q2
  rcases iteC h with ⟨hb, h⟩ | ⟨hb, h⟩
  · skip
    obtain ⟨x5, hx, h⟩ := bnd h
    obtain rfl := Option.some.inj h; exact q2
  rcases iteC h with ⟨hb, h⟩ | ⟨hb, h⟩
  · skip
    obtain ⟨x6, hx, h⟩ := bnd h
    obtain rfl := Option.some.inj h; exact q2
  rcases iteC h with ⟨hb, h⟩ | ⟨hb, h⟩
  · skip
    exact (fr_Mod_now_78 w0 _ l1 0 0 I1 h).trans q2
  rcases iteC h with ⟨hb, h⟩ | ⟨hb, h⟩
  · skip
    obtain rfl := Option.some.inj h; exact q2
  rcases iteC h with ⟨hb, h⟩ | ⟨hb, h⟩
  · skip
    obtain ⟨x8, hx, h⟩ := bnd h
    obtain ⟨x9, hx, h⟩ := bnd h
    obtain rfl := Option.some.inj h; exact q2
  rcases iteC h with ⟨hb, h⟩ | ⟨hb, h⟩
  · skip
    obtain rfl := Option.some.inj h; exact q2
  obtain rfl := Option.some.inj h; exact q2
set_option maxRecDepth 8000 in
theorem fr_Mod_snap_51 {N : Nat} {r : FI} {b j : Nat} (w0 : b ≠ 209) (w1 : ¬ (b = 204 ∧ j = 24)) : ∀ (n : Nat) (l1 : Int32) (I : FI), Mod_snap_51 N n l1 I = some r → r b j = I b j := by
  intro n
  induction n with
  | zero =>
    intro l1 I h
    cases h
  | succ n ih =>
    intro l1 I h
    unfold Mod_snap_51 at h
    rcases iteC h with ⟨hb, h⟩ | ⟨hb, h⟩
    · skip
      obtain ⟨I3, e1, h⟩ := bnd h
      have q4 : I3 b j = I b j := by rw [← Option.some.inj e1]; exact (up2_ff w1).trans rfl
      obtain rfl := Option.some.inj h; exact q4
    · skip
      obtain ⟨hg5, h⟩ := grd h
      obtain ⟨hg6, h⟩ := grd h
      obtain ⟨I7, e1, h⟩ := bnd h
      have q8 : I7 b j = I b j := by rw [← Option.some.inj e1]; exact (up2_fa w0).trans rfl
      exact (ih (l1 + 1) I7 h).trans q8
set_option maxRecDepth 8000 in
theorem fr_Mod_snap_11 {N : Nat} {r : FI} {b j : Nat} (w0 : b ≠ 209) (w1 : ¬ (b = 204 ∧ j = 24)) : ∀ (n : Nat) (l1 : Int32) (I : FI), Mod_snap_11 N n l1 I = some r → r b j = I b j := by
  intro n
  induction n with
  | zero =>
    intro l1 I h
    cases h
  | succ n ih =>
    intro l1 I h
    unfold Mod_snap_11 at h
    rcases iteC h with ⟨hb, h⟩ | ⟨hb, h⟩
    · skip
      obtain ⟨I1, e1, h⟩ := bnd h
      have q2 : I1 b j = I b j := by rw [← Option.some.inj e1]; exact (up2_ff w1).trans rfl
      exact (fr_Mod_snap_51 w0 w1 _ 0 I1 h).trans q2
    · skip
      obtain ⟨hg9, h⟩ := grd h
      obtain ⟨hg10, h⟩ := grd h
      obtain ⟨I11, e1, h⟩ := bnd h
      have q12 : I11 b j = I b j := by rw [← Option.some.inj e1]; exact (up2_fa w0).trans rfl
      exact (ih (l1 + 1) I11 h).trans q12
set_option maxRecDepth 8000 in
theorem fr_Mod_snap {N : Nat} {I : FI} {r : FI} {b j : Nat} (w0 : b ≠ 209) (w1 : ¬ (b = 204 ∧ j = 24)) (h : Mod_snap N I = some r) : r b j = I b j := by
  unfold Mod_snap at h
  rcases iteC h with ⟨hb, h⟩ | ⟨hb, h⟩
  · skip
    exact (fr_Mod_snap_11 w0 w1 _ 0 I h).trans rfl
  · skip
    exact (fr_Mod_snap_51 w0 w1 _ 0 I h).trans rfl
set_option maxRecDepth 8000 in
theorem fr_Mod_doDig_54 {N : Nat} {r : Int32 × FI} {b j : Nat} (w0 : b ≠ 206) : ∀ (n : Nat) (l1 : Int32) (l2 : Int32) (l3 : Int32) (l4 : Int32) (l5 : Int32) (l6 : Int32) (I : FI), Mod_doDig_54 N n l1 l2 l3 l4 l5 l6 I = some r → r.2 b j = I b j := by
  intro n
  induction n with
  | zero =>
    intro l1 l2 l3 l4 l5 l6 I h
    cases h
  | succ n ih =>
    intro l1 l2 l3 l4 l5 l6 I h
    unfold Mod_doDig_54 at h
    rcases iteC h with ⟨hb, h⟩ | ⟨hb, h⟩
    · skip
      obtain ⟨hg9, h⟩ := grd h
      obtain ⟨I10, e1, h⟩ := bnd h
      have q11 : I10 b j = I b j := by rw [← Option.some.inj e1]; exact (up2_fa w0).trans rfl
      obtain rfl := Option.some.inj h; exact q11
    · skip
      obtain ⟨hg12, h⟩ := grd h
      rcases iteC h with ⟨hb, h⟩ | ⟨hb, h⟩
      · skip
        obtain ⟨hg13, h⟩ := grd h
        rcases iteC h with ⟨hb, h⟩ | ⟨hb, h⟩
        · skip
          obtain ⟨hg14, h⟩ := grd h
          rcases iteC h with ⟨hb, h⟩ | ⟨hb, h⟩
          · skip
            obtain ⟨hg15, h⟩ := grd h
            obtain ⟨hg16, h⟩ := grd h
            rcases iteC h with ⟨hb, h⟩ | ⟨hb, h⟩
            · skip
              obtain ⟨I17, e1, h⟩ := bnd h
              have q18 : I17 b j = I b j := by rw [← Option.some.inj e1]; exact (up2_fa w0).trans rfl
              obtain ⟨hg19, h⟩ := grd h
              obtain ⟨I20, e1, h⟩ := bnd h
              have q21 : I20 b j = I b j := by rw [← Option.some.inj e1]; exact (up2_fa w0).trans q18
              exact (ih l1 l2 l3 l4 (l5 + 1) (l6 + 1) I20 h).trans q21
            · skip
              exact (ih l1 l2 l3 l4 l5 (l6 + 1) I h).trans rfl
          · skip
            exact (ih l1 l2 l3 l4 l5 (l6 + 1) I h).trans rfl
        · skip
          exact (ih l1 l2 l3 l4 l5 (l6 + 1) I h).trans rfl
      · skip
        exact (ih l1 l2 l3 l4 l5 (l6 + 1) I h).trans rfl
set_option maxRecDepth 8000 in
theorem fr_Mod_doDig {N : Nat} {l1 : Int32} {l2 : Int32} {l3 : Int32} {I : FI} {r : Int32 × FI} {b j : Nat} (w0 : b ≠ 206) (h : Mod_doDig N l1 l2 l3 I = some r) : r.2 b j = I b j := by
  unfold Mod_doDig at h
  obtain ⟨hg1, h⟩ := grd h
  obtain ⟨I2, e1, h⟩ := bnd h
  have q3 : I2 b j = I b j := by rw [← Option.some.inj e1]; exact (up2_fa w0).trans rfl
  obtain ⟨I4, e1, h⟩ := bnd h
  have q5 : I4 b j = I b j := by rw [← Option.some.inj e1]; exact (up2_fa w0).trans q3
  obtain ⟨hg6, h⟩ := grd h
  obtain ⟨I7, e1, h⟩ := bnd h
  have q8 : I7 b j = I b j := by rw [← Option.some.inj e1]; exact (up2_fa w0).trans q5
  exact (fr_Mod_doDig_54 w0 _ l1 l2 l3 ((173 + (6 * l3)) + l2) 0 0 I7 h).trans q8
set_option maxRecDepth 8000 in
theorem fr_Mod_dig {N : Nat} {l1 : Int32} {l2 : Int32} {l3 : Int32} {I : FI} {r : Int32 × FI} {b j : Nat} (w0 : b ≠ 206) (w1 : b ≠ 209) (w2 : ¬ (b = 204 ∧ j = 0)) (w3 : ¬ (b = 204 ∧ j = 24)) (h : Mod_dig N l1 l2 l3 I = some r) : r.2 b j = I b j := by
  unfold Mod_dig at h
  obtain ⟨I1, e1, h⟩ := bnd h
  have q2 : I1 b j = I b j := by rw [← Option.some.inj e1]; exact (up2_ff w2).trans rfl
  obtain ⟨x3, hx, h⟩ := bnd h
  rcases iteC h with ⟨hb, h⟩ | ⟨hb, h⟩
  rotate_left
  · skip
    obtain rfl := Option.some.inj h; exact q2
  · skip
    obtain ⟨x4, hx, h⟩ := bnd h
    rcases iteC h with ⟨hb, h⟩ | ⟨hb, h⟩
    rotate_left
    · skip
      obtain rfl := Option.some.inj h; exact q2
    · skip
      obtain ⟨x5, hx, h⟩ := bnd h
      rcases iteC h with ⟨hb, h⟩ | ⟨hb, h⟩
      rotate_left
      · skip
        obtain rfl := Option.some.inj h; exact q2
      · skip
        obtain ⟨x6, hx, h⟩ := bnd h
        have q7 : x6 b j = I b j := (fr_Mod_snap w1 w3 hx).trans q2
        obtain ⟨x8, hx, h⟩ := bnd h
        have q9 : x8.2 b j = I b j := (fr_Mod_doDig w0 hx).trans q7
        obtain rfl := Option.some.inj h; exact q9
set_option maxRecDepth 8000 in
theorem fr_Mod_tell {N : Nat} {l1 : Int32} {I : FI} {r : Int32 × FI} {b j : Nat} (w0 : b ≠ 206) (w1 : b ≠ 209) (w2 : ¬ (b = 204 ∧ j = 0)) (w3 : ¬ (b = 204 ∧ j = 24)) (h : Mod_tell N l1 I = some r) : r.2 b j = I b j := by
  unfold Mod_tell at h
  obtain ⟨I1, e1, h⟩ := bnd h
  have q2 : I1 b j = I b j := by rw [← Option.some.inj e1]; exact (up2_ff w2).trans rfl
  obtain ⟨x3, hx, h⟩ := bnd h
  rcases iteC h with ⟨hb, h⟩ | ⟨hb, h⟩
  rotate_left
  · skip
    obtain rfl := Option.some.inj h; exact q2
  · skip
    obtain ⟨x4, hx, h⟩ := bnd h
    rcases iteC h with ⟨hb, h⟩ | ⟨hb, h⟩
    rotate_left
    · skip
      obtain rfl := Option.some.inj h; exact q2
    · skip
      obtain ⟨x5, hx, h⟩ := bnd h
      have q6 : x5 b j = I b j := (fr_Mod_snap w1 w3 hx).trans q2
      obtain ⟨hg7, h⟩ := grd h
      obtain ⟨I8, e1, h⟩ := bnd h
      have q9 : I8 b j = I b j := by rw [← Option.some.inj e1]; exact (up2_fa w0).trans q6
      obtain rfl := Option.some.inj h; exact q9
set_option maxRecDepth 8000 in
theorem fr_Mod_doSell {l1 : Int32} {I : FI} {r : FI} {b j : Nat} (w0 : b ≠ 206) (h : Mod_doSell l1 I = some r) : r b j = I b j := by
  unfold Mod_doSell at h
  obtain ⟨hg1, h⟩ := grd h
  obtain ⟨hg2, h⟩ := grd h
  obtain ⟨hg3, h⟩ := grd h
  obtain ⟨I4, e1, h⟩ := bnd h
  have q5 : I4 b j = I b j := by rw [← Option.some.inj e1]; exact (up2_fa w0).trans rfl
  obtain ⟨hg6, h⟩ := grd h
  obtain ⟨I7, e1, h⟩ := bnd h
  have q8 : I7 b j = I b j := by rw [← Option.some.inj e1]; exact (up2_fa w0).trans q5
  obtain rfl := Option.some.inj h; exact q8
set_option maxRecDepth 8000 in
theorem fr_Mod_sell {N : Nat} {l1 : Int32} {I : FI} {r : Int32 × FI} {b j : Nat} (w0 : b ≠ 206) (w1 : b ≠ 209) (w2 : ¬ (b = 204 ∧ j = 0)) (w3 : ¬ (b = 204 ∧ j = 24)) (h : Mod_sell N l1 I = some r) : r.2 b j = I b j := by
  unfold Mod_sell at h
  obtain ⟨I1, e1, h⟩ := bnd h
  have q2 : I1 b j = I b j := by rw [← Option.some.inj e1]; exact (up2_ff w2).trans rfl
  obtain ⟨x3, hx, h⟩ := bnd h
  rcases iteC h with ⟨hb, h⟩ | ⟨hb, h⟩
  rotate_left
  · skip
    obtain rfl := Option.some.inj h; exact q2
  · skip
    obtain ⟨x4, hx, h⟩ := bnd h
    rcases iteC h with ⟨hb, h⟩ | ⟨hb, h⟩
    rotate_left
    · skip
      obtain rfl := Option.some.inj h; exact q2
    · skip
      obtain ⟨x5, hx, h⟩ := bnd h
      have q6 : x5 b j = I b j := (fr_Mod_snap w1 w3 hx).trans q2
      obtain ⟨x7, hx, h⟩ := bnd h
      have q8 : x7 b j = I b j := (fr_Mod_doSell w0 hx).trans q6
      obtain rfl := Option.some.inj h; exact q8
set_option maxRecDepth 8000 in
theorem fr_Mod_doLay {l1 : Int32} {l2 : Int32} {l3 : Int32} {I : FI} {r : FI} {b j : Nat} (w0 : b ≠ 206) (h : Mod_doLay l1 l2 l3 I = some r) : r b j = I b j := by
  unfold Mod_doLay at h
  obtain ⟨hg1, h⟩ := grd h
  obtain ⟨I2, e1, h⟩ := bnd h
  have q3 : I2 b j = I b j := by rw [← Option.some.inj e1]; exact (up2_fa w0).trans rfl
  obtain ⟨hg4, h⟩ := grd h
  obtain ⟨I5, e1, h⟩ := bnd h
  have q6 : I5 b j = I b j := by rw [← Option.some.inj e1]; exact (up2_fa w0).trans q3
  obtain ⟨hg7, h⟩ := grd h
  obtain ⟨I8, e1, h⟩ := bnd h
  have q9 : I8 b j = I b j := by rw [← Option.some.inj e1]; exact (up2_fa w0).trans q6
  obtain ⟨hg10, h⟩ := grd h
  obtain ⟨I11, e1, h⟩ := bnd h
  have q12 : I11 b j = I b j := by rw [← Option.some.inj e1]; exact (up2_fa w0).trans q9
  obtain rfl := Option.some.inj h; exact q12
set_option maxRecDepth 8000 in
theorem fr_Mod_lay {N : Nat} {l1 : Int32} {l2 : Int32} {l3 : Int32} {I : FI} {r : Int32 × FI} {b j : Nat} (w0 : b ≠ 206) (w1 : b ≠ 209) (w2 : ¬ (b = 204 ∧ j = 0)) (w3 : ¬ (b = 204 ∧ j = 24)) (h : Mod_lay N l1 l2 l3 I = some r) : r.2 b j = I b j := by
  unfold Mod_lay at h
  obtain ⟨I1, e1, h⟩ := bnd h
  have q2 : I1 b j = I b j := by rw [← Option.some.inj e1]; exact (up2_ff w2).trans rfl
  obtain ⟨x3, hx, h⟩ := bnd h
  rcases iteC h with ⟨hb, h⟩ | ⟨hb, h⟩
  rotate_left
  · skip
    obtain rfl := Option.some.inj h; exact q2
  · skip
    obtain ⟨x4, hx, h⟩ := bnd h
    rcases iteC h with ⟨hb, h⟩ | ⟨hb, h⟩
    rotate_left
    · skip
      obtain rfl := Option.some.inj h; exact q2
    · skip
      obtain ⟨x5, hx, h⟩ := bnd h
      rcases iteC h with ⟨hb, h⟩ | ⟨hb, h⟩
      rotate_left
      · skip
        obtain rfl := Option.some.inj h; exact q2
      · skip
        obtain ⟨x6, hx, h⟩ := bnd h
        have q7 : x6 b j = I b j := (fr_Mod_snap w1 w3 hx).trans q2
        obtain ⟨x8, hx, h⟩ := bnd h
        have q9 : x8 b j = I b j := (fr_Mod_doLay w0 hx).trans q7
        obtain rfl := Option.some.inj h; exact q9
set_option maxRecDepth 8000 in
theorem fr_Mod_give {N : Nat} {l1 : Int32} {l2 : Int32} {I : FI} {r : Int32 × FI} {b j : Nat} (w0 : b ≠ 206) (w1 : b ≠ 209) (w2 : ¬ (b = 204 ∧ j = 0)) (w3 : ¬ (b = 204 ∧ j = 24)) (h : Mod_give N l1 l2 I = some r) : r.2 b j = I b j := by
  unfold Mod_give at h
  obtain ⟨I1, e1, h⟩ := bnd h
  have q2 : I1 b j = I b j := by rw [← Option.some.inj e1]; exact (up2_ff w2).trans rfl
  obtain ⟨x3, hx, h⟩ := bnd h
  rcases iteC h with ⟨hb, h⟩ | ⟨hb, h⟩
  rotate_left
  · skip
    obtain rfl := Option.some.inj h; exact q2
  · skip
    obtain ⟨x4, hx, h⟩ := bnd h
    rcases iteC h with ⟨hb, h⟩ | ⟨hb, h⟩
    rotate_left
    · skip
      obtain rfl := Option.some.inj h; exact q2
    · skip
      obtain ⟨x5, hx, h⟩ := bnd h
      rcases iteC h with ⟨hb, h⟩ | ⟨hb, h⟩
      rotate_left
      · skip
        obtain rfl := Option.some.inj h; exact q2
      · skip
        obtain ⟨hg6, h⟩ := grd h
        rcases iteC h with ⟨hb, h⟩ | ⟨hb, h⟩
        · skip
          obtain rfl := Option.some.inj h; exact q2
        · skip
          obtain ⟨x7, hx, h⟩ := bnd h
          have q8 : x7 b j = I b j := (fr_Mod_snap w1 w3 hx).trans q2
          obtain ⟨I9, e1, h⟩ := bnd h
          have q10 : I9 b j = I b j := by rw [← Option.some.inj e1]; exact (up2_fa w0).trans q8
          obtain rfl := Option.some.inj h; exact q10
set_option maxRecDepth 8000 in
theorem fr_Mod_draw {l1 : Int32} {I : FI} {r : Int32 × FI} {b j : Nat} (w0 : ¬ (b = 204 ∧ j = 25)) (h : Mod_draw l1 I = some r) : r.2 b j = I b j := by
  unfold Mod_draw at h
  obtain ⟨I1, e1, h⟩ := bnd h
  have q2 : I1 b j = I b j := by rw [← Option.some.inj e1]; exact (up2_ff w0).trans rfl
  obtain ⟨hg3, h⟩ := grd h
  obtain rfl := Option.some.inj h; exact q2
set_option maxRecDepth 8000 in
theorem fr_Mod_doPlough_173 {N : Nat} {r : Int32 × FI} {b j : Nat} (w0 : b ≠ 206) (w1 : ¬ (b = 204 ∧ j = 25)) : ∀ (n : Nat) (l1 : Int32) (l2 : Int32) (I : FI), Mod_doPlough_173 N n l1 l2 I = some r → r.2 b j = I b j := by
  intro n
  induction n with
  | zero =>
    intro l1 l2 I h
    cases h
  | succ n ih =>
    intro l1 l2 I h
    unfold Mod_doPlough_173 at h
    rcases iteC h with ⟨hb, h⟩ | ⟨hb, h⟩
    · skip
      obtain ⟨I1, e1, h⟩ := bnd h
      have q2 : I1 b j = I b j := by rw [← Option.some.inj e1]; exact (up2_fa w0).trans rfl
      obtain rfl := Option.some.inj h; exact q2
    · skip
      obtain ⟨hg3, h⟩ := grd h
      obtain ⟨I4, e1, h⟩ := bnd h
      have q5 : I4 b j = I b j := by rw [← Option.some.inj e1]; exact (up2_fa w0).trans rfl
      exact (ih l1 (l2 + 1) I4 h).trans q5
set_option maxRecDepth 8000 in
theorem fr_Mod_doPlough_4 {N : Nat} {r : Int32 × FI} {b j : Nat} (w0 : b ≠ 206) (w1 : ¬ (b = 204 ∧ j = 25)) : ∀ (n : Nat) (l1 : Int32) (l2 : Int32) (I : FI), Mod_doPlough_4 N n l1 l2 I = some r → r.2 b j = I b j := by
  intro n
  induction n with
  | zero =>
    intro l1 l2 I h
    cases h
  | succ n ih =>
    intro l1 l2 I h
    unfold Mod_doPlough_4 at h
    rcases iteC h with ⟨hb, h⟩ | ⟨hb, h⟩
    · skip
      exact (fr_Mod_doPlough_173 w0 w1 _ l1 0 I h).trans rfl
    · skip
      obtain ⟨hg6, h⟩ := grd h
      rcases iteC h with ⟨hb, h⟩ | ⟨hb, h⟩
      · skip
        obtain ⟨hg7, h⟩ := grd h
        rcases iteC h with ⟨hb, h⟩ | ⟨hb, h⟩
        · skip
          obtain ⟨x8, hx, h⟩ := bnd h
          have q9 : x8.2 b j = I b j := (fr_Mod_draw w1 hx).trans rfl
          obtain ⟨hg10, h⟩ := grd h
          rcases iteC h with ⟨hb, h⟩ | ⟨hb, h⟩
          · skip
            obtain ⟨hg11, h⟩ := grd h
            rcases iteC h with ⟨hb, h⟩ | ⟨hb, h⟩
            · skip
              rcases iteC h with ⟨hb, h⟩ | ⟨hb, h⟩
              · skip
                obtain ⟨x12, hx, h⟩ := bnd h
                have q13 : x12.2 b j = I b j := (fr_Mod_draw w1 hx).trans q9
                obtain ⟨I14, e1, h⟩ := bnd h
                have q15 : I14 b j = I b j := by rw [← Option.some.inj e1]; exact (up2_fa w0).trans q13
                exact (ih l1 (l2 + 1) I14 h).trans q15
              · skip
                obtain ⟨x16, hx, h⟩ := bnd h
                rcases iteC h with ⟨hb, h⟩ | ⟨hb, h⟩
                rotate_left
                · skip
                  obtain ⟨x17, hx, h⟩ := bnd h
                  have q18 : x17.2 b j = I b j := (fr_Mod_draw w1 hx).trans q9
                  obtain ⟨I19, e1, h⟩ := bnd h
                  have q20 : I19 b j = I b j := by rw [← Option.some.inj e1]; exact (up2_fa w0).trans q18
                  exact (ih l1 (l2 + 1) I19 h).trans q20
                · skip
                  obtain ⟨I21, e1, h⟩ := bnd h
                  have q22 : I21 b j = I b j := by rw [← Option.some.inj e1]; exact (up2_fa w0).trans q9
                  obtain ⟨I23, e1, h⟩ := bnd h
                  have q24 : I23 b j = I b j := by rw [← Option.some.inj e1]; exact (up2_fa w0).trans q22
                  obtain ⟨x25, hx, h⟩ := bnd h
                  have q26 : x25.2 b j = I b j := (fr_Mod_draw w1 hx).trans q24
                  obtain ⟨I27, e1, h⟩ := bnd h
                  have q28 : I27 b j = I b j := by rw [← Option.some.inj e1]; exact (up2_fa w0).trans q26
                  exact (ih (l1 + 1) (l2 + 1) I27 h).trans q28
            · skip
              rcases iteC h with ⟨hb, h⟩ | ⟨hb, h⟩
              · skip
                rcases iteC h with ⟨hb, h⟩ | ⟨hb, h⟩
                · skip
                  obtain ⟨x29, hx, h⟩ := bnd h
                  have q30 : x29.2 b j = I b j := (fr_Mod_draw w1 hx).trans q9
                  obtain ⟨I31, e1, h⟩ := bnd h
                  have q32 : I31 b j = I b j := by rw [← Option.some.inj e1]; exact (up2_fa w0).trans q30
                  exact (ih l1 (l2 + 1) I31 h).trans q32
                · skip
                  obtain ⟨x33, hx, h⟩ := bnd h
                  rcases iteC h with ⟨hb, h⟩ | ⟨hb, h⟩
                  rotate_left
                  · skip
                    obtain ⟨x34, hx, h⟩ := bnd h
                    have q35 : x34.2 b j = I b j := (fr_Mod_draw w1 hx).trans q9
                    obtain ⟨I36, e1, h⟩ := bnd h
                    have q37 : I36 b j = I b j := by rw [← Option.some.inj e1]; exact (up2_fa w0).trans q35
                    exact (ih l1 (l2 + 1) I36 h).trans q37
                  · skip
                    obtain ⟨I38, e1, h⟩ := bnd h
                    have q39 : I38 b j = I b j := by rw [← Option.some.inj e1]; exact (up2_fa w0).trans q9
                    obtain ⟨I40, e1, h⟩ := bnd h
                    have q41 : I40 b j = I b j := by rw [← Option.some.inj e1]; exact (up2_fa w0).trans q39
                    obtain ⟨x42, hx, h⟩ := bnd h
                    have q43 : x42.2 b j = I b j := (fr_Mod_draw w1 hx).trans q41
                    obtain ⟨I44, e1, h⟩ := bnd h
                    have q45 : I44 b j = I b j := by rw [← Option.some.inj e1]; exact (up2_fa w0).trans q43
                    exact (ih (l1 + 1) (l2 + 1) I44 h).trans q45
              · skip
                rcases iteC h with ⟨hb, h⟩ | ⟨hb, h⟩
                · skip
                  obtain ⟨x46, hx, h⟩ := bnd h
                  have q47 : x46.2 b j = I b j := (fr_Mod_draw w1 hx).trans q9
                  obtain ⟨I48, e1, h⟩ := bnd h
                  have q49 : I48 b j = I b j := by rw [← Option.some.inj e1]; exact (up2_fa w0).trans q47
                  exact (ih l1 (l2 + 1) I48 h).trans q49
                · skip
                  obtain ⟨x50, hx, h⟩ := bnd h
                  rcases iteC h with ⟨hb, h⟩ | ⟨hb, h⟩
                  rotate_left
                  · skip
                    obtain ⟨x51, hx, h⟩ := bnd h
                    have q52 : x51.2 b j = I b j := (fr_Mod_draw w1 hx).trans q9
                    obtain ⟨I53, e1, h⟩ := bnd h
                    have q54 : I53 b j = I b j := by rw [← Option.some.inj e1]; exact (up2_fa w0).trans q52
                    exact (ih l1 (l2 + 1) I53 h).trans q54
                  · skip
                    obtain ⟨I55, e1, h⟩ := bnd h
                    have q56 : I55 b j = I b j := by rw [← Option.some.inj e1]; exact (up2_fa w0).trans q9
                    obtain ⟨I57, e1, h⟩ := bnd h
                    have q58 : I57 b j = I b j := by rw [← Option.some.inj e1]; exact (up2_fa w0).trans q56
                    obtain ⟨x59, hx, h⟩ := bnd h
                    have q60 : x59.2 b j = I b j := (fr_Mod_draw w1 hx).trans q58
                    obtain ⟨I61, e1, h⟩ := bnd h
                    have q62 : I61 b j = I b j := by rw [← Option.some.inj e1]; exact (up2_fa w0).trans q60
                    exact (ih (l1 + 1) (l2 + 1) I61 h).trans q62
          · skip
            rcases iteC h with ⟨hb, h⟩ | ⟨hb, h⟩
            · skip
              obtain ⟨hg63, h⟩ := grd h
              rcases iteC h with ⟨hb, h⟩ | ⟨hb, h⟩
              · skip
                rcases iteC h with ⟨hb, h⟩ | ⟨hb, h⟩
                · skip
                  obtain ⟨x64, hx, h⟩ := bnd h
                  have q65 : x64.2 b j = I b j := (fr_Mod_draw w1 hx).trans q9
                  obtain ⟨I66, e1, h⟩ := bnd h
                  have q67 : I66 b j = I b j := by rw [← Option.some.inj e1]; exact (up2_fa w0).trans q65
                  exact (ih l1 (l2 + 1) I66 h).trans q67
                · skip
                  obtain ⟨x68, hx, h⟩ := bnd h
                  rcases iteC h with ⟨hb, h⟩ | ⟨hb, h⟩
                  rotate_left
                  · skip
                    obtain ⟨x69, hx, h⟩ := bnd h
                    have q70 : x69.2 b j = I b j := (fr_Mod_draw w1 hx).trans q9
                    obtain ⟨I71, e1, h⟩ := bnd h
                    have q72 : I71 b j = I b j := by rw [← Option.some.inj e1]; exact (up2_fa w0).trans q70
                    exact (ih l1 (l2 + 1) I71 h).trans q72
                  · skip
                    obtain ⟨I73, e1, h⟩ := bnd h
                    have q74 : I73 b j = I b j := by rw [← Option.some.inj e1]; exact (up2_fa w0).trans q9
                    obtain ⟨I75, e1, h⟩ := bnd h
                    have q76 : I75 b j = I b j := by rw [← Option.some.inj e1]; exact (up2_fa w0).trans q74
                    obtain ⟨x77, hx, h⟩ := bnd h
                    have q78 : x77.2 b j = I b j := (fr_Mod_draw w1 hx).trans q76
                    obtain ⟨I79, e1, h⟩ := bnd h
                    have q80 : I79 b j = I b j := by rw [← Option.some.inj e1]; exact (up2_fa w0).trans q78
                    exact (ih (l1 + 1) (l2 + 1) I79 h).trans q80
              · skip
                rcases iteC h with ⟨hb, h⟩ | ⟨hb, h⟩
                · skip
                  rcases iteC h with ⟨hb, h⟩ | ⟨hb, h⟩
                  · skip
                    obtain ⟨x81, hx, h⟩ := bnd h
                    have q82 : x81.2 b j = I b j := (fr_Mod_draw w1 hx).trans q9
                    obtain ⟨I83, e1, h⟩ := bnd h
                    have q84 : I83 b j = I b j := by rw [← Option.some.inj e1]; exact (up2_fa w0).trans q82
                    exact (ih l1 (l2 + 1) I83 h).trans q84
                  · skip
                    obtain ⟨x85, hx, h⟩ := bnd h
                    rcases iteC h with ⟨hb, h⟩ | ⟨hb, h⟩
                    rotate_left
                    · skip
                      obtain ⟨x86, hx, h⟩ := bnd h
                      have q87 : x86.2 b j = I b j := (fr_Mod_draw w1 hx).trans q9
                      obtain ⟨I88, e1, h⟩ := bnd h
                      have q89 : I88 b j = I b j := by rw [← Option.some.inj e1]; exact (up2_fa w0).trans q87
                      exact (ih l1 (l2 + 1) I88 h).trans q89
                    · skip
                      obtain ⟨I90, e1, h⟩ := bnd h
                      have q91 : I90 b j = I b j := by rw [← Option.some.inj e1]; exact (up2_fa w0).trans q9
                      obtain ⟨I92, e1, h⟩ := bnd h
                      have q93 : I92 b j = I b j := by rw [← Option.some.inj e1]; exact (up2_fa w0).trans q91
                      obtain ⟨x94, hx, h⟩ := bnd h
                      have q95 : x94.2 b j = I b j := (fr_Mod_draw w1 hx).trans q93
                      obtain ⟨I96, e1, h⟩ := bnd h
                      have q97 : I96 b j = I b j := by rw [← Option.some.inj e1]; exact (up2_fa w0).trans q95
                      exact (ih (l1 + 1) (l2 + 1) I96 h).trans q97
                · skip
                  rcases iteC h with ⟨hb, h⟩ | ⟨hb, h⟩
                  · skip
                    obtain ⟨x98, hx, h⟩ := bnd h
                    have q99 : x98.2 b j = I b j := (fr_Mod_draw w1 hx).trans q9
                    obtain ⟨I100, e1, h⟩ := bnd h
                    have q101 : I100 b j = I b j := by rw [← Option.some.inj e1]; exact (up2_fa w0).trans q99
                    exact (ih l1 (l2 + 1) I100 h).trans q101
                  · skip
                    obtain ⟨x102, hx, h⟩ := bnd h
                    rcases iteC h with ⟨hb, h⟩ | ⟨hb, h⟩
                    rotate_left
                    · skip
                      obtain ⟨x103, hx, h⟩ := bnd h
                      have q104 : x103.2 b j = I b j := (fr_Mod_draw w1 hx).trans q9
                      obtain ⟨I105, e1, h⟩ := bnd h
                      have q106 : I105 b j = I b j := by rw [← Option.some.inj e1]; exact (up2_fa w0).trans q104
                      exact (ih l1 (l2 + 1) I105 h).trans q106
                    · skip
                      obtain ⟨I107, e1, h⟩ := bnd h
                      have q108 : I107 b j = I b j := by rw [← Option.some.inj e1]; exact (up2_fa w0).trans q9
                      obtain ⟨I109, e1, h⟩ := bnd h
                      have q110 : I109 b j = I b j := by rw [← Option.some.inj e1]; exact (up2_fa w0).trans q108
                      obtain ⟨x111, hx, h⟩ := bnd h
                      have q112 : x111.2 b j = I b j := (fr_Mod_draw w1 hx).trans q110
                      obtain ⟨I113, e1, h⟩ := bnd h
                      have q114 : I113 b j = I b j := by rw [← Option.some.inj e1]; exact (up2_fa w0).trans q112
                      exact (ih (l1 + 1) (l2 + 1) I113 h).trans q114
            · skip
              obtain ⟨hg115, h⟩ := grd h
              rcases iteC h with ⟨hb, h⟩ | ⟨hb, h⟩
              · skip
                rcases iteC h with ⟨hb, h⟩ | ⟨hb, h⟩
                · skip
                  obtain ⟨x116, hx, h⟩ := bnd h
                  have q117 : x116.2 b j = I b j := (fr_Mod_draw w1 hx).trans q9
                  obtain ⟨I118, e1, h⟩ := bnd h
                  have q119 : I118 b j = I b j := by rw [← Option.some.inj e1]; exact (up2_fa w0).trans q117
                  exact (ih l1 (l2 + 1) I118 h).trans q119
                · skip
                  obtain ⟨x120, hx, h⟩ := bnd h
                  rcases iteC h with ⟨hb, h⟩ | ⟨hb, h⟩
                  rotate_left
                  · skip
                    obtain ⟨x121, hx, h⟩ := bnd h
                    have q122 : x121.2 b j = I b j := (fr_Mod_draw w1 hx).trans q9
                    obtain ⟨I123, e1, h⟩ := bnd h
                    have q124 : I123 b j = I b j := by rw [← Option.some.inj e1]; exact (up2_fa w0).trans q122
                    exact (ih l1 (l2 + 1) I123 h).trans q124
                  · skip
                    obtain ⟨I125, e1, h⟩ := bnd h
                    have q126 : I125 b j = I b j := by rw [← Option.some.inj e1]; exact (up2_fa w0).trans q9
                    obtain ⟨I127, e1, h⟩ := bnd h
                    have q128 : I127 b j = I b j := by rw [← Option.some.inj e1]; exact (up2_fa w0).trans q126
                    obtain ⟨x129, hx, h⟩ := bnd h
                    have q130 : x129.2 b j = I b j := (fr_Mod_draw w1 hx).trans q128
                    obtain ⟨I131, e1, h⟩ := bnd h
                    have q132 : I131 b j = I b j := by rw [← Option.some.inj e1]; exact (up2_fa w0).trans q130
                    exact (ih (l1 + 1) (l2 + 1) I131 h).trans q132
              · skip
                rcases iteC h with ⟨hb, h⟩ | ⟨hb, h⟩
                · skip
                  rcases iteC h with ⟨hb, h⟩ | ⟨hb, h⟩
                  · skip
                    obtain ⟨x133, hx, h⟩ := bnd h
                    have q134 : x133.2 b j = I b j := (fr_Mod_draw w1 hx).trans q9
                    obtain ⟨I135, e1, h⟩ := bnd h
                    have q136 : I135 b j = I b j := by rw [← Option.some.inj e1]; exact (up2_fa w0).trans q134
                    exact (ih l1 (l2 + 1) I135 h).trans q136
                  · skip
                    obtain ⟨x137, hx, h⟩ := bnd h
                    rcases iteC h with ⟨hb, h⟩ | ⟨hb, h⟩
                    rotate_left
                    · skip
                      obtain ⟨x138, hx, h⟩ := bnd h
                      have q139 : x138.2 b j = I b j := (fr_Mod_draw w1 hx).trans q9
                      obtain ⟨I140, e1, h⟩ := bnd h
                      have q141 : I140 b j = I b j := by rw [← Option.some.inj e1]; exact (up2_fa w0).trans q139
                      exact (ih l1 (l2 + 1) I140 h).trans q141
                    · skip
                      obtain ⟨I142, e1, h⟩ := bnd h
                      have q143 : I142 b j = I b j := by rw [← Option.some.inj e1]; exact (up2_fa w0).trans q9
                      obtain ⟨I144, e1, h⟩ := bnd h
                      have q145 : I144 b j = I b j := by rw [← Option.some.inj e1]; exact (up2_fa w0).trans q143
                      obtain ⟨x146, hx, h⟩ := bnd h
                      have q147 : x146.2 b j = I b j := (fr_Mod_draw w1 hx).trans q145
                      obtain ⟨I148, e1, h⟩ := bnd h
                      have q149 : I148 b j = I b j := by rw [← Option.some.inj e1]; exact (up2_fa w0).trans q147
                      exact (ih (l1 + 1) (l2 + 1) I148 h).trans q149
                · skip
                  rcases iteC h with ⟨hb, h⟩ | ⟨hb, h⟩
                  · skip
                    obtain ⟨x150, hx, h⟩ := bnd h
                    have q151 : x150.2 b j = I b j := (fr_Mod_draw w1 hx).trans q9
                    obtain ⟨I152, e1, h⟩ := bnd h
                    have q153 : I152 b j = I b j := by rw [← Option.some.inj e1]; exact (up2_fa w0).trans q151
                    exact (ih l1 (l2 + 1) I152 h).trans q153
                  · skip
                    obtain ⟨x154, hx, h⟩ := bnd h
                    rcases iteC h with ⟨hb, h⟩ | ⟨hb, h⟩
                    rotate_left
                    · skip
                      obtain ⟨x155, hx, h⟩ := bnd h
                      have q156 : x155.2 b j = I b j := (fr_Mod_draw w1 hx).trans q9
                      obtain ⟨I157, e1, h⟩ := bnd h
                      have q158 : I157 b j = I b j := by rw [← Option.some.inj e1]; exact (up2_fa w0).trans q156
                      exact (ih l1 (l2 + 1) I157 h).trans q158
                    · skip
                      obtain ⟨I159, e1, h⟩ := bnd h
                      have q160 : I159 b j = I b j := by rw [← Option.some.inj e1]; exact (up2_fa w0).trans q9
                      obtain ⟨I161, e1, h⟩ := bnd h
                      have q162 : I161 b j = I b j := by rw [← Option.some.inj e1]; exact (up2_fa w0).trans q160
                      obtain ⟨x163, hx, h⟩ := bnd h
                      have q164 : x163.2 b j = I b j := (fr_Mod_draw w1 hx).trans q162
                      obtain ⟨I165, e1, h⟩ := bnd h
                      have q166 : I165 b j = I b j := by rw [← Option.some.inj e1]; exact (up2_fa w0).trans q164
                      exact (ih (l1 + 1) (l2 + 1) I165 h).trans q166
        · skip
          exact (ih l1 (l2 + 1) I h).trans rfl
      · skip
        exact (ih l1 (l2 + 1) I h).trans rfl
set_option maxRecDepth 8000 in
theorem fr_Mod_doPlough {N : Nat} {I : FI} {r : Int32 × FI} {b j : Nat} (w0 : b ≠ 206) (w1 : ¬ (b = 204 ∧ j = 25)) (h : Mod_doPlough N I = some r) : r.2 b j = I b j := by
  unfold Mod_doPlough at h
  exact (fr_Mod_doPlough_4 w0 w1 _ 0 0 I h).trans rfl
set_option maxRecDepth 8000 in
theorem fr_Mod_plough {N : Nat} {l1 : Int32} {I : FI} {r : Int32 × FI} {b j : Nat} (w0 : b ≠ 206) (w1 : b ≠ 209) (w2 : ¬ (b = 204 ∧ j = 0)) (w3 : ¬ (b = 204 ∧ j = 24)) (w4 : ¬ (b = 204 ∧ j = 25)) (h : Mod_plough N l1 I = some r) : r.2 b j = I b j := by
  unfold Mod_plough at h
  obtain ⟨I1, e1, h⟩ := bnd h
  have q2 : I1 b j = I b j := by rw [← Option.some.inj e1]; exact (up2_ff w2).trans rfl
  obtain ⟨x3, hx, h⟩ := bnd h
  have q4 : x3 b j = I b j := (fr_Mod_snap w1 w3 hx).trans q2
  obtain ⟨I5, e1, h⟩ := bnd h
  have q6 : I5 b j = I b j := by rw [← Option.some.inj e1]; exact (up2_ff w4).trans q4
  obtain ⟨x7, hx, h⟩ := bnd h
  have q8 : x7.2 b j = I b j := (fr_Mod_doPlough w0 w4 hx).trans q6
  obtain rfl := Option.some.inj h; exact q8
set_option maxRecDepth 8000 in
theorem fr_Mod_undo_26 {N : Nat} {r : Int32 × FI} {b j : Nat} (w0 : b ≠ 206) (w1 : ¬ (b = 204 ∧ j = 0)) (w2 : ¬ (b = 204 ∧ j = 24)) : ∀ (n : Nat) (l1 : Int32) (I : FI), Mod_undo_26 N n l1 I = some r → r.2 b j = I b j := by
  intro n
  induction n with
  | zero =>
    intro l1 I h
    cases h
  | succ n ih =>
    intro l1 I h
    unfold Mod_undo_26 at h
    rcases iteC h with ⟨hb, h⟩ | ⟨hb, h⟩
    · skip
      obtain rfl := Option.some.inj h; exact rfl
    · skip
      obtain ⟨hg5, h⟩ := grd h
      obtain ⟨hg6, h⟩ := grd h
      obtain ⟨I7, e1, h⟩ := bnd h
      have q8 : I7 b j = I b j := by rw [← Option.some.inj e1]; exact (up2_fa w0).trans rfl
      exact (ih (l1 + 1) I7 h).trans q8
set_option maxRecDepth 8000 in
theorem fr_Mod_undo {N : Nat} {I : FI} {r : Int32 × FI} {b j : Nat} (w0 : b ≠ 206) (w1 : ¬ (b = 204 ∧ j = 0)) (w2 : ¬ (b = 204 ∧ j = 24)) (h : Mod_undo N I = some r) : r.2 b j = I b j := by
  unfold Mod_undo at h
  obtain ⟨I1, e1, h⟩ := bnd h
  have q2 : I1 b j = I b j := by rw [← Option.some.inj e1]; exact (up2_ff w1).trans rfl
  rcases iteC h with ⟨hb, h⟩ | ⟨hb, h⟩
  · skip
    obtain rfl := Option.some.inj h; exact q2
  · skip
    obtain ⟨I3, e1, h⟩ := bnd h
    have q4 : I3 b j = I b j := by rw [← Option.some.inj e1]; exact (up2_ff w2).trans q2
    exact (fr_Mod_undo_26 w0 w1 w2 _ 0 I3 h).trans q4
set_option maxRecDepth 8000 in
theorem fr_Mod_oneNight_70 {N : Nat} {r : FI} {b j : Nat} (w0 : b ≠ 206) (w1 : ¬ (b = 204 ∧ j = 25)) : ∀ (n : Nat) (l1 : Int32) (l2 : Int32) (l3 : Int32) (l4 : Int32) (l5 : Int32) (I : FI), Mod_oneNight_70 N n l1 l2 l3 l4 l5 I = some r → r b j = I b j := by
  intro n
  induction n with
  | zero =>
    intro l1 l2 l3 l4 l5 I h
    cases h
  | succ n ih =>
    intro l1 l2 l3 l4 l5 I h
    unfold Mod_oneNight_70 at h
    rcases iteC h with ⟨hb, h⟩ | ⟨hb, h⟩
    · skip
      obtain ⟨I7, e1, h⟩ := bnd h
      have q8 : I7 b j = I b j := by rw [← Option.some.inj e1]; exact (up2_fa w0).trans rfl
      obtain rfl := Option.some.inj h; exact q8
    · skip
      obtain ⟨x9, hx, h⟩ := bnd h
      rcases iteC h with ⟨hb, h⟩ | ⟨hb, h⟩
      rotate_left
      · skip
        exact (ih l1 l2 l3 l4 (l5 + 1) I h).trans rfl
      · skip
        obtain ⟨x10, hx, h⟩ := bnd h
        have q11 : x10.2 b j = I b j := (fr_Mod_draw w1 hx).trans rfl
        rcases iteC h with ⟨hb, h⟩ | ⟨hb, h⟩
        · skip
          obtain ⟨hg12, h⟩ := grd h
          obtain ⟨I13, e1, h⟩ := bnd h
          have q14 : I13 b j = I b j := by rw [← Option.some.inj e1]; exact (up2_fa w0).trans q11
          exact (ih l1 l2 l3 l4 (l5 + 1) I13 h).trans q14
        · skip
          rcases iteC h with ⟨hb, h⟩ | ⟨hb, h⟩
          · skip
            obtain ⟨x15, hx, h⟩ := bnd h
            have q16 : x15 b j = I b j := (fr_Mod_doSell w0 hx).trans q11
            exact (ih l1 l2 l3 l4 (l5 + 1) x15 h).trans q16
          · skip
            exact (ih l1 l2 l3 l4 (l5 + 1) x10.2 h).trans q11
set_option maxRecDepth 8000 in
theorem fr_Mod_oneNight {N : Nat} {I : FI} {r : FI} {b j : Nat} (w0 : b ≠ 206) (w1 : ¬ (b = 204 ∧ j = 25)) (h : Mod_oneNight N I = some r) : r b j = I b j := by
  unfold Mod_oneNight at h
  obtain ⟨x1, hx, h⟩ := bnd h
  have q2 : x1.2 b j = I b j := (fr_Mod_draw w1 hx).trans rfl
  obtain ⟨x3, hx, h⟩ := bnd h
  have q4 : x3.2 b j = I b j := (fr_Mod_draw w1 hx).trans q2
  obtain ⟨hg5, h⟩ := grd h
  obtain ⟨x6, hx, h⟩ := bnd h
  rcases iteC h with ⟨hb, h⟩ | ⟨hb, h⟩
  rotate_left
  · skip
    exact (fr_Mod_oneNight_70 w0 w1 _ x1.1 x3.1 (x3.1 - x3.1 / (x3.2 206 ((3 : Int32).toNatClampNeg)) * (x3.2 206 ((3 : Int32).toNatClampNeg))) (x3.1 / (x3.2 206 ((3 : Int32).toNatClampNeg))) 0 x3.2 h).trans q4
  · skip
    obtain ⟨x17, hx, h⟩ := bnd h
    have q18 : x17.2 b j = I b j := (fr_Mod_doDig w0 hx).trans q4
    exact (fr_Mod_oneNight_70 w0 w1 _ x1.1 x3.1 (x3.1 - x3.1 / (x3.2 206 ((3 : Int32).toNatClampNeg)) * (x3.2 206 ((3 : Int32).toNatClampNeg))) (x3.1 / (x3.2 206 ((3 : Int32).toNatClampNeg))) 0 x17.2 h).trans q18
set_option maxRecDepth 8000 in
theorem fr_Mod_passNights_24 {N : Nat} {r : Int32 × FI} {b j : Nat} (w0 : b ≠ 206) (w1 : ¬ (b = 204 ∧ j = 25)) : ∀ (n : Nat) (l1 : Int32) (l2 : Int32) (l3 : Int32) (l4 : Int32) (I : FI), Mod_passNights_24 N n l1 l2 l3 l4 I = some r → r.2 b j = I b j := by
  intro n
  induction n with
  | zero =>
    intro l1 l2 l3 l4 I h
    cases h
  | succ n ih =>
    intro l1 l2 l3 l4 I h
    unfold Mod_passNights_24 at h
    rcases iteC h with ⟨hb, h⟩ | ⟨hb, h⟩
    · skip
      obtain rfl := Option.some.inj h; exact rfl
    · skip
      obtain ⟨x3, hx, h⟩ := bnd h
      have q4 : x3 b j = I b j := (fr_Mod_oneNight w0 w1 hx).trans rfl
      exact (ih l1 l2 l3 (l4 + 1) x3 h).trans q4
set_option maxRecDepth 8000 in
theorem fr_Mod_passNights {N : Nat} {l1 : Int32} {l2 : Int32} {I : FI} {r : Int32 × FI} {b j : Nat} (w0 : b ≠ 206) (w1 : ¬ (b = 204 ∧ j = 25)) (h : Mod_passNights N l1 l2 I = some r) : r.2 b j = I b j := by
  unfold Mod_passNights at h
  obtain ⟨I1, e1, h⟩ := bnd h
  have q2 : I1 b j = I b j := by rw [← Option.some.inj e1]; exact (up2_ff w1).trans rfl
  exact (fr_Mod_passNights_24 w0 w1 _ l1 l2 (Mod_least l1 (400 - (I1 206 ((102 : Int32).toNatClampNeg)))) 0 I1 h).trans q2
set_option maxRecDepth 8000 in
theorem fr_Mod_nights {N : Nat} {l1 : Int32} {l2 : Int32} {I : FI} {r : Int32 × FI} {b j : Nat} (w0 : b ≠ 206) (w1 : b ≠ 209) (w2 : ¬ (b = 204 ∧ j = 0)) (w3 : ¬ (b = 204 ∧ j = 24)) (w4 : ¬ (b = 204 ∧ j = 25)) (h : Mod_nights N l1 l2 I = some r) : r.2 b j = I b j := by
  unfold Mod_nights at h
  obtain ⟨I1, e1, h⟩ := bnd h
  have q2 : I1 b j = I b j := by rw [← Option.some.inj e1]; exact (up2_ff w2).trans rfl
  rcases iteC h with ⟨hb, h⟩ | ⟨hb, h⟩
  rotate_left
  · skip
    obtain rfl := Option.some.inj h; exact q2
  · skip
    rcases iteC h with ⟨hb, h⟩ | ⟨hb, h⟩
    · skip
      obtain rfl := Option.some.inj h; exact q2
    · skip
      rcases iteC h with ⟨hb, h⟩ | ⟨hb, h⟩
      · skip
        obtain rfl := Option.some.inj h; exact q2
      · skip
        obtain ⟨x3, hx, h⟩ := bnd h
        have q4 : x3 b j = I b j := (fr_Mod_snap w1 w3 hx).trans q2
        obtain ⟨x5, hx, h⟩ := bnd h
        have q6 : x5.2 b j = I b j := (fr_Mod_passNights w0 w4 hx).trans q4
        obtain rfl := Option.some.inj h; exact q6
set_option maxRecDepth 8000 in
theorem fr_Mod_belief {N : Nat} {l1 : Int32} {l2 : Int32} {I : FI} {J : FJ} {r : Int64 × FI × FJ} {b j : Nat} (w0 : ¬ (b = 204 ∧ j = 0)) (h : Mod_belief N l1 l2 I J = some r) : r.2.1 b j = I b j := by
  unfold Mod_belief at h
  obtain ⟨I1, e1, h⟩ := bnd h
  have q2 : I1 b j = I b j := by rw [← Option.some.inj e1]; exact (up2_ff w0).trans rfl
  rcases iteC h with ⟨hb, h⟩ | ⟨hb, h⟩
  rotate_left
  · skip
    obtain ⟨x3, hx, h⟩ := bnd h
    have q4 : x3.2 b j = I b j := (fr_Mod_refuse w0 hx).trans q2
    obtain rfl := Option.some.inj h; exact q4
  · skip
    rcases iteC h with ⟨hb, h⟩ | ⟨hb, h⟩
    rotate_left
    · skip
      obtain ⟨x5, hx, h⟩ := bnd h
      have q6 : x5.2 b j = I b j := (fr_Mod_refuse w0 hx).trans q2
      obtain rfl := Option.some.inj h; exact q6
    · skip
      obtain ⟨x7, hx, h⟩ := bnd h
      obtain ⟨x8, hx, h⟩ := bnd h
      obtain ⟨hg9, h⟩ := grd h
      obtain ⟨x10, hx, h⟩ := bnd h
      obtain ⟨x11, hx, h⟩ := bnd h
      obtain rfl := Option.some.inj h; exact q2
set_option maxRecDepth 8000 in
theorem fr_Mod_reading_18 {N : Nat} {r : Int32 × FI × FJ} {b j : Nat} (w0 : ¬ (b = 204 ∧ j = 0)) : ∀ (n : Nat) (l1 : Int32) (l2 : Int32) (I : FI) (J : FJ), Mod_reading_18 N n l1 l2 I J = some r → r.2.1 b j = I b j := by
  intro n
  induction n with
  | zero =>
    intro l1 l2 I J h
    cases h
  | succ n ih =>
    intro l1 l2 I J h
    unfold Mod_reading_18 at h
    rcases iteC h with ⟨hb, h⟩ | ⟨hb, h⟩
    · skip
      obtain rfl := Option.some.inj h; exact rfl
    · skip
      obtain ⟨hg5, h⟩ := grd h
      obtain ⟨hg6, h⟩ := grd h
      rcases iteC h with ⟨hb, h⟩ | ⟨hb, h⟩
      · skip
        exact (ih l1 (l2 + 1) I J h).trans rfl
      · skip
        exact (ih l2 (l2 + 1) I J h).trans rfl
set_option maxRecDepth 8000 in
theorem fr_Mod_reading {N : Nat} {I : FI} {J : FJ} {r : Int32 × FI × FJ} {b j : Nat} (w0 : ¬ (b = 204 ∧ j = 0)) (h : Mod_reading N I J = some r) : r.2.1 b j = I b j := by
  unfold Mod_reading at h
  obtain ⟨I1, e1, h⟩ := bnd h
  have q2 : I1 b j = I b j := by rw [← Option.some.inj e1]; exact (up2_ff w0).trans rfl
  obtain ⟨x3, hx, h⟩ := bnd h
  obtain ⟨x4, hx, h⟩ := bnd h
  exact (fr_Mod_reading_18 w0 _ 0 1 I1 x4 h).trans q2
set_option maxRecDepth 8000 in
theorem fr_Mod_sure {N : Nat} {l1 : Int32} {l2 : Int32} {I : FI} {J : FJ} {r : Int64 × FI × FJ} {b j : Nat} (w0 : ¬ (b = 204 ∧ j = 0)) (h : Mod_sure N l1 l2 I J = some r) : r.2.1 b j = I b j := by
  unfold Mod_sure at h
  obtain ⟨I1, e1, h⟩ := bnd h
  have q2 : I1 b j = I b j := by rw [← Option.some.inj e1]; exact (up2_ff w0).trans rfl
  rcases iteC h with ⟨hb, h⟩ | ⟨hb, h⟩
  rotate_left
  · skip
    obtain ⟨x3, hx, h⟩ := bnd h
    have q4 : x3.2 b j = I b j := (fr_Mod_refuse w0 hx).trans q2
    obtain rfl := Option.some.inj h; exact q4
  · skip
    rcases iteC h with ⟨hb, h⟩ | ⟨hb, h⟩
    rotate_left
    · skip
      obtain ⟨x5, hx, h⟩ := bnd h
      have q6 : x5.2 b j = I b j := (fr_Mod_refuse w0 hx).trans q2
      obtain rfl := Option.some.inj h; exact q6
    · skip
      obtain ⟨x7, hx, h⟩ := bnd h
      obtain ⟨x8, hx, h⟩ := bnd h
      obtain ⟨x9, hx, h⟩ := bnd h
      obtain ⟨x10, hx, h⟩ := bnd h
      obtain ⟨x11, hx, h⟩ := bnd h
      obtain rfl := Option.some.inj h; exact q2
set_option maxRecDepth 8000 in
theorem fr_Mod_asks_18 {N : Nat} {r : Int32 × FI × FJ} {b j : Nat} (w0 : ¬ (b = 204 ∧ j = 0)) : ∀ (n : Nat) (l1 : Int32) (l2 : Int32) (I : FI) (J : FJ), Mod_asks_18 N n l1 l2 I J = some r → r.2.1 b j = I b j := by
  intro n
  induction n with
  | zero =>
    intro l1 l2 I J h
    cases h
  | succ n ih =>
    intro l1 l2 I J h
    unfold Mod_asks_18 at h
    rcases iteC h with ⟨hb, h⟩ | ⟨hb, h⟩
    · skip
      obtain rfl := Option.some.inj h; exact rfl
    · skip
      obtain ⟨x5, hx, h⟩ := bnd h
      obtain ⟨x6, hx, h⟩ := bnd h
      rcases iteC h with ⟨hb, h⟩ | ⟨hb, h⟩
      · skip
        exact (ih l1 (l2 + 1) I J h).trans rfl
      · skip
        exact (ih l2 (l2 + 1) I J h).trans rfl
set_option maxRecDepth 8000 in
theorem fr_Mod_asks {N : Nat} {I : FI} {J : FJ} {r : Int32 × FI × FJ} {b j : Nat} (w0 : ¬ (b = 204 ∧ j = 0)) (h : Mod_asks N I J = some r) : r.2.1 b j = I b j := by
  unfold Mod_asks at h
  obtain ⟨I1, e1, h⟩ := bnd h
  have q2 : I1 b j = I b j := by rw [← Option.some.inj e1]; exact (up2_ff w0).trans rfl
  obtain ⟨x3, hx, h⟩ := bnd h
  obtain ⟨x4, hx, h⟩ := bnd h
  exact (fr_Mod_asks_18 w0 _ 0 1 I1 x4 h).trans q2
set_option maxRecDepth 8000 in
theorem fr_Mod_gains {N : Nat} {l1 : Int32} {l2 : Int32} {I : FI} {J : FJ} {r : Int64 × FI × FJ} {b j : Nat} (w0 : ¬ (b = 204 ∧ j = 0)) (h : Mod_gains N l1 l2 I J = some r) : r.2.1 b j = I b j := by
  unfold Mod_gains at h
  obtain ⟨I1, e1, h⟩ := bnd h
  have q2 : I1 b j = I b j := by rw [← Option.some.inj e1]; exact (up2_ff w0).trans rfl
  rcases iteC h with ⟨hb, h⟩ | ⟨hb, h⟩
  rotate_left
  · skip
    obtain ⟨x3, hx, h⟩ := bnd h
    have q4 : x3.2 b j = I b j := (fr_Mod_refuse w0 hx).trans q2
    obtain rfl := Option.some.inj h; exact q4
  · skip
    rcases iteC h with ⟨hb, h⟩ | ⟨hb, h⟩
    rotate_left
    · skip
      obtain ⟨x5, hx, h⟩ := bnd h
      have q6 : x5.2 b j = I b j := (fr_Mod_refuse w0 hx).trans q2
      obtain rfl := Option.some.inj h; exact q6
    · skip
      obtain ⟨x7, hx, h⟩ := bnd h
      obtain ⟨x8, hx, h⟩ := bnd h
      obtain ⟨x9, hx, h⟩ := bnd h
      obtain ⟨x10, hx, h⟩ := bnd h
      obtain ⟨x11, hx, h⟩ := bnd h
      obtain ⟨x12, hx, h⟩ := bnd h
      obtain ⟨x13, hx, h⟩ := bnd h
      obtain rfl := Option.some.inj h; exact q2
set_option maxRecDepth 8000 in
theorem fr_Mod_best {N : Nat} {l1 : Int32} {I : FI} {J : FJ} {r : Int32 × FI × FJ} {b j : Nat} (w0 : ¬ (b = 204 ∧ j = 0)) (h : Mod_best N l1 I J = some r) : r.2.1 b j = I b j := by
  unfold Mod_best at h
  obtain ⟨I1, e1, h⟩ := bnd h
  have q2 : I1 b j = I b j := by rw [← Option.some.inj e1]; exact (up2_ff w0).trans rfl
  obtain ⟨x3, hx, h⟩ := bnd h
  rcases iteC h with ⟨hb, h⟩ | ⟨hb, h⟩
  rotate_left
  · skip
    obtain rfl := Option.some.inj h; exact q2
  · skip
    obtain ⟨x4, hx, h⟩ := bnd h
    rcases iteC h with ⟨hb, h⟩ | ⟨hb, h⟩
    rotate_left
    · skip
      obtain rfl := Option.some.inj h; exact q2
    · skip
      obtain ⟨x5, hx, h⟩ := bnd h
      obtain ⟨x6, hx, h⟩ := bnd h
      obtain ⟨hg7, h⟩ := grd h
      obtain ⟨x8, hx, h⟩ := bnd h
      obtain ⟨x9, hx, h⟩ := bnd h
      rcases iteC h with ⟨hb, h⟩ | ⟨hb, h⟩
      · skip
        obtain rfl := Option.some.inj h; exact q2
      · skip
        obtain rfl := Option.some.inj h; exact q2
set_option maxRecDepth 8000 in
theorem fr_Mod_goOn_66 {R : Int32 → Int32 → Int32 → FI → Option (FI)} {N : Nat} {r : FI} {b j : Nat} (hR : ∀ (l1 : Int32) (l2 : Int32) (l3 : Int32) (I : FI) (r : FI), R l1 l2 l3 I = some r → r b j = I b j) (w0 : b ≠ 217) (w1 : b ≠ 218) (w2 : b ≠ 219) (w3 : ¬ (b = 204 ∧ j = 31)) : ∀ (n : Nat) (l1 : Int32) (l2 : Int32) (l3 : Int32) (l4 : Int32) (l5 : Int32) (l6 : Int32) (I : FI), Mod_goOn_66 R N n l1 l2 l3 l4 l5 l6 I = some r → r b j = I b j := by
  intro n
  induction n with
  | zero =>
    intro l1 l2 l3 l4 l5 l6 I h
    cases h
  | succ n ih =>
    intro l1 l2 l3 l4 l5 l6 I h
    unfold Mod_goOn_66 at h
    rcases iteC h with ⟨hb, h⟩ | ⟨hb, h⟩
    · skip
      obtain rfl := Option.some.inj h; exact rfl
    · skip
      obtain ⟨hg6, h⟩ := grd h
      obtain ⟨I7, e1, h⟩ := bnd h
      have q8 : I7 b j = I b j := by rw [← Option.some.inj e1]; exact (up2_fa w1).trans rfl
      exact (ih l1 l2 l3 l4 l5 (l6 + 1) I7 h).trans q8
set_option maxRecDepth 8000 in
theorem fr_Mod_goOn_107 {R : Int32 → Int32 → Int32 → FI → Option (FI)} {N : Nat} {r : FI} {b j : Nat} (hR : ∀ (l1 : Int32) (l2 : Int32) (l3 : Int32) (I : FI) (r : FI), R l1 l2 l3 I = some r → r b j = I b j) (w0 : b ≠ 217) (w1 : b ≠ 218) (w2 : b ≠ 219) (w3 : ¬ (b = 204 ∧ j = 31)) : ∀ (n : Nat) (l1 : Int32) (l2 : Int32) (l3 : Int32) (l4 : Int32) (l5 : Int32) (l6 : Int32) (I : FI), Mod_goOn_107 R N n l1 l2 l3 l4 l5 l6 I = some r → r b j = I b j := by
  intro n
  induction n with
  | zero =>
    intro l1 l2 l3 l4 l5 l6 I h
    cases h
  | succ n ih =>
    intro l1 l2 l3 l4 l5 l6 I h
    unfold Mod_goOn_107 at h
    rcases iteC h with ⟨hb, h⟩ | ⟨hb, h⟩
    · skip
      obtain ⟨hg11, h⟩ := grd h
      obtain ⟨I12, e1, h⟩ := bnd h
      have q13 : I12 b j = I b j := by rw [← Option.some.inj e1]; exact (up2_fa w2).trans rfl
      obtain rfl := Option.some.inj h; exact q13
    · skip
      rcases iteC h with ⟨hb, h⟩ | ⟨hb, h⟩
      · skip
        rcases iteC h with ⟨hb, h⟩ | ⟨hb, h⟩
        · skip
          obtain ⟨x14, hx, h⟩ := bnd h
          rcases iteC h with ⟨hb, h⟩ | ⟨hb, h⟩
          rotate_left
          · skip
            exact (ih l1 l2 l3 l4 l5 (l6 + 1) I h).trans rfl
          · skip
            obtain ⟨hg15, h⟩ := grd h
            obtain ⟨I16, e1, h⟩ := bnd h
            have q17 : I16 b j = I b j := by rw [← Option.some.inj e1]; exact (up2_fa w0).trans rfl
            obtain ⟨x18, hx, h⟩ := bnd h
            have q19 : x18 b j = I b j := (hR _ _ _ _ _ hx).trans q17
            exact (ih l1 l2 l3 l4 l5 (l6 + 1) x18 h).trans q19
        · skip
          rcases iteC h with ⟨hb, h⟩ | ⟨hb, h⟩
          · skip
            obtain ⟨x20, hx, h⟩ := bnd h
            rcases iteC h with ⟨hb, h⟩ | ⟨hb, h⟩
            rotate_left
            · skip
              exact (ih l1 l2 l3 l4 l5 (l6 + 1) I h).trans rfl
            · skip
              obtain ⟨hg21, h⟩ := grd h
              obtain ⟨I22, e1, h⟩ := bnd h
              have q23 : I22 b j = I b j := by rw [← Option.some.inj e1]; exact (up2_fa w0).trans rfl
              obtain ⟨x24, hx, h⟩ := bnd h
              have q25 : x24 b j = I b j := (hR _ _ _ _ _ hx).trans q23
              exact (ih l1 l2 l3 l4 l5 (l6 + 1) x24 h).trans q25
          · skip
            obtain ⟨x26, hx, h⟩ := bnd h
            rcases iteC h with ⟨hb, h⟩ | ⟨hb, h⟩
            rotate_left
            · skip
              exact (ih l1 l2 l3 l4 l5 (l6 + 1) I h).trans rfl
            · skip
              obtain ⟨hg27, h⟩ := grd h
              obtain ⟨I28, e1, h⟩ := bnd h
              have q29 : I28 b j = I b j := by rw [← Option.some.inj e1]; exact (up2_fa w0).trans rfl
              obtain ⟨x30, hx, h⟩ := bnd h
              have q31 : x30 b j = I b j := (hR _ _ _ _ _ hx).trans q29
              exact (ih l1 l2 l3 l4 l5 (l6 + 1) x30 h).trans q31
      · skip
        rcases iteC h with ⟨hb, h⟩ | ⟨hb, h⟩
        · skip
          rcases iteC h with ⟨hb, h⟩ | ⟨hb, h⟩
          · skip
            obtain ⟨x32, hx, h⟩ := bnd h
            rcases iteC h with ⟨hb, h⟩ | ⟨hb, h⟩
            rotate_left
            · skip
              exact (ih l1 l2 l3 l4 l5 (l6 + 1) I h).trans rfl
            · skip
              obtain ⟨hg33, h⟩ := grd h
              obtain ⟨I34, e1, h⟩ := bnd h
              have q35 : I34 b j = I b j := by rw [← Option.some.inj e1]; exact (up2_fa w0).trans rfl
              obtain ⟨x36, hx, h⟩ := bnd h
              have q37 : x36 b j = I b j := (hR _ _ _ _ _ hx).trans q35
              exact (ih l1 l2 l3 l4 l5 (l6 + 1) x36 h).trans q37
          · skip
            rcases iteC h with ⟨hb, h⟩ | ⟨hb, h⟩
            · skip
              obtain ⟨x38, hx, h⟩ := bnd h
              rcases iteC h with ⟨hb, h⟩ | ⟨hb, h⟩
              rotate_left
              · skip
                exact (ih l1 l2 l3 l4 l5 (l6 + 1) I h).trans rfl
              · skip
                obtain ⟨hg39, h⟩ := grd h
                obtain ⟨I40, e1, h⟩ := bnd h
                have q41 : I40 b j = I b j := by rw [← Option.some.inj e1]; exact (up2_fa w0).trans rfl
                obtain ⟨x42, hx, h⟩ := bnd h
                have q43 : x42 b j = I b j := (hR _ _ _ _ _ hx).trans q41
                exact (ih l1 l2 l3 l4 l5 (l6 + 1) x42 h).trans q43
            · skip
              obtain ⟨x44, hx, h⟩ := bnd h
              rcases iteC h with ⟨hb, h⟩ | ⟨hb, h⟩
              rotate_left
              · skip
                exact (ih l1 l2 l3 l4 l5 (l6 + 1) I h).trans rfl
              · skip
                obtain ⟨hg45, h⟩ := grd h
                obtain ⟨I46, e1, h⟩ := bnd h
                have q47 : I46 b j = I b j := by rw [← Option.some.inj e1]; exact (up2_fa w0).trans rfl
                obtain ⟨x48, hx, h⟩ := bnd h
                have q49 : x48 b j = I b j := (hR _ _ _ _ _ hx).trans q47
                exact (ih l1 l2 l3 l4 l5 (l6 + 1) x48 h).trans q49
        · skip
          rcases iteC h with ⟨hb, h⟩ | ⟨hb, h⟩
          · skip
            obtain ⟨x50, hx, h⟩ := bnd h
            rcases iteC h with ⟨hb, h⟩ | ⟨hb, h⟩
            rotate_left
            · skip
              exact (ih l1 l2 l3 l4 l5 (l6 + 1) I h).trans rfl
            · skip
              obtain ⟨hg51, h⟩ := grd h
              obtain ⟨I52, e1, h⟩ := bnd h
              have q53 : I52 b j = I b j := by rw [← Option.some.inj e1]; exact (up2_fa w0).trans rfl
              obtain ⟨x54, hx, h⟩ := bnd h
              have q55 : x54 b j = I b j := (hR _ _ _ _ _ hx).trans q53
              exact (ih l1 l2 l3 l4 l5 (l6 + 1) x54 h).trans q55
          · skip
            rcases iteC h with ⟨hb, h⟩ | ⟨hb, h⟩
            · skip
              obtain ⟨x56, hx, h⟩ := bnd h
              rcases iteC h with ⟨hb, h⟩ | ⟨hb, h⟩
              rotate_left
              · skip
                exact (ih l1 l2 l3 l4 l5 (l6 + 1) I h).trans rfl
              · skip
                obtain ⟨hg57, h⟩ := grd h
                obtain ⟨I58, e1, h⟩ := bnd h
                have q59 : I58 b j = I b j := by rw [← Option.some.inj e1]; exact (up2_fa w0).trans rfl
                obtain ⟨x60, hx, h⟩ := bnd h
                have q61 : x60 b j = I b j := (hR _ _ _ _ _ hx).trans q59
                exact (ih l1 l2 l3 l4 l5 (l6 + 1) x60 h).trans q61
            · skip
              obtain ⟨x62, hx, h⟩ := bnd h
              rcases iteC h with ⟨hb, h⟩ | ⟨hb, h⟩
              rotate_left
              · skip
                exact (ih l1 l2 l3 l4 l5 (l6 + 1) I h).trans rfl
              · skip
                obtain ⟨hg63, h⟩ := grd h
                obtain ⟨I64, e1, h⟩ := bnd h
                have q65 : I64 b j = I b j := by rw [← Option.some.inj e1]; exact (up2_fa w0).trans rfl
                obtain ⟨x66, hx, h⟩ := bnd h
                have q67 : x66 b j = I b j := (hR _ _ _ _ _ hx).trans q65
                exact (ih l1 l2 l3 l4 l5 (l6 + 1) x66 h).trans q67
set_option maxRecDepth 8000 in
theorem fr_Mod_goOn {R : Int32 → Int32 → Int32 → FI → Option (FI)} {N : Nat} {l1 : Int32} {l2 : Int32} {l3 : Int32} {I : FI} {r : FI} {b j : Nat} (hR : ∀ (l1 : Int32) (l2 : Int32) (l3 : Int32) (I : FI) (r : FI), R l1 l2 l3 I = some r → r b j = I b j) (w0 : b ≠ 217) (w1 : b ≠ 218) (w2 : b ≠ 219) (w3 : ¬ (b = 204 ∧ j = 31)) (h : Mod_goOn R N l1 l2 l3 I = some r) : r b j = I b j := by
  unfold Mod_goOn at h
  obtain ⟨hg1, h⟩ := grd h
  obtain ⟨hg2, h⟩ := grd h
  rcases iteC h with ⟨hb, h⟩ | ⟨hb, h⟩
  · skip
    obtain ⟨x3, hx, h⟩ := bnd h
    rcases iteC h with ⟨hb, h⟩ | ⟨hb, h⟩
    · skip
      rcases iteC h with ⟨hb, h⟩ | ⟨hb, h⟩
      · skip
        obtain ⟨I4, e1, h⟩ := bnd h
        have q5 : I4 b j = I b j := by rw [← Option.some.inj e1]; exact (up2_ff w3).trans rfl
        exact (fr_Mod_goOn_66 hR w0 w1 w2 w3 _ l1 l2 l3 (I 217 l1.toNatClampNeg) (l3 + x3) 0 I4 h).trans q5
      · skip
        obtain rfl := Option.some.inj h; exact rfl
    · skip
      obtain ⟨I9, e1, h⟩ := bnd h
      have q10 : I9 b j = I b j := by rw [← Option.some.inj e1]; exact (up2_fa w2).trans rfl
      exact (fr_Mod_goOn_107 hR w0 w1 w2 w3 _ l1 l2 l3 (I 217 l1.toNatClampNeg) (l3 + x3) 0 I9 h).trans q10
  · skip
    rcases iteC h with ⟨hb, h⟩ | ⟨hb, h⟩
    · skip
      rcases iteC h with ⟨hb, h⟩ | ⟨hb, h⟩
      · skip
        obtain ⟨I68, e1, h⟩ := bnd h
        have q69 : I68 b j = I b j := by rw [← Option.some.inj e1]; exact (up2_ff w3).trans rfl
        exact (fr_Mod_goOn_66 hR w0 w1 w2 w3 _ l1 l2 l3 (I 217 l1.toNatClampNeg) l3 0 I68 h).trans q69
      · skip
        obtain rfl := Option.some.inj h; exact rfl
    · skip
      obtain ⟨I70, e1, h⟩ := bnd h
      have q71 : I70 b j = I b j := by rw [← Option.some.inj e1]; exact (up2_fa w2).trans rfl
      exact (fr_Mod_goOn_107 hR w0 w1 w2 w3 _ l1 l2 l3 (I 217 l1.toNatClampNeg) l3 0 I70 h).trans q71
set_option maxRecDepth 8000 in
theorem fr_Mod_goOn_R {N : Nat} {b j : Nat} (w0 : b ≠ 217) (w1 : b ≠ 218) (w2 : b ≠ 219) (w3 : ¬ (b = 204 ∧ j = 31)) : ∀ (k : Nat) (l1 : Int32) (l2 : Int32) (l3 : Int32) (I : FI) (r : FI), Mod_goOn_R N k l1 l2 l3 I = some r → r b j = I b j := by
  intro k
  induction k with
  | zero =>
    intro l1 l2 l3 I r h
    cases h
  | succ k ih =>
    intro l1 l2 l3 I r h
    exact fr_Mod_goOn (N := N) (R := Mod_goOn_R N k) ih w0 w1 w2 w3 h
set_option maxRecDepth 8000 in
theorem fr_Mod_route {N : Nat} {l1 : Int32} {l2 : Int32} {l3 : Int32} {I : FI} {r : Int32 × FI} {b j : Nat} (w0 : b ≠ 217) (w1 : b ≠ 218) (w2 : b ≠ 219) (w3 : ¬ (b = 204 ∧ j = 0)) (w4 : ¬ (b = 204 ∧ j = 30)) (w5 : ¬ (b = 204 ∧ j = 31)) (h : Mod_route N l1 l2 l3 I = some r) : r.2 b j = I b j := by
  unfold Mod_route at h
  obtain ⟨I1, e1, h⟩ := bnd h
  have q2 : I1 b j = I b j := by rw [← Option.some.inj e1]; exact (up2_ff w3).trans rfl
  obtain ⟨x3, hx, h⟩ := bnd h
  rcases iteC h with ⟨hb, h⟩ | ⟨hb, h⟩
  rotate_left
  · skip
    obtain rfl := Option.some.inj h; exact q2
  · skip
    rcases iteC h with ⟨hb, h⟩ | ⟨hb, h⟩
    rotate_left
    · skip
      obtain rfl := Option.some.inj h; exact q2
    · skip
      obtain ⟨I4, e1, h⟩ := bnd h
      have q5 : I4 b j = I b j := by rw [← Option.some.inj e1]; exact (up2_ff w5).trans q2
      obtain ⟨I6, e1, h⟩ := bnd h
      have q7 : I6 b j = I b j := by rw [← Option.some.inj e1]; exact (up2_fa w0).trans q5
      obtain ⟨x8, hx, h⟩ := bnd h
      have q9 : x8 b j = I b j := (fr_Mod_goOn_R w0 w1 w2 w5 dK _ _ _ _ _ hx).trans q7
      obtain ⟨I10, e1, h⟩ := bnd h
      have q11 : I10 b j = I b j := by rw [← Option.some.inj e1]; exact (up2_ff w4).trans q9
      obtain rfl := Option.some.inj h; exact q11
set_option maxRecDepth 8000 in
theorem fr_Mod_routeAt {l1 : Int32} {I : FI} {r : Int32 × FI} {b j : Nat} (w0 : ¬ (b = 204 ∧ j = 0)) (h : Mod_routeAt l1 I = some r) : r.2 b j = I b j := by
  unfold Mod_routeAt at h
  obtain ⟨I1, e1, h⟩ := bnd h
  have q2 : I1 b j = I b j := by rw [← Option.some.inj e1]; exact (up2_ff w0).trans rfl
  rcases iteC h with ⟨hb, h⟩ | ⟨hb, h⟩
  rotate_left
  · skip
    obtain rfl := Option.some.inj h; exact q2
  · skip
    obtain ⟨hg3, h⟩ := grd h
    obtain rfl := Option.some.inj h; exact q2
set_option maxRecDepth 8000 in
theorem fr_Mod_spread {N : Nat} {I : FI} {r : Int32 × FI} {b j : Nat} (w0 : ¬ (b = 204 ∧ j = 0)) (h : Mod_spread N I = some r) : r.2 b j = I b j := by
  unfold Mod_spread at h
  obtain ⟨I1, e1, h⟩ := bnd h
  have q2 : I1 b j = I b j := by rw [← Option.some.inj e1]; exact (up2_ff w0).trans rfl
  obtain ⟨x3, hx, h⟩ := bnd h
  obtain ⟨x4, hx, h⟩ := bnd h
  obtain rfl := Option.some.inj h; exact q2
set_option maxRecDepth 8000 in
theorem fr_Mod_layAside_2 {N : Nat} {r : FI} {b j : Nat} (w0 : b ≠ 210) : ∀ (n : Nat) (l1 : Int32) (I : FI), Mod_layAside_2 N n l1 I = some r → r b j = I b j := by
  intro n
  induction n with
  | zero =>
    intro l1 I h
    cases h
  | succ n ih =>
    intro l1 I h
    unfold Mod_layAside_2 at h
    rcases iteC h with ⟨hb, h⟩ | ⟨hb, h⟩
    · skip
      obtain rfl := Option.some.inj h; exact rfl
    · skip
      obtain ⟨hg1, h⟩ := grd h
      obtain ⟨hg2, h⟩ := grd h
      obtain ⟨I3, e1, h⟩ := bnd h
      have q4 : I3 b j = I b j := by rw [← Option.some.inj e1]; exact (up2_fa w0).trans rfl
      exact (ih (l1 + 1) I3 h).trans q4
set_option maxRecDepth 8000 in
theorem fr_Mod_layAside {N : Nat} {I : FI} {r : FI} {b j : Nat} (w0 : b ≠ 210) (h : Mod_layAside N I = some r) : r b j = I b j := by
  unfold Mod_layAside at h
  exact (fr_Mod_layAside_2 w0 _ 0 I h).trans rfl
set_option maxRecDepth 8000 in
theorem fr_Mod_takeBack_2 {N : Nat} {r : FI} {b j : Nat} (w0 : b ≠ 206) : ∀ (n : Nat) (l1 : Int32) (I : FI), Mod_takeBack_2 N n l1 I = some r → r b j = I b j := by
  intro n
  induction n with
  | zero =>
    intro l1 I h
    cases h
  | succ n ih =>
    intro l1 I h
    unfold Mod_takeBack_2 at h
    rcases iteC h with ⟨hb, h⟩ | ⟨hb, h⟩
    · skip
      obtain rfl := Option.some.inj h; exact rfl
    · skip
      obtain ⟨hg1, h⟩ := grd h
      obtain ⟨hg2, h⟩ := grd h
      obtain ⟨I3, e1, h⟩ := bnd h
      have q4 : I3 b j = I b j := by rw [← Option.some.inj e1]; exact (up2_fa w0).trans rfl
      exact (ih (l1 + 1) I3 h).trans q4
set_option maxRecDepth 8000 in
theorem fr_Mod_takeBack {N : Nat} {I : FI} {r : FI} {b j : Nat} (w0 : b ≠ 206) (h : Mod_takeBack N I = some r) : r b j = I b j := by
  unfold Mod_takeBack at h
  exact (fr_Mod_takeBack_2 w0 _ 0 I h).trans rfl
set_option maxRecDepth 8000 in
theorem fr_Mod_doubt_115 {N : Nat} {K : Int32 → Int32 → Int32 → Int32 → Int32 → Int32 → Int32 → Int32 → FI → Option (Int32 × FI)} {r : Int32 × FI} {b j : Nat} (w0 : b ≠ 206) (w1 : b ≠ 210) (w2 : ¬ (b = 204 ∧ j = 0)) (w3 : ¬ (b = 204 ∧ j = 25)) (hK : ∀ (x1 : Int32) (x2 : Int32) (x3 : Int32) (x4 : Int32) (x5 : Int32) (x6 : Int32) (x7 : Int32) (x8 : Int32) (I : FI), K x1 x2 x3 x4 x5 x6 x7 x8 I = some r → r.2 b j = I b j) : ∀ (n : Nat) (l1 : Int32) (l2 : Int32) (l3 : Int32) (l4 : Int32) (l5 : Int32) (l6 : Int32) (l7 : Int32) (l8 : Int32) (l9 : Int32) (I : FI), Mod_doubt_115 N K n l1 l2 l3 l4 l5 l6 l7 l8 l9 I = some r → r.2 b j = I b j := by
  intro n
  induction n with
  | zero =>
    intro l1 l2 l3 l4 l5 l6 l7 l8 l9 I h
    cases h
  | succ n ih =>
    intro l1 l2 l3 l4 l5 l6 l7 l8 l9 I h
    unfold Mod_doubt_115 at h
    rcases iteC h with ⟨hb, h⟩ | ⟨hb, h⟩
    · skip
      obtain ⟨x10, hx, h⟩ := bnd h
      rcases iteC h with ⟨hb, h⟩ | ⟨hb, h⟩
      · skip
        obtain ⟨x11, hx, h⟩ := bnd h
        have q12 : x11 b j = I b j := (fr_Mod_takeBack w0 hx).trans rfl
        exact (hK l1 l2 l3 l4 l5 l6 l7 (l8 + 1) x11 h).trans q12
      · skip
        obtain ⟨x13, hx, h⟩ := bnd h
        have q14 : x13 b j = I b j := (fr_Mod_takeBack w0 hx).trans rfl
        exact (hK l1 l2 l3 l4 l5 l6 (l7 + 1) (l8 + 1) x13 h).trans q14
    · skip
      obtain ⟨x15, hx, h⟩ := bnd h
      have q16 : x15.2 b j = I b j := (fr_Mod_doPlough w0 w3 hx).trans rfl
      exact (ih l1 l2 l3 l4 l5 l6 l7 l8 (l9 + 1) x15.2 h).trans q16
set_option maxRecDepth 8000 in
theorem fr_Mod_doubt_60 {N : Nat} {K : Int32 → Int32 → Int32 → Int32 → Int32 → Int32 → Int32 → Int32 → FI → Option (Int32 × FI)} {r : Int32 × FI} {b j : Nat} (w0 : b ≠ 206) (w1 : b ≠ 210) (w2 : ¬ (b = 204 ∧ j = 0)) (w3 : ¬ (b = 204 ∧ j = 25)) (hK : ∀ (x1 : Int32) (x2 : Int32) (x3 : Int32) (x4 : Int32) (x5 : Int32) (x6 : Int32) (x7 : Int32) (x8 : Int32) (I : FI), K x1 x2 x3 x4 x5 x6 x7 x8 I = some r → r.2 b j = I b j) : ∀ (n : Nat) (l1 : Int32) (l2 : Int32) (l3 : Int32) (l4 : Int32) (l5 : Int32) (l6 : Int32) (l7 : Int32) (l8 : Int32) (l9 : Int32) (I : FI), Mod_doubt_60 N K n l1 l2 l3 l4 l5 l6 l7 l8 l9 I = some r → r.2 b j = I b j := by
  intro n
  induction n with
  | zero =>
    intro l1 l2 l3 l4 l5 l6 l7 l8 l9 I h
    cases h
  | succ n ih =>
    intro l1 l2 l3 l4 l5 l6 l7 l8 l9 I h
    unfold Mod_doubt_60 at h
    rcases iteC h with ⟨hb, h⟩ | ⟨hb, h⟩
    · skip
      obtain ⟨I8, e1, h⟩ := bnd h
      have q9 : I8 b j = I b j := by rw [← Option.some.inj e1]; exact (up2_ff w3).trans rfl
      exact (fr_Mod_doubt_115 w0 w1 w2 w3 hK _ l1 l2 l3 l4 l5 l6 l7 l8 0 I8 h).trans q9
    · skip
      obtain ⟨hg17, h⟩ := grd h
      obtain ⟨I18, e1, h⟩ := bnd h
      have q19 : I18 b j = I b j := by rw [← Option.some.inj e1]; exact (up2_fa w0).trans rfl
      rcases iteC h with ⟨hb, h⟩ | ⟨hb, h⟩
      rotate_left
      · skip
        exact (ih l1 l2 l3 l4 l5 l6 l7 l8 (l9 + 1) I18 h).trans q19
      · skip
        obtain ⟨x20, hx, h⟩ := bnd h
        have q21 : x20 b j = I b j := (fr_Mod_doLay w0 hx).trans q19
        exact (ih l1 l2 l3 l4 l5 l6 l7 l8 (l9 + 1) x20 h).trans q21
set_option maxRecDepth 8000 in
theorem fr_Mod_doubt_51 {N : Nat} {r : Int32 × FI} {b j : Nat} (w0 : b ≠ 206) (w1 : b ≠ 210) (w2 : ¬ (b = 204 ∧ j = 0)) (w3 : ¬ (b = 204 ∧ j = 25)) : ∀ (n : Nat) (l1 : Int32) (l2 : Int32) (l3 : Int32) (l4 : Int32) (l5 : Int32) (l6 : Int32) (l7 : Int32) (l8 : Int32) (I : FI), Mod_doubt_51 N n l1 l2 l3 l4 l5 l6 l7 l8 I = some r → r.2 b j = I b j := by
  intro n
  induction n with
  | zero =>
    intro l1 l2 l3 l4 l5 l6 l7 l8 I h
    cases h
  | succ n ih =>
    intro l1 l2 l3 l4 l5 l6 l7 l8 I h
    unfold Mod_doubt_51 at h
    rcases iteC h with ⟨hb, h⟩ | ⟨hb, h⟩
    · skip
      obtain rfl := Option.some.inj h; exact rfl
    · skip
      exact (fr_Mod_doubt_60 w0 w1 w2 w3 (fun x1 x2 x3 x4 x5 x6 x7 x8 I h => ih x1 x2 x3 x4 x5 x6 x7 x8 I h) _ l1 l2 l3 l4 l5 l6 l7 l8 0 I h).trans rfl
set_option maxRecDepth 8000 in
theorem fr_Mod_doubt {N : Nat} {l1 : Int32} {l2 : Int32} {l3 : Int32} {l4 : Int32} {I : FI} {r : Int32 × FI} {b j : Nat} (w0 : b ≠ 206) (w1 : b ≠ 210) (w2 : ¬ (b = 204 ∧ j = 0)) (w3 : ¬ (b = 204 ∧ j = 25)) (h : Mod_doubt N l1 l2 l3 l4 I = some r) : r.2 b j = I b j := by
  unfold Mod_doubt at h
  obtain ⟨I1, e1, h⟩ := bnd h
  have q2 : I1 b j = I b j := by rw [← Option.some.inj e1]; exact (up2_ff w2).trans rfl
  obtain ⟨x3, hx, h⟩ := bnd h
  rcases iteC h with ⟨hb, h⟩ | ⟨hb, h⟩
  rotate_left
  · skip
    obtain rfl := Option.some.inj h; exact q2
  · skip
    rcases iteC h with ⟨hb, h⟩ | ⟨hb, h⟩
    rotate_left
    · skip
      obtain rfl := Option.some.inj h; exact q2
    · skip
      obtain ⟨x4, hx, h⟩ := bnd h
      obtain ⟨x5, hx, h⟩ := bnd h
      obtain ⟨x6, hx, h⟩ := bnd h
      have q7 : x6 b j = I b j := (fr_Mod_layAside w1 hx).trans q2
      exact (fr_Mod_doubt_51 w0 w1 w2 w3 _ l1 l2 l3 l4 x4 x5 0 0 x6 h).trans q7
set_option maxRecDepth 8000 in
theorem fr_Mod_fears_63 {N : Nat} {r : Int32 × FI} {b j : Nat} (w0 : ¬ (b = 204 ∧ j = 0)) : ∀ (n : Nat) (l1 : Int32) (l2 : Int32) (l3 : Int32) (l4 : Int32) (I : FI), Mod_fears_63 N n l1 l2 l3 l4 I = some r → r.2 b j = I b j := by
  intro n
  induction n with
  | zero =>
    intro l1 l2 l3 l4 I h
    cases h
  | succ n ih =>
    intro l1 l2 l3 l4 I h
    unfold Mod_fears_63 at h
    rcases iteC h with ⟨hb, h⟩ | ⟨hb, h⟩
    · skip
      obtain rfl := Option.some.inj h; exact rfl
    · skip
      rcases iteC h with ⟨hb, h⟩ | ⟨hb, h⟩
      · skip
        exact (ih l1 l2 (l3 ||| (1 <<< (l4 &&& 31))) (l4 + 1) I h).trans rfl
      · skip
        obtain ⟨hg4, h⟩ := grd h
        rcases iteC h with ⟨hb, h⟩ | ⟨hb, h⟩
        · skip
          exact (ih l1 l2 l3 (l4 + 1) I h).trans rfl
        · skip
          obtain ⟨hg5, h⟩ := grd h
          rcases iteC h with ⟨hb, h⟩ | ⟨hb, h⟩
          · skip
            exact (ih l1 l2 l3 (l4 + 1) I h).trans rfl
          · skip
            exact (ih l1 l2 (l3 ||| (1 <<< (l4 &&& 31))) (l4 + 1) I h).trans rfl
set_option maxRecDepth 8000 in
theorem fr_Mod_fears_15 {N : Nat} {r : Int32 × FI} {b j : Nat} (w0 : ¬ (b = 204 ∧ j = 0)) : ∀ (n : Nat) (l1 : Int32) (l2 : Int32) (l3 : Int32) (I : FI), Mod_fears_15 N n l1 l2 l3 I = some r → r.2 b j = I b j := by
  intro n
  induction n with
  | zero =>
    intro l1 l2 l3 I h
    cases h
  | succ n ih =>
    intro l1 l2 l3 I h
    unfold Mod_fears_15 at h
    rcases iteC h with ⟨hb, h⟩ | ⟨hb, h⟩
    · skip
      exact (fr_Mod_fears_63 w0 _ l1 l2 0 0 I h).trans rfl
    · skip
      rcases iteC h with ⟨hb, h⟩ | ⟨hb, h⟩
      rotate_left
      · skip
        exact (ih l1 l2 (l3 + 1) I h).trans rfl
      · skip
        obtain ⟨hg6, h⟩ := grd h
        rcases iteC h with ⟨hb, h⟩ | ⟨hb, h⟩
        · skip
          exact (ih l1 l2 (l3 + 1) I h).trans rfl
        · skip
          exact (ih l1 (I 206 ((70 + l3).toNatClampNeg)) (l3 + 1) I h).trans rfl
set_option maxRecDepth 8000 in
theorem fr_Mod_fears {N : Nat} {I : FI} {r : Int32 × FI} {b j : Nat} (w0 : ¬ (b = 204 ∧ j = 0)) (h : Mod_fears N I = some r) : r.2 b j = I b j := by
  unfold Mod_fears at h
  obtain ⟨I1, e1, h⟩ := bnd h
  have q2 : I1 b j = I b j := by rw [← Option.some.inj e1]; exact (up2_ff w0).trans rfl
  obtain ⟨x3, hx, h⟩ := bnd h
  exact (fr_Mod_fears_15 w0 _ x3 (-1) 0 I1 h).trans q2
set_option maxRecDepth 8000 in
theorem fr_Mod_fear {l1 : Int32} {l2 : Int32} {I : FI} {r : Int32 × FI} {b j : Nat} (w0 : ¬ (b = 204 ∧ j = 0)) (h : Mod_fear l1 l2 I = some r) : r.2 b j = I b j := by
  unfold Mod_fear at h
  obtain ⟨I1, e1, h⟩ := bnd h
  have q2 : I1 b j = I b j := by rw [← Option.some.inj e1]; exact (up2_ff w0).trans rfl
  rcases iteC h with ⟨hb, h⟩ | ⟨hb, h⟩
  rotate_left
  · skip
    obtain rfl := Option.some.inj h; exact q2
  · skip
    rcases iteC h with ⟨hb, h⟩ | ⟨hb, h⟩
    rotate_left
    · skip
      obtain rfl := Option.some.inj h; exact q2
    · skip
      rcases iteC h with ⟨hb, h⟩ | ⟨hb, h⟩
      · skip
        obtain ⟨hg3, h⟩ := grd h
        obtain rfl := Option.some.inj h; exact q2
      · skip
        obtain ⟨hg4, h⟩ := grd h
        obtain rfl := Option.some.inj h; exact q2
set_option maxRecDepth 8000 in
theorem fr_Mod_pots_239 {N : Nat} {r : Int32 × FI} {b j : Nat} (w0 : b ≠ 220) (w1 : ¬ (b = 204 ∧ j = 0)) (w2 : ¬ (b = 204 ∧ j = 33)) : ∀ (n : Nat) (l1 : Int32) (l2 : Int32) (l3 : Int32) (l4 : Int32) (I : FI), Mod_pots_239 N n l1 l2 l3 l4 I = some r → r.2 b j = I b j := by
  intro n
  induction n with
  | zero =>
    intro l1 l2 l3 l4 I h
    cases h
  | succ n ih =>
    intro l1 l2 l3 l4 I h
    unfold Mod_pots_239 at h
    rcases iteC h with ⟨hb, h⟩ | ⟨hb, h⟩
    · skip
      obtain rfl := Option.some.inj h; exact rfl
    · skip
      obtain ⟨hg5, h⟩ := grd h
      obtain ⟨I6, e1, h⟩ := bnd h
      have q7 : I6 b j = I b j := by rw [← Option.some.inj e1]; exact (up2_ff w2).trans rfl
      exact (ih l1 l2 l3 (l4 + 1) I6 h).trans q7
set_option maxRecDepth 8000 in
theorem fr_Mod_pots_132 {N : Nat} {r : Int32 × FI} {b j : Nat} (w0 : b ≠ 220) (w1 : ¬ (b = 204 ∧ j = 0)) (w2 : ¬ (b = 204 ∧ j = 33)) : ∀ (n : Nat) (l1 : Int32) (l2 : Int32) (l3 : Int32) (l4 : Int32) (I : FI), Mod_pots_132 N n l1 l2 l3 l4 I = some r → r.2 b j = I b j := by
  intro n
  induction n with
  | zero =>
    intro l1 l2 l3 l4 I h
    cases h
  | succ n ih =>
    intro l1 l2 l3 l4 I h
    unfold Mod_pots_132 at h
    rcases iteC h with ⟨hb, h⟩ | ⟨hb, h⟩
    · skip
      obtain ⟨I3, e1, h⟩ := bnd h
      have q4 : I3 b j = I b j := by rw [← Option.some.inj e1]; exact (up2_ff w2).trans rfl
      exact (fr_Mod_pots_239 w0 w1 w2 _ l1 l2 l3 0 I3 h).trans q4
    · skip
      obtain ⟨hg8, h⟩ := grd h
      obtain ⟨hg9, h⟩ := grd h
      obtain ⟨hg10, h⟩ := grd h
      obtain ⟨hg11, h⟩ := grd h
      obtain ⟨hg12, h⟩ := grd h
      obtain ⟨hg13, h⟩ := grd h
      obtain ⟨hg14, h⟩ := grd h
      rcases iteC h with ⟨hb, h⟩ | ⟨hb, h⟩
      · skip
        exact (ih l1 ((((I 206 ((70 + (I 220 ((l4 - 1).toNatClampNeg))).toNatClampNeg)) - (I 206 ((70 + (I 220 ((0 : Int32).toNatClampNeg))).toNatClampNeg))) + (I 206 ((70 + (I 220 ((l1 - 1).toNatClampNeg))).toNatClampNeg))) - (I 206 ((70 + (I 220 l4.toNatClampNeg)).toNatClampNeg))) l4 (l4 + 1) I h).trans rfl
      · skip
        rcases iteC h with ⟨hb, h⟩ | ⟨hb, h⟩
        · skip
          exact (ih l1 ((((I 206 ((70 + (I 220 ((l4 - 1).toNatClampNeg))).toNatClampNeg)) - (I 206 ((70 + (I 220 ((0 : Int32).toNatClampNeg))).toNatClampNeg))) + (I 206 ((70 + (I 220 ((l1 - 1).toNatClampNeg))).toNatClampNeg))) - (I 206 ((70 + (I 220 l4.toNatClampNeg)).toNatClampNeg))) l4 (l4 + 1) I h).trans rfl
        · skip
          exact (ih l1 l2 l3 (l4 + 1) I h).trans rfl
set_option maxRecDepth 8000 in
theorem fr_Mod_pots_50 {N : Nat} {K : Int32 → Int32 → FI → Option (Int32 × FI)} {r : Int32 × FI} {b j : Nat} (w0 : b ≠ 220) (w1 : ¬ (b = 204 ∧ j = 0)) (w2 : ¬ (b = 204 ∧ j = 33)) (hK : ∀ (x1 : Int32) (x2 : Int32) (I : FI), K x1 x2 I = some r → r.2 b j = I b j) : ∀ (n : Nat) (l1 : Int32) (l2 : Int32) (l3 : Int32) (I : FI), Mod_pots_50 N K n l1 l2 l3 I = some r → r.2 b j = I b j := by
  intro n
  induction n with
  | zero =>
    intro l1 l2 l3 I h
    cases h
  | succ n ih =>
    intro l1 l2 l3 I h
    unfold Mod_pots_50 at h
    rcases iteC h with ⟨hb, h⟩ | ⟨hb, h⟩
    · skip
      obtain ⟨hg17, h⟩ := grd h
      obtain ⟨I18, e1, h⟩ := bnd h
      have q19 : I18 b j = I b j := by rw [← Option.some.inj e1]; exact (up2_fa w0).trans rfl
      exact (hK (l1 + 1) (l2 + 1) I18 h).trans q19
    · skip
      obtain ⟨hg20, h⟩ := grd h
      obtain ⟨hg21, h⟩ := grd h
      obtain ⟨hg22, h⟩ := grd h
      rcases iteC h with ⟨hb, h⟩ | ⟨hb, h⟩
      · skip
        obtain ⟨hg23, h⟩ := grd h
        obtain ⟨I24, e1, h⟩ := bnd h
        have q25 : I24 b j = I b j := by rw [← Option.some.inj e1]; exact (up2_fa w0).trans rfl
        exact (hK (l1 + 1) (l2 + 1) I24 h).trans q25
      · skip
        obtain ⟨hg26, h⟩ := grd h
        obtain ⟨I27, e1, h⟩ := bnd h
        have q28 : I27 b j = I b j := by rw [← Option.some.inj e1]; exact (up2_fa w0).trans rfl
        exact (ih l1 l2 (l3 + (-1)) I27 h).trans q28
set_option maxRecDepth 8000 in
theorem fr_Mod_pots_9 {N : Nat} {r : Int32 × FI} {b j : Nat} (w0 : b ≠ 220) (w1 : ¬ (b = 204 ∧ j = 0)) (w2 : ¬ (b = 204 ∧ j = 33)) : ∀ (n : Nat) (l1 : Int32) (l2 : Int32) (I : FI), Mod_pots_9 N n l1 l2 I = some r → r.2 b j = I b j := by
  intro n
  induction n with
  | zero =>
    intro l1 l2 I h
    cases h
  | succ n ih =>
    intro l1 l2 I h
    unfold Mod_pots_9 at h
    rcases iteC h with ⟨hb, h⟩ | ⟨hb, h⟩
    · skip
      rcases iteC h with ⟨hb, h⟩ | ⟨hb, h⟩
      · skip
        exact (fr_Mod_pots_132 w0 w1 w2 _ l1 (-1) 0 1 I h).trans rfl
      · skip
        obtain rfl := Option.some.inj h; exact rfl
    · skip
      obtain ⟨hg15, h⟩ := grd h
      rcases iteC h with ⟨hb, h⟩ | ⟨hb, h⟩
      · skip
        obtain ⟨hg16, h⟩ := grd h
        rcases iteC h with ⟨hb, h⟩ | ⟨hb, h⟩
        · skip
          exact (fr_Mod_pots_50 w0 w1 w2 (fun x1 x2 I h => ih x1 x2 I h) _ l1 l2 l1 I h).trans rfl
        · skip
          exact (ih l1 (l2 + 1) I h).trans rfl
      · skip
        exact (ih l1 (l2 + 1) I h).trans rfl
set_option maxRecDepth 8000 in
theorem fr_Mod_pots {N : Nat} {I : FI} {r : Int32 × FI} {b j : Nat} (w0 : b ≠ 220) (w1 : ¬ (b = 204 ∧ j = 0)) (w2 : ¬ (b = 204 ∧ j = 33)) (h : Mod_pots N I = some r) : r.2 b j = I b j := by
  unfold Mod_pots at h
  obtain ⟨I1, e1, h⟩ := bnd h
  have q2 : I1 b j = I b j := by rw [← Option.some.inj e1]; exact (up2_ff w1).trans rfl
  exact (fr_Mod_pots_9 w0 w1 w2 _ 0 0 I1 h).trans q2
set_option maxRecDepth 8000 in
theorem fr_Mod_early {I : FI} {r : Int32 × FI} {b j : Nat} (w0 : ¬ (b = 204 ∧ j = 0)) (h : Mod_early I = some r) : r.2 b j = I b j := by
  unfold Mod_early at h
  obtain ⟨I1, e1, h⟩ := bnd h
  have q2 : I1 b j = I b j := by rw [← Option.some.inj e1]; exact (up2_ff w0).trans rfl
  obtain rfl := Option.some.inj h; exact q2
set_option maxRecDepth 8000 in
theorem fr_Mod_parts_22 {N : Nat} {r : Int32 × FI} {b j : Nat} (w0 : ¬ (b = 204 ∧ j = 0)) (w1 : ¬ (b = 204 ∧ j = 34)) : ∀ (n : Nat) (l1 : Int32) (l2 : Int32) (l3 : Int32) (l4 : Int32) (I : FI), Mod_parts_22 N n l1 l2 l3 l4 I = some r → r.2 b j = I b j := by
  intro n
  induction n with
  | zero =>
    intro l1 l2 l3 l4 I h
    cases h
  | succ n ih =>
    intro l1 l2 l3 l4 I h
    unfold Mod_parts_22 at h
    rcases iteC h with ⟨hb, h⟩ | ⟨hb, h⟩
    · skip
      obtain rfl := Option.some.inj h; exact rfl
    · skip
      rcases iteC h with ⟨hb, h⟩ | ⟨hb, h⟩
      · skip
        obtain ⟨x5, hx, h⟩ := bnd h
        rcases iteC h with ⟨hb, h⟩ | ⟨hb, h⟩
        · skip
          obtain ⟨I6, e1, h⟩ := bnd h
          have q7 : I6 b j = I b j := by rw [← Option.some.inj e1]; exact (up2_ff w1).trans rfl
          exact (ih l1 l2 (Mod_size (l2 - (2 * x5))) (l4 + 1) I6 h).trans q7
        · skip
          rcases iteC h with ⟨hb, h⟩ | ⟨hb, h⟩
          · skip
            obtain ⟨I8, e1, h⟩ := bnd h
            have q9 : I8 b j = I b j := by rw [← Option.some.inj e1]; exact (up2_ff w1).trans rfl
            exact (ih l1 l2 (Mod_size (l2 - (2 * x5))) (l4 + 1) I8 h).trans q9
          · skip
            exact (ih l1 l2 l3 (l4 + 1) I h).trans rfl
      · skip
        exact (ih l1 l2 l3 (l4 + 1) I h).trans rfl
set_option maxRecDepth 8000 in
theorem fr_Mod_parts {N : Nat} {I : FI} {r : Int32 × FI} {b j : Nat} (w0 : ¬ (b = 204 ∧ j = 0)) (w1 : ¬ (b = 204 ∧ j = 34)) (h : Mod_parts N I = some r) : r.2 b j = I b j := by
  unfold Mod_parts at h
  obtain ⟨I1, e1, h⟩ := bnd h
  have q2 : I1 b j = I b j := by rw [← Option.some.inj e1]; exact (up2_ff w0).trans rfl
  obtain ⟨x3, hx, h⟩ := bnd h
  obtain ⟨x4, hx, h⟩ := bnd h
  exact (fr_Mod_parts_22 w0 w1 _ x3 x4 (-1) 0 I1 h).trans q2
set_option maxRecDepth 8000 in
theorem fr_Mod_parted {I : FI} {r : Int32 × FI} {b j : Nat} (w0 : ¬ (b = 204 ∧ j = 0)) (h : Mod_parted I = some r) : r.2 b j = I b j := by
  unfold Mod_parted at h
  obtain ⟨I1, e1, h⟩ := bnd h
  have q2 : I1 b j = I b j := by rw [← Option.some.inj e1]; exact (up2_ff w0).trans rfl
  obtain rfl := Option.some.inj h; exact q2
set_option maxRecDepth 8000 in
theorem fr_Mod_write {l1 : Int32} {I : FI} {r : FI} {b j : Nat} (w0 : b ≠ 221) (w1 : ¬ (b = 204 ∧ j = 36)) (h : Mod_write l1 I = some r) : r b j = I b j := by
  unfold Mod_write at h
  obtain ⟨hg1, h⟩ := grd h
  obtain ⟨I2, e1, h⟩ := bnd h
  have q3 : I2 b j = I b j := by rw [← Option.some.inj e1]; exact (up2_fa w0).trans rfl
  obtain ⟨I4, e1, h⟩ := bnd h
  have q5 : I4 b j = I b j := by rw [← Option.some.inj e1]; exact (up2_ff w1).trans q3
  obtain rfl := Option.some.inj h; exact q5
set_option maxRecDepth 8000 in
theorem fr_Mod_writeWord {R : Int64 → FI → Option (FI)} {N : Nat} {l1 : Int64} {I : FI} {r : FI} {b j : Nat} (hR : ∀ (l1 : Int64) (I : FI) (r : FI), R l1 I = some r → r b j = I b j) (w0 : b ≠ 221) (w1 : ¬ (b = 204 ∧ j = 36)) (h : Mod_writeWord R N l1 I = some r) : r b j = I b j := by
  unfold Mod_writeWord at h
  rcases iteC h with ⟨hb, h⟩ | ⟨hb, h⟩
  · skip
    obtain ⟨x1, hx, h⟩ := bnd h
    have q2 : x1 b j = I b j := (fr_Mod_write w0 w1 hx).trans rfl
    obtain rfl := Option.some.inj h; exact q2
  · skip
    obtain ⟨x3, hx, h⟩ := bnd h
    have q4 : x3 b j = I b j := (hR _ _ _ hx).trans rfl
    obtain ⟨x5, hx, h⟩ := bnd h
    have q6 : x5 b j = I b j := (fr_Mod_write w0 w1 hx).trans q4
    obtain rfl := Option.some.inj h; exact q6
set_option maxRecDepth 8000 in
theorem fr_Mod_writeWord_R {N : Nat} {b j : Nat} (w0 : b ≠ 221) (w1 : ¬ (b = 204 ∧ j = 36)) : ∀ (k : Nat) (l1 : Int64) (I : FI) (r : FI), Mod_writeWord_R N k l1 I = some r → r b j = I b j := by
  intro k
  induction k with
  | zero =>
    intro l1 I r h
    cases h
  | succ k ih =>
    intro l1 I r h
    exact fr_Mod_writeWord (N := N) (R := Mod_writeWord_R N k) ih w0 w1 h
set_option maxRecDepth 8000 in
theorem fr_Mod_writeNumber {R : Int32 → FI → Option (FI)} {N : Nat} {l1 : Int32} {I : FI} {r : FI} {b j : Nat} (hR : ∀ (l1 : Int32) (I : FI) (r : FI), R l1 I = some r → r b j = I b j) (w0 : b ≠ 221) (w1 : ¬ (b = 204 ∧ j = 36)) (h : Mod_writeNumber R N l1 I = some r) : r b j = I b j := by
  unfold Mod_writeNumber at h
  rcases iteC h with ⟨hb, h⟩ | ⟨hb, h⟩
  · skip
    obtain ⟨x1, hx, h⟩ := bnd h
    have q2 : x1 b j = I b j := (fr_Mod_write w0 w1 hx).trans rfl
    obtain rfl := Option.some.inj h; exact q2
  · skip
    obtain ⟨x3, hx, h⟩ := bnd h
    have q4 : x3 b j = I b j := (hR _ _ _ hx).trans rfl
    obtain ⟨x5, hx, h⟩ := bnd h
    have q6 : x5 b j = I b j := (fr_Mod_write w0 w1 hx).trans q4
    obtain rfl := Option.some.inj h; exact q6
set_option maxRecDepth 8000 in
theorem fr_Mod_writeNumber_R {N : Nat} {b j : Nat} (w0 : b ≠ 221) (w1 : ¬ (b = 204 ∧ j = 36)) : ∀ (k : Nat) (l1 : Int32) (I : FI) (r : FI), Mod_writeNumber_R N k l1 I = some r → r b j = I b j := by
  intro k
  induction k with
  | zero =>
    intro l1 I r h
    cases h
  | succ k ih =>
    intro l1 I r h
    exact fr_Mod_writeNumber (N := N) (R := Mod_writeNumber_R N k) ih w0 w1 h
set_option maxRecDepth 8000 in
theorem fr_Mod_writeNext {N : Nat} {l1 : Int64} {I : FI} {r : FI} {b j : Nat} (w0 : b ≠ 221) (w1 : ¬ (b = 204 ∧ j = 36)) (h : Mod_writeNext N l1 I = some r) : r b j = I b j := by
  unfold Mod_writeNext at h
  obtain ⟨x1, hx, h⟩ := bnd h
  have q2 : x1 b j = I b j := (fr_Mod_write w0 w1 hx).trans rfl
  obtain ⟨x3, hx, h⟩ := bnd h
  have q4 : x3 b j = I b j := (fr_Mod_writeWord_R w0 w1 dK _ _ _ hx).trans q2
  obtain rfl := Option.some.inj h; exact q4
set_option maxRecDepth 8000 in
theorem fr_Mod_label {N : Nat} {l1 : Int32} {I : FI} {J : FJ} {r : Int32 × FI} {b j : Nat} (w0 : b ≠ 221) (w1 : ¬ (b = 204 ∧ j = 0)) (w2 : ¬ (b = 204 ∧ j = 36)) (h : Mod_label N l1 I J = some r) : r.2 b j = I b j := by
  unfold Mod_label at h
  obtain ⟨I1, e1, h⟩ := bnd h
  have q2 : I1 b j = I b j := by rw [← Option.some.inj e1]; exact (up2_ff w1).trans rfl
  obtain ⟨x3, hx, h⟩ := bnd h
  rcases iteC h with ⟨hb, h⟩ | ⟨hb, h⟩
  rotate_left
  · skip
    obtain rfl := Option.some.inj h; exact q2
  · skip
    obtain ⟨I4, e1, h⟩ := bnd h
    have q5 : I4 b j = I b j := by rw [← Option.some.inj e1]; exact (up2_ff w2).trans q2
    obtain ⟨hg6, h⟩ := grd h
    obtain ⟨x7, hx, h⟩ := bnd h
    have q8 : x7 b j = I b j := (fr_Mod_writeWord_R w0 w2 dK _ _ _ hx).trans q5
    obtain ⟨x9, hx, h⟩ := bnd h
    have q10 : x9 b j = I b j := (fr_Mod_write w0 w2 hx).trans q8
    obtain ⟨hg11, h⟩ := grd h
    obtain ⟨x12, hx, h⟩ := bnd h
    have q13 : x12 b j = I b j := (fr_Mod_writeNumber_R w0 w2 dK _ _ _ hx).trans q10
    obtain ⟨hg14, h⟩ := grd h
    rcases iteC h with ⟨hb, h⟩ | ⟨hb, h⟩
    · skip
      obtain ⟨x15, hx, h⟩ := bnd h
      have q16 : x15 b j = I b j := (fr_Mod_writeNext w0 w2 hx).trans q13
      obtain ⟨x17, hx, h⟩ := bnd h
      have q18 : x17 b j = I b j := (fr_Mod_writeNext w0 w2 hx).trans q16
      obtain ⟨x19, hx, h⟩ := bnd h
      have q20 : x19 b j = I b j := (fr_Mod_writeNext w0 w2 hx).trans q18
      obtain rfl := Option.some.inj h; exact q20
    · skip
      rcases iteC h with ⟨hb, h⟩ | ⟨hb, h⟩
      · skip
        obtain ⟨x21, hx, h⟩ := bnd h
        have q22 : x21 b j = I b j := (fr_Mod_writeNext w0 w2 hx).trans q13
        obtain ⟨x23, hx, h⟩ := bnd h
        have q24 : x23 b j = I b j := (fr_Mod_writeNext w0 w2 hx).trans q22
        obtain ⟨hg25, h⟩ := grd h
        obtain ⟨hg26, h⟩ := grd h
        obtain ⟨x27, hx, h⟩ := bnd h
        have q28 : x27 b j = I b j := (fr_Mod_writeNext w0 w2 hx).trans q24
        obtain rfl := Option.some.inj h; exact q28
      · skip
        rcases iteC h with ⟨hb, h⟩ | ⟨hb, h⟩
        · skip
          obtain ⟨x29, hx, h⟩ := bnd h
          have q30 : x29 b j = I b j := (fr_Mod_writeNext w0 w2 hx).trans q13
          obtain rfl := Option.some.inj h; exact q30
        · skip
          obtain ⟨x31, hx, h⟩ := bnd h
          have q32 : x31 b j = I b j := (fr_Mod_writeNext w0 w2 hx).trans q13
          obtain rfl := Option.some.inj h; exact q32
set_option maxRecDepth 8000 in
theorem fr_Mod_byteAt {l1 : Int32} {I : FI} {r : Int32 × FI} {b j : Nat} (w0 : ¬ (b = 204 ∧ j = 0)) (h : Mod_byteAt l1 I = some r) : r.2 b j = I b j := by
  unfold Mod_byteAt at h
  obtain ⟨I1, e1, h⟩ := bnd h
  have q2 : I1 b j = I b j := by rw [← Option.some.inj e1]; exact (up2_ff w0).trans rfl
  rcases iteC h with ⟨hb, h⟩ | ⟨hb, h⟩
  rotate_left
  · skip
    obtain rfl := Option.some.inj h; exact q2
  · skip
    obtain ⟨hg3, h⟩ := grd h
    obtain rfl := Option.some.inj h; exact q2
set_option maxRecDepth 8000 in
theorem fr_Mod_odds_44 {N : Nat} {r : Int32 × FI} {b j : Nat} (w0 : b ≠ 206) (w1 : b ≠ 210) (w2 : ¬ (b = 204 ∧ j = 0)) (w3 : ¬ (b = 204 ∧ j = 25)) : ∀ (n : Nat) (l1 : Int32) (l2 : Int32) (l3 : Int32) (l4 : Int32) (l5 : Int32) (I : FI), Mod_odds_44 N n l1 l2 l3 l4 l5 I = some r → r.2 b j = I b j := by
  intro n
  induction n with
  | zero =>
    intro l1 l2 l3 l4 l5 I h
    cases h
  | succ n ih =>
    intro l1 l2 l3 l4 l5 I h
    unfold Mod_odds_44 at h
    rcases iteC h with ⟨hb, h⟩ | ⟨hb, h⟩
    · skip
      obtain rfl := Option.some.inj h; exact rfl
    · skip
      obtain ⟨x6, hx, h⟩ := bnd h
      have q7 : x6.2 b j = I b j := (fr_Mod_passNights w0 w3 hx).trans rfl
      obtain ⟨hg8, h⟩ := grd h
      rcases iteC h with ⟨hb, h⟩ | ⟨hb, h⟩
      · skip
        obtain ⟨x9, hx, h⟩ := bnd h
        have q10 : x9 b j = I b j := (fr_Mod_takeBack w0 hx).trans q7
        exact (ih l1 l2 l3 (l4 + 1) (l5 + 1) x9 h).trans q10
      · skip
        obtain ⟨x11, hx, h⟩ := bnd h
        have q12 : x11 b j = I b j := (fr_Mod_takeBack w0 hx).trans q7
        exact (ih l1 l2 l3 l4 (l5 + 1) x11 h).trans q12
set_option maxRecDepth 8000 in
theorem fr_Mod_odds {N : Nat} {l1 : Int32} {l2 : Int32} {l3 : Int32} {I : FI} {r : Int32 × FI} {b j : Nat} (w0 : b ≠ 206) (w1 : b ≠ 210) (w2 : ¬ (b = 204 ∧ j = 0)) (w3 : ¬ (b = 204 ∧ j = 25)) (h : Mod_odds N l1 l2 l3 I = some r) : r.2 b j = I b j := by
  unfold Mod_odds at h
  obtain ⟨I1, e1, h⟩ := bnd h
  have q2 : I1 b j = I b j := by rw [← Option.some.inj e1]; exact (up2_ff w2).trans rfl
  obtain ⟨x3, hx, h⟩ := bnd h
  rcases iteC h with ⟨hb, h⟩ | ⟨hb, h⟩
  rotate_left
  · skip
    obtain rfl := Option.some.inj h; exact q2
  · skip
    rcases iteC h with ⟨hb, h⟩ | ⟨hb, h⟩
    rotate_left
    · skip
      obtain rfl := Option.some.inj h; exact q2
    · skip
      rcases iteC h with ⟨hb, h⟩ | ⟨hb, h⟩
      · skip
        obtain rfl := Option.some.inj h; exact q2
      · skip
        obtain ⟨x4, hx, h⟩ := bnd h
        have q5 : x4 b j = I b j := (fr_Mod_layAside w1 hx).trans q2
        exact (fr_Mod_odds_44 w0 w1 w2 w3 _ l1 l2 l3 0 0 x4 h).trans q5
set_option maxRecDepth 8000 in
theorem fr_Mod_readMany {N : Nat} {l1 : Int32} {l2 : Int32} {l3 : Int32} {l4 : Int32} {I : FI} {J : FJ} {r : Bool × FI × FJ} {b j : Nat} (w0 : b ≠ 222) (w1 : ¬ (b = 204 ∧ j = 10)) (w2 : ¬ (b = 204 ∧ j = 11)) (w3 : ¬ (b = 204 ∧ j = 13)) (w4 : ¬ (b = 204 ∧ j = 5)) (w5 : ¬ (b = 204 ∧ j = 6)) (w6 : ¬ (b = 204 ∧ j = 7)) (w7 : ¬ (b = 204 ∧ j = 8)) (w8 : ¬ (b = 204 ∧ j = 9)) (h : Mod_readMany N l1 l2 l3 l4 I J = some r) : r.2.1 b j = I b j := by
  unfold Mod_readMany at h
  obtain ⟨hg1, h⟩ := grd h
  obtain ⟨I2, e1, h⟩ := bnd h
  have q3 : I2 b j = I b j := by rw [← Option.some.inj e1]; exact (up2_fa w0).trans rfl
  obtain ⟨x4, hx, h⟩ := bnd h
  have q5 : x4.1 b j = I b j := (fr_Mod_go w4 w5 w6 w7 w8 hx).trans q3
  obtain ⟨x6, hx, h⟩ := bnd h
  have q7 : x6.2.1 b j = I b j := (fr_Mod_readNumber w1 w2 w3 w4 w5 w6 w7 w8 hx).trans q5
  rcases iteC h with ⟨hb, h⟩ | ⟨hb, h⟩
  rotate_left
  · skip
    obtain rfl := Option.some.inj h; exact q7
  · skip
    obtain ⟨hg8, h⟩ := grd h
    obtain ⟨I9, e1, h⟩ := bnd h
    have q10 : I9 b j = I b j := by rw [← Option.some.inj e1]; exact (up2_fa w0).trans q7
    obtain rfl := Option.some.inj h; exact q10
set_option maxRecDepth 8000 in
theorem fr_Mod_readPlace {N : Nat} {l1 : Int32} {I : FI} {J : FJ} {r : Bool × FI × FJ} {b j : Nat} (w0 : b ≠ 222) (w1 : ¬ (b = 204 ∧ j = 10)) (w2 : ¬ (b = 204 ∧ j = 11)) (w3 : ¬ (b = 204 ∧ j = 13)) (w4 : ¬ (b = 204 ∧ j = 5)) (w5 : ¬ (b = 204 ∧ j = 6)) (w6 : ¬ (b = 204 ∧ j = 7)) (w7 : ¬ (b = 204 ∧ j = 8)) (w8 : ¬ (b = 204 ∧ j = 9)) (h : Mod_readPlace N l1 I J = some r) : r.2.1 b j = I b j := by
  unfold Mod_readPlace at h
  obtain ⟨x1, hx, h⟩ := bnd h
  have q2 : x1.2.1 b j = I b j := (fr_Mod_readNumber w1 w2 w3 w4 w5 w6 w7 w8 hx).trans rfl
  rcases iteC h with ⟨hb, h⟩ | ⟨hb, h⟩
  rotate_left
  · skip
    obtain rfl := Option.some.inj h; exact q2
  · skip
    obtain ⟨hg3, h⟩ := grd h
    obtain ⟨I4, e1, h⟩ := bnd h
    have q5 : I4 b j = I b j := by rw [← Option.some.inj e1]; exact (up2_fa w0).trans q2
    obtain ⟨x6, hx, h⟩ := bnd h
    have q7 : x6.2.1 b j = I b j := (fr_Mod_readNumber w1 w2 w3 w4 w5 w6 w7 w8 hx).trans q5
    rcases iteC h with ⟨hb, h⟩ | ⟨hb, h⟩
    rotate_left
    · skip
      obtain rfl := Option.some.inj h; exact q7
    · skip
      obtain ⟨hg8, h⟩ := grd h
      obtain ⟨I9, e1, h⟩ := bnd h
      have q10 : I9 b j = I b j := by rw [← Option.some.inj e1]; exact (up2_fa w0).trans q7
      obtain rfl := Option.some.inj h; exact q10
set_option maxRecDepth 8000 in
theorem fr_Mod_readDoes {N : Nat} {l1 : Int32} {I : FI} {J : FJ} {r : Bool × FI × FJ} {b j : Nat} (w0 : b ≠ 222) (w1 : ¬ (b = 204 ∧ j = 10)) (w2 : ¬ (b = 204 ∧ j = 11)) (w3 : ¬ (b = 204 ∧ j = 13)) (w4 : ¬ (b = 204 ∧ j = 5)) (w5 : ¬ (b = 204 ∧ j = 6)) (w6 : ¬ (b = 204 ∧ j = 7)) (w7 : ¬ (b = 204 ∧ j = 8)) (w8 : ¬ (b = 204 ∧ j = 9)) (h : Mod_readDoes N l1 I J = some r) : r.2.1 b j = I b j := by
  unfold Mod_readDoes at h
  rcases iteC h with ⟨hb, h⟩ | ⟨hb, h⟩
  rotate_left
  · skip
    rcases iteC h with ⟨hb, h⟩ | ⟨hb, h⟩
    rotate_left
    · skip
      obtain ⟨x1, hx, h⟩ := bnd h
      rcases iteC h with ⟨hb, h⟩ | ⟨hb, h⟩
      · skip
        obtain ⟨x2, hx, h⟩ := bnd h
        obtain ⟨hg3, h⟩ := grd h
        obtain ⟨I4, e1, h⟩ := bnd h
        have q5 : I4 b j = I b j := by rw [← Option.some.inj e1]; exact (up2_fa w0).trans rfl
        obtain ⟨x6, hx, h⟩ := bnd h
        have q7 : x6.1 b j = I b j := (fr_Mod_go w4 w5 w6 w7 w8 hx).trans q5
        rcases iteC h with ⟨hb, h⟩ | ⟨hb, h⟩
        · skip
          rcases iteC h with ⟨hb, h⟩ | ⟨hb, h⟩
          rotate_left
          · skip
            rcases iteC h with ⟨hb, h⟩ | ⟨hb, h⟩
            rotate_left
            · skip
              rcases iteC h with ⟨hb, h⟩ | ⟨hb, h⟩
              rotate_left
              · skip
                rcases iteC h with ⟨hb, h⟩ | ⟨hb, h⟩
                rotate_left
                · skip
                  obtain ⟨x8, hx, h⟩ := bnd h
                  have q9 : x8.2 b j = I b j := (fr_Mod_bad w1 w2 hx).trans q7
                  obtain rfl := Option.some.inj h; exact q9
                · skip
                  obtain ⟨hg10, h⟩ := grd h
                  obtain ⟨I11, e1, h⟩ := bnd h
                  have q12 : I11 b j = I b j := by rw [← Option.some.inj e1]; exact (up2_fa w0).trans q7
                  obtain ⟨x13, hx, h⟩ := bnd h
                  have q14 : x13.1 b j = I b j := (fr_Mod_go w4 w5 w6 w7 w8 hx).trans q12
                  obtain ⟨x15, hx, h⟩ := bnd h
                  rcases iteC h with ⟨hb, h⟩ | ⟨hb, h⟩
                  rotate_left
                  · skip
                    obtain ⟨x16, hx, h⟩ := bnd h
                    have q17 : x16.2 b j = I b j := (fr_Mod_bad w1 w2 hx).trans q14
                    obtain rfl := Option.some.inj h; exact q17
                  · skip
                    obtain ⟨x18, hx, h⟩ := bnd h
                    obtain ⟨hg19, h⟩ := grd h
                    obtain ⟨I20, e1, h⟩ := bnd h
                    have q21 : I20 b j = I b j := by rw [← Option.some.inj e1]; exact (up2_fa w0).trans q14
                    rcases iteC h with ⟨hb, h⟩ | ⟨hb, h⟩
                    · skip
                      obtain ⟨x22, hx, h⟩ := bnd h
                      have q23 : x22.2 b j = I b j := (fr_Mod_bad w1 w2 hx).trans q21
                      obtain rfl := Option.some.inj h; exact q23
                    · skip
                      obtain ⟨x24, hx, h⟩ := bnd h
                      have q25 : x24.1 b j = I b j := (fr_Mod_go w4 w5 w6 w7 w8 hx).trans q21
                      obtain rfl := Option.some.inj h; exact q25
              · skip
                obtain ⟨hg26, h⟩ := grd h
                obtain ⟨I27, e1, h⟩ := bnd h
                have q28 : I27 b j = I b j := by rw [← Option.some.inj e1]; exact (up2_fa w0).trans q7
                obtain ⟨x29, hx, h⟩ := bnd h
                have q30 : x29.1 b j = I b j := (fr_Mod_go w4 w5 w6 w7 w8 hx).trans q28
                obtain ⟨x31, hx, h⟩ := bnd h
                have q32 : x31.2.1 b j = I b j := (fr_Mod_readPlace w0 w1 w2 w3 w4 w5 w6 w7 w8 hx).trans q30
                obtain rfl := Option.some.inj h; exact q32
            · skip
              obtain ⟨hg33, h⟩ := grd h
              obtain ⟨I34, e1, h⟩ := bnd h
              have q35 : I34 b j = I b j := by rw [← Option.some.inj e1]; exact (up2_fa w0).trans q7
              obtain ⟨x36, hx, h⟩ := bnd h
              have q37 : x36.1 b j = I b j := (fr_Mod_go w4 w5 w6 w7 w8 hx).trans q35
              obtain rfl := Option.some.inj h; exact q37
          · skip
            obtain ⟨hg38, h⟩ := grd h
            obtain ⟨I39, e1, h⟩ := bnd h
            have q40 : I39 b j = I b j := by rw [← Option.some.inj e1]; exact (up2_fa w0).trans q7
            obtain ⟨x41, hx, h⟩ := bnd h
            have q42 : x41.1 b j = I b j := (fr_Mod_go w4 w5 w6 w7 w8 hx).trans q40
            obtain rfl := Option.some.inj h; exact q42
        · skip
          obtain ⟨hg43, h⟩ := grd h
          obtain ⟨I44, e1, h⟩ := bnd h
          have q45 : I44 b j = I b j := by rw [← Option.some.inj e1]; exact (up2_fa w0).trans q7
          rcases iteC h with ⟨hb, h⟩ | ⟨hb, h⟩
          rotate_left
          · skip
            obtain ⟨x46, hx, h⟩ := bnd h
            have q47 : x46.2 b j = I b j := (fr_Mod_bad w1 w2 hx).trans q45
            obtain rfl := Option.some.inj h; exact q47
          · skip
            obtain ⟨x48, hx, h⟩ := bnd h
            have q49 : x48.1 b j = I b j := (fr_Mod_go w4 w5 w6 w7 w8 hx).trans q45
            obtain ⟨x50, hx, h⟩ := bnd h
            have q51 : x50.2.1 b j = I b j := (fr_Mod_readPlace w0 w1 w2 w3 w4 w5 w6 w7 w8 hx).trans q49
            obtain rfl := Option.some.inj h; exact q51
      · skip
        obtain ⟨hg52, h⟩ := grd h
        obtain ⟨I53, e1, h⟩ := bnd h
        have q54 : I53 b j = I b j := by rw [← Option.some.inj e1]; exact (up2_fa w0).trans rfl
        obtain ⟨x55, hx, h⟩ := bnd h
        have q56 : x55.1 b j = I b j := (fr_Mod_go w4 w5 w6 w7 w8 hx).trans q54
        rcases iteC h with ⟨hb, h⟩ | ⟨hb, h⟩
        · skip
          rcases iteC h with ⟨hb, h⟩ | ⟨hb, h⟩
          rotate_left
          · skip
            rcases iteC h with ⟨hb, h⟩ | ⟨hb, h⟩
            rotate_left
            · skip
              rcases iteC h with ⟨hb, h⟩ | ⟨hb, h⟩
              rotate_left
              · skip
                rcases iteC h with ⟨hb, h⟩ | ⟨hb, h⟩
                rotate_left
                · skip
                  obtain ⟨x57, hx, h⟩ := bnd h
                  have q58 : x57.2 b j = I b j := (fr_Mod_bad w1 w2 hx).trans q56
                  obtain rfl := Option.some.inj h; exact q58
                · skip
                  obtain ⟨hg59, h⟩ := grd h
                  obtain ⟨I60, e1, h⟩ := bnd h
                  have q61 : I60 b j = I b j := by rw [← Option.some.inj e1]; exact (up2_fa w0).trans q56
                  obtain ⟨x62, hx, h⟩ := bnd h
                  have q63 : x62.1 b j = I b j := (fr_Mod_go w4 w5 w6 w7 w8 hx).trans q61
                  obtain ⟨x64, hx, h⟩ := bnd h
                  rcases iteC h with ⟨hb, h⟩ | ⟨hb, h⟩
                  rotate_left
                  · skip
                    obtain ⟨x65, hx, h⟩ := bnd h
                    have q66 : x65.2 b j = I b j := (fr_Mod_bad w1 w2 hx).trans q63
                    obtain rfl := Option.some.inj h; exact q66
                  · skip
                    obtain ⟨x67, hx, h⟩ := bnd h
                    obtain ⟨hg68, h⟩ := grd h
                    obtain ⟨I69, e1, h⟩ := bnd h
                    have q70 : I69 b j = I b j := by rw [← Option.some.inj e1]; exact (up2_fa w0).trans q63
                    rcases iteC h with ⟨hb, h⟩ | ⟨hb, h⟩
                    · skip
                      obtain ⟨x71, hx, h⟩ := bnd h
                      have q72 : x71.2 b j = I b j := (fr_Mod_bad w1 w2 hx).trans q70
                      obtain rfl := Option.some.inj h; exact q72
                    · skip
                      obtain ⟨x73, hx, h⟩ := bnd h
                      have q74 : x73.1 b j = I b j := (fr_Mod_go w4 w5 w6 w7 w8 hx).trans q70
                      obtain rfl := Option.some.inj h; exact q74
              · skip
                obtain ⟨hg75, h⟩ := grd h
                obtain ⟨I76, e1, h⟩ := bnd h
                have q77 : I76 b j = I b j := by rw [← Option.some.inj e1]; exact (up2_fa w0).trans q56
                obtain ⟨x78, hx, h⟩ := bnd h
                have q79 : x78.1 b j = I b j := (fr_Mod_go w4 w5 w6 w7 w8 hx).trans q77
                obtain ⟨x80, hx, h⟩ := bnd h
                have q81 : x80.2.1 b j = I b j := (fr_Mod_readPlace w0 w1 w2 w3 w4 w5 w6 w7 w8 hx).trans q79
                obtain rfl := Option.some.inj h; exact q81
            · skip
              obtain ⟨hg82, h⟩ := grd h
              obtain ⟨I83, e1, h⟩ := bnd h
              have q84 : I83 b j = I b j := by rw [← Option.some.inj e1]; exact (up2_fa w0).trans q56
              obtain ⟨x85, hx, h⟩ := bnd h
              have q86 : x85.1 b j = I b j := (fr_Mod_go w4 w5 w6 w7 w8 hx).trans q84
              obtain rfl := Option.some.inj h; exact q86
          · skip
            obtain ⟨hg87, h⟩ := grd h
            obtain ⟨I88, e1, h⟩ := bnd h
            have q89 : I88 b j = I b j := by rw [← Option.some.inj e1]; exact (up2_fa w0).trans q56
            obtain ⟨x90, hx, h⟩ := bnd h
            have q91 : x90.1 b j = I b j := (fr_Mod_go w4 w5 w6 w7 w8 hx).trans q89
            obtain rfl := Option.some.inj h; exact q91
        · skip
          obtain ⟨hg92, h⟩ := grd h
          obtain ⟨I93, e1, h⟩ := bnd h
          have q94 : I93 b j = I b j := by rw [← Option.some.inj e1]; exact (up2_fa w0).trans q56
          rcases iteC h with ⟨hb, h⟩ | ⟨hb, h⟩
          rotate_left
          · skip
            obtain ⟨x95, hx, h⟩ := bnd h
            have q96 : x95.2 b j = I b j := (fr_Mod_bad w1 w2 hx).trans q94
            obtain rfl := Option.some.inj h; exact q96
          · skip
            obtain ⟨x97, hx, h⟩ := bnd h
            have q98 : x97.1 b j = I b j := (fr_Mod_go w4 w5 w6 w7 w8 hx).trans q94
            obtain ⟨x99, hx, h⟩ := bnd h
            have q100 : x99.2.1 b j = I b j := (fr_Mod_readPlace w0 w1 w2 w3 w4 w5 w6 w7 w8 hx).trans q98
            obtain rfl := Option.some.inj h; exact q100
    · skip
      obtain ⟨x101, hx, h⟩ := bnd h
      have q102 : x101.2.1 b j = I b j := (fr_Mod_readMany w0 w1 w2 w3 w4 w5 w6 w7 w8 hx).trans rfl
      obtain rfl := Option.some.inj h; exact q102
  · skip
    obtain ⟨x103, hx, h⟩ := bnd h
    have q104 : x103.2.1 b j = I b j := (fr_Mod_readMany w0 w1 w2 w3 w4 w5 w6 w7 w8 hx).trans rfl
    obtain rfl := Option.some.inj h; exact q104
set_option maxRecDepth 8000 in
theorem fr_Mod_readBookLine {N : Nat} {I : FI} {J : FJ} {r : Bool × FI × FJ} {b j : Nat} (w0 : b ≠ 222) (w1 : ¬ (b = 204 ∧ j = 10)) (w2 : ¬ (b = 204 ∧ j = 11)) (w3 : ¬ (b = 204 ∧ j = 13)) (w4 : ¬ (b = 204 ∧ j = 5)) (w5 : ¬ (b = 204 ∧ j = 6)) (w6 : ¬ (b = 204 ∧ j = 7)) (w7 : ¬ (b = 204 ∧ j = 8)) (w8 : ¬ (b = 204 ∧ j = 9)) (h : Mod_readBookLine N I J = some r) : r.2.1 b j = I b j := by
  unfold Mod_readBookLine at h
  rcases iteC h with ⟨hb, h⟩ | ⟨hb, h⟩
  rotate_left
  · skip
    rcases iteC h with ⟨hb, h⟩ | ⟨hb, h⟩
    rotate_left
    · skip
      obtain ⟨x1, hx, h⟩ := bnd h
      rcases iteC h with ⟨hb, h⟩ | ⟨hb, h⟩
      rotate_left
      · skip
        obtain ⟨x2, hx, h⟩ := bnd h
        have q3 : x2.2 b j = I b j := (fr_Mod_bad w1 w2 hx).trans rfl
        obtain rfl := Option.some.inj h; exact q3
      · skip
        obtain ⟨x4, hx, h⟩ := bnd h
        rcases iteC h with ⟨hb, h⟩ | ⟨hb, h⟩
        · skip
          obtain ⟨x5, hx, h⟩ := bnd h
          rcases iteC h with ⟨hb, h⟩ | ⟨hb, h⟩
          · skip
            obtain ⟨x6, hx, h⟩ := bnd h
            have q7 : x6.2 b j = I b j := (fr_Mod_bad w1 w2 hx).trans rfl
            obtain rfl := Option.some.inj h; exact q7
          · skip
            rcases iteC h with ⟨hb, h⟩ | ⟨hb, h⟩
            · skip
              obtain ⟨x8, hx, h⟩ := bnd h
              have q9 : x8.2 b j = I b j := (fr_Mod_bad w1 w2 hx).trans rfl
              obtain rfl := Option.some.inj h; exact q9
            · skip
              obtain ⟨x10, hx, h⟩ := bnd h
              have q11 : x10.2.1 b j = I b j := (fr_Mod_readDoes w0 w1 w2 w3 w4 w5 w6 w7 w8 hx).trans rfl
              rcases iteC h with ⟨hb, h⟩ | ⟨hb, h⟩
              rotate_left
              · skip
                obtain rfl := Option.some.inj h; exact q11
              · skip
                obtain ⟨x12, hx, h⟩ := bnd h
                have q13 : x12.2.1 b j = I b j := (fr_Mod_readEnd w1 w2 w4 w5 w6 w7 w8 hx).trans q11
                rcases iteC h with ⟨hb, h⟩ | ⟨hb, h⟩
                rotate_left
                · skip
                  obtain rfl := Option.some.inj h; exact q13
                · skip
                  obtain rfl := Option.some.inj h; exact q13
        · skip
          rcases iteC h with ⟨hb, h⟩ | ⟨hb, h⟩
          · skip
            obtain ⟨x14, hx, h⟩ := bnd h
            have q15 : x14.2 b j = I b j := (fr_Mod_bad w1 w2 hx).trans rfl
            obtain rfl := Option.some.inj h; exact q15
          · skip
            obtain ⟨x16, hx, h⟩ := bnd h
            have q17 : x16.2.1 b j = I b j := (fr_Mod_readDoes w0 w1 w2 w3 w4 w5 w6 w7 w8 hx).trans rfl
            rcases iteC h with ⟨hb, h⟩ | ⟨hb, h⟩
            rotate_left
            · skip
              obtain rfl := Option.some.inj h; exact q17
            · skip
              obtain ⟨x18, hx, h⟩ := bnd h
              have q19 : x18.2.1 b j = I b j := (fr_Mod_readEnd w1 w2 w4 w5 w6 w7 w8 hx).trans q17
              rcases iteC h with ⟨hb, h⟩ | ⟨hb, h⟩
              rotate_left
              · skip
                obtain rfl := Option.some.inj h; exact q19
              · skip
                obtain rfl := Option.some.inj h; exact q19
    · skip
      rcases iteC h with ⟨hb, h⟩ | ⟨hb, h⟩
      · skip
        obtain ⟨x20, hx, h⟩ := bnd h
        have q21 : x20.2 b j = I b j := (fr_Mod_bad w1 w2 hx).trans rfl
        obtain rfl := Option.some.inj h; exact q21
      · skip
        obtain ⟨x22, hx, h⟩ := bnd h
        have q23 : x22.2.1 b j = I b j := (fr_Mod_readDoes w0 w1 w2 w3 w4 w5 w6 w7 w8 hx).trans rfl
        rcases iteC h with ⟨hb, h⟩ | ⟨hb, h⟩
        rotate_left
        · skip
          obtain rfl := Option.some.inj h; exact q23
        · skip
          obtain ⟨x24, hx, h⟩ := bnd h
          have q25 : x24.2.1 b j = I b j := (fr_Mod_readEnd w1 w2 w4 w5 w6 w7 w8 hx).trans q23
          rcases iteC h with ⟨hb, h⟩ | ⟨hb, h⟩
          rotate_left
          · skip
            obtain rfl := Option.some.inj h; exact q25
          · skip
            obtain rfl := Option.some.inj h; exact q25
  · skip
    rcases iteC h with ⟨hb, h⟩ | ⟨hb, h⟩
    · skip
      obtain ⟨x26, hx, h⟩ := bnd h
      have q27 : x26.2 b j = I b j := (fr_Mod_bad w1 w2 hx).trans rfl
      obtain rfl := Option.some.inj h; exact q27
    · skip
      obtain ⟨x28, hx, h⟩ := bnd h
      have q29 : x28.2.1 b j = I b j := (fr_Mod_readDoes w0 w1 w2 w3 w4 w5 w6 w7 w8 hx).trans rfl
      rcases iteC h with ⟨hb, h⟩ | ⟨hb, h⟩
      rotate_left
      · skip
        obtain rfl := Option.some.inj h; exact q29
      · skip
        obtain ⟨x30, hx, h⟩ := bnd h
        have q31 : x30.2.1 b j = I b j := (fr_Mod_readEnd w1 w2 w4 w5 w6 w7 w8 hx).trans q29
        rcases iteC h with ⟨hb, h⟩ | ⟨hb, h⟩
        rotate_left
        · skip
          obtain rfl := Option.some.inj h; exact q31
        · skip
          obtain rfl := Option.some.inj h; exact q31
set_option maxRecDepth 8000 in
theorem fr_Mod_live {N : Nat} {l1 : Int32} {I : FI} {r : FI} {b j : Nat} (w0 : b ≠ 206) (w1 : ¬ (b = 204 ∧ j = 25)) (h : Mod_live N l1 I = some r) : r b j = I b j := by
  unfold Mod_live at h
  obtain ⟨hg1, h⟩ := grd h
  obtain ⟨hg2, h⟩ := grd h
  obtain ⟨hg3, h⟩ := grd h
  obtain ⟨hg4, h⟩ := grd h
  rcases iteC h with ⟨hb, h⟩ | ⟨hb, h⟩
  · skip
    obtain ⟨x5, hx, h⟩ := bnd h
    have q6 : x5.2 b j = I b j := (fr_Mod_doDig w0 hx).trans rfl
    obtain rfl := Option.some.inj h; exact q6
  rcases iteC h with ⟨hb, h⟩ | ⟨hb, h⟩
  · skip
    obtain ⟨hg7, h⟩ := grd h
    obtain ⟨I8, e1, h⟩ := bnd h
    have q9 : I8 b j = I b j := by rw [← Option.some.inj e1]; exact (up2_fa w0).trans rfl
    obtain rfl := Option.some.inj h; exact q9
  rcases iteC h with ⟨hb, h⟩ | ⟨hb, h⟩
  · skip
    obtain ⟨x10, hx, h⟩ := bnd h
    have q11 : x10 b j = I b j := (fr_Mod_doSell w0 hx).trans rfl
    obtain rfl := Option.some.inj h; exact q11
  rcases iteC h with ⟨hb, h⟩ | ⟨hb, h⟩
  · skip
    obtain ⟨x12, hx, h⟩ := bnd h
    have q13 : x12 b j = I b j := (fr_Mod_doLay w0 hx).trans rfl
    obtain rfl := Option.some.inj h; exact q13
  rcases iteC h with ⟨hb, h⟩ | ⟨hb, h⟩
  · skip
    obtain ⟨hg14, h⟩ := grd h
    obtain ⟨I15, e1, h⟩ := bnd h
    have q16 : I15 b j = I b j := by rw [← Option.some.inj e1]; exact (up2_fa w0).trans rfl
    obtain rfl := Option.some.inj h; exact q16
  rcases iteC h with ⟨hb, h⟩ | ⟨hb, h⟩
  · skip
    obtain ⟨x17, hx, h⟩ := bnd h
    have q18 : x17.2 b j = I b j := (fr_Mod_passNights w0 w1 hx).trans rfl
    obtain rfl := Option.some.inj h; exact q18
  obtain ⟨I19, e1, h⟩ := bnd h
  have q20 : I19 b j = I b j := by rw [← Option.some.inj e1]; exact (up2_ff w1).trans rfl
  obtain ⟨x21, hx, h⟩ := bnd h
  have q22 : x21.2 b j = I b j := (fr_Mod_doPlough w0 w1 hx).trans q20
  obtain rfl := Option.some.inj h; exact q22
set_option maxRecDepth 8000 in
theorem fr_Mod_stay_2 {N : Nat} {b1 : Bool} {r : FI} {b j : Nat} (w0 : b ≠ 206) (w1 : b ≠ 209) (w2 : b ≠ 210) (w3 : ¬ (b = 204 ∧ j = 24)) : ∀ (n : Nat) (l2 : Int32) (I : FI), Mod_stay_2 N b1 n l2 I = some r → r b j = I b j := by
  intro n
  induction n with
  | zero =>
    intro l2 I h
    cases h
  | succ n ih =>
    intro l2 I h
    unfold Mod_stay_2 at h
    rcases iteC h with ⟨hb, h⟩ | ⟨hb, h⟩
    · skip
      rcases iteC h with ⟨hb, h⟩ | ⟨hb, h⟩
      rotate_left
      · skip
        obtain rfl := Option.some.inj h; exact rfl
      · skip
        obtain ⟨x1, hx, h⟩ := bnd h
        have q2 : x1 b j = I b j := (fr_Mod_snap w1 w3 hx).trans rfl
        obtain ⟨x3, hx, h⟩ := bnd h
        have q4 : x3 b j = I b j := (fr_Mod_takeBack w0 hx).trans q2
        obtain rfl := Option.some.inj h; exact q4
    · skip
      obtain ⟨hg5, h⟩ := grd h
      obtain ⟨hg6, h⟩ := grd h
      obtain ⟨I7, e1, h⟩ := bnd h
      have q8 : I7 b j = I b j := by rw [← Option.some.inj e1]; exact (up2_fa w0).trans rfl
      obtain ⟨I9, e1, h⟩ := bnd h
      have q10 : I9 b j = I b j := by rw [← Option.some.inj e1]; exact (up2_fa w2).trans q8
      exact (ih (l2 + 1) I9 h).trans q10
set_option maxRecDepth 8000 in
theorem fr_Mod_stay {N : Nat} {b1 : Bool} {I : FI} {r : FI} {b j : Nat} (w0 : b ≠ 206) (w1 : b ≠ 209) (w2 : b ≠ 210) (w3 : ¬ (b = 204 ∧ j = 24)) (h : Mod_stay N b1 I = some r) : r b j = I b j := by
  unfold Mod_stay at h
  exact (fr_Mod_stay_2 w0 w1 w2 w3 _ 0 I h).trans rfl
set_option maxRecDepth 8000 in
theorem fr_Mod_book_73 {N : Nat} {r : Int32 × FI × FJ} {b j : Nat} (w0 : b ≠ 206) (w1 : b ≠ 209) (w2 : b ≠ 210) (w3 : b ≠ 222) (w4 : b ≠ 223) (w5 : ¬ (b = 204 ∧ j = 0)) (w6 : ¬ (b = 204 ∧ j = 10)) (w7 : ¬ (b = 204 ∧ j = 11)) (w8 : ¬ (b = 204 ∧ j = 13)) (w9 : ¬ (b = 204 ∧ j = 2)) (w10 : ¬ (b = 204 ∧ j = 24)) (w11 : ¬ (b = 204 ∧ j = 25)) (w12 : ¬ (b = 204 ∧ j = 3)) (w13 : ¬ (b = 204 ∧ j = 39)) (w14 : ¬ (b = 204 ∧ j = 4)) (w15 : ¬ (b = 204 ∧ j = 40)) (w16 : ¬ (b = 204 ∧ j = 5)) (w17 : ¬ (b = 204 ∧ j = 6)) (w18 : ¬ (b = 204 ∧ j = 7)) (w19 : ¬ (b = 204 ∧ j = 8)) (w20 : ¬ (b = 204 ∧ j = 9)) : ∀ (n : Nat) (l1 : Int32) (l2 : Int32) (l3 : Int32) (I : FI) (J : FJ), Mod_book_73 N n l1 l2 l3 I J = some r → r.2.1 b j = I b j := by
  intro n
  induction n with
  | zero =>
    intro l1 l2 l3 I J h
    cases h
  | succ n ih =>
    intro l1 l2 l3 I J h
    unfold Mod_book_73 at h
    rcases iteC h with ⟨hb, h⟩ | ⟨hb, h⟩
    · skip
      obtain ⟨I9, e1, h⟩ := bnd h
      have q10 : I9 b j = I b j := by rw [← Option.some.inj e1]; exact (up2_fa w4).trans rfl
      obtain ⟨I11, e1, h⟩ := bnd h
      have q12 : I11 b j = I b j := by rw [← Option.some.inj e1]; exact (up2_fa w4).trans q10
      obtain ⟨I13, e1, h⟩ := bnd h
      have q14 : I13 b j = I b j := by rw [← Option.some.inj e1]; exact (up2_fa w4).trans q12
      obtain ⟨x15, hx, h⟩ := bnd h
      obtain ⟨I16, e1, h⟩ := bnd h
      have q17 : I16 b j = I b j := by rw [← Option.some.inj e1]; exact (up2_fa w4).trans q14
      obtain ⟨I18, e1, h⟩ := bnd h
      have q19 : I18 b j = I b j := by rw [← Option.some.inj e1]; exact (up2_ff w15).trans q17
      rcases iteC h with ⟨hb, h⟩ | ⟨hb, h⟩
      · skip
        rcases iteC h with ⟨hb, h⟩ | ⟨hb, h⟩
        · skip
          obtain ⟨x20, hx, h⟩ := bnd h
          have q21 : x20 b j = I b j := (fr_Mod_stay w0 w1 w2 w10 hx).trans q19
          rcases iteC h with ⟨hb, h⟩ | ⟨hb, h⟩
          · skip
            obtain rfl := Option.some.inj h; exact q21
          · skip
            obtain rfl := Option.some.inj h; exact q21
        · skip
          obtain ⟨x22, hx, h⟩ := bnd h
          have q23 : x22 b j = I b j := (fr_Mod_stay w0 w1 w2 w10 hx).trans q19
          rcases iteC h with ⟨hb, h⟩ | ⟨hb, h⟩
          · skip
            obtain rfl := Option.some.inj h; exact q23
          · skip
            obtain rfl := Option.some.inj h; exact q23
      · skip
        obtain ⟨x24, hx, h⟩ := bnd h
        have q25 : x24 b j = I b j := (fr_Mod_stay w0 w1 w2 w10 hx).trans q19
        rcases iteC h with ⟨hb, h⟩ | ⟨hb, h⟩
        · skip
          obtain rfl := Option.some.inj h; exact q25
        · skip
          obtain rfl := Option.some.inj h; exact q25
    · skip
      rcases iteC h with ⟨hb, h⟩ | ⟨hb, h⟩
      · skip
        obtain ⟨x26, hx, h⟩ := bnd h
        rcases iteC h with ⟨hb, h⟩ | ⟨hb, h⟩
        · skip
          obtain ⟨x27, hx, h⟩ := bnd h
          have q28 : x27 b j = I b j := (fr_Mod_live w0 w11 hx).trans rfl
          exact (ih l1 (l2 + 1) x26 x27 J h).trans q28
        · skip
          obtain ⟨hg29, h⟩ := grd h
          exact (ih l1 l2 (x26 + (10 * (I 222 ((4 * l2).toNatClampNeg)))) I J h).trans rfl
      · skip
        obtain ⟨I30, e1, h⟩ := bnd h
        have q31 : I30 b j = I b j := by rw [← Option.some.inj e1]; exact (up2_fa w4).trans rfl
        obtain ⟨I32, e1, h⟩ := bnd h
        have q33 : I32 b j = I b j := by rw [← Option.some.inj e1]; exact (up2_fa w4).trans q31
        obtain ⟨I34, e1, h⟩ := bnd h
        have q35 : I34 b j = I b j := by rw [← Option.some.inj e1]; exact (up2_fa w4).trans q33
        obtain ⟨x36, hx, h⟩ := bnd h
        obtain ⟨I37, e1, h⟩ := bnd h
        have q38 : I37 b j = I b j := by rw [← Option.some.inj e1]; exact (up2_fa w4).trans q35
        obtain ⟨I39, e1, h⟩ := bnd h
        have q40 : I39 b j = I b j := by rw [← Option.some.inj e1]; exact (up2_ff w15).trans q38
        rcases iteC h with ⟨hb, h⟩ | ⟨hb, h⟩
        · skip
          rcases iteC h with ⟨hb, h⟩ | ⟨hb, h⟩
          · skip
            obtain ⟨x41, hx, h⟩ := bnd h
            have q42 : x41 b j = I b j := (fr_Mod_stay w0 w1 w2 w10 hx).trans q40
            rcases iteC h with ⟨hb, h⟩ | ⟨hb, h⟩
            · skip
              obtain rfl := Option.some.inj h; exact q42
            · skip
              obtain rfl := Option.some.inj h; exact q42
          · skip
            obtain ⟨x43, hx, h⟩ := bnd h
            have q44 : x43 b j = I b j := (fr_Mod_stay w0 w1 w2 w10 hx).trans q40
            rcases iteC h with ⟨hb, h⟩ | ⟨hb, h⟩
            · skip
              obtain rfl := Option.some.inj h; exact q44
            · skip
              obtain rfl := Option.some.inj h; exact q44
        · skip
          obtain ⟨x45, hx, h⟩ := bnd h
          have q46 : x45 b j = I b j := (fr_Mod_stay w0 w1 w2 w10 hx).trans q40
          rcases iteC h with ⟨hb, h⟩ | ⟨hb, h⟩
          · skip
            obtain rfl := Option.some.inj h; exact q46
          · skip
            obtain rfl := Option.some.inj h; exact q46
set_option maxRecDepth 8000 in
theorem fr_Mod_book_30 {N : Nat} {r : Int32 × FI × FJ} {b j : Nat} (w0 : b ≠ 206) (w1 : b ≠ 209) (w2 : b ≠ 210) (w3 : b ≠ 222) (w4 : b ≠ 223) (w5 : ¬ (b = 204 ∧ j = 0)) (w6 : ¬ (b = 204 ∧ j = 10)) (w7 : ¬ (b = 204 ∧ j = 11)) (w8 : ¬ (b = 204 ∧ j = 13)) (w9 : ¬ (b = 204 ∧ j = 2)) (w10 : ¬ (b = 204 ∧ j = 24)) (w11 : ¬ (b = 204 ∧ j = 25)) (w12 : ¬ (b = 204 ∧ j = 3)) (w13 : ¬ (b = 204 ∧ j = 39)) (w14 : ¬ (b = 204 ∧ j = 4)) (w15 : ¬ (b = 204 ∧ j = 40)) (w16 : ¬ (b = 204 ∧ j = 5)) (w17 : ¬ (b = 204 ∧ j = 6)) (w18 : ¬ (b = 204 ∧ j = 7)) (w19 : ¬ (b = 204 ∧ j = 8)) (w20 : ¬ (b = 204 ∧ j = 9)) : ∀ (n : Nat) (l1 : Int32) (I : FI) (J : FJ), Mod_book_30 N n l1 I J = some r → r.2.1 b j = I b j := by
  intro n
  induction n with
  | zero =>
    intro l1 I J h
    cases h
  | succ n ih =>
    intro l1 I J h
    unfold Mod_book_30 at h
    rcases iteC h with ⟨hb, h⟩ | ⟨hb, h⟩
    · skip
      obtain ⟨x7, hx, h⟩ := bnd h
      have q8 : x7 b j = I b j := (fr_Mod_layAside w2 hx).trans rfl
      exact (fr_Mod_book_73 w0 w1 w2 w3 w4 w5 w6 w7 w8 w9 w10 w11 w12 w13 w14 w15 w16 w17 w18 w19 w20 _ l1 0 0 x7 J h).trans q8
    · skip
      obtain ⟨x47, hx, h⟩ := bnd h
      have q48 : x47.2.1 b j = I b j := (fr_Mod_readBookLine w3 w6 w7 w8 w16 w17 w18 w19 w20 hx).trans rfl
      rcases iteC h with ⟨hb, h⟩ | ⟨hb, h⟩
      rotate_left
      · skip
        obtain rfl := Option.some.inj h; exact q48
      · skip
        obtain ⟨I49, e1, h⟩ := bnd h
        have q50 : I49 b j = I b j := by rw [← Option.some.inj e1]; exact (up2_ff w13).trans q48
        exact (ih l1 I49 x47.2.2 h).trans q50
set_option maxRecDepth 8000 in
theorem fr_Mod_book {N : Nat} {l1 : Int32} {I : FI} {J : FJ} {r : Int32 × FI × FJ} {b j : Nat} (w0 : b ≠ 206) (w1 : b ≠ 209) (w2 : b ≠ 210) (w3 : b ≠ 222) (w4 : b ≠ 223) (w5 : ¬ (b = 204 ∧ j = 0)) (w6 : ¬ (b = 204 ∧ j = 10)) (w7 : ¬ (b = 204 ∧ j = 11)) (w8 : ¬ (b = 204 ∧ j = 13)) (w9 : ¬ (b = 204 ∧ j = 2)) (w10 : ¬ (b = 204 ∧ j = 24)) (w11 : ¬ (b = 204 ∧ j = 25)) (w12 : ¬ (b = 204 ∧ j = 3)) (w13 : ¬ (b = 204 ∧ j = 39)) (w14 : ¬ (b = 204 ∧ j = 4)) (w15 : ¬ (b = 204 ∧ j = 40)) (w16 : ¬ (b = 204 ∧ j = 5)) (w17 : ¬ (b = 204 ∧ j = 6)) (w18 : ¬ (b = 204 ∧ j = 7)) (w19 : ¬ (b = 204 ∧ j = 8)) (w20 : ¬ (b = 204 ∧ j = 9)) (h : Mod_book N l1 I J = some r) : r.2.1 b j = I b j := by
  unfold Mod_book at h
  obtain ⟨I1, e1, h⟩ := bnd h
  have q2 : I1 b j = I b j := by rw [← Option.some.inj e1]; exact (up2_ff w5).trans rfl
  rcases iteC h with ⟨hb, h⟩ | ⟨hb, h⟩
  rotate_left
  · skip
    obtain rfl := Option.some.inj h; exact q2
  · skip
    obtain ⟨x3, hx, h⟩ := bnd h
    have q4 : x3.1 b j = I b j := (fr_Mod_begin w5 w6 w9 w12 w14 w16 w17 w18 w19 w20 hx).trans q2
    obtain ⟨I5, e1, h⟩ := bnd h
    have q6 : I5 b j = I b j := by rw [← Option.some.inj e1]; exact (up2_ff w13).trans q4
    exact (fr_Mod_book_30 w0 w1 w2 w3 w4 w5 w6 w7 w8 w9 w10 w11 w12 w13 w14 w15 w16 w17 w18 w19 w20 _ l1 I5 x3.2 h).trans q6
set_option maxRecDepth 8000 in
theorem fr_Mod_told {l1 : Int32} {I : FI} {r : Int32 × FI} {b j : Nat} (w0 : ¬ (b = 204 ∧ j = 0)) (h : Mod_told l1 I = some r) : r.2 b j = I b j := by
  unfold Mod_told at h
  obtain ⟨I1, e1, h⟩ := bnd h
  have q2 : I1 b j = I b j := by rw [← Option.some.inj e1]; exact (up2_ff w0).trans rfl
  rcases iteC h with ⟨hb, h⟩ | ⟨hb, h⟩
  · skip
    obtain rfl := Option.some.inj h; exact q2
  · skip
    rcases iteC h with ⟨hb, h⟩ | ⟨hb, h⟩
    rotate_left
    · skip
      obtain rfl := Option.some.inj h; exact q2
    · skip
      obtain ⟨hg3, h⟩ := grd h
      obtain rfl := Option.some.inj h; exact q2
set_option maxRecDepth 8000 in
theorem fr_Mod_saysOne {l1 : Int32} {l2 : Int32} {l3 : Int32} {l4 : Int32} {I : FI} {r : Int32 × FI} {b j : Nat} (w0 : b ≠ 224) (w1 : ¬ (b = 204 ∧ j = 42)) (h : Mod_saysOne l1 l2 l3 l4 I = some r) : r.2 b j = I b j := by
  unfold Mod_saysOne at h
  obtain ⟨hg1, h⟩ := grd h
  obtain ⟨I2, e1, h⟩ := bnd h
  have q3 : I2 b j = I b j := by rw [← Option.some.inj e1]; exact (up2_fa w0).trans rfl
  obtain ⟨hg4, h⟩ := grd h
  obtain ⟨I5, e1, h⟩ := bnd h
  have q6 : I5 b j = I b j := by rw [← Option.some.inj e1]; exact (up2_fa w0).trans q3
  obtain ⟨hg7, h⟩ := grd h
  obtain ⟨I8, e1, h⟩ := bnd h
  have q9 : I8 b j = I b j := by rw [← Option.some.inj e1]; exact (up2_fa w0).trans q6
  obtain ⟨hg10, h⟩ := grd h
  obtain ⟨I11, e1, h⟩ := bnd h
  have q12 : I11 b j = I b j := by rw [← Option.some.inj e1]; exact (up2_fa w0).trans q9
  obtain ⟨I13, e1, h⟩ := bnd h
  have q14 : I13 b j = I b j := by rw [← Option.some.inj e1]; exact (up2_ff w1).trans q12
  obtain rfl := Option.some.inj h; exact q14
set_option maxRecDepth 8000 in
theorem fr_Mod_readAnd_14 {R : FI → FJ → Option (Bool × FI × FJ)} {N : Nat} {r : Bool × FI × FJ} {b j : Nat} (hR : ∀ (I : FI) (J : FJ) (r : Bool × FI × FJ), R I J = some r → r.2.1 b j = I b j) (w0 : b ≠ 224) (w1 : ¬ (b = 204 ∧ j = 10)) (w2 : ¬ (b = 204 ∧ j = 11)) (w3 : ¬ (b = 204 ∧ j = 13)) (w4 : ¬ (b = 204 ∧ j = 42)) (w5 : ¬ (b = 204 ∧ j = 43)) (w6 : ¬ (b = 204 ∧ j = 44)) (w7 : ¬ (b = 204 ∧ j = 45)) (w8 : ¬ (b = 204 ∧ j = 5)) (w9 : ¬ (b = 204 ∧ j = 6)) (w10 : ¬ (b = 204 ∧ j = 7)) (w11 : ¬ (b = 204 ∧ j = 8)) (w12 : ¬ (b = 204 ∧ j = 9)) : ∀ (n : Nat) (l1 : Int32) (I : FI) (J : FJ), Mod_readAnd_14 R N n l1 I J = some r → r.2.1 b j = I b j := by
  intro n
  induction n with
  | zero =>
    intro l1 I J h
    cases h
  | succ n ih =>
    intro l1 I J h
    unfold Mod_readAnd_14 at h
    rcases iteC h with ⟨hb, h⟩ | ⟨hb, h⟩
    rotate_left
    · skip
      obtain ⟨I3, e1, h⟩ := bnd h
      have q4 : I3 b j = I b j := by rw [← Option.some.inj e1]; exact (up2_ff w7).trans rfl
      obtain rfl := Option.some.inj h; exact q4
    · skip
      obtain ⟨x5, hx, h⟩ := bnd h
      have q6 : x5.1 b j = I b j := (fr_Mod_go w8 w9 w10 w11 w12 hx).trans rfl
      obtain ⟨x7, hx, h⟩ := bnd h
      have q8 : x7.2.1 b j = I b j := (hR _ _ _ hx).trans q6
      rcases iteC h with ⟨hb, h⟩ | ⟨hb, h⟩
      rotate_left
      · skip
        obtain rfl := Option.some.inj h; exact q8
      · skip
        obtain ⟨x9, hx, h⟩ := bnd h
        have q10 : x9.2 b j = I b j := (fr_Mod_saysOne w0 w4 hx).trans q8
        exact (ih x9.1 x9.2 x7.2.2 h).trans q10
set_option maxRecDepth 8000 in
theorem fr_Mod_readAnd {R : FI → FJ → Option (Bool × FI × FJ)} {N : Nat} {I : FI} {J : FJ} {r : Bool × FI × FJ} {b j : Nat} (hR : ∀ (I : FI) (J : FJ) (r : Bool × FI × FJ), R I J = some r → r.2.1 b j = I b j) (w0 : b ≠ 224) (w1 : ¬ (b = 204 ∧ j = 10)) (w2 : ¬ (b = 204 ∧ j = 11)) (w3 : ¬ (b = 204 ∧ j = 13)) (w4 : ¬ (b = 204 ∧ j = 42)) (w5 : ¬ (b = 204 ∧ j = 43)) (w6 : ¬ (b = 204 ∧ j = 44)) (w7 : ¬ (b = 204 ∧ j = 45)) (w8 : ¬ (b = 204 ∧ j = 5)) (w9 : ¬ (b = 204 ∧ j = 6)) (w10 : ¬ (b = 204 ∧ j = 7)) (w11 : ¬ (b = 204 ∧ j = 8)) (w12 : ¬ (b = 204 ∧ j = 9)) (h : Mod_readAnd R N I J = some r) : r.2.1 b j = I b j := by
  unfold Mod_readAnd at h
  obtain ⟨x1, hx, h⟩ := bnd h
  have q2 : x1.2.1 b j = I b j := (hR _ _ _ hx).trans rfl
  rcases iteC h with ⟨hb, h⟩ | ⟨hb, h⟩
  rotate_left
  · skip
    obtain rfl := Option.some.inj h; exact q2
  · skip
    exact (fr_Mod_readAnd_14 hR w0 w1 w2 w3 w4 w5 w6 w7 w8 w9 w10 w11 w12 _ (x1.2.1 204 45) x1.2.1 x1.2.2 h).trans q2
set_option maxRecDepth 8000 in
theorem fr_Mod_readOr_14 {R : FI → FJ → Option (Bool × FI × FJ)} {N : Nat} {r : Bool × FI × FJ} {b j : Nat} (hR : ∀ (I : FI) (J : FJ) (r : Bool × FI × FJ), R I J = some r → r.2.1 b j = I b j) (w0 : b ≠ 224) (w1 : ¬ (b = 204 ∧ j = 10)) (w2 : ¬ (b = 204 ∧ j = 11)) (w3 : ¬ (b = 204 ∧ j = 13)) (w4 : ¬ (b = 204 ∧ j = 42)) (w5 : ¬ (b = 204 ∧ j = 43)) (w6 : ¬ (b = 204 ∧ j = 44)) (w7 : ¬ (b = 204 ∧ j = 45)) (w8 : ¬ (b = 204 ∧ j = 5)) (w9 : ¬ (b = 204 ∧ j = 6)) (w10 : ¬ (b = 204 ∧ j = 7)) (w11 : ¬ (b = 204 ∧ j = 8)) (w12 : ¬ (b = 204 ∧ j = 9)) : ∀ (n : Nat) (l1 : Int32) (I : FI) (J : FJ), Mod_readOr_14 R N n l1 I J = some r → r.2.1 b j = I b j := by
  intro n
  induction n with
  | zero =>
    intro l1 I J h
    cases h
  | succ n ih =>
    intro l1 I J h
    unfold Mod_readOr_14 at h
    rcases iteC h with ⟨hb, h⟩ | ⟨hb, h⟩
    rotate_left
    · skip
      obtain ⟨I3, e1, h⟩ := bnd h
      have q4 : I3 b j = I b j := by rw [← Option.some.inj e1]; exact (up2_ff w7).trans rfl
      obtain rfl := Option.some.inj h; exact q4
    · skip
      obtain ⟨x5, hx, h⟩ := bnd h
      have q6 : x5.1 b j = I b j := (fr_Mod_go w8 w9 w10 w11 w12 hx).trans rfl
      obtain ⟨x7, hx, h⟩ := bnd h
      have q8 : x7.2.1 b j = I b j := (fr_Mod_readAnd hR w0 w1 w2 w3 w4 w5 w6 w7 w8 w9 w10 w11 w12 hx).trans q6
      rcases iteC h with ⟨hb, h⟩ | ⟨hb, h⟩
      rotate_left
      · skip
        obtain rfl := Option.some.inj h; exact q8
      · skip
        obtain ⟨x9, hx, h⟩ := bnd h
        have q10 : x9.2 b j = I b j := (fr_Mod_saysOne w0 w4 hx).trans q8
        exact (ih x9.1 x9.2 x7.2.2 h).trans q10
set_option maxRecDepth 8000 in
theorem fr_Mod_readOr {R : FI → FJ → Option (Bool × FI × FJ)} {N : Nat} {I : FI} {J : FJ} {r : Bool × FI × FJ} {b j : Nat} (hR : ∀ (I : FI) (J : FJ) (r : Bool × FI × FJ), R I J = some r → r.2.1 b j = I b j) (w0 : b ≠ 224) (w1 : ¬ (b = 204 ∧ j = 10)) (w2 : ¬ (b = 204 ∧ j = 11)) (w3 : ¬ (b = 204 ∧ j = 13)) (w4 : ¬ (b = 204 ∧ j = 42)) (w5 : ¬ (b = 204 ∧ j = 43)) (w6 : ¬ (b = 204 ∧ j = 44)) (w7 : ¬ (b = 204 ∧ j = 45)) (w8 : ¬ (b = 204 ∧ j = 5)) (w9 : ¬ (b = 204 ∧ j = 6)) (w10 : ¬ (b = 204 ∧ j = 7)) (w11 : ¬ (b = 204 ∧ j = 8)) (w12 : ¬ (b = 204 ∧ j = 9)) (h : Mod_readOr R N I J = some r) : r.2.1 b j = I b j := by
  unfold Mod_readOr at h
  obtain ⟨x1, hx, h⟩ := bnd h
  have q2 : x1.2.1 b j = I b j := (fr_Mod_readAnd hR w0 w1 w2 w3 w4 w5 w6 w7 w8 w9 w10 w11 w12 hx).trans rfl
  rcases iteC h with ⟨hb, h⟩ | ⟨hb, h⟩
  rotate_left
  · skip
    obtain rfl := Option.some.inj h; exact q2
  · skip
    exact (fr_Mod_readOr_14 hR w0 w1 w2 w3 w4 w5 w6 w7 w8 w9 w10 w11 w12 _ (x1.2.1 204 45) x1.2.1 x1.2.2 h).trans q2
set_option maxRecDepth 8000 in
theorem fr_Mod_readBracket {R : FI → FJ → Option (Bool × FI × FJ)} {N : Nat} {I : FI} {J : FJ} {r : Bool × FI × FJ} {b j : Nat} (hR : ∀ (I : FI) (J : FJ) (r : Bool × FI × FJ), R I J = some r → r.2.1 b j = I b j) (w0 : b ≠ 224) (w1 : ¬ (b = 204 ∧ j = 10)) (w2 : ¬ (b = 204 ∧ j = 11)) (w3 : ¬ (b = 204 ∧ j = 13)) (w4 : ¬ (b = 204 ∧ j = 42)) (w5 : ¬ (b = 204 ∧ j = 43)) (w6 : ¬ (b = 204 ∧ j = 44)) (w7 : ¬ (b = 204 ∧ j = 45)) (w8 : ¬ (b = 204 ∧ j = 5)) (w9 : ¬ (b = 204 ∧ j = 6)) (w10 : ¬ (b = 204 ∧ j = 7)) (w11 : ¬ (b = 204 ∧ j = 8)) (w12 : ¬ (b = 204 ∧ j = 9)) (h : Mod_readBracket R N I J = some r) : r.2.1 b j = I b j := by
  unfold Mod_readBracket at h
  obtain ⟨x1, hx, h⟩ := bnd h
  have q2 : x1.2.1 b j = I b j := (fr_Mod_readOr hR w0 w1 w2 w3 w4 w5 w6 w7 w8 w9 w10 w11 w12 hx).trans rfl
  rcases iteC h with ⟨hb, h⟩ | ⟨hb, h⟩
  rotate_left
  · skip
    obtain rfl := Option.some.inj h; exact q2
  · skip
    rcases iteC h with ⟨hb, h⟩ | ⟨hb, h⟩
    rotate_left
    · skip
      obtain ⟨x3, hx, h⟩ := bnd h
      have q4 : x3.2 b j = I b j := (fr_Mod_bad w1 w2 hx).trans q2
      obtain rfl := Option.some.inj h; exact q4
    · skip
      obtain ⟨x5, hx, h⟩ := bnd h
      have q6 : x5.1 b j = I b j := (fr_Mod_go w8 w9 w10 w11 w12 hx).trans q2
      obtain rfl := Option.some.inj h; exact q6
set_option maxRecDepth 8000 in
theorem fr_Mod_readNot {R : FI → FJ → Option (Bool × FI × FJ)} {N : Nat} {I : FI} {J : FJ} {r : Bool × FI × FJ} {b j : Nat} (hR : ∀ (I : FI) (J : FJ) (r : Bool × FI × FJ), R I J = some r → r.2.1 b j = I b j) (w0 : b ≠ 224) (w1 : ¬ (b = 204 ∧ j = 10)) (w2 : ¬ (b = 204 ∧ j = 11)) (w3 : ¬ (b = 204 ∧ j = 13)) (w4 : ¬ (b = 204 ∧ j = 42)) (w5 : ¬ (b = 204 ∧ j = 43)) (w6 : ¬ (b = 204 ∧ j = 44)) (w7 : ¬ (b = 204 ∧ j = 45)) (w8 : ¬ (b = 204 ∧ j = 5)) (w9 : ¬ (b = 204 ∧ j = 6)) (w10 : ¬ (b = 204 ∧ j = 7)) (w11 : ¬ (b = 204 ∧ j = 8)) (w12 : ¬ (b = 204 ∧ j = 9)) (h : Mod_readNot R N I J = some r) : r.2.1 b j = I b j := by
  unfold Mod_readNot at h
  obtain ⟨x1, hx, h⟩ := bnd h
  have q2 : x1.2.1 b j = I b j := (hR _ _ _ hx).trans rfl
  rcases iteC h with ⟨hb, h⟩ | ⟨hb, h⟩
  rotate_left
  · skip
    obtain rfl := Option.some.inj h; exact q2
  · skip
    obtain ⟨x3, hx, h⟩ := bnd h
    have q4 : x3.2 b j = I b j := (fr_Mod_saysOne w0 w4 hx).trans q2
    obtain ⟨I5, e1, h⟩ := bnd h
    have q6 : I5 b j = I b j := by rw [← Option.some.inj e1]; exact (up2_ff w7).trans q4
    obtain rfl := Option.some.inj h; exact q6
set_option maxRecDepth 8000 in
theorem fr_Mod_readWhom {N : Nat} {I : FI} {J : FJ} {r : Bool × FI × FJ} {b j : Nat} (w0 : ¬ (b = 204 ∧ j = 10)) (w1 : ¬ (b = 204 ∧ j = 11)) (w2 : ¬ (b = 204 ∧ j = 13)) (w3 : ¬ (b = 204 ∧ j = 5)) (w4 : ¬ (b = 204 ∧ j = 6)) (w5 : ¬ (b = 204 ∧ j = 7)) (w6 : ¬ (b = 204 ∧ j = 8)) (w7 : ¬ (b = 204 ∧ j = 9)) (h : Mod_readWhom N I J = some r) : r.2.1 b j = I b j := by
  unfold Mod_readWhom at h
  obtain ⟨x1, hx, h⟩ := bnd h
  rcases iteC h with ⟨hb, h⟩ | ⟨hb, h⟩
  rotate_left
  · skip
    obtain ⟨x2, hx, h⟩ := bnd h
    have q3 : x2.2 b j = I b j := (fr_Mod_bad w0 w1 hx).trans rfl
    obtain rfl := Option.some.inj h; exact q3
  · skip
    obtain ⟨x4, hx, h⟩ := bnd h
    obtain ⟨I5, e1, h⟩ := bnd h
    have q6 : I5 b j = I b j := by rw [← Option.some.inj e1]; exact (up2_ff w2).trans rfl
    rcases iteC h with ⟨hb, h⟩ | ⟨hb, h⟩
    · skip
      obtain ⟨x7, hx, h⟩ := bnd h
      have q8 : x7.2 b j = I b j := (fr_Mod_bad w0 w1 hx).trans q6
      obtain rfl := Option.some.inj h; exact q8
    · skip
      obtain ⟨x9, hx, h⟩ := bnd h
      have q10 : x9.1 b j = I b j := (fr_Mod_go w3 w4 w5 w6 w7 hx).trans q6
      obtain rfl := Option.some.inj h; exact q10
set_option maxRecDepth 8000 in
theorem fr_Mod_readOf {N : Nat} {l1 : Int32} {I : FI} {J : FJ} {r : Bool × FI × FJ} {b j : Nat} (w0 : b ≠ 224) (w1 : ¬ (b = 204 ∧ j = 10)) (w2 : ¬ (b = 204 ∧ j = 11)) (w3 : ¬ (b = 204 ∧ j = 13)) (w4 : ¬ (b = 204 ∧ j = 42)) (w5 : ¬ (b = 204 ∧ j = 45)) (w6 : ¬ (b = 204 ∧ j = 5)) (w7 : ¬ (b = 204 ∧ j = 6)) (w8 : ¬ (b = 204 ∧ j = 7)) (w9 : ¬ (b = 204 ∧ j = 8)) (w10 : ¬ (b = 204 ∧ j = 9)) (h : Mod_readOf N l1 I J = some r) : r.2.1 b j = I b j := by
  unfold Mod_readOf at h
  obtain ⟨x1, hx, h⟩ := bnd h
  have q2 : x1.2.1 b j = I b j := (fr_Mod_readWhom w1 w2 w3 w6 w7 w8 w9 w10 hx).trans rfl
  rcases iteC h with ⟨hb, h⟩ | ⟨hb, h⟩
  rotate_left
  · skip
    obtain rfl := Option.some.inj h; exact q2
  · skip
    obtain ⟨x3, hx, h⟩ := bnd h
    have q4 : x3.2 b j = I b j := (fr_Mod_saysOne w0 w4 hx).trans q2
    obtain ⟨I5, e1, h⟩ := bnd h
    have q6 : I5 b j = I b j := by rw [← Option.some.inj e1]; exact (up2_ff w5).trans q4
    obtain rfl := Option.some.inj h; exact q6
set_option maxRecDepth 8000 in
theorem fr_Mod_readCompare {N : Nat} {l1 : Int32} {I : FI} {J : FJ} {r : Bool × FI × FJ} {b j : Nat} (w0 : b ≠ 224) (w1 : ¬ (b = 204 ∧ j = 10)) (w2 : ¬ (b = 204 ∧ j = 11)) (w3 : ¬ (b = 204 ∧ j = 13)) (w4 : ¬ (b = 204 ∧ j = 42)) (w5 : ¬ (b = 204 ∧ j = 45)) (w6 : ¬ (b = 204 ∧ j = 5)) (w7 : ¬ (b = 204 ∧ j = 6)) (w8 : ¬ (b = 204 ∧ j = 7)) (w9 : ¬ (b = 204 ∧ j = 8)) (w10 : ¬ (b = 204 ∧ j = 9)) (h : Mod_readCompare N l1 I J = some r) : r.2.1 b j = I b j := by
  unfold Mod_readCompare at h
  rcases iteC h with ⟨hb, h⟩ | ⟨hb, h⟩
  rotate_left
  · skip
    rcases iteC h with ⟨hb, h⟩ | ⟨hb, h⟩
    rotate_left
    · skip
      rcases iteC h with ⟨hb, h⟩ | ⟨hb, h⟩
      rotate_left
      · skip
        obtain ⟨x1, hx, h⟩ := bnd h
        have q2 : x1.2 b j = I b j := (fr_Mod_bad w1 w2 hx).trans rfl
        obtain rfl := Option.some.inj h; exact q2
      · skip
        obtain ⟨x3, hx, h⟩ := bnd h
        have q4 : x3.1 b j = I b j := (fr_Mod_go w6 w7 w8 w9 w10 hx).trans rfl
        obtain ⟨x5, hx, h⟩ := bnd h
        have q6 : x5.2.1 b j = I b j := (fr_Mod_readNumber w1 w2 w3 w6 w7 w8 w9 w10 hx).trans q4
        rcases iteC h with ⟨hb, h⟩ | ⟨hb, h⟩
        rotate_left
        · skip
          obtain rfl := Option.some.inj h; exact q6
        · skip
          obtain ⟨x7, hx, h⟩ := bnd h
          have q8 : x7.2 b j = I b j := (fr_Mod_saysOne w0 w4 hx).trans q6
          obtain ⟨I9, e1, h⟩ := bnd h
          have q10 : I9 b j = I b j := by rw [← Option.some.inj e1]; exact (up2_ff w5).trans q8
          obtain rfl := Option.some.inj h; exact q10
    · skip
      obtain ⟨x11, hx, h⟩ := bnd h
      have q12 : x11.1 b j = I b j := (fr_Mod_go w6 w7 w8 w9 w10 hx).trans rfl
      obtain ⟨x13, hx, h⟩ := bnd h
      have q14 : x13.2.1 b j = I b j := (fr_Mod_readNumber w1 w2 w3 w6 w7 w8 w9 w10 hx).trans q12
      rcases iteC h with ⟨hb, h⟩ | ⟨hb, h⟩
      rotate_left
      · skip
        obtain rfl := Option.some.inj h; exact q14
      · skip
        obtain ⟨x15, hx, h⟩ := bnd h
        have q16 : x15.2 b j = I b j := (fr_Mod_saysOne w0 w4 hx).trans q14
        obtain ⟨I17, e1, h⟩ := bnd h
        have q18 : I17 b j = I b j := by rw [← Option.some.inj e1]; exact (up2_ff w5).trans q16
        obtain rfl := Option.some.inj h; exact q18
  · skip
    obtain ⟨x19, hx, h⟩ := bnd h
    have q20 : x19.1 b j = I b j := (fr_Mod_go w6 w7 w8 w9 w10 hx).trans rfl
    obtain ⟨x21, hx, h⟩ := bnd h
    have q22 : x21.2.1 b j = I b j := (fr_Mod_readNumber w1 w2 w3 w6 w7 w8 w9 w10 hx).trans q20
    rcases iteC h with ⟨hb, h⟩ | ⟨hb, h⟩
    rotate_left
    · skip
      obtain rfl := Option.some.inj h; exact q22
    · skip
      obtain ⟨x23, hx, h⟩ := bnd h
      have q24 : x23.2 b j = I b j := (fr_Mod_saysOne w0 w4 hx).trans q22
      obtain ⟨I25, e1, h⟩ := bnd h
      have q26 : I25 b j = I b j := by rw [← Option.some.inj e1]; exact (up2_ff w5).trans q24
      obtain rfl := Option.some.inj h; exact q26
set_option maxRecDepth 8000 in
theorem fr_Mod_readSaid_10 {R : FI → FJ → Option (Bool × FI × FJ)} {N : Nat} {r : Bool × FI × FJ} {b j : Nat} (hR : ∀ (I : FI) (J : FJ) (r : Bool × FI × FJ), R I J = some r → r.2.1 b j = I b j) (w0 : b ≠ 224) (w1 : ¬ (b = 204 ∧ j = 10)) (w2 : ¬ (b = 204 ∧ j = 11)) (w3 : ¬ (b = 204 ∧ j = 13)) (w4 : ¬ (b = 204 ∧ j = 42)) (w5 : ¬ (b = 204 ∧ j = 43)) (w6 : ¬ (b = 204 ∧ j = 44)) (w7 : ¬ (b = 204 ∧ j = 45)) (w8 : ¬ (b = 204 ∧ j = 5)) (w9 : ¬ (b = 204 ∧ j = 6)) (w10 : ¬ (b = 204 ∧ j = 7)) (w11 : ¬ (b = 204 ∧ j = 8)) (w12 : ¬ (b = 204 ∧ j = 9)) : ∀ (n : Nat) (l1 : Int32) (l2 : Int32) (I : FI) (J : FJ), Mod_readSaid_10 R N n l1 l2 I J = some r → r.2.1 b j = I b j := by
  intro n
  induction n with
  | zero =>
    intro l1 l2 I J h
    cases h
  | succ n ih =>
    intro l1 l2 I J h
    unfold Mod_readSaid_10 at h
    rcases iteC h with ⟨hb, h⟩ | ⟨hb, h⟩
    · skip
      rcases iteC h with ⟨hb, h⟩ | ⟨hb, h⟩
      · skip
        rcases iteC h with ⟨hb, h⟩ | ⟨hb, h⟩
        · skip
          rcases iteC h with ⟨hb, h⟩ | ⟨hb, h⟩
          · skip
            obtain ⟨x1, hx, h⟩ := bnd h
            have q2 : x1.2 b j = I b j := (fr_Mod_bad w1 w2 hx).trans rfl
            obtain rfl := Option.some.inj h; exact q2
          · skip
            rcases iteC h with ⟨hb, h⟩ | ⟨hb, h⟩
            · skip
              obtain ⟨x3, hx, h⟩ := bnd h
              have q4 : x3.2 b j = I b j := (fr_Mod_bad w1 w2 hx).trans rfl
              obtain rfl := Option.some.inj h; exact q4
            · skip
              obtain ⟨I5, e1, h⟩ := bnd h
              have q6 : I5 b j = I b j := by rw [← Option.some.inj e1]; exact (up2_ff w5).trans rfl
              obtain ⟨I7, e1, h⟩ := bnd h
              have q8 : I7 b j = I b j := by rw [← Option.some.inj e1]; exact (up2_ff w6).trans q6
              obtain ⟨x9, hx, h⟩ := bnd h
              have q10 : x9.1 b j = I b j := (fr_Mod_go w8 w9 w10 w11 w12 hx).trans q8
              rcases iteC h with ⟨hb, h⟩ | ⟨hb, h⟩
              · skip
                rcases iteC h with ⟨hb, h⟩ | ⟨hb, h⟩
                · skip
                  obtain ⟨x11, hx, h⟩ := bnd h
                  have q12 : x11.2.1 b j = I b j := (fr_Mod_readNot hR w0 w1 w2 w3 w4 w5 w6 w7 w8 w9 w10 w11 w12 hx).trans q10
                  obtain ⟨I13, e1, h⟩ := bnd h
                  have q14 : I13 b j = I b j := by rw [← Option.some.inj e1]; exact (up2_ff w6).trans q12
                  obtain rfl := Option.some.inj h; exact q14
                · skip
                  rcases iteC h with ⟨hb, h⟩ | ⟨hb, h⟩
                  · skip
                    rcases iteC h with ⟨hb, h⟩ | ⟨hb, h⟩
                    · skip
                      obtain ⟨x15, hx, h⟩ := bnd h
                      have q16 : x15.2.1 b j = I b j := (fr_Mod_readCompare w0 w1 w2 w3 w4 w7 w8 w9 w10 w11 w12 hx).trans q10
                      obtain ⟨I17, e1, h⟩ := bnd h
                      have q18 : I17 b j = I b j := by rw [← Option.some.inj e1]; exact (up2_ff w6).trans q16
                      obtain rfl := Option.some.inj h; exact q18
                    · skip
                      obtain ⟨x19, hx, h⟩ := bnd h
                      have q20 : x19.2.1 b j = I b j := (fr_Mod_readOf w0 w1 w2 w3 w4 w7 w8 w9 w10 w11 w12 hx).trans q10
                      obtain ⟨I21, e1, h⟩ := bnd h
                      have q22 : I21 b j = I b j := by rw [← Option.some.inj e1]; exact (up2_ff w6).trans q20
                      obtain rfl := Option.some.inj h; exact q22
                  · skip
                    obtain ⟨x23, hx, h⟩ := bnd h
                    have q24 : x23.2 b j = I b j := (fr_Mod_saysOne w0 w4 hx).trans q10
                    obtain ⟨I25, e1, h⟩ := bnd h
                    have q26 : I25 b j = I b j := by rw [← Option.some.inj e1]; exact (up2_ff w7).trans q24
                    obtain ⟨I27, e1, h⟩ := bnd h
                    have q28 : I27 b j = I b j := by rw [← Option.some.inj e1]; exact (up2_ff w6).trans q26
                    obtain rfl := Option.some.inj h; exact q28
              · skip
                obtain ⟨x29, hx, h⟩ := bnd h
                have q30 : x29.2.1 b j = I b j := (fr_Mod_readBracket hR w0 w1 w2 w3 w4 w5 w6 w7 w8 w9 w10 w11 w12 hx).trans q10
                obtain ⟨I31, e1, h⟩ := bnd h
                have q32 : I31 b j = I b j := by rw [← Option.some.inj e1]; exact (up2_ff w6).trans q30
                obtain rfl := Option.some.inj h; exact q32
        · skip
          obtain ⟨x33, hx, h⟩ := bnd h
          have q34 : x33.2 b j = I b j := (fr_Mod_bad w1 w2 hx).trans rfl
          obtain rfl := Option.some.inj h; exact q34
      · skip
        rcases iteC h with ⟨hb, h⟩ | ⟨hb, h⟩
        · skip
          obtain ⟨x35, hx, h⟩ := bnd h
          have q36 : x35.2 b j = I b j := (fr_Mod_bad w1 w2 hx).trans rfl
          obtain rfl := Option.some.inj h; exact q36
        · skip
          rcases iteC h with ⟨hb, h⟩ | ⟨hb, h⟩
          · skip
            obtain ⟨x37, hx, h⟩ := bnd h
            have q38 : x37.2 b j = I b j := (fr_Mod_bad w1 w2 hx).trans rfl
            obtain rfl := Option.some.inj h; exact q38
          · skip
            obtain ⟨I39, e1, h⟩ := bnd h
            have q40 : I39 b j = I b j := by rw [← Option.some.inj e1]; exact (up2_ff w5).trans rfl
            obtain ⟨I41, e1, h⟩ := bnd h
            have q42 : I41 b j = I b j := by rw [← Option.some.inj e1]; exact (up2_ff w6).trans q40
            obtain ⟨x43, hx, h⟩ := bnd h
            have q44 : x43.1 b j = I b j := (fr_Mod_go w8 w9 w10 w11 w12 hx).trans q42
            rcases iteC h with ⟨hb, h⟩ | ⟨hb, h⟩
            · skip
              rcases iteC h with ⟨hb, h⟩ | ⟨hb, h⟩
              · skip
                obtain ⟨x45, hx, h⟩ := bnd h
                have q46 : x45.2.1 b j = I b j := (fr_Mod_readNot hR w0 w1 w2 w3 w4 w5 w6 w7 w8 w9 w10 w11 w12 hx).trans q44
                obtain ⟨I47, e1, h⟩ := bnd h
                have q48 : I47 b j = I b j := by rw [← Option.some.inj e1]; exact (up2_ff w6).trans q46
                obtain rfl := Option.some.inj h; exact q48
              · skip
                rcases iteC h with ⟨hb, h⟩ | ⟨hb, h⟩
                · skip
                  rcases iteC h with ⟨hb, h⟩ | ⟨hb, h⟩
                  · skip
                    obtain ⟨x49, hx, h⟩ := bnd h
                    have q50 : x49.2.1 b j = I b j := (fr_Mod_readCompare w0 w1 w2 w3 w4 w7 w8 w9 w10 w11 w12 hx).trans q44
                    obtain ⟨I51, e1, h⟩ := bnd h
                    have q52 : I51 b j = I b j := by rw [← Option.some.inj e1]; exact (up2_ff w6).trans q50
                    obtain rfl := Option.some.inj h; exact q52
                  · skip
                    obtain ⟨x53, hx, h⟩ := bnd h
                    have q54 : x53.2.1 b j = I b j := (fr_Mod_readOf w0 w1 w2 w3 w4 w7 w8 w9 w10 w11 w12 hx).trans q44
                    obtain ⟨I55, e1, h⟩ := bnd h
                    have q56 : I55 b j = I b j := by rw [← Option.some.inj e1]; exact (up2_ff w6).trans q54
                    obtain rfl := Option.some.inj h; exact q56
                · skip
                  obtain ⟨x57, hx, h⟩ := bnd h
                  have q58 : x57.2 b j = I b j := (fr_Mod_saysOne w0 w4 hx).trans q44
                  obtain ⟨I59, e1, h⟩ := bnd h
                  have q60 : I59 b j = I b j := by rw [← Option.some.inj e1]; exact (up2_ff w7).trans q58
                  obtain ⟨I61, e1, h⟩ := bnd h
                  have q62 : I61 b j = I b j := by rw [← Option.some.inj e1]; exact (up2_ff w6).trans q60
                  obtain rfl := Option.some.inj h; exact q62
            · skip
              obtain ⟨x63, hx, h⟩ := bnd h
              have q64 : x63.2.1 b j = I b j := (fr_Mod_readBracket hR w0 w1 w2 w3 w4 w5 w6 w7 w8 w9 w10 w11 w12 hx).trans q44
              obtain ⟨I65, e1, h⟩ := bnd h
              have q66 : I65 b j = I b j := by rw [← Option.some.inj e1]; exact (up2_ff w6).trans q64
              obtain rfl := Option.some.inj h; exact q66
    · skip
      rcases iteC h with ⟨hb, h⟩ | ⟨hb, h⟩
      rotate_left
      · skip
        exact (ih l1 (l2 + 1) I J h).trans rfl
      · skip
        rcases iteC h with ⟨hb, h⟩ | ⟨hb, h⟩
        · skip
          rcases iteC h with ⟨hb, h⟩ | ⟨hb, h⟩
          · skip
            rcases iteC h with ⟨hb, h⟩ | ⟨hb, h⟩
            · skip
              obtain ⟨x67, hx, h⟩ := bnd h
              have q68 : x67.2 b j = I b j := (fr_Mod_bad w1 w2 hx).trans rfl
              obtain rfl := Option.some.inj h; exact q68
            · skip
              rcases iteC h with ⟨hb, h⟩ | ⟨hb, h⟩
              · skip
                obtain ⟨x69, hx, h⟩ := bnd h
                have q70 : x69.2 b j = I b j := (fr_Mod_bad w1 w2 hx).trans rfl
                obtain rfl := Option.some.inj h; exact q70
              · skip
                obtain ⟨I71, e1, h⟩ := bnd h
                have q72 : I71 b j = I b j := by rw [← Option.some.inj e1]; exact (up2_ff w5).trans rfl
                obtain ⟨I73, e1, h⟩ := bnd h
                have q74 : I73 b j = I b j := by rw [← Option.some.inj e1]; exact (up2_ff w6).trans q72
                obtain ⟨x75, hx, h⟩ := bnd h
                have q76 : x75.1 b j = I b j := (fr_Mod_go w8 w9 w10 w11 w12 hx).trans q74
                rcases iteC h with ⟨hb, h⟩ | ⟨hb, h⟩
                · skip
                  rcases iteC h with ⟨hb, h⟩ | ⟨hb, h⟩
                  · skip
                    obtain ⟨x77, hx, h⟩ := bnd h
                    have q78 : x77.2.1 b j = I b j := (fr_Mod_readNot hR w0 w1 w2 w3 w4 w5 w6 w7 w8 w9 w10 w11 w12 hx).trans q76
                    obtain ⟨I79, e1, h⟩ := bnd h
                    have q80 : I79 b j = I b j := by rw [← Option.some.inj e1]; exact (up2_ff w6).trans q78
                    obtain rfl := Option.some.inj h; exact q80
                  · skip
                    rcases iteC h with ⟨hb, h⟩ | ⟨hb, h⟩
                    · skip
                      rcases iteC h with ⟨hb, h⟩ | ⟨hb, h⟩
                      · skip
                        obtain ⟨x81, hx, h⟩ := bnd h
                        have q82 : x81.2.1 b j = I b j := (fr_Mod_readCompare w0 w1 w2 w3 w4 w7 w8 w9 w10 w11 w12 hx).trans q76
                        obtain ⟨I83, e1, h⟩ := bnd h
                        have q84 : I83 b j = I b j := by rw [← Option.some.inj e1]; exact (up2_ff w6).trans q82
                        obtain rfl := Option.some.inj h; exact q84
                      · skip
                        obtain ⟨x85, hx, h⟩ := bnd h
                        have q86 : x85.2.1 b j = I b j := (fr_Mod_readOf w0 w1 w2 w3 w4 w7 w8 w9 w10 w11 w12 hx).trans q76
                        obtain ⟨I87, e1, h⟩ := bnd h
                        have q88 : I87 b j = I b j := by rw [← Option.some.inj e1]; exact (up2_ff w6).trans q86
                        obtain rfl := Option.some.inj h; exact q88
                    · skip
                      obtain ⟨x89, hx, h⟩ := bnd h
                      have q90 : x89.2 b j = I b j := (fr_Mod_saysOne w0 w4 hx).trans q76
                      obtain ⟨I91, e1, h⟩ := bnd h
                      have q92 : I91 b j = I b j := by rw [← Option.some.inj e1]; exact (up2_ff w7).trans q90
                      obtain ⟨I93, e1, h⟩ := bnd h
                      have q94 : I93 b j = I b j := by rw [← Option.some.inj e1]; exact (up2_ff w6).trans q92
                      obtain rfl := Option.some.inj h; exact q94
                · skip
                  obtain ⟨x95, hx, h⟩ := bnd h
                  have q96 : x95.2.1 b j = I b j := (fr_Mod_readBracket hR w0 w1 w2 w3 w4 w5 w6 w7 w8 w9 w10 w11 w12 hx).trans q76
                  obtain ⟨I97, e1, h⟩ := bnd h
                  have q98 : I97 b j = I b j := by rw [← Option.some.inj e1]; exact (up2_ff w6).trans q96
                  obtain rfl := Option.some.inj h; exact q98
          · skip
            obtain ⟨x99, hx, h⟩ := bnd h
            have q100 : x99.2 b j = I b j := (fr_Mod_bad w1 w2 hx).trans rfl
            obtain rfl := Option.some.inj h; exact q100
        · skip
          rcases iteC h with ⟨hb, h⟩ | ⟨hb, h⟩
          · skip
            obtain ⟨x101, hx, h⟩ := bnd h
            have q102 : x101.2 b j = I b j := (fr_Mod_bad w1 w2 hx).trans rfl
            obtain rfl := Option.some.inj h; exact q102
          · skip
            rcases iteC h with ⟨hb, h⟩ | ⟨hb, h⟩
            · skip
              obtain ⟨x103, hx, h⟩ := bnd h
              have q104 : x103.2 b j = I b j := (fr_Mod_bad w1 w2 hx).trans rfl
              obtain rfl := Option.some.inj h; exact q104
            · skip
              obtain ⟨I105, e1, h⟩ := bnd h
              have q106 : I105 b j = I b j := by rw [← Option.some.inj e1]; exact (up2_ff w5).trans rfl
              obtain ⟨I107, e1, h⟩ := bnd h
              have q108 : I107 b j = I b j := by rw [← Option.some.inj e1]; exact (up2_ff w6).trans q106
              obtain ⟨x109, hx, h⟩ := bnd h
              have q110 : x109.1 b j = I b j := (fr_Mod_go w8 w9 w10 w11 w12 hx).trans q108
              rcases iteC h with ⟨hb, h⟩ | ⟨hb, h⟩
              · skip
                rcases iteC h with ⟨hb, h⟩ | ⟨hb, h⟩
                · skip
                  obtain ⟨x111, hx, h⟩ := bnd h
                  have q112 : x111.2.1 b j = I b j := (fr_Mod_readNot hR w0 w1 w2 w3 w4 w5 w6 w7 w8 w9 w10 w11 w12 hx).trans q110
                  obtain ⟨I113, e1, h⟩ := bnd h
                  have q114 : I113 b j = I b j := by rw [← Option.some.inj e1]; exact (up2_ff w6).trans q112
                  obtain rfl := Option.some.inj h; exact q114
                · skip
                  rcases iteC h with ⟨hb, h⟩ | ⟨hb, h⟩
                  · skip
                    rcases iteC h with ⟨hb, h⟩ | ⟨hb, h⟩
                    · skip
                      obtain ⟨x115, hx, h⟩ := bnd h
                      have q116 : x115.2.1 b j = I b j := (fr_Mod_readCompare w0 w1 w2 w3 w4 w7 w8 w9 w10 w11 w12 hx).trans q110
                      obtain ⟨I117, e1, h⟩ := bnd h
                      have q118 : I117 b j = I b j := by rw [← Option.some.inj e1]; exact (up2_ff w6).trans q116
                      obtain rfl := Option.some.inj h; exact q118
                    · skip
                      obtain ⟨x119, hx, h⟩ := bnd h
                      have q120 : x119.2.1 b j = I b j := (fr_Mod_readOf w0 w1 w2 w3 w4 w7 w8 w9 w10 w11 w12 hx).trans q110
                      obtain ⟨I121, e1, h⟩ := bnd h
                      have q122 : I121 b j = I b j := by rw [← Option.some.inj e1]; exact (up2_ff w6).trans q120
                      obtain rfl := Option.some.inj h; exact q122
                  · skip
                    obtain ⟨x123, hx, h⟩ := bnd h
                    have q124 : x123.2 b j = I b j := (fr_Mod_saysOne w0 w4 hx).trans q110
                    obtain ⟨I125, e1, h⟩ := bnd h
                    have q126 : I125 b j = I b j := by rw [← Option.some.inj e1]; exact (up2_ff w7).trans q124
                    obtain ⟨I127, e1, h⟩ := bnd h
                    have q128 : I127 b j = I b j := by rw [← Option.some.inj e1]; exact (up2_ff w6).trans q126
                    obtain rfl := Option.some.inj h; exact q128
              · skip
                obtain ⟨x129, hx, h⟩ := bnd h
                have q130 : x129.2.1 b j = I b j := (fr_Mod_readBracket hR w0 w1 w2 w3 w4 w5 w6 w7 w8 w9 w10 w11 w12 hx).trans q110
                obtain ⟨I131, e1, h⟩ := bnd h
                have q132 : I131 b j = I b j := by rw [← Option.some.inj e1]; exact (up2_ff w6).trans q130
                obtain rfl := Option.some.inj h; exact q132
set_option maxRecDepth 8000 in
theorem fr_Mod_readSaid {R : FI → FJ → Option (Bool × FI × FJ)} {N : Nat} {I : FI} {J : FJ} {r : Bool × FI × FJ} {b j : Nat} (hR : ∀ (I : FI) (J : FJ) (r : Bool × FI × FJ), R I J = some r → r.2.1 b j = I b j) (w0 : b ≠ 224) (w1 : ¬ (b = 204 ∧ j = 10)) (w2 : ¬ (b = 204 ∧ j = 11)) (w3 : ¬ (b = 204 ∧ j = 13)) (w4 : ¬ (b = 204 ∧ j = 42)) (w5 : ¬ (b = 204 ∧ j = 43)) (w6 : ¬ (b = 204 ∧ j = 44)) (w7 : ¬ (b = 204 ∧ j = 45)) (w8 : ¬ (b = 204 ∧ j = 5)) (w9 : ¬ (b = 204 ∧ j = 6)) (w10 : ¬ (b = 204 ∧ j = 7)) (w11 : ¬ (b = 204 ∧ j = 8)) (w12 : ¬ (b = 204 ∧ j = 9)) (h : Mod_readSaid R N I J = some r) : r.2.1 b j = I b j := by
  unfold Mod_readSaid at h
  exact (fr_Mod_readSaid_10 hR w0 w1 w2 w3 w4 w5 w6 w7 w8 w9 w10 w11 w12 _ (b2i (Mod_isSign 40 I)) 21 I J h).trans rfl
set_option maxRecDepth 8000 in
theorem fr_Mod_readSaid_R {N : Nat} {b j : Nat} (w0 : b ≠ 224) (w1 : ¬ (b = 204 ∧ j = 10)) (w2 : ¬ (b = 204 ∧ j = 11)) (w3 : ¬ (b = 204 ∧ j = 13)) (w4 : ¬ (b = 204 ∧ j = 42)) (w5 : ¬ (b = 204 ∧ j = 43)) (w6 : ¬ (b = 204 ∧ j = 44)) (w7 : ¬ (b = 204 ∧ j = 45)) (w8 : ¬ (b = 204 ∧ j = 5)) (w9 : ¬ (b = 204 ∧ j = 6)) (w10 : ¬ (b = 204 ∧ j = 7)) (w11 : ¬ (b = 204 ∧ j = 8)) (w12 : ¬ (b = 204 ∧ j = 9)) : ∀ (k : Nat) (I : FI) (J : FJ) (r : Bool × FI × FJ), Mod_readSaid_R N k I J = some r → r.2.1 b j = I b j := by
  intro k
  induction k with
  | zero =>
    intro I J r h
    cases h
  | succ k ih =>
    intro I J r h
    exact fr_Mod_readSaid (N := N) (R := Mod_readSaid_R N k) ih w0 w1 w2 w3 w4 w5 w6 w7 w8 w9 w10 w11 w12 h
set_option maxRecDepth 8000 in
theorem fr_Mod_sentence_79 {N : Nat} {r : Int32 × FI × FJ} {b j : Nat} (w0 : b ≠ 206) (w1 : b ≠ 224) (w2 : ¬ (b = 204 ∧ j = 0)) (w3 : ¬ (b = 204 ∧ j = 10)) (w4 : ¬ (b = 204 ∧ j = 11)) (w5 : ¬ (b = 204 ∧ j = 13)) (w6 : ¬ (b = 204 ∧ j = 2)) (w7 : ¬ (b = 204 ∧ j = 3)) (w8 : ¬ (b = 204 ∧ j = 4)) (w9 : ¬ (b = 204 ∧ j = 42)) (w10 : ¬ (b = 204 ∧ j = 43)) (w11 : ¬ (b = 204 ∧ j = 44)) (w12 : ¬ (b = 204 ∧ j = 45)) (w13 : ¬ (b = 204 ∧ j = 5)) (w14 : ¬ (b = 204 ∧ j = 6)) (w15 : ¬ (b = 204 ∧ j = 7)) (w16 : ¬ (b = 204 ∧ j = 8)) (w17 : ¬ (b = 204 ∧ j = 9)) : ∀ (n : Nat) (l1 : Int32) (I : FI) (J : FJ), Mod_sentence_79 N n l1 I J = some r → r.2.1 b j = I b j := by
  intro n
  induction n with
  | zero =>
    intro l1 I J h
    cases h
  | succ n ih =>
    intro l1 I J h
    unfold Mod_sentence_79 at h
    rcases iteC h with ⟨hb, h⟩ | ⟨hb, h⟩
    · skip
      obtain rfl := Option.some.inj h; exact rfl
    · skip
      obtain ⟨hg15, h⟩ := grd h
      obtain ⟨hg16, h⟩ := grd h
      obtain ⟨I17, e1, h⟩ := bnd h
      have q18 : I17 b j = I b j := by rw [← Option.some.inj e1]; exact (up2_fa w0).trans rfl
      exact (ih (l1 + 1) I17 J h).trans q18
set_option maxRecDepth 8000 in
theorem fr_Mod_sentence {N : Nat} {I : FI} {J : FJ} {r : Int32 × FI × FJ} {b j : Nat} (w0 : b ≠ 206) (w1 : b ≠ 224) (w2 : ¬ (b = 204 ∧ j = 0)) (w3 : ¬ (b = 204 ∧ j = 10)) (w4 : ¬ (b = 204 ∧ j = 11)) (w5 : ¬ (b = 204 ∧ j = 13)) (w6 : ¬ (b = 204 ∧ j = 2)) (w7 : ¬ (b = 204 ∧ j = 3)) (w8 : ¬ (b = 204 ∧ j = 4)) (w9 : ¬ (b = 204 ∧ j = 42)) (w10 : ¬ (b = 204 ∧ j = 43)) (w11 : ¬ (b = 204 ∧ j = 44)) (w12 : ¬ (b = 204 ∧ j = 45)) (w13 : ¬ (b = 204 ∧ j = 5)) (w14 : ¬ (b = 204 ∧ j = 6)) (w15 : ¬ (b = 204 ∧ j = 7)) (w16 : ¬ (b = 204 ∧ j = 8)) (w17 : ¬ (b = 204 ∧ j = 9)) (h : Mod_sentence N I J = some r) : r.2.1 b j = I b j := by
  unfold Mod_sentence at h
  obtain ⟨x1, hx, h⟩ := bnd h
  have q2 : x1.1 b j = I b j := (fr_Mod_begin w2 w3 w6 w7 w8 w13 w14 w15 w16 w17 hx).trans rfl
  obtain ⟨I3, e1, h⟩ := bnd h
  have q4 : I3 b j = I b j := by rw [← Option.some.inj e1]; exact (up2_ff w9).trans q2
  obtain ⟨I5, e1, h⟩ := bnd h
  have q6 : I5 b j = I b j := by rw [← Option.some.inj e1]; exact (up2_ff w10).trans q4
  obtain ⟨I7, e1, h⟩ := bnd h
  have q8 : I7 b j = I b j := by rw [← Option.some.inj e1]; exact (up2_ff w11).trans q6
  obtain ⟨x9, hx, h⟩ := bnd h
  have q10 : x9.2.1 b j = I b j := (fr_Mod_readOr (fun v0 v1 v2 h => fr_Mod_readSaid_R w1 w3 w4 w5 w9 w10 w11 w12 w13 w14 w15 w16 w17 dK v0 v1 v2 h) w1 w3 w4 w5 w9 w10 w11 w12 w13 w14 w15 w16 w17 hx).trans q8
  rcases iteC h with ⟨hb, h⟩ | ⟨hb, h⟩
  rotate_left
  · skip
    obtain rfl := Option.some.inj h; exact q10
  · skip
    rcases iteC h with ⟨hb, h⟩ | ⟨hb, h⟩
    · skip
      obtain ⟨I11, e1, h⟩ := bnd h
      have q12 : I11 b j = I b j := by rw [← Option.some.inj e1]; exact (up2_fa w0).trans q10
      obtain ⟨I13, e1, h⟩ := bnd h
      have q14 : I13 b j = I b j := by rw [← Option.some.inj e1]; exact (up2_fa w0).trans q12
      exact (fr_Mod_sentence_79 w0 w1 w2 w3 w4 w5 w6 w7 w8 w9 w10 w11 w12 w13 w14 w15 w16 w17 _ 0 I13 x9.2.2 h).trans q14
    · skip
      obtain ⟨x19, hx, h⟩ := bnd h
      have q20 : x19.2 b j = I b j := (fr_Mod_bad w3 w4 hx).trans q10
      obtain rfl := Option.some.inj h; exact q20
set_option maxRecDepth 8000 in
theorem fr_Mod_said_22 {N : Nat} {r : Int32 × FI} {b j : Nat} (w0 : ¬ (b = 204 ∧ j = 0)) : ∀ (n : Nat) (l1 : Int32) (l2 : Int32) (l3 : Int32) (I : FI), Mod_said_22 N n l1 l2 l3 I = some r → r.2 b j = I b j := by
  intro n
  induction n with
  | zero =>
    intro l1 l2 l3 I h
    cases h
  | succ n ih =>
    intro l1 l2 l3 I h
    unfold Mod_said_22 at h
    rcases iteC h with ⟨hb, h⟩ | ⟨hb, h⟩
    · skip
      rcases iteC h with ⟨hb, h⟩ | ⟨hb, h⟩
      · skip
        obtain rfl := Option.some.inj h; exact rfl
      · skip
        obtain rfl := Option.some.inj h; exact rfl
    · skip
      obtain ⟨x3, hx, h⟩ := bnd h
      rcases iteC h with ⟨hb, h⟩ | ⟨hb, h⟩
      rotate_left
      · skip
        exact (ih l1 l2 (l3 + 1) I h).trans rfl
      · skip
        rcases iteC h with ⟨hb, h⟩ | ⟨hb, h⟩
        · skip
          obtain rfl := Option.some.inj h; exact rfl
        · skip
          exact (ih l1 (l2 + 1) (l3 + 1) I h).trans rfl
set_option maxRecDepth 8000 in
theorem fr_Mod_said {N : Nat} {l1 : Int32} {I : FI} {r : Int32 × FI} {b j : Nat} (w0 : ¬ (b = 204 ∧ j = 0)) (h : Mod_said N l1 I = some r) : r.2 b j = I b j := by
  unfold Mod_said at h
  obtain ⟨I1, e1, h⟩ := bnd h
  have q2 : I1 b j = I b j := by rw [← Option.some.inj e1]; exact (up2_ff w0).trans rfl
  rcases iteC h with ⟨hb, h⟩ | ⟨hb, h⟩
  · skip
    obtain rfl := Option.some.inj h; exact q2
  · skip
    exact (fr_Mod_said_22 w0 _ l1 0 0 I1 h).trans q2
set_option maxRecDepth 8000 in
theorem fr_Mod_image_51 {N : Nat} {r : Bool × FI × FJ} {b j : Nat} (w0 : b ≠ 208) (w1 : b ≠ 214) (w2 : ¬ (b = 204 ∧ j = 0)) : ∀ (n : Nat) (l1 : Int32) (l2 : Int32) (I : FI) (J : FJ), Mod_image_51 N n l1 l2 I J = some r → r.2.1 b j = I b j := by
  intro n
  induction n with
  | zero =>
    intro l1 l2 I J h
    cases h
  | succ n ih =>
    intro l1 l2 I J h
    unfold Mod_image_51 at h
    rcases iteC h with ⟨hb, h⟩ | ⟨hb, h⟩
    · skip
      obtain ⟨hg3, h⟩ := grd h
      obtain ⟨I4, e1, h⟩ := bnd h
      have q5 : I4 b j = I b j := by rw [← Option.some.inj e1]; exact (up2_fa w1).trans rfl
      obtain rfl := Option.some.inj h; exact q5
    · skip
      obtain ⟨hg6, h⟩ := grd h
      obtain ⟨hg7, h⟩ := grd h
      obtain ⟨J8, e1, h⟩ := bnd h
      exact (ih l1 (l2 + 1) I J8 h).trans rfl
set_option maxRecDepth 8000 in
theorem fr_Mod_image_18 {N : Nat} {r : Bool × FI × FJ} {b j : Nat} (w0 : b ≠ 208) (w1 : b ≠ 214) (w2 : ¬ (b = 204 ∧ j = 0)) : ∀ (n : Nat) (l1 : Int32) (l2 : Int32) (I : FI) (J : FJ), Mod_image_18 N n l1 l2 I J = some r → r.2.1 b j = I b j := by
  intro n
  induction n with
  | zero =>
    intro l1 l2 I J h
    cases h
  | succ n ih =>
    intro l1 l2 I J h
    unfold Mod_image_18 at h
    rcases iteC h with ⟨hb, h⟩ | ⟨hb, h⟩
    · skip
      exact (fr_Mod_image_51 w0 w1 w2 _ l1 0 I J h).trans rfl
    · skip
      obtain ⟨hg9, h⟩ := grd h
      obtain ⟨hg10, h⟩ := grd h
      obtain ⟨I11, e1, h⟩ := bnd h
      have q12 : I11 b j = I b j := by rw [← Option.some.inj e1]; exact (up2_fa w0).trans rfl
      exact (ih l1 (l2 + 1) I11 J h).trans q12
set_option maxRecDepth 8000 in
theorem fr_Mod_image {N : Nat} {l1 : Int32} {I : FI} {J : FJ} {r : Bool × FI × FJ} {b j : Nat} (w0 : b ≠ 208) (w1 : b ≠ 214) (w2 : ¬ (b = 204 ∧ j = 0)) (h : Mod_image N l1 I J = some r) : r.2.1 b j = I b j := by
  unfold Mod_image at h
  obtain ⟨I1, e1, h⟩ := bnd h
  have q2 : I1 b j = I b j := by rw [← Option.some.inj e1]; exact (up2_ff w2).trans rfl
  rcases iteC h with ⟨hb, h⟩ | ⟨hb, h⟩
  rotate_left
  · skip
    obtain rfl := Option.some.inj h; exact q2
  · skip
    exact (fr_Mod_image_18 w0 w1 w2 _ l1 0 I1 J h).trans q2
set_option maxRecDepth 8000 in
theorem fr_Mod_restore_60 {N : Nat} {r : Bool × FI × FJ} {b j : Nat} (w0 : b ≠ 206) (w1 : ¬ (b = 204 ∧ j = 0)) (w2 : ¬ (b = 204 ∧ j = 24)) : ∀ (n : Nat) (l1 : Int32) (l2 : Int32) (I : FI) (J : FJ), Mod_restore_60 N n l1 l2 I J = some r → r.2.1 b j = I b j := by
  intro n
  induction n with
  | zero =>
    intro l1 l2 I J h
    cases h
  | succ n ih =>
    intro l1 l2 I J h
    unfold Mod_restore_60 at h
    rcases iteC h with ⟨hb, h⟩ | ⟨hb, h⟩
    · skip
      obtain ⟨I4, e1, h⟩ := bnd h
      have q5 : I4 b j = I b j := by rw [← Option.some.inj e1]; exact (up2_ff w2).trans rfl
      obtain rfl := Option.some.inj h; exact q5
    · skip
      obtain ⟨hg6, h⟩ := grd h
      obtain ⟨hg7, h⟩ := grd h
      obtain ⟨J8, e1, h⟩ := bnd h
      exact (ih l1 (l2 + 1) I J8 h).trans rfl
set_option maxRecDepth 8000 in
theorem fr_Mod_restore_27 {N : Nat} {r : Bool × FI × FJ} {b j : Nat} (w0 : b ≠ 206) (w1 : ¬ (b = 204 ∧ j = 0)) (w2 : ¬ (b = 204 ∧ j = 24)) : ∀ (n : Nat) (l1 : Int32) (l2 : Int32) (I : FI) (J : FJ), Mod_restore_27 N n l1 l2 I J = some r → r.2.1 b j = I b j := by
  intro n
  induction n with
  | zero =>
    intro l1 l2 I J h
    cases h
  | succ n ih =>
    intro l1 l2 I J h
    unfold Mod_restore_27 at h
    rcases iteC h with ⟨hb, h⟩ | ⟨hb, h⟩
    · skip
      exact (fr_Mod_restore_60 w0 w1 w2 _ l1 0 I J h).trans rfl
    · skip
      obtain ⟨hg9, h⟩ := grd h
      obtain ⟨hg10, h⟩ := grd h
      obtain ⟨I11, e1, h⟩ := bnd h
      have q12 : I11 b j = I b j := by rw [← Option.some.inj e1]; exact (up2_fa w0).trans rfl
      exact (ih l1 (l2 + 1) I11 J h).trans q12
set_option maxRecDepth 8000 in
theorem fr_Mod_restore {N : Nat} {l1 : Int32} {I : FI} {J : FJ} {r : Bool × FI × FJ} {b j : Nat} (w0 : b ≠ 206) (w1 : ¬ (b = 204 ∧ j = 0)) (w2 : ¬ (b = 204 ∧ j = 24)) (h : Mod_restore N l1 I J = some r) : r.2.1 b j = I b j := by
  unfold Mod_restore at h
  obtain ⟨I1, e1, h⟩ := bnd h
  have q2 : I1 b j = I b j := by rw [← Option.some.inj e1]; exact (up2_ff w1).trans rfl
  rcases iteC h with ⟨hb, h⟩ | ⟨hb, h⟩
  rotate_left
  · skip
    obtain rfl := Option.some.inj h; exact q2
  · skip
    obtain ⟨hg3, h⟩ := grd h
    rcases iteC h with ⟨hb, h⟩ | ⟨hb, h⟩
    · skip
      obtain rfl := Option.some.inj h; exact q2
    · skip
      exact (fr_Mod_restore_27 w0 w1 w2 _ l1 0 I1 J h).trans q2
set_option maxRecDepth 8000 in
theorem fr_Mod_count {l1 : Int32} {I : FI} {r : Int32 × FI} {b j : Nat} (w0 : ¬ (b = 204 ∧ j = 0)) (h : Mod_count l1 I = some r) : r.2 b j = I b j := by
  unfold Mod_count at h
  obtain ⟨I1, e1, h⟩ := bnd h
  have q2 : I1 b j = I b j := by rw [← Option.some.inj e1]; exact (up2_ff w0).trans rfl
  rcases iteC h with ⟨hb, h⟩ | ⟨hb, h⟩
  · skip
    obtain rfl := Option.some.inj h; exact q2
  rcases iteC h with ⟨hb, h⟩ | ⟨hb, h⟩
  · skip
    obtain rfl := Option.some.inj h; exact q2
  rcases iteC h with ⟨hb, h⟩ | ⟨hb, h⟩
  · skip
    obtain rfl := Option.some.inj h; exact q2
  rcases iteC h with ⟨hb, h⟩ | ⟨hb, h⟩
  · skip
    obtain rfl := Option.some.inj h; exact q2
  rcases iteC h with ⟨hb, h⟩ | ⟨hb, h⟩
  · skip
    obtain rfl := Option.some.inj h; exact q2
  rcases iteC h with ⟨hb, h⟩ | ⟨hb, h⟩
  · skip
    obtain rfl := Option.some.inj h; exact q2
  rcases iteC h with ⟨hb, h⟩ | ⟨hb, h⟩
  · skip
    obtain rfl := Option.some.inj h; exact q2
  obtain rfl := Option.some.inj h; exact q2
set_option maxRecDepth 8000 in
theorem fj_Arrays_fill_JJV_6 {N : Nat} {a0 n0 : Nat} {r : FJ} {b j : Nat} (w0 : b ≠ a0) : ∀ (n : Nat) (l1 : Int64) (l3 : Int32) (l4 : Int32) (J : FJ), Arrays_fill_JJV_6 N a0 n0 n l1 l3 l4 J = some r → r b j = J b j := by
  intro n
  induction n with
  | zero =>
    intro l1 l3 l4 J h
    cases h
  | succ n ih =>
    intro l1 l3 l4 J h
    unfold Arrays_fill_JJV_6 at h
    rcases iteC h with ⟨hb, h⟩ | ⟨hb, h⟩
    · skip
      obtain rfl := Option.some.inj h; exact rfl
    · skip
      obtain ⟨hg1, h⟩ := grd h
      obtain ⟨J2, e1, h⟩ := bnd h
      have q3 : J2 b j = J b j := by rw [← Option.some.inj e1]; exact (up2_fa w0).trans rfl
      exact (ih l1 (l3 + 1) l4 J2 h).trans q3
set_option maxRecDepth 8000 in
theorem fj_Arrays_fill_JJV {N : Nat} {a0 n0 : Nat} {l1 : Int64} {J : FJ} {r : FJ} {b j : Nat} (w0 : b ≠ a0) (h : Arrays_fill_JJV N a0 n0 l1 J = some r) : r b j = J b j := by
  unfold Arrays_fill_JJV at h
  exact (fj_Arrays_fill_JJV_6 w0 _ l1 0 (Int32.ofNat n0) J h).trans rfl
set_option maxRecDepth 8000 in
theorem fj_Beliefs_weigh_27 {N : Nat} {a0 a1 a2 : Nat} {K : Int32 → Int32 → FI → FJ → Option (FJ)} {r : FJ} {b j : Nat} (w0 : b ≠ (a0 + 1)) (w1 : ¬ (b = a0 ∧ j = 1)) (hK : ∀ (x3 : Int32) (x4 : Int32) (I : FI) (J : FJ), K x3 x4 I J = some r → r b j = J b j) : ∀ (n : Nat) (l3 : Int32) (l4 : Int32) (l5 : Int64) (l7 : Int32) (I : FI) (J : FJ), Beliefs_weigh_27 N a0 a1 a2 K n l3 l4 l5 l7 I J = some r → r b j = J b j := by
  intro n
  induction n with
  | zero =>
    intro l3 l4 l5 l7 I J h
    cases h
  | succ n ih =>
    intro l3 l4 l5 l7 I J h
    unfold Beliefs_weigh_27 at h
    rcases iteC h with ⟨hb, h⟩ | ⟨hb, h⟩
    · skip
      obtain ⟨hg8, h⟩ := grd h
      obtain ⟨J9, e1, h⟩ := bnd h
      have q10 : J9 b j = J b j := by rw [← Option.some.inj e1]; exact (up2_fa w0).trans rfl
      obtain ⟨J11, e1, h⟩ := bnd h
      have q12 : J11 b j = J b j := by rw [← Option.some.inj e1]; exact (up2_ff w1).trans q10
      exact (hK l3 (l4 + 1) I J11 h).trans q12
    · skip
      obtain ⟨hg13, h⟩ := grd h
      rcases iteC h with ⟨hb, h⟩ | ⟨hb, h⟩
      · skip
        obtain ⟨x14, hx, h⟩ := bnd h
        obtain ⟨hg15, h⟩ := grd h
        exact (ih l3 l4 (l5 * ((I (a1 + 6) (((l4 * 4) + x14).toNatClampNeg)).toInt64)) (l7 + 1) I J h).trans rfl
      · skip
        rcases iteC h with ⟨hb, h⟩ | ⟨hb, h⟩
        · skip
          obtain ⟨x16, hx, h⟩ := bnd h
          obtain ⟨hg17, h⟩ := grd h
          exact (ih l3 l4 (l5 * ((I (a1 + 6) (((l4 * 4) + x16).toNatClampNeg)).toInt64)) (l7 + 1) I J h).trans rfl
        · skip
          exact (ih l3 l4 l5 (l7 + 1) I J h).trans rfl
set_option maxRecDepth 8000 in
theorem fj_Beliefs_weigh_8 {N : Nat} {a0 a1 a2 : Nat} {r : FJ} {b j : Nat} (w0 : b ≠ (a0 + 1)) (w1 : ¬ (b = a0 ∧ j = 1)) : ∀ (n : Nat) (l3 : Int32) (l4 : Int32) (I : FI) (J : FJ), Beliefs_weigh_8 N a0 a1 a2 n l3 l4 I J = some r → r b j = J b j := by
  intro n
  induction n with
  | zero =>
    intro l3 l4 I J h
    cases h
  | succ n ih =>
    intro l3 l4 I J h
    unfold Beliefs_weigh_8 at h
    rcases iteC h with ⟨hb, h⟩ | ⟨hb, h⟩
    · skip
      rcases iteC h with ⟨hb, h⟩ | ⟨hb, h⟩
      · skip
        obtain ⟨x3, hx, h⟩ := bnd h
        have q4 : x3 b j = J b j := (fj_Arrays_fill_JJV w0 hx).trans rfl
        obtain ⟨J5, e1, h⟩ := bnd h
        have q6 : J5 b j = J b j := by rw [← Option.some.inj e1]; exact (up2_ff w1).trans q4
        obtain rfl := Option.some.inj h; exact q6
      · skip
        obtain rfl := Option.some.inj h; exact rfl
    · skip
      obtain ⟨hg7, h⟩ := grd h
      exact (fj_Beliefs_weigh_27 w0 w1 (fun x3 x4 I J h => ih x3 x4 I J h) _ l3 l4 ((I (a1 + 7) l4.toNatClampNeg).toInt64) 0 I J h).trans rfl
set_option maxRecDepth 8000 in
theorem fj_Beliefs_weigh {N : Nat} {a0 a1 a2 : Nat} {l3 : Int32} {I : FI} {J : FJ} {r : FJ} {b j : Nat} (w0 : b ≠ (a0 + 1)) (w1 : ¬ (b = a0 ∧ j = 1)) (h : Beliefs_weigh N a0 a1 a2 l3 I J = some r) : r b j = J b j := by
  unfold Beliefs_weigh at h
  obtain ⟨J1, e1, h⟩ := bnd h
  have q2 : J1 b j = J b j := by rw [← Option.some.inj e1]; exact (up2_ff w1).trans rfl
  exact (fj_Beliefs_weigh_8 w0 w1 _ l3 0 I J1 h).trans q2
set_option maxRecDepth 8000 in
theorem fj_Tape_readRun_10 {N : Nat} {a0 : Nat} {r : FI × FJ} {b j : Nat} (w0 : b ≠ (a0 + 5)) : ∀ (n : Nat) (l1 : Int32) (l2 : Int32) (l3 : Int32) (l4 : Int32) (l5 : Int64) (I : FI) (J : FJ), Tape_readRun_10 N a0 n l1 l2 l3 l4 l5 I J = some r → r.2 b j = J b j := by
  intro n
  induction n with
  | zero =>
    intro l1 l2 l3 l4 l5 I J h
    cases h
  | succ n ih =>
    intro l1 l2 l3 l4 l5 I J h
    unfold Tape_readRun_10 at h
    rcases iteC h with ⟨hb, h⟩ | ⟨hb, h⟩
    · skip
      rcases iteC h with ⟨hb, h⟩ | ⟨hb, h⟩
      · skip
        rcases iteC h with ⟨hb, h⟩ | ⟨hb, h⟩
        · skip
          rcases iteC h with ⟨hb, h⟩ | ⟨hb, h⟩
          · skip
            rcases iteC h with ⟨hb, h⟩ | ⟨hb, h⟩
            · skip
              obtain ⟨hg1, h⟩ := grd h
              obtain ⟨I2, e1, h⟩ := bnd h
              obtain ⟨J3, e1, h⟩ := bnd h
              have q4 : J3 b j = J b j := by rw [← Option.some.inj e1]; exact (up2_fa w0).trans rfl
              obtain rfl := Option.some.inj h; exact q4
            · skip
              obtain ⟨hg5, h⟩ := grd h
              obtain ⟨I6, e1, h⟩ := bnd h
              obtain ⟨J7, e1, h⟩ := bnd h
              have q8 : J7 b j = J b j := by rw [← Option.some.inj e1]; exact (up2_fa w0).trans rfl
              obtain rfl := Option.some.inj h; exact q8
          · skip
            obtain ⟨hg9, h⟩ := grd h
            obtain ⟨I10, e1, h⟩ := bnd h
            obtain ⟨J11, e1, h⟩ := bnd h
            have q12 : J11 b j = J b j := by rw [← Option.some.inj e1]; exact (up2_fa w0).trans rfl
            obtain rfl := Option.some.inj h; exact q12
        · skip
          obtain ⟨x13, hx, h⟩ := bnd h
          rcases iteC h with ⟨hb, h⟩ | ⟨hb, h⟩
          · skip
            obtain ⟨hg14, h⟩ := grd h
            obtain ⟨I15, e1, h⟩ := bnd h
            rcases iteC h with ⟨hb, h⟩ | ⟨hb, h⟩
            · skip
              obtain ⟨J16, e1, h⟩ := bnd h
              have q17 : J16 b j = J b j := by rw [← Option.some.inj e1]; exact (up2_fa w0).trans rfl
              obtain rfl := Option.some.inj h; exact q17
            · skip
              obtain ⟨J18, e1, h⟩ := bnd h
              have q19 : J18 b j = J b j := by rw [← Option.some.inj e1]; exact (up2_fa w0).trans rfl
              obtain rfl := Option.some.inj h; exact q19
          · skip
            obtain ⟨hg20, h⟩ := grd h
            obtain ⟨I21, e1, h⟩ := bnd h
            rcases iteC h with ⟨hb, h⟩ | ⟨hb, h⟩
            · skip
              obtain ⟨J22, e1, h⟩ := bnd h
              have q23 : J22 b j = J b j := by rw [← Option.some.inj e1]; exact (up2_fa w0).trans rfl
              obtain rfl := Option.some.inj h; exact q23
            · skip
              obtain ⟨J24, e1, h⟩ := bnd h
              have q25 : J24 b j = J b j := by rw [← Option.some.inj e1]; exact (up2_fa w0).trans rfl
              obtain rfl := Option.some.inj h; exact q25
      · skip
        rcases iteC h with ⟨hb, h⟩ | ⟨hb, h⟩
        · skip
          rcases iteC h with ⟨hb, h⟩ | ⟨hb, h⟩
          · skip
            obtain ⟨hg26, h⟩ := grd h
            obtain ⟨I27, e1, h⟩ := bnd h
            obtain ⟨J28, e1, h⟩ := bnd h
            have q29 : J28 b j = J b j := by rw [← Option.some.inj e1]; exact (up2_fa w0).trans rfl
            obtain rfl := Option.some.inj h; exact q29
          · skip
            obtain ⟨hg30, h⟩ := grd h
            obtain ⟨I31, e1, h⟩ := bnd h
            obtain ⟨J32, e1, h⟩ := bnd h
            have q33 : J32 b j = J b j := by rw [← Option.some.inj e1]; exact (up2_fa w0).trans rfl
            obtain rfl := Option.some.inj h; exact q33
        · skip
          obtain ⟨hg34, h⟩ := grd h
          obtain ⟨I35, e1, h⟩ := bnd h
          obtain ⟨J36, e1, h⟩ := bnd h
          have q37 : J36 b j = J b j := by rw [← Option.some.inj e1]; exact (up2_fa w0).trans rfl
          obtain rfl := Option.some.inj h; exact q37
    · skip
      obtain ⟨hg38, h⟩ := grd h
      rcases iteC h with ⟨hb, h⟩ | ⟨hb, h⟩
      rotate_left
      · skip
        rcases iteC h with ⟨hb, h⟩ | ⟨hb, h⟩
        · skip
          rcases iteC h with ⟨hb, h⟩ | ⟨hb, h⟩
          · skip
            rcases iteC h with ⟨hb, h⟩ | ⟨hb, h⟩
            · skip
              rcases iteC h with ⟨hb, h⟩ | ⟨hb, h⟩
              · skip
                obtain ⟨hg39, h⟩ := grd h
                obtain ⟨I40, e1, h⟩ := bnd h
                obtain ⟨J41, e1, h⟩ := bnd h
                have q42 : J41 b j = J b j := by rw [← Option.some.inj e1]; exact (up2_fa w0).trans rfl
                obtain rfl := Option.some.inj h; exact q42
              · skip
                obtain ⟨hg43, h⟩ := grd h
                obtain ⟨I44, e1, h⟩ := bnd h
                obtain ⟨J45, e1, h⟩ := bnd h
                have q46 : J45 b j = J b j := by rw [← Option.some.inj e1]; exact (up2_fa w0).trans rfl
                obtain rfl := Option.some.inj h; exact q46
            · skip
              obtain ⟨hg47, h⟩ := grd h
              obtain ⟨I48, e1, h⟩ := bnd h
              obtain ⟨J49, e1, h⟩ := bnd h
              have q50 : J49 b j = J b j := by rw [← Option.some.inj e1]; exact (up2_fa w0).trans rfl
              obtain rfl := Option.some.inj h; exact q50
          · skip
            obtain ⟨x51, hx, h⟩ := bnd h
            rcases iteC h with ⟨hb, h⟩ | ⟨hb, h⟩
            · skip
              obtain ⟨hg52, h⟩ := grd h
              obtain ⟨I53, e1, h⟩ := bnd h
              rcases iteC h with ⟨hb, h⟩ | ⟨hb, h⟩
              · skip
                obtain ⟨J54, e1, h⟩ := bnd h
                have q55 : J54 b j = J b j := by rw [← Option.some.inj e1]; exact (up2_fa w0).trans rfl
                obtain rfl := Option.some.inj h; exact q55
              · skip
                obtain ⟨J56, e1, h⟩ := bnd h
                have q57 : J56 b j = J b j := by rw [← Option.some.inj e1]; exact (up2_fa w0).trans rfl
                obtain rfl := Option.some.inj h; exact q57
            · skip
              obtain ⟨hg58, h⟩ := grd h
              obtain ⟨I59, e1, h⟩ := bnd h
              rcases iteC h with ⟨hb, h⟩ | ⟨hb, h⟩
              · skip
                obtain ⟨J60, e1, h⟩ := bnd h
                have q61 : J60 b j = J b j := by rw [← Option.some.inj e1]; exact (up2_fa w0).trans rfl
                obtain rfl := Option.some.inj h; exact q61
              · skip
                obtain ⟨J62, e1, h⟩ := bnd h
                have q63 : J62 b j = J b j := by rw [← Option.some.inj e1]; exact (up2_fa w0).trans rfl
                obtain rfl := Option.some.inj h; exact q63
        · skip
          rcases iteC h with ⟨hb, h⟩ | ⟨hb, h⟩
          · skip
            rcases iteC h with ⟨hb, h⟩ | ⟨hb, h⟩
            · skip
              obtain ⟨hg64, h⟩ := grd h
              obtain ⟨I65, e1, h⟩ := bnd h
              obtain ⟨J66, e1, h⟩ := bnd h
              have q67 : J66 b j = J b j := by rw [← Option.some.inj e1]; exact (up2_fa w0).trans rfl
              obtain rfl := Option.some.inj h; exact q67
            · skip
              obtain ⟨hg68, h⟩ := grd h
              obtain ⟨I69, e1, h⟩ := bnd h
              obtain ⟨J70, e1, h⟩ := bnd h
              have q71 : J70 b j = J b j := by rw [← Option.some.inj e1]; exact (up2_fa w0).trans rfl
              obtain rfl := Option.some.inj h; exact q71
          · skip
            obtain ⟨hg72, h⟩ := grd h
            obtain ⟨I73, e1, h⟩ := bnd h
            obtain ⟨J74, e1, h⟩ := bnd h
            have q75 : J74 b j = J b j := by rw [← Option.some.inj e1]; exact (up2_fa w0).trans rfl
            obtain rfl := Option.some.inj h; exact q75
      · skip
        rcases iteC h with ⟨hb, h⟩ | ⟨hb, h⟩
        rotate_left
        · skip
          rcases iteC h with ⟨hb, h⟩ | ⟨hb, h⟩
          · skip
            obtain ⟨I76, e1, h⟩ := bnd h
            exact (ih l1 (l2 + 1) l3 l4 (Tape_withLetter l5 (I (a0 + 1) ((I a0 6).toNatClampNeg))) I76 J h).trans rfl
          · skip
            obtain ⟨I77, e1, h⟩ := bnd h
            exact (ih l1 (l2 + 1) l3 l4 0 I77 J h).trans rfl
        · skip
          rcases iteC h with ⟨hb, h⟩ | ⟨hb, h⟩
          · skip
            obtain ⟨I78, e1, h⟩ := bnd h
            exact (ih l1 l2 (l3 + 1) (((l4 * 10) + (I (a0 + 1) ((I a0 6).toNatClampNeg))) - 48) l5 I78 J h).trans rfl
          · skip
            obtain ⟨I79, e1, h⟩ := bnd h
            exact (ih l1 l2 (l3 + 1) 0 l5 I79 J h).trans rfl
set_option maxRecDepth 8000 in
theorem fj_Tape_readRun {N : Nat} {a0 : Nat} {l1 : Int32} {I : FI} {J : FJ} {r : FI × FJ} {b j : Nat} (w0 : b ≠ (a0 + 5)) (h : Tape_readRun N a0 l1 I J = some r) : r.2 b j = J b j := by
  unfold Tape_readRun at h
  exact (fj_Tape_readRun_10 w0 _ l1 0 0 0 0 I J h).trans rfl
set_option maxRecDepth 8000 in
theorem fj_Tape_readToken {N : Nat} {a0 : Nat} {l1 : Int32} {I : FI} {J : FJ} {r : FI × FJ} {b j : Nat} (w0 : b ≠ (a0 + 5)) (h : Tape_readToken N a0 l1 I J = some r) : r.2 b j = J b j := by
  unfold Tape_readToken at h
  obtain ⟨hg1, h⟩ := grd h
  rcases iteC h with ⟨hb, h⟩ | ⟨hb, h⟩
  rotate_left
  · skip
    rcases iteC h with ⟨hb, h⟩ | ⟨hb, h⟩
    rotate_left
    · skip
      obtain ⟨hg2, h⟩ := grd h
      obtain ⟨I3, e1, h⟩ := bnd h
      obtain ⟨I4, e1, h⟩ := bnd h
      obtain rfl := Option.some.inj h; exact rfl
    · skip
      obtain ⟨hg5, h⟩ := grd h
      obtain ⟨I6, e1, h⟩ := bnd h
      obtain ⟨I7, e1, h⟩ := bnd h
      obtain rfl := Option.some.inj h; exact rfl
  · skip
    obtain ⟨x8, hx, h⟩ := bnd h
    have q9 : x8.2 b j = J b j := (fj_Tape_readRun w0 hx).trans rfl
    obtain rfl := Option.some.inj h; exact q9
set_option maxRecDepth 8000 in
theorem fj_Tape_step {a0 : Nat} {I : FI} {J : FJ} {r : FI × FJ} {b j : Nat} (w0 : ¬ (b = a0 ∧ j = 10)) (h : Tape_step a0 I J = some r) : r.2 b j = J b j := by
  unfold Tape_step at h
  obtain ⟨hg1, h⟩ := grd h
  obtain ⟨I2, e1, h⟩ := bnd h
  obtain ⟨hg3, h⟩ := grd h
  obtain ⟨I4, e1, h⟩ := bnd h
  obtain ⟨hg5, h⟩ := grd h
  obtain ⟨J6, e1, h⟩ := bnd h
  have q7 : J6 b j = J b j := by rw [← Option.some.inj e1]; exact (up2_ff w0).trans rfl
  rcases iteC h with ⟨hb, h⟩ | ⟨hb, h⟩
  · skip
    obtain ⟨I8, e1, h⟩ := bnd h
    rcases iteC h with ⟨hb, h⟩ | ⟨hb, h⟩
    · skip
      obtain rfl := Option.some.inj h; exact q7
    · skip
      obtain ⟨I9, e1, h⟩ := bnd h
      obtain rfl := Option.some.inj h; exact q7
  · skip
    obtain ⟨I10, e1, h⟩ := bnd h
    rcases iteC h with ⟨hb, h⟩ | ⟨hb, h⟩
    · skip
      obtain rfl := Option.some.inj h; exact q7
    · skip
      obtain ⟨I11, e1, h⟩ := bnd h
      obtain rfl := Option.some.inj h; exact q7
set_option maxRecDepth 8000 in
theorem fj_Tape_begin_11 {N : Nat} {a0 : Nat} {r : FI × FJ} {b j : Nat} (w0 : b ≠ (a0 + 5)) (w1 : ¬ (b = a0 ∧ j = 10)) : ∀ (n : Nat) (l1 : Int32) (l2 : Int32) (I : FI) (J : FJ), Tape_begin_11 N a0 n l1 l2 I J = some r → r.2 b j = J b j := by
  intro n
  induction n with
  | zero =>
    intro l1 l2 I J h
    cases h
  | succ n ih =>
    intro l1 l2 I J h
    unfold Tape_begin_11 at h
    rcases iteC h with ⟨hb, h⟩ | ⟨hb, h⟩
    · skip
      rcases iteC h with ⟨hb, h⟩ | ⟨hb, h⟩
      · skip
        obtain ⟨hg3, h⟩ := grd h
        obtain ⟨I4, e1, h⟩ := bnd h
        obtain ⟨I5, e1, h⟩ := bnd h
        obtain ⟨I6, e1, h⟩ := bnd h
        obtain ⟨I7, e1, h⟩ := bnd h
        obtain ⟨I8, e1, h⟩ := bnd h
        obtain ⟨I9, e1, h⟩ := bnd h
        obtain ⟨x10, hx, h⟩ := bnd h
        have q11 : x10.2 b j = J b j := (fj_Tape_step w1 hx).trans rfl
        obtain rfl := Option.some.inj h; exact q11
      · skip
        obtain ⟨hg12, h⟩ := grd h
        obtain ⟨I13, e1, h⟩ := bnd h
        obtain ⟨I14, e1, h⟩ := bnd h
        obtain ⟨I15, e1, h⟩ := bnd h
        obtain ⟨I16, e1, h⟩ := bnd h
        obtain ⟨I17, e1, h⟩ := bnd h
        obtain ⟨I18, e1, h⟩ := bnd h
        obtain ⟨x19, hx, h⟩ := bnd h
        have q20 : x19.2 b j = J b j := (fj_Tape_step w1 hx).trans rfl
        obtain rfl := Option.some.inj h; exact q20
    · skip
      rcases iteC h with ⟨hb, h⟩ | ⟨hb, h⟩
      · skip
        rcases iteC h with ⟨hb, h⟩ | ⟨hb, h⟩
        · skip
          obtain ⟨hg21, h⟩ := grd h
          obtain ⟨I22, e1, h⟩ := bnd h
          obtain ⟨I23, e1, h⟩ := bnd h
          obtain ⟨I24, e1, h⟩ := bnd h
          obtain ⟨I25, e1, h⟩ := bnd h
          obtain ⟨I26, e1, h⟩ := bnd h
          obtain ⟨I27, e1, h⟩ := bnd h
          obtain ⟨x28, hx, h⟩ := bnd h
          have q29 : x28.2 b j = J b j := (fj_Tape_step w1 hx).trans rfl
          obtain rfl := Option.some.inj h; exact q29
        · skip
          obtain ⟨hg30, h⟩ := grd h
          obtain ⟨I31, e1, h⟩ := bnd h
          obtain ⟨I32, e1, h⟩ := bnd h
          obtain ⟨I33, e1, h⟩ := bnd h
          obtain ⟨I34, e1, h⟩ := bnd h
          obtain ⟨I35, e1, h⟩ := bnd h
          obtain ⟨I36, e1, h⟩ := bnd h
          obtain ⟨x37, hx, h⟩ := bnd h
          have q38 : x37.2 b j = J b j := (fj_Tape_step w1 hx).trans rfl
          obtain rfl := Option.some.inj h; exact q38
      · skip
        rcases iteC h with ⟨hb, h⟩ | ⟨hb, h⟩
        · skip
          rcases iteC h with ⟨hb, h⟩ | ⟨hb, h⟩
          · skip
            obtain ⟨hg39, h⟩ := grd h
            obtain ⟨I40, e1, h⟩ := bnd h
            obtain ⟨I41, e1, h⟩ := bnd h
            obtain ⟨I42, e1, h⟩ := bnd h
            obtain ⟨I43, e1, h⟩ := bnd h
            obtain ⟨I44, e1, h⟩ := bnd h
            obtain ⟨I45, e1, h⟩ := bnd h
            obtain ⟨x46, hx, h⟩ := bnd h
            have q47 : x46.2 b j = J b j := (fj_Tape_step w1 hx).trans rfl
            obtain rfl := Option.some.inj h; exact q47
          · skip
            obtain ⟨hg48, h⟩ := grd h
            obtain ⟨I49, e1, h⟩ := bnd h
            obtain ⟨I50, e1, h⟩ := bnd h
            obtain ⟨I51, e1, h⟩ := bnd h
            obtain ⟨I52, e1, h⟩ := bnd h
            obtain ⟨I53, e1, h⟩ := bnd h
            obtain ⟨I54, e1, h⟩ := bnd h
            obtain ⟨x55, hx, h⟩ := bnd h
            have q56 : x55.2 b j = J b j := (fj_Tape_step w1 hx).trans rfl
            obtain rfl := Option.some.inj h; exact q56
        · skip
          obtain ⟨hg57, h⟩ := grd h
          obtain ⟨I58, e1, h⟩ := bnd h
          obtain ⟨x59, hx, h⟩ := bnd h
          have q60 : x59.2 b j = J b j := (fj_Tape_readToken w0 hx).trans rfl
          obtain ⟨x61, hx, h⟩ := bnd h
          exact (ih l1 (l2 + 1) x61 x59.2 h).trans q60
set_option maxRecDepth 8000 in
theorem fj_Tape_begin {N : Nat} {a0 : Nat} {l1 : Int32} {I : FI} {J : FJ} {r : FI × FJ} {b j : Nat} (w0 : b ≠ (a0 + 5)) (w1 : ¬ (b = a0 ∧ j = 10)) (h : Tape_begin N a0 l1 I J = some r) : r.2 b j = J b j := by
  unfold Tape_begin at h
  obtain ⟨I1, e1, h⟩ := bnd h
  obtain ⟨x2, hx, h⟩ := bnd h
  exact (fj_Tape_begin_11 w0 w1 _ l1 0 x2 J h).trans rfl
set_option maxRecDepth 8000 in
theorem fj_Tape_takeNumber {a0 : Nat} {l1 : Int32} {l2 : Int32} {I : FI} {J : FJ} {r : Bool × FI × FJ} {b j : Nat} (w0 : ¬ (b = a0 ∧ j = 10)) (h : Tape_takeNumber a0 l1 l2 I J = some r) : r.2.2 b j = J b j := by
  unfold Tape_takeNumber at h
  rcases iteC h with ⟨hb, h⟩ | ⟨hb, h⟩
  · skip
    rcases iteC h with ⟨hb, h⟩ | ⟨hb, h⟩
    · skip
      obtain ⟨x1, hx, h⟩ := bnd h
      obtain rfl := Option.some.inj h; exact rfl
    · skip
      rcases iteC h with ⟨hb, h⟩ | ⟨hb, h⟩
      · skip
        obtain ⟨I2, e1, h⟩ := bnd h
        obtain ⟨x3, hx, h⟩ := bnd h
        have q4 : x3.2 b j = J b j := (fj_Tape_step w0 hx).trans rfl
        obtain rfl := Option.some.inj h; exact q4
      · skip
        obtain ⟨x5, hx, h⟩ := bnd h
        obtain rfl := Option.some.inj h; exact rfl
  · skip
    obtain ⟨x6, hx, h⟩ := bnd h
    obtain rfl := Option.some.inj h; exact rfl
set_option maxRecDepth 8000 in
theorem fj_Book_readWork {a0 a1 : Nat} {I : FI} {J : FJ} {r : Bool × FI × FJ} {b j : Nat} (w0 : ¬ (b = a1 ∧ j = 10)) (h : Book_readWork a0 a1 I J = some r) : r.2.2 b j = J b j := by
  unfold Book_readWork at h
  obtain ⟨hg1, h⟩ := grd h
  obtain ⟨I2, e1, h⟩ := bnd h
  rcases iteC h with ⟨hb, h⟩ | ⟨hb, h⟩
  · skip
    obtain ⟨x3, hx, h⟩ := bnd h
    have q4 : x3.2 b j = J b j := (fj_Tape_step w0 hx).trans rfl
    obtain ⟨x5, hx, h⟩ := bnd h
    have q6 : x5.2.2 b j = J b j := (fj_Tape_takeNumber w0 hx).trans q4
    rcases iteC h with ⟨hb, h⟩ | ⟨hb, h⟩
    rotate_left
    · skip
      obtain rfl := Option.some.inj h; exact q6
    · skip
      obtain ⟨hg7, h⟩ := grd h
      obtain ⟨I8, e1, h⟩ := bnd h
      obtain rfl := Option.some.inj h; exact q6
  · skip
    obtain ⟨x9, hx, h⟩ := bnd h
    have q10 : x9.2 b j = J b j := (fj_Tape_step w0 hx).trans rfl
    obtain ⟨x11, hx, h⟩ := bnd h
    have q12 : x11.2.2 b j = J b j := (fj_Tape_takeNumber w0 hx).trans q10
    rcases iteC h with ⟨hb, h⟩ | ⟨hb, h⟩
    rotate_left
    · skip
      obtain rfl := Option.some.inj h; exact q12
    · skip
      obtain ⟨hg13, h⟩ := grd h
      obtain ⟨I14, e1, h⟩ := bnd h
      obtain rfl := Option.some.inj h; exact q12
set_option maxRecDepth 8000 in
theorem fj_Tape_takeAmong {a0 : Nat} {l1 : Int32} {l2 : Int32} {I : FI} {J : FJ} {r : Bool × FI × FJ} {b j : Nat} (w0 : ¬ (b = a0 ∧ j = 10)) (h : Tape_takeAmong a0 l1 l2 I J = some r) : r.2.2 b j = J b j := by
  unfold Tape_takeAmong at h
  rcases iteC h with ⟨hb, h⟩ | ⟨hb, h⟩
  rotate_left
  · skip
    obtain ⟨x1, hx, h⟩ := bnd h
    obtain rfl := Option.some.inj h; exact rfl
  · skip
    obtain ⟨I2, e1, h⟩ := bnd h
    obtain ⟨x3, hx, h⟩ := bnd h
    have q4 : x3.2 b j = J b j := (fj_Tape_step w0 hx).trans rfl
    obtain rfl := Option.some.inj h; exact q4
set_option maxRecDepth 8000 in
theorem fj_Book_readCell {a0 a1 : Nat} {I : FI} {J : FJ} {r : Bool × FI × FJ} {b j : Nat} (w0 : ¬ (b = a1 ∧ j = 10)) (h : Book_readCell a0 a1 I J = some r) : r.2.2 b j = J b j := by
  unfold Book_readCell at h
  obtain ⟨x1, hx, h⟩ := bnd h
  have q2 : x1.2.2 b j = J b j := (fj_Tape_takeNumber w0 hx).trans rfl
  rcases iteC h with ⟨hb, h⟩ | ⟨hb, h⟩
  rotate_left
  · skip
    obtain rfl := Option.some.inj h; exact q2
  · skip
    obtain ⟨hg3, h⟩ := grd h
    obtain ⟨I4, e1, h⟩ := bnd h
    obtain ⟨x5, hx, h⟩ := bnd h
    have q6 : x5.2.2 b j = J b j := (fj_Tape_takeNumber w0 hx).trans q2
    rcases iteC h with ⟨hb, h⟩ | ⟨hb, h⟩
    rotate_left
    · skip
      obtain rfl := Option.some.inj h; exact q6
    · skip
      obtain ⟨hg7, h⟩ := grd h
      obtain ⟨I8, e1, h⟩ := bnd h
      obtain rfl := Option.some.inj h; exact q6
set_option maxRecDepth 8000 in
theorem fj_Book_readDigging {a0 a1 : Nat} {I : FI} {J : FJ} {r : Bool × FI × FJ} {b j : Nat} (w0 : ¬ (b = a1 ∧ j = 10)) (h : Book_readDigging a0 a1 I J = some r) : r.2.2 b j = J b j := by
  unfold Book_readDigging at h
  obtain ⟨hg1, h⟩ := grd h
  obtain ⟨I2, e1, h⟩ := bnd h
  obtain ⟨x3, hx, h⟩ := bnd h
  have q4 : x3.2.2 b j = J b j := (fj_Tape_takeAmong w0 hx).trans rfl
  rcases iteC h with ⟨hb, h⟩ | ⟨hb, h⟩
  rotate_left
  · skip
    obtain rfl := Option.some.inj h; exact q4
  · skip
    obtain ⟨x5, hx, h⟩ := bnd h
    have q6 : x5.2.2 b j = J b j := (fj_Book_readCell w0 hx).trans q4
    rcases iteC h with ⟨hb, h⟩ | ⟨hb, h⟩
    rotate_left
    · skip
      obtain rfl := Option.some.inj h; exact q6
    · skip
      obtain rfl := Option.some.inj h; exact q6
set_option maxRecDepth 8000 in
theorem fj_Book_readReceiver {N : Nat} {a0 a1 a2 : Nat} {I : FI} {J : FJ} {r : Bool × FI × FJ} {b j : Nat} (w0 : ¬ (b = a1 ∧ j = 10)) (h : Book_readReceiver N a0 a1 a2 I J = some r) : r.2.2 b j = J b j := by
  unfold Book_readReceiver at h
  rcases iteC h with ⟨hb, h⟩ | ⟨hb, h⟩
  rotate_left
  · skip
    obtain ⟨x1, hx, h⟩ := bnd h
    obtain rfl := Option.some.inj h; exact rfl
  · skip
    obtain ⟨x2, hx, h⟩ := bnd h
    obtain ⟨hg3, h⟩ := grd h
    obtain ⟨I4, e1, h⟩ := bnd h
    obtain ⟨hg5, h⟩ := grd h
    rcases iteC h with ⟨hb, h⟩ | ⟨hb, h⟩
    · skip
      obtain ⟨x6, hx, h⟩ := bnd h
      have q7 : x6.2 b j = J b j := (fj_Tape_step w0 hx).trans rfl
      obtain rfl := Option.some.inj h; exact q7
    · skip
      obtain ⟨x8, hx, h⟩ := bnd h
      obtain rfl := Option.some.inj h; exact rfl
set_option maxRecDepth 8000 in
theorem fj_Book_readHandling {N : Nat} {a0 a1 a2 : Nat} {I : FI} {J : FJ} {r : Bool × FI × FJ} {b j : Nat} (w0 : ¬ (b = a1 ∧ j = 10)) (h : Book_readHandling N a0 a1 a2 I J = some r) : r.2.2 b j = J b j := by
  unfold Book_readHandling at h
  obtain ⟨hg1, h⟩ := grd h
  obtain ⟨I2, e1, h⟩ := bnd h
  obtain ⟨x3, hx, h⟩ := bnd h
  have q4 : x3.2.2 b j = J b j := (fj_Tape_takeAmong w0 hx).trans rfl
  rcases iteC h with ⟨hb, h⟩ | ⟨hb, h⟩
  rotate_left
  · skip
    obtain rfl := Option.some.inj h; exact q4
  · skip
    obtain ⟨hg5, h⟩ := grd h
    rcases iteC h with ⟨hb, h⟩ | ⟨hb, h⟩
    · skip
      obtain ⟨x6, hx, h⟩ := bnd h
      have q7 : x6.2.2 b j = J b j := (fj_Book_readCell w0 hx).trans q4
      obtain rfl := Option.some.inj h; exact q7
    rcases iteC h with ⟨hb, h⟩ | ⟨hb, h⟩
    · skip
      obtain ⟨x8, hx, h⟩ := bnd h
      have q9 : x8.2.2 b j = J b j := (fj_Book_readReceiver w0 hx).trans q4
      obtain rfl := Option.some.inj h; exact q9
    obtain rfl := Option.some.inj h; exact q4
set_option maxRecDepth 8000 in
theorem fj_Book_readLine {N : Nat} {a0 a1 a2 : Nat} {I : FI} {J : FJ} {r : Bool × FI × FJ} {b j : Nat} (w0 : ¬ (b = a1 ∧ j = 10)) (h : Book_readLine N a0 a1 a2 I J = some r) : r.2.2 b j = J b j := by
  unfold Book_readLine at h
  rcases iteC h with ⟨hb, h⟩ | ⟨hb, h⟩
  rotate_left
  · skip
    rcases iteC h with ⟨hb, h⟩ | ⟨hb, h⟩
    rotate_left
    · skip
      rcases iteC h with ⟨hb, h⟩ | ⟨hb, h⟩
      rotate_left
      · skip
        obtain ⟨x1, hx, h⟩ := bnd h
        obtain rfl := Option.some.inj h; exact rfl
      · skip
        obtain ⟨x2, hx, h⟩ := bnd h
        obtain ⟨x3, hx, h⟩ := bnd h
        rcases iteC h with ⟨hb, h⟩ | ⟨hb, h⟩
        · skip
          rcases iteC h with ⟨hb, h⟩ | ⟨hb, h⟩
          · skip
            obtain ⟨x4, hx, h⟩ := bnd h
            have q5 : x4.2 b j = J b j := (fj_Tape_step w0 hx).trans rfl
            rcases iteC h with ⟨hb, h⟩ | ⟨hb, h⟩
            · skip
              obtain ⟨hg6, h⟩ := grd h
              obtain ⟨I7, e1, h⟩ := bnd h
              rcases iteC h with ⟨hb, h⟩ | ⟨hb, h⟩
              · skip
                obtain ⟨x8, hx, h⟩ := bnd h
                have q9 : x8.2.2 b j = J b j := (fj_Book_readHandling w0 hx).trans q5
                obtain rfl := Option.some.inj h; exact q9
              · skip
                obtain ⟨x10, hx, h⟩ := bnd h
                have q11 : x10.2.2 b j = J b j := (fj_Book_readDigging w0 hx).trans q5
                obtain rfl := Option.some.inj h; exact q11
            · skip
              obtain ⟨hg12, h⟩ := grd h
              obtain ⟨I13, e1, h⟩ := bnd h
              rcases iteC h with ⟨hb, h⟩ | ⟨hb, h⟩
              · skip
                obtain ⟨x14, hx, h⟩ := bnd h
                have q15 : x14.2.2 b j = J b j := (fj_Book_readHandling w0 hx).trans q5
                obtain rfl := Option.some.inj h; exact q15
              · skip
                obtain ⟨x16, hx, h⟩ := bnd h
                have q17 : x16.2.2 b j = J b j := (fj_Book_readDigging w0 hx).trans q5
                obtain rfl := Option.some.inj h; exact q17
          · skip
            obtain ⟨x18, hx, h⟩ := bnd h
            obtain rfl := Option.some.inj h; exact rfl
        · skip
          rcases iteC h with ⟨hb, h⟩ | ⟨hb, h⟩
          · skip
            rcases iteC h with ⟨hb, h⟩ | ⟨hb, h⟩
            · skip
              obtain ⟨x19, hx, h⟩ := bnd h
              have q20 : x19.2 b j = J b j := (fj_Tape_step w0 hx).trans rfl
              rcases iteC h with ⟨hb, h⟩ | ⟨hb, h⟩
              · skip
                obtain ⟨hg21, h⟩ := grd h
                obtain ⟨I22, e1, h⟩ := bnd h
                rcases iteC h with ⟨hb, h⟩ | ⟨hb, h⟩
                · skip
                  obtain ⟨x23, hx, h⟩ := bnd h
                  have q24 : x23.2.2 b j = J b j := (fj_Book_readHandling w0 hx).trans q20
                  obtain rfl := Option.some.inj h; exact q24
                · skip
                  obtain ⟨x25, hx, h⟩ := bnd h
                  have q26 : x25.2.2 b j = J b j := (fj_Book_readDigging w0 hx).trans q20
                  obtain rfl := Option.some.inj h; exact q26
              · skip
                obtain ⟨hg27, h⟩ := grd h
                obtain ⟨I28, e1, h⟩ := bnd h
                rcases iteC h with ⟨hb, h⟩ | ⟨hb, h⟩
                · skip
                  obtain ⟨x29, hx, h⟩ := bnd h
                  have q30 : x29.2.2 b j = J b j := (fj_Book_readHandling w0 hx).trans q20
                  obtain rfl := Option.some.inj h; exact q30
                · skip
                  obtain ⟨x31, hx, h⟩ := bnd h
                  have q32 : x31.2.2 b j = J b j := (fj_Book_readDigging w0 hx).trans q20
                  obtain rfl := Option.some.inj h; exact q32
            · skip
              obtain ⟨x33, hx, h⟩ := bnd h
              obtain rfl := Option.some.inj h; exact rfl
          · skip
            obtain ⟨x34, hx, h⟩ := bnd h
            obtain rfl := Option.some.inj h; exact rfl
    · skip
      rcases iteC h with ⟨hb, h⟩ | ⟨hb, h⟩
      · skip
        obtain ⟨x35, hx, h⟩ := bnd h
        have q36 : x35.2.2 b j = J b j := (fj_Book_readWork w0 hx).trans rfl
        obtain rfl := Option.some.inj h; exact q36
      · skip
        obtain ⟨x37, hx, h⟩ := bnd h
        obtain rfl := Option.some.inj h; exact rfl
  · skip
    rcases iteC h with ⟨hb, h⟩ | ⟨hb, h⟩
    · skip
      obtain ⟨x38, hx, h⟩ := bnd h
      have q39 : x38.2.2 b j = J b j := (fj_Book_readWork w0 hx).trans rfl
      obtain rfl := Option.some.inj h; exact q39
    · skip
      obtain ⟨x40, hx, h⟩ := bnd h
      obtain rfl := Option.some.inj h; exact rfl
set_option maxRecDepth 8000 in
theorem fj_Tape_takeSign {a0 : Nat} {l1 : Int32} {I : FI} {J : FJ} {r : Bool × FI × FJ} {b j : Nat} (w0 : ¬ (b = a0 ∧ j = 10)) (h : Tape_takeSign a0 l1 I J = some r) : r.2.2 b j = J b j := by
  unfold Tape_takeSign at h
  rcases iteC h with ⟨hb, h⟩ | ⟨hb, h⟩
  · skip
    obtain ⟨x1, hx, h⟩ := bnd h
    have q2 : x1.2 b j = J b j := (fj_Tape_step w0 hx).trans rfl
    obtain rfl := Option.some.inj h; exact q2
  · skip
    obtain ⟨x3, hx, h⟩ := bnd h
    obtain rfl := Option.some.inj h; exact rfl
set_option maxRecDepth 8000 in
theorem fj_Book_read_14 {N : Nat} {a0 a1 a2 : Nat} {r : Bool × FI × FJ} {b j : Nat} (w0 : b ≠ (a1 + 5)) (w1 : ¬ (b = a1 ∧ j = 10)) : ∀ (n : Nat) (l3 : Int32) (I : FI) (J : FJ), Book_read_14 N a0 a1 a2 n l3 I J = some r → r.2.2 b j = J b j := by
  intro n
  induction n with
  | zero =>
    intro l3 I J h
    cases h
  | succ n ih =>
    intro l3 I J h
    unfold Book_read_14 at h
    rcases iteC h with ⟨hb, h⟩ | ⟨hb, h⟩
    · skip
      obtain rfl := Option.some.inj h; exact rfl
    · skip
      rcases iteC h with ⟨hb, h⟩ | ⟨hb, h⟩
      · skip
        obtain rfl := Option.some.inj h; exact rfl
      · skip
        obtain ⟨x4, hx, h⟩ := bnd h
        have q5 : x4.2.2 b j = J b j := (fj_Book_readLine w1 hx).trans rfl
        rcases iteC h with ⟨hb, h⟩ | ⟨hb, h⟩
        rotate_left
        · skip
          obtain rfl := Option.some.inj h; exact q5
        · skip
          obtain ⟨x6, hx, h⟩ := bnd h
          have q7 : x6.2.2 b j = J b j := (fj_Tape_takeSign w1 hx).trans q5
          rcases iteC h with ⟨hb, h⟩ | ⟨hb, h⟩
          rotate_left
          · skip
            obtain rfl := Option.some.inj h; exact q7
          · skip
            obtain ⟨I8, e1, h⟩ := bnd h
            exact (ih (l3 + 1) I8 x6.2.2 h).trans q7
set_option maxRecDepth 8000 in
theorem fj_Book_read {N : Nat} {a0 a1 a2 : Nat} {I : FI} {J : FJ} {r : Bool × FI × FJ} {b j : Nat} (w0 : b ≠ (a1 + 5)) (w1 : ¬ (b = a1 ∧ j = 10)) (h : Book_read N a0 a1 a2 I J = some r) : r.2.2 b j = J b j := by
  unfold Book_read at h
  obtain ⟨I1, e1, h⟩ := bnd h
  obtain ⟨x2, hx, h⟩ := bnd h
  have q3 : x2.2 b j = J b j := (fj_Tape_begin w0 w1 hx).trans rfl
  exact (fj_Book_read_14 w0 w1 _ 0 x2.1 x2.2 h).trans q3
set_option maxRecDepth 8000 in
theorem fj_Land_takeOnce {a0 a1 : Nat} {l2 : Int32} {I : FI} {J : FJ} {r : Bool × FI × FJ} {b j : Nat} (w0 : ¬ (b = a1 ∧ j = 10)) (h : Land_takeOnce a0 a1 l2 I J = some r) : r.2.2 b j = J b j := by
  unfold Land_takeOnce at h
  rcases iteC h with ⟨hb, h⟩ | ⟨hb, h⟩
  · skip
    obtain ⟨x1, hx, h⟩ := bnd h
    obtain rfl := Option.some.inj h; exact rfl
  · skip
    obtain ⟨I2, e1, h⟩ := bnd h
    obtain ⟨x3, hx, h⟩ := bnd h
    have q4 : x3.2 b j = J b j := (fj_Tape_step w0 hx).trans rfl
    obtain rfl := Option.some.inj h; exact q4
set_option maxRecDepth 8000 in
theorem fj_Land_readSize {a0 a1 : Nat} {I : FI} {J : FJ} {r : Bool × FI × FJ} {b j : Nat} (w0 : ¬ (b = a1 ∧ j = 10)) (h : Land_readSize a0 a1 I J = some r) : r.2.2 b j = J b j := by
  unfold Land_readSize at h
  rcases iteC h with ⟨hb, h⟩ | ⟨hb, h⟩
  · skip
    obtain ⟨x1, hx, h⟩ := bnd h
    have q2 : x1.2.2 b j = J b j := (fj_Land_takeOnce w0 hx).trans rfl
    rcases iteC h with ⟨hb, h⟩ | ⟨hb, h⟩
    rotate_left
    · skip
      obtain rfl := Option.some.inj h; exact q2
    · skip
      obtain ⟨x3, hx, h⟩ := bnd h
      have q4 : x3.2.2 b j = J b j := (fj_Tape_takeNumber w0 hx).trans q2
      rcases iteC h with ⟨hb, h⟩ | ⟨hb, h⟩
      rotate_left
      · skip
        obtain rfl := Option.some.inj h; exact q4
      · skip
        obtain ⟨I5, e1, h⟩ := bnd h
        obtain ⟨x6, hx, h⟩ := bnd h
        have q7 : x6.2.2 b j = J b j := (fj_Tape_takeNumber w0 hx).trans q4
        rcases iteC h with ⟨hb, h⟩ | ⟨hb, h⟩
        rotate_left
        · skip
          obtain rfl := Option.some.inj h; exact q7
        · skip
          obtain ⟨I8, e1, h⟩ := bnd h
          obtain rfl := Option.some.inj h; exact q7
  · skip
    obtain ⟨x9, hx, h⟩ := bnd h
    obtain rfl := Option.some.inj h; exact rfl
set_option maxRecDepth 8000 in
theorem fj_Land_reachNewName {N : Nat} {a0 a1 : Nat} {b2 : Bool} {I : FI} {J : FJ} {r : Bool × FI × FJ} {b j : Nat} (w0 : ¬ (b = a1 ∧ j = 10)) (h : Land_reachNewName N a0 a1 b2 I J = some r) : r.2.2 b j = J b j := by
  unfold Land_reachNewName at h
  rcases iteC h with ⟨hb, h⟩ | ⟨hb, h⟩
  rotate_left
  · skip
    obtain ⟨x1, hx, h⟩ := bnd h
    obtain rfl := Option.some.inj h; exact rfl
  · skip
    obtain ⟨x2, hx, h⟩ := bnd h
    have q3 : x2.2 b j = J b j := (fj_Tape_step w0 hx).trans rfl
    rcases iteC h with ⟨hb, h⟩ | ⟨hb, h⟩
    rotate_left
    · skip
      obtain ⟨x4, hx, h⟩ := bnd h
      obtain rfl := Option.some.inj h; exact q3
    · skip
      obtain ⟨x5, hx, h⟩ := bnd h
      rcases iteC h with ⟨hb, h⟩ | ⟨hb, h⟩
      · skip
        obtain ⟨x6, hx, h⟩ := bnd h
        rcases iteC h with ⟨hb, h⟩ | ⟨hb, h⟩
        rotate_left
        · skip
          obtain rfl := Option.some.inj h; exact q3
        · skip
          obtain rfl := Option.some.inj h; exact q3
      · skip
        obtain ⟨x7, hx, h⟩ := bnd h
        rcases iteC h with ⟨hb, h⟩ | ⟨hb, h⟩
        · skip
          obtain ⟨x8, hx, h⟩ := bnd h
          rcases iteC h with ⟨hb, h⟩ | ⟨hb, h⟩
          rotate_left
          · skip
            obtain rfl := Option.some.inj h; exact q3
          · skip
            obtain rfl := Option.some.inj h; exact q3
        · skip
          obtain ⟨x9, hx, h⟩ := bnd h
          rcases iteC h with ⟨hb, h⟩ | ⟨hb, h⟩
          · skip
            obtain rfl := Option.some.inj h; exact q3
          · skip
            obtain ⟨x10, hx, h⟩ := bnd h
            rcases iteC h with ⟨hb, h⟩ | ⟨hb, h⟩
            rotate_left
            · skip
              obtain rfl := Option.some.inj h; exact q3
            · skip
              obtain rfl := Option.some.inj h; exact q3
set_option maxRecDepth 8000 in
theorem fj_Land_readPerson {N : Nat} {a0 a1 : Nat} {I : FI} {J : FJ} {r : Bool × FI × FJ} {b j : Nat} (w0 : b ≠ (a0 + 1)) (w1 : ¬ (b = a1 ∧ j = 10)) (h : Land_readPerson N a0 a1 I J = some r) : r.2.2 b j = J b j := by
  unfold Land_readPerson at h
  rcases iteC h with ⟨hb, h⟩ | ⟨hb, h⟩
  · skip
    obtain ⟨x1, hx, h⟩ := bnd h
    have q2 : x1.2.2 b j = J b j := (fj_Land_reachNewName w1 hx).trans rfl
    rcases iteC h with ⟨hb, h⟩ | ⟨hb, h⟩
    rotate_left
    · skip
      obtain rfl := Option.some.inj h; exact q2
    · skip
      obtain ⟨hg3, h⟩ := grd h
      obtain ⟨J4, e1, h⟩ := bnd h
      have q5 : J4 b j = J b j := by rw [← Option.some.inj e1]; exact (up2_fa w0).trans q2
      obtain ⟨I6, e1, h⟩ := bnd h
      obtain ⟨x7, hx, h⟩ := bnd h
      have q8 : x7.2 b j = J b j := (fj_Tape_step w1 hx).trans q5
      obtain rfl := Option.some.inj h; exact q8
  · skip
    obtain ⟨x9, hx, h⟩ := bnd h
    have q10 : x9.2.2 b j = J b j := (fj_Land_reachNewName w1 hx).trans rfl
    rcases iteC h with ⟨hb, h⟩ | ⟨hb, h⟩
    rotate_left
    · skip
      obtain rfl := Option.some.inj h; exact q10
    · skip
      obtain ⟨hg11, h⟩ := grd h
      obtain ⟨J12, e1, h⟩ := bnd h
      have q13 : J12 b j = J b j := by rw [← Option.some.inj e1]; exact (up2_fa w0).trans q10
      obtain ⟨I14, e1, h⟩ := bnd h
      obtain ⟨x15, hx, h⟩ := bnd h
      have q16 : x15.2 b j = J b j := (fj_Tape_step w1 hx).trans q13
      obtain rfl := Option.some.inj h; exact q16
set_option maxRecDepth 8000 in
theorem fj_Land_readFind_73 {N : Nat} {a0 a1 : Nat} {r : Bool × FI × FJ} {b j : Nat} (w0 : b ≠ (a0 + 2)) (w1 : ¬ (b = a1 ∧ j = 10)) : ∀ (n : Nat) (l2 : Int32) (l3 : Int32) (I : FI) (J : FJ), Land_readFind_73 N a0 a1 n l2 l3 I J = some r → r.2.2 b j = J b j := by
  intro n
  induction n with
  | zero =>
    intro l2 l3 I J h
    cases h
  | succ n ih =>
    intro l2 l3 I J h
    unfold Land_readFind_73 at h
    rcases iteC h with ⟨hb, h⟩ | ⟨hb, h⟩
    · skip
      obtain ⟨I12, e1, h⟩ := bnd h
      obtain rfl := Option.some.inj h; exact rfl
    · skip
      obtain ⟨x13, hx, h⟩ := bnd h
      have q14 : x13.2.2 b j = J b j := (fj_Tape_takeNumber w1 hx).trans rfl
      rcases iteC h with ⟨hb, h⟩ | ⟨hb, h⟩
      rotate_left
      · skip
        obtain rfl := Option.some.inj h; exact q14
      · skip
        obtain ⟨hg15, h⟩ := grd h
        obtain ⟨I16, e1, h⟩ := bnd h
        exact (ih l2 (l3 + 1) I16 x13.2.2 h).trans q14
set_option maxRecDepth 8000 in
theorem fj_Land_readFind {N : Nat} {a0 a1 : Nat} {I : FI} {J : FJ} {r : Bool × FI × FJ} {b j : Nat} (w0 : b ≠ (a0 + 2)) (w1 : ¬ (b = a1 ∧ j = 10)) (h : Land_readFind N a0 a1 I J = some r) : r.2.2 b j = J b j := by
  unfold Land_readFind at h
  rcases iteC h with ⟨hb, h⟩ | ⟨hb, h⟩
  · skip
    obtain ⟨x1, hx, h⟩ := bnd h
    have q2 : x1.2.2 b j = J b j := (fj_Land_reachNewName w1 hx).trans rfl
    rcases iteC h with ⟨hb, h⟩ | ⟨hb, h⟩
    rotate_left
    · skip
      obtain rfl := Option.some.inj h; exact q2
    · skip
      obtain ⟨hg3, h⟩ := grd h
      obtain ⟨J4, e1, h⟩ := bnd h
      have q5 : J4 b j = J b j := by rw [← Option.some.inj e1]; exact (up2_fa w0).trans q2
      obtain ⟨x6, hx, h⟩ := bnd h
      have q7 : x6.2 b j = J b j := (fj_Tape_step w1 hx).trans q5
      obtain ⟨x8, hx, h⟩ := bnd h
      have q9 : x8.2.2 b j = J b j := (fj_Tape_takeAmong w1 hx).trans q7
      rcases iteC h with ⟨hb, h⟩ | ⟨hb, h⟩
      rotate_left
      · skip
        obtain rfl := Option.some.inj h; exact q9
      · skip
        obtain ⟨hg10, h⟩ := grd h
        obtain ⟨I11, e1, h⟩ := bnd h
        exact (fj_Land_readFind_73 w0 w1 _ ((x1.2.1 a0 12) * 6) 1 I11 x8.2.2 h).trans q9
  · skip
    obtain ⟨x17, hx, h⟩ := bnd h
    have q18 : x17.2.2 b j = J b j := (fj_Land_reachNewName w1 hx).trans rfl
    rcases iteC h with ⟨hb, h⟩ | ⟨hb, h⟩
    rotate_left
    · skip
      obtain rfl := Option.some.inj h; exact q18
    · skip
      obtain ⟨hg19, h⟩ := grd h
      obtain ⟨J20, e1, h⟩ := bnd h
      have q21 : J20 b j = J b j := by rw [← Option.some.inj e1]; exact (up2_fa w0).trans q18
      obtain ⟨x22, hx, h⟩ := bnd h
      have q23 : x22.2 b j = J b j := (fj_Tape_step w1 hx).trans q21
      obtain ⟨x24, hx, h⟩ := bnd h
      have q25 : x24.2.2 b j = J b j := (fj_Tape_takeAmong w1 hx).trans q23
      rcases iteC h with ⟨hb, h⟩ | ⟨hb, h⟩
      rotate_left
      · skip
        obtain rfl := Option.some.inj h; exact q25
      · skip
        obtain ⟨hg26, h⟩ := grd h
        obtain ⟨I27, e1, h⟩ := bnd h
        exact (fj_Land_readFind_73 w0 w1 _ ((x17.2.1 a0 12) * 6) 1 I27 x24.2.2 h).trans q25
set_option maxRecDepth 8000 in
theorem fj_Land_readFear {N : Nat} {a0 a1 : Nat} {I : FI} {J : FJ} {r : Bool × FI × FJ} {b j : Nat} (w0 : b ≠ (a0 + 3)) (w1 : ¬ (b = a1 ∧ j = 10)) (h : Land_readFear N a0 a1 I J = some r) : r.2.2 b j = J b j := by
  unfold Land_readFear at h
  rcases iteC h with ⟨hb, h⟩ | ⟨hb, h⟩
  · skip
    obtain ⟨x1, hx, h⟩ := bnd h
    have q2 : x1.2.2 b j = J b j := (fj_Land_reachNewName w1 hx).trans rfl
    rcases iteC h with ⟨hb, h⟩ | ⟨hb, h⟩
    rotate_left
    · skip
      obtain rfl := Option.some.inj h; exact q2
    · skip
      obtain ⟨hg3, h⟩ := grd h
      obtain ⟨J4, e1, h⟩ := bnd h
      have q5 : J4 b j = J b j := by rw [← Option.some.inj e1]; exact (up2_fa w0).trans q2
      obtain ⟨x6, hx, h⟩ := bnd h
      have q7 : x6.2 b j = J b j := (fj_Tape_step w1 hx).trans q5
      obtain ⟨x8, hx, h⟩ := bnd h
      have q9 : x8.2.2 b j = J b j := (fj_Tape_takeNumber w1 hx).trans q7
      rcases iteC h with ⟨hb, h⟩ | ⟨hb, h⟩
      rotate_left
      · skip
        obtain rfl := Option.some.inj h; exact q9
      · skip
        obtain ⟨x10, hx, h⟩ := bnd h
        have q11 : x10.2.2 b j = J b j := (fj_Tape_takeNumber w1 hx).trans q9
        rcases iteC h with ⟨hb, h⟩ | ⟨hb, h⟩
        rotate_left
        · skip
          obtain rfl := Option.some.inj h; exact q11
        · skip
          obtain ⟨hg12, h⟩ := grd h
          obtain ⟨I13, e1, h⟩ := bnd h
          obtain ⟨hg14, h⟩ := grd h
          obtain ⟨I15, e1, h⟩ := bnd h
          obtain ⟨I16, e1, h⟩ := bnd h
          obtain rfl := Option.some.inj h; exact q11
  · skip
    obtain ⟨x17, hx, h⟩ := bnd h
    have q18 : x17.2.2 b j = J b j := (fj_Land_reachNewName w1 hx).trans rfl
    rcases iteC h with ⟨hb, h⟩ | ⟨hb, h⟩
    rotate_left
    · skip
      obtain rfl := Option.some.inj h; exact q18
    · skip
      obtain ⟨hg19, h⟩ := grd h
      obtain ⟨J20, e1, h⟩ := bnd h
      have q21 : J20 b j = J b j := by rw [← Option.some.inj e1]; exact (up2_fa w0).trans q18
      obtain ⟨x22, hx, h⟩ := bnd h
      have q23 : x22.2 b j = J b j := (fj_Tape_step w1 hx).trans q21
      obtain ⟨x24, hx, h⟩ := bnd h
      have q25 : x24.2.2 b j = J b j := (fj_Tape_takeNumber w1 hx).trans q23
      rcases iteC h with ⟨hb, h⟩ | ⟨hb, h⟩
      rotate_left
      · skip
        obtain rfl := Option.some.inj h; exact q25
      · skip
        obtain ⟨x26, hx, h⟩ := bnd h
        have q27 : x26.2.2 b j = J b j := (fj_Tape_takeNumber w1 hx).trans q25
        rcases iteC h with ⟨hb, h⟩ | ⟨hb, h⟩
        rotate_left
        · skip
          obtain rfl := Option.some.inj h; exact q27
        · skip
          obtain ⟨hg28, h⟩ := grd h
          obtain ⟨I29, e1, h⟩ := bnd h
          obtain ⟨hg30, h⟩ := grd h
          obtain ⟨I31, e1, h⟩ := bnd h
          obtain ⟨I32, e1, h⟩ := bnd h
          obtain rfl := Option.some.inj h; exact q27
set_option maxRecDepth 8000 in
theorem fj_Land_readPair {a0 a1 a5 n5 : Nat} {l2 : Int32} {l3 : Int32} {l4 : Int32} {I : FI} {J : FJ} {r : Bool × FI × FJ} {b j : Nat} (w0 : ¬ (b = a1 ∧ j = 10)) (h : Land_readPair a0 a1 a5 n5 l2 l3 l4 I J = some r) : r.2.2 b j = J b j := by
  unfold Land_readPair at h
  obtain ⟨x1, hx, h⟩ := bnd h
  have q2 : x1.2 b j = J b j := (fj_Tape_step w0 hx).trans rfl
  obtain ⟨x3, hx, h⟩ := bnd h
  have q4 : x3.2.2 b j = J b j := (fj_Tape_takeAmong w0 hx).trans q2
  rcases iteC h with ⟨hb, h⟩ | ⟨hb, h⟩
  rotate_left
  · skip
    obtain rfl := Option.some.inj h; exact q4
  · skip
    rcases iteC h with ⟨hb, h⟩ | ⟨hb, h⟩
    rotate_left
    · skip
      obtain ⟨x5, hx, h⟩ := bnd h
      obtain rfl := Option.some.inj h; exact q4
    · skip
      obtain ⟨x6, hx, h⟩ := bnd h
      have q7 : x6.2.2 b j = J b j := (fj_Land_takeOnce w0 hx).trans q4
      rcases iteC h with ⟨hb, h⟩ | ⟨hb, h⟩
      rotate_left
      · skip
        obtain rfl := Option.some.inj h; exact q7
      · skip
        obtain ⟨x8, hx, h⟩ := bnd h
        have q9 : x8.2.2 b j = J b j := (fj_Tape_takeNumber w0 hx).trans q7
        rcases iteC h with ⟨hb, h⟩ | ⟨hb, h⟩
        rotate_left
        · skip
          obtain rfl := Option.some.inj h; exact q9
        · skip
          rcases iteC h with ⟨hb, h⟩ | ⟨hb, h⟩
          · skip
            obtain rfl := Option.some.inj h; exact q9
          · skip
            rcases iteC h with ⟨hb, h⟩ | ⟨hb, h⟩
            · skip
              obtain rfl := Option.some.inj h; exact q9
            · skip
              obtain ⟨hg10, h⟩ := grd h
              obtain ⟨I11, e1, h⟩ := bnd h
              obtain rfl := Option.some.inj h; exact q9
set_option maxRecDepth 8000 in
theorem fj_Land_readPrior {a0 a1 : Nat} {I : FI} {J : FJ} {r : Bool × FI × FJ} {b j : Nat} (w0 : ¬ (b = a1 ∧ j = 10)) (h : Land_readPrior a0 a1 I J = some r) : r.2.2 b j = J b j := by
  unfold Land_readPrior at h
  obtain ⟨x1, hx, h⟩ := bnd h
  have q2 : x1.2 b j = J b j := (fj_Tape_step w0 hx).trans rfl
  rcases iteC h with ⟨hb, h⟩ | ⟨hb, h⟩
  rotate_left
  · skip
    obtain ⟨x3, hx, h⟩ := bnd h
    obtain rfl := Option.some.inj h; exact q2
  · skip
    obtain ⟨x4, hx, h⟩ := bnd h
    have q5 : x4.2.2 b j = J b j := (fj_Land_takeOnce w0 hx).trans q2
    rcases iteC h with ⟨hb, h⟩ | ⟨hb, h⟩
    rotate_left
    · skip
      obtain rfl := Option.some.inj h; exact q5
    · skip
      obtain ⟨x6, hx, h⟩ := bnd h
      have q7 : x6.2.2 b j = J b j := (fj_Tape_takeNumber w0 hx).trans q5
      rcases iteC h with ⟨hb, h⟩ | ⟨hb, h⟩
      rotate_left
      · skip
        obtain rfl := Option.some.inj h; exact q7
      · skip
        obtain ⟨hg8, h⟩ := grd h
        obtain ⟨I9, e1, h⟩ := bnd h
        obtain rfl := Option.some.inj h; exact q7
set_option maxRecDepth 8000 in
theorem fj_Land_readRisk {a0 a1 : Nat} {I : FI} {J : FJ} {r : Bool × FI × FJ} {b j : Nat} (w0 : ¬ (b = a1 ∧ j = 10)) (h : Land_readRisk a0 a1 I J = some r) : r.2.2 b j = J b j := by
  unfold Land_readRisk at h
  obtain ⟨x1, hx, h⟩ := bnd h
  have q2 : x1.2.2 b j = J b j := (fj_Land_takeOnce w0 hx).trans rfl
  rcases iteC h with ⟨hb, h⟩ | ⟨hb, h⟩
  rotate_left
  · skip
    obtain rfl := Option.some.inj h; exact q2
  · skip
    obtain ⟨x3, hx, h⟩ := bnd h
    have q4 : x3.2.2 b j = J b j := (fj_Tape_takeNumber w0 hx).trans q2
    rcases iteC h with ⟨hb, h⟩ | ⟨hb, h⟩
    rotate_left
    · skip
      obtain rfl := Option.some.inj h; exact q4
    · skip
      obtain ⟨I5, e1, h⟩ := bnd h
      obtain rfl := Option.some.inj h; exact q4
set_option maxRecDepth 8000 in
theorem fj_Land_readLine {N : Nat} {a0 a1 : Nat} {I : FI} {J : FJ} {r : Bool × FI × FJ} {b j : Nat} (w0 : b ≠ (a0 + 1)) (w1 : b ≠ (a0 + 2)) (w2 : b ≠ (a0 + 3)) (w3 : ¬ (b = a1 ∧ j = 10)) (h : Land_readLine N a0 a1 I J = some r) : r.2.2 b j = J b j := by
  unfold Land_readLine at h
  rcases iteC h with ⟨hb, h⟩ | ⟨hb, h⟩
  rotate_left
  · skip
    obtain ⟨x1, hx, h⟩ := bnd h
    obtain rfl := Option.some.inj h; exact rfl
  · skip
    rcases iteC h with ⟨hb, h⟩ | ⟨hb, h⟩
    · skip
      obtain ⟨x2, hx, h⟩ := bnd h
      have q3 : x2.2.2 b j = J b j := (fj_Land_readSize w3 hx).trans rfl
      obtain rfl := Option.some.inj h; exact q3
    rcases iteC h with ⟨hb, h⟩ | ⟨hb, h⟩
    · skip
      obtain ⟨x4, hx, h⟩ := bnd h
      have q5 : x4.2.2 b j = J b j := (fj_Land_readPerson w0 w3 hx).trans rfl
      obtain rfl := Option.some.inj h; exact q5
    rcases iteC h with ⟨hb, h⟩ | ⟨hb, h⟩
    · skip
      obtain ⟨x6, hx, h⟩ := bnd h
      have q7 : x6.2.2 b j = J b j := (fj_Land_readFind w1 w3 hx).trans rfl
      obtain rfl := Option.some.inj h; exact q7
    rcases iteC h with ⟨hb, h⟩ | ⟨hb, h⟩
    · skip
      obtain ⟨x8, hx, h⟩ := bnd h
      have q9 : x8.2.2 b j = J b j := (fj_Land_readFear w2 w3 hx).trans rfl
      obtain rfl := Option.some.inj h; exact q9
    rcases iteC h with ⟨hb, h⟩ | ⟨hb, h⟩
    · skip
      obtain ⟨x10, hx, h⟩ := bnd h
      have q11 : x10.2.2 b j = J b j := (fj_Land_readPair w3 hx).trans rfl
      obtain rfl := Option.some.inj h; exact q11
    rcases iteC h with ⟨hb, h⟩ | ⟨hb, h⟩
    · skip
      obtain ⟨x12, hx, h⟩ := bnd h
      have q13 : x12.2.2 b j = J b j := (fj_Land_readPrior w3 hx).trans rfl
      obtain rfl := Option.some.inj h; exact q13
    rcases iteC h with ⟨hb, h⟩ | ⟨hb, h⟩
    · skip
      obtain ⟨x14, hx, h⟩ := bnd h
      have q15 : x14.2.2 b j = J b j := (fj_Land_readPair w3 hx).trans rfl
      obtain rfl := Option.some.inj h; exact q15
    obtain ⟨x16, hx, h⟩ := bnd h
    have q17 : x16.2.2 b j = J b j := (fj_Land_readRisk w3 hx).trans rfl
    obtain rfl := Option.some.inj h; exact q17
set_option maxRecDepth 8000 in
theorem fj_Land_read_13 {N : Nat} {a0 a1 : Nat} {r : Bool × FI × FJ} {b j : Nat} (w0 : b ≠ (a0 + 1)) (w1 : b ≠ (a0 + 2)) (w2 : b ≠ (a0 + 3)) (w3 : b ≠ (a1 + 5)) (w4 : ¬ (b = a1 ∧ j = 10)) : ∀ (n : Nat) (l2 : Int32) (I : FI) (J : FJ), Land_read_13 N a0 a1 n l2 I J = some r → r.2.2 b j = J b j := by
  intro n
  induction n with
  | zero =>
    intro l2 I J h
    cases h
  | succ n ih =>
    intro l2 I J h
    unfold Land_read_13 at h
    rcases iteC h with ⟨hb, h⟩ | ⟨hb, h⟩
    · skip
      obtain rfl := Option.some.inj h; exact rfl
    · skip
      rcases iteC h with ⟨hb, h⟩ | ⟨hb, h⟩
      · skip
        obtain rfl := Option.some.inj h; exact rfl
      · skip
        obtain ⟨x4, hx, h⟩ := bnd h
        have q5 : x4.2.2 b j = J b j := (fj_Land_readLine w0 w1 w2 w4 hx).trans rfl
        rcases iteC h with ⟨hb, h⟩ | ⟨hb, h⟩
        rotate_left
        · skip
          obtain rfl := Option.some.inj h; exact q5
        · skip
          obtain ⟨x6, hx, h⟩ := bnd h
          have q7 : x6.2.2 b j = J b j := (fj_Tape_takeSign w4 hx).trans q5
          rcases iteC h with ⟨hb, h⟩ | ⟨hb, h⟩
          rotate_left
          · skip
            obtain rfl := Option.some.inj h; exact q7
          · skip
            obtain ⟨I8, e1, h⟩ := bnd h
            exact (ih (l2 + 1) I8 x6.2.2 h).trans q7
set_option maxRecDepth 8000 in
theorem fj_Land_read {N : Nat} {a0 a1 : Nat} {I : FI} {J : FJ} {r : Bool × FI × FJ} {b j : Nat} (w0 : b ≠ (a0 + 1)) (w1 : b ≠ (a0 + 2)) (w2 : b ≠ (a0 + 3)) (w3 : b ≠ (a1 + 5)) (w4 : ¬ (b = a1 ∧ j = 10)) (h : Land_read N a0 a1 I J = some r) : r.2.2 b j = J b j := by
  unfold Land_read at h
  obtain ⟨x1, hx, h⟩ := bnd h
  obtain ⟨x2, hx, h⟩ := bnd h
  have q3 : x2.2 b j = J b j := (fj_Tape_begin w3 w4 hx).trans rfl
  exact (fj_Land_read_13 w0 w1 w2 w3 w4 _ 0 x2.1 x2.2 h).trans q3
set_option maxRecDepth 8000 in
theorem fj_Land_copy {a0 a1 : Nat} {I : FI} {J : FJ} {r : FI × FJ} {b j : Nat} (w0 : b ≠ (a0 + 1)) (w1 : b ≠ (a0 + 2)) (w2 : b ≠ (a0 + 3)) (h : Land_copy a0 a1 I J = some r) : r.2 b j = J b j := by
  unfold Land_copy at h
  obtain ⟨hg1, h⟩ := grd h
  obtain ⟨J2, e1, h⟩ := bnd h
  have q3 : J2 b j = J b j := by rw [← Option.some.inj e1]; exact (cp2_fa w0).trans rfl
  obtain ⟨hg4, h⟩ := grd h
  obtain ⟨J5, e1, h⟩ := bnd h
  have q6 : J5 b j = J b j := by rw [← Option.some.inj e1]; exact (cp2_fa w1).trans q3
  obtain ⟨hg7, h⟩ := grd h
  obtain ⟨J8, e1, h⟩ := bnd h
  have q9 : J8 b j = J b j := by rw [← Option.some.inj e1]; exact (cp2_fa w2).trans q6
  obtain ⟨hg10, h⟩ := grd h
  obtain ⟨I11, e1, h⟩ := bnd h
  obtain ⟨hg12, h⟩ := grd h
  obtain ⟨I13, e1, h⟩ := bnd h
  obtain ⟨hg14, h⟩ := grd h
  obtain ⟨I15, e1, h⟩ := bnd h
  obtain ⟨hg16, h⟩ := grd h
  obtain ⟨I17, e1, h⟩ := bnd h
  obtain ⟨hg18, h⟩ := grd h
  obtain ⟨I19, e1, h⟩ := bnd h
  obtain ⟨I20, e1, h⟩ := bnd h
  obtain ⟨I21, e1, h⟩ := bnd h
  obtain ⟨I22, e1, h⟩ := bnd h
  obtain ⟨I23, e1, h⟩ := bnd h
  obtain ⟨I24, e1, h⟩ := bnd h
  obtain ⟨I25, e1, h⟩ := bnd h
  obtain ⟨I26, e1, h⟩ := bnd h
  obtain ⟨I27, e1, h⟩ := bnd h
  obtain rfl := Option.some.inj h; exact q9
set_option maxRecDepth 8000 in
theorem fj_Sentence_readAll_15 {R : Nat → Nat → Nat → Int32 → FI → FJ → Option (Bool × FI × FJ)} {N : Nat} {a0 a1 a2 : Nat} {r : Bool × FI × FJ} {b j : Nat} (hR : ∀ (l3 : Int32) (I : FI) (J : FJ) (r : Bool × FI × FJ), R a0 a1 a2 l3 I J = some r → r.2.2 b j = J b j) (w0 : ¬ (b = a1 ∧ j = 10)) : ∀ (n : Nat) (l3 : Int32) (l4 : Int32) (I : FI) (J : FJ), Sentence_readAll_15 R N a0 a1 a2 n l3 l4 I J = some r → r.2.2 b j = J b j := by
  intro n
  induction n with
  | zero =>
    intro l3 l4 I J h
    cases h
  | succ n ih =>
    intro l3 l4 I J h
    unfold Sentence_readAll_15 at h
    rcases iteC h with ⟨hb, h⟩ | ⟨hb, h⟩
    · skip
      obtain rfl := Option.some.inj h; exact rfl
    · skip
      rcases iteC h with ⟨hb, h⟩ | ⟨hb, h⟩
      rotate_left
      · skip
        obtain rfl := Option.some.inj h; exact rfl
      · skip
        obtain ⟨x3, hx, h⟩ := bnd h
        have q4 : x3.2 b j = J b j := (fj_Tape_step w0 hx).trans rfl
        obtain ⟨x5, hx, h⟩ := bnd h
        have q6 : x5.2.2 b j = J b j := (hR _ _ _ _ hx).trans q4
        rcases iteC h with ⟨hb, h⟩ | ⟨hb, h⟩
        rotate_left
        · skip
          obtain rfl := Option.some.inj h; exact q6
        · skip
          obtain ⟨x7, hx, h⟩ := bnd h
          exact (ih l3 (l4 + 1) x7 x5.2.2 h).trans q6
set_option maxRecDepth 8000 in
theorem fj_Sentence_readAll {R : Nat → Nat → Nat → Int32 → FI → FJ → Option (Bool × FI × FJ)} {N : Nat} {a0 a1 a2 : Nat} {l3 : Int32} {I : FI} {J : FJ} {r : Bool × FI × FJ} {b j : Nat} (hR : ∀ (l3 : Int32) (I : FI) (J : FJ) (r : Bool × FI × FJ), R a0 a1 a2 l3 I J = some r → r.2.2 b j = J b j) (w0 : ¬ (b = a1 ∧ j = 10)) (h : Sentence_readAll R N a0 a1 a2 l3 I J = some r) : r.2.2 b j = J b j := by
  unfold Sentence_readAll at h
  obtain ⟨x1, hx, h⟩ := bnd h
  have q2 : x1.2.2 b j = J b j := (hR _ _ _ _ hx).trans rfl
  rcases iteC h with ⟨hb, h⟩ | ⟨hb, h⟩
  rotate_left
  · skip
    obtain rfl := Option.some.inj h; exact q2
  · skip
    exact (fj_Sentence_readAll_15 hR w0 _ l3 0 x1.2.1 x1.2.2 h).trans q2
set_option maxRecDepth 8000 in
theorem fj_Sentence_readCond_15 {R : Nat → Nat → Nat → Int32 → FI → FJ → Option (Bool × FI × FJ)} {N : Nat} {a0 a1 a2 : Nat} {r : Bool × FI × FJ} {b j : Nat} (hR : ∀ (l3 : Int32) (I : FI) (J : FJ) (r : Bool × FI × FJ), R a0 a1 a2 l3 I J = some r → r.2.2 b j = J b j) (w0 : ¬ (b = a1 ∧ j = 10)) : ∀ (n : Nat) (l3 : Int32) (l4 : Int32) (I : FI) (J : FJ), Sentence_readCond_15 R N a0 a1 a2 n l3 l4 I J = some r → r.2.2 b j = J b j := by
  intro n
  induction n with
  | zero =>
    intro l3 l4 I J h
    cases h
  | succ n ih =>
    intro l3 l4 I J h
    unfold Sentence_readCond_15 at h
    rcases iteC h with ⟨hb, h⟩ | ⟨hb, h⟩
    · skip
      obtain rfl := Option.some.inj h; exact rfl
    · skip
      rcases iteC h with ⟨hb, h⟩ | ⟨hb, h⟩
      rotate_left
      · skip
        obtain rfl := Option.some.inj h; exact rfl
      · skip
        obtain ⟨x3, hx, h⟩ := bnd h
        have q4 : x3.2 b j = J b j := (fj_Tape_step w0 hx).trans rfl
        obtain ⟨x5, hx, h⟩ := bnd h
        have q6 : x5.2.2 b j = J b j := (fj_Sentence_readAll hR w0 hx).trans q4
        rcases iteC h with ⟨hb, h⟩ | ⟨hb, h⟩
        rotate_left
        · skip
          obtain rfl := Option.some.inj h; exact q6
        · skip
          obtain ⟨x7, hx, h⟩ := bnd h
          exact (ih l3 (l4 + 1) x7 x5.2.2 h).trans q6
set_option maxRecDepth 8000 in
theorem fj_Sentence_readCond {R : Nat → Nat → Nat → Int32 → FI → FJ → Option (Bool × FI × FJ)} {N : Nat} {a0 a1 a2 : Nat} {l3 : Int32} {I : FI} {J : FJ} {r : Bool × FI × FJ} {b j : Nat} (hR : ∀ (l3 : Int32) (I : FI) (J : FJ) (r : Bool × FI × FJ), R a0 a1 a2 l3 I J = some r → r.2.2 b j = J b j) (w0 : ¬ (b = a1 ∧ j = 10)) (h : Sentence_readCond R N a0 a1 a2 l3 I J = some r) : r.2.2 b j = J b j := by
  unfold Sentence_readCond at h
  obtain ⟨x1, hx, h⟩ := bnd h
  have q2 : x1.2.2 b j = J b j := (fj_Sentence_readAll hR w0 hx).trans rfl
  rcases iteC h with ⟨hb, h⟩ | ⟨hb, h⟩
  rotate_left
  · skip
    obtain rfl := Option.some.inj h; exact q2
  · skip
    exact (fj_Sentence_readCond_15 hR w0 _ l3 0 x1.2.1 x1.2.2 h).trans q2
set_option maxRecDepth 8000 in
theorem fj_Sentence_readHolder {N : Nat} {a0 a1 a2 : Nat} {I : FI} {J : FJ} {r : Bool × FI × FJ} {b j : Nat} (w0 : ¬ (b = a1 ∧ j = 10)) (h : Sentence_readHolder N a0 a1 a2 I J = some r) : r.2.2 b j = J b j := by
  unfold Sentence_readHolder at h
  rcases iteC h with ⟨hb, h⟩ | ⟨hb, h⟩
  rotate_left
  · skip
    obtain ⟨x1, hx, h⟩ := bnd h
    obtain rfl := Option.some.inj h; exact rfl
  · skip
    obtain ⟨x2, hx, h⟩ := bnd h
    rcases iteC h with ⟨hb, h⟩ | ⟨hb, h⟩
    · skip
      obtain ⟨x3, hx, h⟩ := bnd h
      have q4 : x3.2 b j = J b j := (fj_Tape_step w0 hx).trans rfl
      obtain ⟨x5, hx, h⟩ := bnd h
      obtain rfl := Option.some.inj h; exact q4
    · skip
      obtain ⟨x6, hx, h⟩ := bnd h
      obtain rfl := Option.some.inj h; exact rfl
set_option maxRecDepth 8000 in
theorem fj_Sentence_readCompare {a0 a1 : Nat} {l2 : Int32} {I : FI} {J : FJ} {r : Bool × FI × FJ} {b j : Nat} (w0 : ¬ (b = a1 ∧ j = 10)) (h : Sentence_readCompare a0 a1 l2 I J = some r) : r.2.2 b j = J b j := by
  unfold Sentence_readCompare at h
  rcases iteC h with ⟨hb, h⟩ | ⟨hb, h⟩
  rotate_left
  · skip
    obtain ⟨x1, hx, h⟩ := bnd h
    obtain rfl := Option.some.inj h; exact rfl
  · skip
    obtain ⟨x2, hx, h⟩ := bnd h
    have q3 : x2.2 b j = J b j := (fj_Tape_step w0 hx).trans rfl
    obtain ⟨x4, hx, h⟩ := bnd h
    have q5 : x4.2.2 b j = J b j := (fj_Tape_takeNumber w0 hx).trans q3
    rcases iteC h with ⟨hb, h⟩ | ⟨hb, h⟩
    rotate_left
    · skip
      obtain rfl := Option.some.inj h; exact q5
    · skip
      obtain ⟨x6, hx, h⟩ := bnd h
      obtain rfl := Option.some.inj h; exact q5
set_option maxRecDepth 8000 in
theorem fj_Sentence_readOne {R : Nat → Nat → Nat → Int32 → FI → FJ → Option (Bool × FI × FJ)} {N : Nat} {a0 a1 a2 : Nat} {l3 : Int32} {I : FI} {J : FJ} {r : Bool × FI × FJ} {b j : Nat} (hR : ∀ (l3 : Int32) (I : FI) (J : FJ) (r : Bool × FI × FJ), R a0 a1 a2 l3 I J = some r → r.2.2 b j = J b j) (w0 : ¬ (b = a1 ∧ j = 10)) (h : Sentence_readOne R N a0 a1 a2 l3 I J = some r) : r.2.2 b j = J b j := by
  unfold Sentence_readOne at h
  rcases iteC h with ⟨hb, h⟩ | ⟨hb, h⟩
  rotate_left
  · skip
    obtain ⟨x1, hx, h⟩ := bnd h
    obtain rfl := Option.some.inj h; exact rfl
  · skip
    rcases iteC h with ⟨hb, h⟩ | ⟨hb, h⟩
    · skip
      obtain ⟨x2, hx, h⟩ := bnd h
      obtain rfl := Option.some.inj h; exact rfl
    · skip
      rcases iteC h with ⟨hb, h⟩ | ⟨hb, h⟩
      · skip
        obtain ⟨I3, e1, h⟩ := bnd h
        obtain ⟨x4, hx, h⟩ := bnd h
        have q5 : x4.2 b j = J b j := (fj_Tape_step w0 hx).trans rfl
        rcases iteC h with ⟨hb, h⟩ | ⟨hb, h⟩
        · skip
          obtain ⟨x6, hx, h⟩ := bnd h
          have q7 : x6.2.2 b j = J b j := (fj_Sentence_readCond hR w0 hx).trans q5
          rcases iteC h with ⟨hb, h⟩ | ⟨hb, h⟩
          rotate_left
          · skip
            obtain rfl := Option.some.inj h; exact q7
          · skip
            obtain ⟨x8, hx, h⟩ := bnd h
            have q9 : x8.2.2 b j = J b j := (fj_Tape_takeSign w0 hx).trans q7
            rcases iteC h with ⟨hb, h⟩ | ⟨hb, h⟩
            rotate_left
            · skip
              obtain rfl := Option.some.inj h; exact q9
            · skip
              obtain rfl := Option.some.inj h; exact q9
        · skip
          rcases iteC h with ⟨hb, h⟩ | ⟨hb, h⟩
          · skip
            obtain ⟨x10, hx, h⟩ := bnd h
            have q11 : x10.2.2 b j = J b j := (hR _ _ _ _ hx).trans q5
            rcases iteC h with ⟨hb, h⟩ | ⟨hb, h⟩
            rotate_left
            · skip
              obtain rfl := Option.some.inj h; exact q11
            · skip
              obtain ⟨x12, hx, h⟩ := bnd h
              obtain rfl := Option.some.inj h; exact q11
          · skip
            rcases iteC h with ⟨hb, h⟩ | ⟨hb, h⟩
            · skip
              obtain ⟨x13, hx, h⟩ := bnd h
              have q14 : x13.2.2 b j = J b j := (fj_Sentence_readHolder w0 hx).trans q5
              obtain rfl := Option.some.inj h; exact q14
            · skip
              rcases iteC h with ⟨hb, h⟩ | ⟨hb, h⟩
              · skip
                obtain ⟨x15, hx, h⟩ := bnd h
                obtain rfl := Option.some.inj h; exact q5
              · skip
                obtain ⟨x16, hx, h⟩ := bnd h
                have q17 : x16.2.2 b j = J b j := (fj_Sentence_readCompare w0 hx).trans q5
                obtain rfl := Option.some.inj h; exact q17
      · skip
        obtain ⟨x18, hx, h⟩ := bnd h
        obtain rfl := Option.some.inj h; exact rfl
set_option maxRecDepth 8000 in
theorem fj_Sentence_readOne_R {N : Nat} {a0 a1 a2 : Nat} {b j : Nat} (w0 : ¬ (b = a1 ∧ j = 10)) : ∀ (k : Nat) (l3 : Int32) (I : FI) (J : FJ) (r : Bool × FI × FJ), Sentence_readOne_R N k a0 a1 a2 l3 I J = some r → r.2.2 b j = J b j := by
  intro k
  induction k with
  | zero =>
    intro l3 I J r h
    cases h
  | succ k ih =>
    intro l3 I J r h
    exact fj_Sentence_readOne (N := N) (R := Sentence_readOne_R N k) ih w0 h
set_option maxRecDepth 8000 in
theorem fj_Sentence_read {N : Nat} {a0 a1 a2 : Nat} {I : FI} {J : FJ} {r : Bool × FI × FJ} {b j : Nat} (w0 : b ≠ (a1 + 5)) (w1 : ¬ (b = a1 ∧ j = 10)) (h : Sentence_read N a0 a1 a2 I J = some r) : r.2.2 b j = J b j := by
  unfold Sentence_read at h
  obtain ⟨x1, hx, h⟩ := bnd h
  obtain ⟨x2, hx, h⟩ := bnd h
  have q3 : x2.2 b j = J b j := (fj_Tape_begin w0 w1 hx).trans rfl
  obtain ⟨x4, hx, h⟩ := bnd h
  have q5 : x4.2.2 b j = J b j := (fj_Sentence_readCond (fun v0 v1 v2 v3 h => fj_Sentence_readOne_R w1 dK v0 v1 v2 v3 h) w1 hx).trans q3
  rcases iteC h with ⟨hb, h⟩ | ⟨hb, h⟩
  rotate_left
  · skip
    obtain rfl := Option.some.inj h; exact q5
  · skip
    rcases iteC h with ⟨hb, h⟩ | ⟨hb, h⟩
    · skip
      obtain rfl := Option.some.inj h; exact q5
    · skip
      obtain ⟨x6, hx, h⟩ := bnd h
      rcases iteC h with ⟨hb, h⟩ | ⟨hb, h⟩
      rotate_left
      · skip
        obtain rfl := Option.some.inj h; exact q5
      · skip
        obtain rfl := Option.some.inj h; exact q5
set_option maxRecDepth 8000 in
theorem fj_Hol_reading {N : Nat} {ln sp sn ss : Nat} {I : FI} {J : FJ} {r : Int32 × FJ} {b j : Nat} (w0 : b ≠ 194) (w1 : ¬ (b = 193 ∧ j = 1)) (h : Hol_reading N ln sp sn ss I J = some r) : r.2 b j = J b j := by
  unfold Hol_reading at h
  obtain ⟨x1, hx, h⟩ := bnd h
  have q2 : x1 b j = J b j := (fj_Beliefs_weigh w0 w1 hx).trans rfl
  obtain ⟨x3, hx, h⟩ := bnd h
  obtain rfl := Option.some.inj h; exact q2
