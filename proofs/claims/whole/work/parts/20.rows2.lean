/-! rows of the small machine with the cells' shapes told, and pictures of the objects -/
abbrev FI : Type := Nat → Nat → Int32
abbrev FJ : Type := Nat → Nat → Int64
def b2i (b : Bool) : Int32 := bif b then 1 else 0
theorem b2i_or (b : Bool) : b2i b = 0 ∨ b2i b = 1 := by cases b <;> decide
theorem b2i_t {b : Bool} (h : ¬ b2i b = 0) : b = true := by cases b with
  | false => exact absurd rfl h
  | true => rfl
theorem b2i_f {b : Bool} (h : b2i b = 0) : ¬ b = true := by cases b with
  | false => decide
  | true => exact absurd h (by decide)
theorem ifpE {α : Type} {c : Prop} [Decidable c] {a b r : α} (hc : c) (h : (if c then a else b) = r) : a = r := by rwa [if_pos hc] at h
theorem ifnE {α : Type} {c : Prop} [Decidable c] {a b r : α} (hc : ¬ c) (h : (if c then a else b) = r) : b = r := by rwa [if_neg hc] at h
theorem grd {α : Type} {c : Prop} [Decidable c] {a : Option α} {r : α} (h : (if c then a else none) = some r) : c ∧ a = some r := by
  by_cases hc : c
  · exact ⟨hc, by rwa [if_pos hc] at h⟩
  · rw [if_neg hc] at h; cases h
theorem bnd {α β : Type} {o : Option α} {f : α → Option β} {r : β} (h : Option.bind o f = some r) : ∃ x, o = some x ∧ f x = some r := by
  cases o with
  | none => cases h
  | some x => exact ⟨x, rfl, h⟩
theorem lgc_eq {x y : Int64} : (lg_cmp x y = 0) ↔ x = y := lg_cmp_eq x y
theorem lgc_lt {x y : Int64} : (lg_cmp x y < 0) ↔ x < y := lg_cmp_lt x y
theorem lgc_ge {x y : Int64} : (0 ≤ lg_cmp x y) ↔ y ≤ x := lg_cmp_ge x y
theorem lgc_gt {x y : Int64} : (0 < lg_cmp x y) ↔ y < x := lg_cmp_gt x y
theorem lgc_le {x y : Int64} : (lg_cmp x y ≤ 0) ↔ x ≤ y := lg_cmp_le x y
/-- how deep a method that calls itself is followed -/
def dK : Nat := 64
theorem dK_eq : dK = 64 := rfl
section Rows20
variable {d M pc : Nat} {ls : Loc9} {st : List Value} {cc : Nat × Nat} {S : Nat → Nat × Nat} {I : Nat → Nat → Int32} {J : Nat → Nat → Int64} {P : Nat → Nat → Option Nat} {r : Res}
theorem G_alen {c a k n : Nat} (h : code9 M pc = some (c, .arraylength, [1], .null, [])) (hc : cutA c ls = ls) (hs : S a = (k, n)) (hk : 1 ≤ k ∧ k ≤ 6) (g : Go d M (pc + 1) ls (.int (Int32.ofNat n) :: st) (cc, S, I, J, P) r) : Go d M pc ls (.ref a :: st) (cc, S, I, J, P) r := g_alen h hc (by rw [hs]; exact hk) (by rw [hs]; exact g)
theorem G_iald {c a n : Nat} {i : Int32} (h : code9 M pc = some (c, .iaload, [1], .null, [])) (hc : cutA c ls = ls) (hs : S a = (1, n)) (hi : in9 i n) (g : Go d M (pc + 1) ls (.int (I a i.toNatClampNeg) :: st) (cc, S, I, J, P) r) : Go d M pc ls (.int i :: .ref a :: st) (cc, S, I, J, P) r := g_iald h hc ⟨by rw [hs]; exact Or.inl rfl, by rw [hs]; exact hi⟩ g
theorem G_bald {c a n : Nat} {i : Int32} (h : code9 M pc = some (c, .baload, [1], .null, [])) (hc : cutA c ls = ls) (hs : S a = (2, n)) (hi : in9 i n) (g : Go d M (pc + 1) ls (.int (I a i.toNatClampNeg) :: st) (cc, S, I, J, P) r) : Go d M pc ls (.int i :: .ref a :: st) (cc, S, I, J, P) r := g_bald h hc ⟨by rw [hs]; exact Or.inl rfl, by rw [hs]; exact hi⟩ g
theorem G_zald {c a n : Nat} {i : Int32} (h : code9 M pc = some (c, .baload, [1], .null, [])) (hc : cutA c ls = ls) (hs : S a = (3, n)) (hi : in9 i n) (g : Go d M (pc + 1) ls (.int (I a i.toNatClampNeg) :: st) (cc, S, I, J, P) r) : Go d M pc ls (.int i :: .ref a :: st) (cc, S, I, J, P) r := g_bald h hc ⟨by rw [hs]; exact Or.inr rfl, by rw [hs]; exact hi⟩ g
theorem G_lald {c a n : Nat} {i : Int32} (h : code9 M pc = some (c, .laload, [1], .null, [])) (hc : cutA c ls = ls) (hs : S a = (4, n)) (hi : in9 i n) (g : Go d M (pc + 1) ls (.long (J a i.toNatClampNeg) :: st) (cc, S, I, J, P) r) : Go d M pc ls (.int i :: .ref a :: st) (cc, S, I, J, P) r := g_lald h hc ⟨by rw [hs], by rw [hs]; exact hi⟩ g
theorem G_aald {c a b n : Nat} {i : Int32} (h : code9 M pc = some (c, .aaload, [1], .null, [])) (hc : cutA c ls = ls) (hs : S a = (5, n)) (hi : in9 i n) (hp : P a i.toNatClampNeg = some b) (g : Go d M (pc + 1) ls (.ref b :: st) (cc, S, I, J, P) r) : Go d M pc ls (.int i :: .ref a :: st) (cc, S, I, J, P) r := g_aald h hc ⟨by rw [hs], by rw [hs]; exact hi⟩ hp g
theorem G_iast {c a n : Nat} {i : Int32} {x : Int32} {I' : FI} (h : code9 M pc = some (c, .iastore, [1], .null, [])) (hc : cutA c ls = ls) (hs : S a = (1, n)) (hi : in9 i n) (e : up2 I a i.toNatClampNeg x = I') (g : Go d M (pc + 1) ls st (cc, S, I', J, P) r) : Go d M pc ls (.int x :: .int i :: .ref a :: st) (cc, S, I, J, P) r := g_iast h hc ⟨by rw [hs], by rw [hs]; exact hi⟩ (by rw [e]; exact g)
theorem G_last {c a n : Nat} {i : Int32} {x : Int64} {J' : FJ} (h : code9 M pc = some (c, .lastore, [1], .null, [])) (hc : cutA c ls = ls) (hs : S a = (4, n)) (hi : in9 i n) (e : up2 J a i.toNatClampNeg x = J') (g : Go d M (pc + 1) ls st (cc, S, I, J', P) r) : Go d M pc ls (.long x :: .int i :: .ref a :: st) (cc, S, I, J, P) r := g_last h hc ⟨by rw [hs], by rw [hs]; exact hi⟩ (by rw [e]; exact g)
theorem G_bastB {c a n : Nat} {i : Int32} {x : Int32} {I' : FI} (h : code9 M pc = some (c, .bastore, [1], .null, [])) (hc : cutA c ls = ls) (hs : S a = (2, n)) (hi : in9 i n) (e : up2 I a i.toNatClampNeg (vp_nar .byte x) = I') (g : Go d M (pc + 1) ls st (cc, S, I', J, P) r) : Go d M pc ls (.int x :: .int i :: .ref a :: st) (cc, S, I, J, P) r := g_bastB h hc ⟨by rw [hs], by rw [hs]; exact hi⟩ (by rw [e]; exact g)
theorem G_bastZ {c a n : Nat} {i : Int32} {x : Int32} {I' : FI} (h : code9 M pc = some (c, .bastore, [1], .null, [])) (hc : cutA c ls = ls) (hs : S a = (3, n)) (hi : in9 i n) (e : up2 I a i.toNatClampNeg (vp_nar .boolean x) = I') (g : Go d M (pc + 1) ls st (cc, S, I', J, P) r) : Go d M pc ls (.int x :: .int i :: .ref a :: st) (cc, S, I, J, P) r := g_bastZ h hc ⟨by rw [hs], by rw [hs]; exact hi⟩ (by rw [e]; exact g)
theorem G_putI {c ci k z a : Nat} {x : Int32} {I' : FI} (h : code9 M pc = some (c, .putfield z, [3, ci, k, 0], .null, [])) (hc : cutA c ls = ls) (hs : S a = (0, ci)) (e : up2 I a k x = I') (g : Go d M (pc + 3) ls st (cc, S, I', J, P) r) : Go d M pc ls (.int x :: .ref a :: st) (cc, S, I, J, P) r := g_putI h hc hs (by rw [e]; exact g)
theorem G_putZ {c ci k z a : Nat} {x : Int32} {I' : FI} (h : code9 M pc = some (c, .putfield z, [3, ci, k, 3], .null, [])) (hc : cutA c ls = ls) (hs : S a = (0, ci)) (hz : x = 0 ∨ x = 1) (e : up2 I a k x = I') (g : Go d M (pc + 3) ls st (cc, S, I', J, P) r) : Go d M pc ls (.int x :: .ref a :: st) (cc, S, I, J, P) r := g_putZ h hc ⟨hs, hz⟩ (by rw [e]; exact g)
theorem G_putJ {c ci k z a : Nat} {x : Int64} {J' : FJ} (h : code9 M pc = some (c, .putfield z, [3, ci, k, 1], .null, [])) (hc : cutA c ls = ls) (hs : S a = (0, ci)) (e : up2 J a k x = J') (g : Go d M (pc + 3) ls st (cc, S, I, J', P) r) : Go d M pc ls (.long x :: .ref a :: st) (cc, S, I, J, P) r := g_putJ h hc hs (by rw [e]; exact g)
theorem G_cpyI {c z a b na nb : Nat} {sp dp m : Int32} {I' : FI} (h : code9 M pc = some (c, .invokestatic z, [3, 2], .null, [])) (hc : cutA c ls = ls) (hd : d ≠ 0) (ha : S a = (1, na)) (hb : S b = (1, nb)) (hn : a ≠ b) (hs : (0 ≤ sp ∧ 0 ≤ dp ∧ 0 ≤ m) ∧ sp.toNatClampNeg + m.toNatClampNeg ≤ na ∧ dp.toNatClampNeg + m.toNatClampNeg ≤ nb) (hw : cat9 st = true) (e : cp2 I a sp.toNatClampNeg b dp.toNatClampNeg m.toNatClampNeg = I') (g : Go d M (pc + 3) ls st (cc, S, I', J, P) r) : Go d M pc ls (.int m :: .int dp :: .ref b :: .int sp :: .ref a :: st) (cc, S, I, J, P) r := g_cpyI h hc ⟨hd, ⟨by rw [ha, hb], hn⟩, hs.1, by rw [ha]; exact hs.2.1, by rw [hb]; exact hs.2.2⟩ (by rw [ha]) hw (by rw [e]; exact g)
theorem G_cpyJ {c z a b na nb : Nat} {sp dp m : Int32} {J' : FJ} (h : code9 M pc = some (c, .invokestatic z, [3, 2], .null, [])) (hc : cutA c ls = ls) (hd : d ≠ 0) (ha : S a = (4, na)) (hb : S b = (4, nb)) (hn : a ≠ b) (hs : (0 ≤ sp ∧ 0 ≤ dp ∧ 0 ≤ m) ∧ sp.toNatClampNeg + m.toNatClampNeg ≤ na ∧ dp.toNatClampNeg + m.toNatClampNeg ≤ nb) (hw : cat9 st = true) (e : cp2 J a sp.toNatClampNeg b dp.toNatClampNeg m.toNatClampNeg = J') (g : Go d M (pc + 3) ls st (cc, S, I, J', P) r) : Go d M pc ls (.int m :: .int dp :: .ref b :: .int sp :: .ref a :: st) (cc, S, I, J, P) r := g_cpyJ h hc ⟨hd, ⟨by rw [ha, hb], hn⟩, hs.1, by rw [ha]; exact hs.2.1, by rw [hb]; exact hs.2.2⟩ (by rw [ha]) hw (by rw [e]; exact g)
end Rows20
def O0 (S : Nat → Nat × Nat) (P : Nat → Nat → Option Nat) (a : Nat) : Prop := S a = (0, 0) ∧ (P a 0 = some (a + 1) ∧ S (a + 1) = (4, 3))
theorem O0.o {S : Nat → Nat × Nat} {P : Nat → Nat → Option Nat} {a : Nat} (h : O0 S P a) : S a = (0, 0) := h.1
theorem O0.p0 {S : Nat → Nat × Nat} {P : Nat → Nat → Option Nat} {a : Nat} (h : O0 S P a) : P a 0 = some (a + 1) := h.2.1
theorem O0.s0 {S : Nat → Nat × Nat} {P : Nat → Nat → Option Nat} {a : Nat} (h : O0 S P a) : S (a + 1) = (4, 3) := h.2.2
def O1 (S : Nat → Nat × Nat) (P : Nat → Nat → Option Nat) (a : Nat) : Prop := S a = (0, 1) ∧ (P a 0 = some (a + 1) ∧ S (a + 1) = (1, 40)) ∧ (P a 1 = some (a + 2) ∧ S (a + 2) = (1, 40)) ∧ (P a 2 = some (a + 3) ∧ S (a + 3) = (1, 40)) ∧ (P a 3 = some (a + 4) ∧ S (a + 4) = (1, 40))
theorem O1.o {S : Nat → Nat × Nat} {P : Nat → Nat → Option Nat} {a : Nat} (h : O1 S P a) : S a = (0, 1) := h.1
theorem O1.p0 {S : Nat → Nat × Nat} {P : Nat → Nat → Option Nat} {a : Nat} (h : O1 S P a) : P a 0 = some (a + 1) := h.2.1.1
theorem O1.s0 {S : Nat → Nat × Nat} {P : Nat → Nat → Option Nat} {a : Nat} (h : O1 S P a) : S (a + 1) = (1, 40) := h.2.1.2
theorem O1.p1 {S : Nat → Nat × Nat} {P : Nat → Nat → Option Nat} {a : Nat} (h : O1 S P a) : P a 1 = some (a + 2) := h.2.2.1.1
theorem O1.s1 {S : Nat → Nat × Nat} {P : Nat → Nat → Option Nat} {a : Nat} (h : O1 S P a) : S (a + 2) = (1, 40) := h.2.2.1.2
theorem O1.p2 {S : Nat → Nat × Nat} {P : Nat → Nat → Option Nat} {a : Nat} (h : O1 S P a) : P a 2 = some (a + 3) := h.2.2.2.1.1
theorem O1.s2 {S : Nat → Nat × Nat} {P : Nat → Nat → Option Nat} {a : Nat} (h : O1 S P a) : S (a + 3) = (1, 40) := h.2.2.2.1.2
theorem O1.p3 {S : Nat → Nat × Nat} {P : Nat → Nat → Option Nat} {a : Nat} (h : O1 S P a) : P a 3 = some (a + 4) := h.2.2.2.2.1
theorem O1.s3 {S : Nat → Nat × Nat} {P : Nat → Nat → Option Nat} {a : Nat} (h : O1 S P a) : S (a + 4) = (1, 40) := h.2.2.2.2.2
def O2 (S : Nat → Nat × Nat) (P : Nat → Nat → Option Nat) (a : Nat) : Prop := S a = (0, 2)
theorem O2.o {S : Nat → Nat × Nat} {P : Nat → Nat → Option Nat} {a : Nat} (h : O2 S P a) : S a = (0, 2) := h
def O5 (S : Nat → Nat × Nat) (P : Nat → Nat → Option Nat) (a : Nat) : Prop := S a = (0, 5) ∧ (P a 0 = some (a + 1) ∧ S (a + 1) = (2, 40))
theorem O5.o {S : Nat → Nat × Nat} {P : Nat → Nat → Option Nat} {a : Nat} (h : O5 S P a) : S a = (0, 5) := h.1
theorem O5.p0 {S : Nat → Nat × Nat} {P : Nat → Nat → Option Nat} {a : Nat} (h : O5 S P a) : P a 0 = some (a + 1) := h.2.1
theorem O5.s0 {S : Nat → Nat × Nat} {P : Nat → Nat → Option Nat} {a : Nat} (h : O5 S P a) : S (a + 1) = (2, 40) := h.2.2
def O6 (S : Nat → Nat × Nat) (P : Nat → Nat → Option Nat) (a : Nat) : Prop := S a = (0, 6) ∧ (P a 0 = some (a + 1) ∧ S (a + 1) = (4, 6)) ∧ (P a 1 = some (a + 2) ∧ S (a + 2) = (4, 10)) ∧ (P a 2 = some (a + 3) ∧ S (a + 3) = (4, 6)) ∧ (P a 3 = some (a + 4) ∧ S (a + 4) = (1, 60)) ∧ (P a 4 = some (a + 5) ∧ S (a + 5) = (1, 12)) ∧ (P a 5 = some (a + 6) ∧ S (a + 6) = (1, 12)) ∧ (P a 6 = some (a + 7) ∧ S (a + 7) = (1, 3)) ∧ (P a 7 = some (a + 8) ∧ S (a + 8) = (1, 9))
theorem O6.o {S : Nat → Nat × Nat} {P : Nat → Nat → Option Nat} {a : Nat} (h : O6 S P a) : S a = (0, 6) := h.1
theorem O6.p0 {S : Nat → Nat × Nat} {P : Nat → Nat → Option Nat} {a : Nat} (h : O6 S P a) : P a 0 = some (a + 1) := h.2.1.1
theorem O6.s0 {S : Nat → Nat × Nat} {P : Nat → Nat → Option Nat} {a : Nat} (h : O6 S P a) : S (a + 1) = (4, 6) := h.2.1.2
theorem O6.p1 {S : Nat → Nat × Nat} {P : Nat → Nat → Option Nat} {a : Nat} (h : O6 S P a) : P a 1 = some (a + 2) := h.2.2.1.1
theorem O6.s1 {S : Nat → Nat × Nat} {P : Nat → Nat → Option Nat} {a : Nat} (h : O6 S P a) : S (a + 2) = (4, 10) := h.2.2.1.2
theorem O6.p2 {S : Nat → Nat × Nat} {P : Nat → Nat → Option Nat} {a : Nat} (h : O6 S P a) : P a 2 = some (a + 3) := h.2.2.2.1.1
theorem O6.s2 {S : Nat → Nat × Nat} {P : Nat → Nat → Option Nat} {a : Nat} (h : O6 S P a) : S (a + 3) = (4, 6) := h.2.2.2.1.2
theorem O6.p3 {S : Nat → Nat × Nat} {P : Nat → Nat → Option Nat} {a : Nat} (h : O6 S P a) : P a 3 = some (a + 4) := h.2.2.2.2.1.1
theorem O6.s3 {S : Nat → Nat × Nat} {P : Nat → Nat → Option Nat} {a : Nat} (h : O6 S P a) : S (a + 4) = (1, 60) := h.2.2.2.2.1.2
theorem O6.p4 {S : Nat → Nat × Nat} {P : Nat → Nat → Option Nat} {a : Nat} (h : O6 S P a) : P a 4 = some (a + 5) := h.2.2.2.2.2.1.1
theorem O6.s4 {S : Nat → Nat × Nat} {P : Nat → Nat → Option Nat} {a : Nat} (h : O6 S P a) : S (a + 5) = (1, 12) := h.2.2.2.2.2.1.2
theorem O6.p5 {S : Nat → Nat × Nat} {P : Nat → Nat → Option Nat} {a : Nat} (h : O6 S P a) : P a 5 = some (a + 6) := h.2.2.2.2.2.2.1.1
theorem O6.s5 {S : Nat → Nat × Nat} {P : Nat → Nat → Option Nat} {a : Nat} (h : O6 S P a) : S (a + 6) = (1, 12) := h.2.2.2.2.2.2.1.2
theorem O6.p6 {S : Nat → Nat × Nat} {P : Nat → Nat → Option Nat} {a : Nat} (h : O6 S P a) : P a 6 = some (a + 7) := h.2.2.2.2.2.2.2.1.1
theorem O6.s6 {S : Nat → Nat × Nat} {P : Nat → Nat → Option Nat} {a : Nat} (h : O6 S P a) : S (a + 7) = (1, 3) := h.2.2.2.2.2.2.2.1.2
theorem O6.p7 {S : Nat → Nat × Nat} {P : Nat → Nat → Option Nat} {a : Nat} (h : O6 S P a) : P a 7 = some (a + 8) := h.2.2.2.2.2.2.2.2.1
theorem O6.s7 {S : Nat → Nat × Nat} {P : Nat → Nat → Option Nat} {a : Nat} (h : O6 S P a) : S (a + 8) = (1, 9) := h.2.2.2.2.2.2.2.2.2
def O7 (S : Nat → Nat × Nat) (P : Nat → Nat → Option Nat) (a : Nat) : Prop := S a = (0, 7) ∧ (P a 0 = some (a + 1) ∧ S (a + 1) = (1, 36)) ∧ (P a 1 = some (a + 2) ∧ S (a + 2) = (1, 36)) ∧ (P a 2 = some (a + 3) ∧ S (a + 3) = (1, 8)) ∧ (P a 3 = some (a + 4) ∧ S (a + 4) = (1, 8))
theorem O7.o {S : Nat → Nat × Nat} {P : Nat → Nat → Option Nat} {a : Nat} (h : O7 S P a) : S a = (0, 7) := h.1
theorem O7.p0 {S : Nat → Nat × Nat} {P : Nat → Nat → Option Nat} {a : Nat} (h : O7 S P a) : P a 0 = some (a + 1) := h.2.1.1
theorem O7.s0 {S : Nat → Nat × Nat} {P : Nat → Nat → Option Nat} {a : Nat} (h : O7 S P a) : S (a + 1) = (1, 36) := h.2.1.2
theorem O7.p1 {S : Nat → Nat × Nat} {P : Nat → Nat → Option Nat} {a : Nat} (h : O7 S P a) : P a 1 = some (a + 2) := h.2.2.1.1
theorem O7.s1 {S : Nat → Nat × Nat} {P : Nat → Nat → Option Nat} {a : Nat} (h : O7 S P a) : S (a + 2) = (1, 36) := h.2.2.1.2
theorem O7.p2 {S : Nat → Nat × Nat} {P : Nat → Nat → Option Nat} {a : Nat} (h : O7 S P a) : P a 2 = some (a + 3) := h.2.2.2.1.1
theorem O7.s2 {S : Nat → Nat × Nat} {P : Nat → Nat → Option Nat} {a : Nat} (h : O7 S P a) : S (a + 3) = (1, 8) := h.2.2.2.1.2
theorem O7.p3 {S : Nat → Nat × Nat} {P : Nat → Nat → Option Nat} {a : Nat} (h : O7 S P a) : P a 3 = some (a + 4) := h.2.2.2.2.1
theorem O7.s3 {S : Nat → Nat × Nat} {P : Nat → Nat → Option Nat} {a : Nat} (h : O7 S P a) : S (a + 4) = (1, 8) := h.2.2.2.2.2
def O8 (S : Nat → Nat × Nat) (P : Nat → Nat → Option Nat) (a : Nat) : Prop := S a = (0, 8) ∧ (P a 0 = some (a + 1) ∧ S (a + 1) = (1, 40)) ∧ (P a 1 = some (a + 2) ∧ S (a + 2) = (1, 40)) ∧ (P a 2 = some (a + 3) ∧ S (a + 3) = (1, 40)) ∧ (P a 3 = some (a + 4) ∧ S (a + 4) = (1, 20))
theorem O8.o {S : Nat → Nat × Nat} {P : Nat → Nat → Option Nat} {a : Nat} (h : O8 S P a) : S a = (0, 8) := h.1
theorem O8.p0 {S : Nat → Nat × Nat} {P : Nat → Nat → Option Nat} {a : Nat} (h : O8 S P a) : P a 0 = some (a + 1) := h.2.1.1
theorem O8.s0 {S : Nat → Nat × Nat} {P : Nat → Nat → Option Nat} {a : Nat} (h : O8 S P a) : S (a + 1) = (1, 40) := h.2.1.2
theorem O8.p1 {S : Nat → Nat × Nat} {P : Nat → Nat → Option Nat} {a : Nat} (h : O8 S P a) : P a 1 = some (a + 2) := h.2.2.1.1
theorem O8.s1 {S : Nat → Nat × Nat} {P : Nat → Nat → Option Nat} {a : Nat} (h : O8 S P a) : S (a + 2) = (1, 40) := h.2.2.1.2
theorem O8.p2 {S : Nat → Nat × Nat} {P : Nat → Nat → Option Nat} {a : Nat} (h : O8 S P a) : P a 2 = some (a + 3) := h.2.2.2.1.1
theorem O8.s2 {S : Nat → Nat × Nat} {P : Nat → Nat → Option Nat} {a : Nat} (h : O8 S P a) : S (a + 3) = (1, 40) := h.2.2.2.1.2
theorem O8.p3 {S : Nat → Nat × Nat} {P : Nat → Nat → Option Nat} {a : Nat} (h : O8 S P a) : P a 3 = some (a + 4) := h.2.2.2.2.1
theorem O8.s3 {S : Nat → Nat × Nat} {P : Nat → Nat → Option Nat} {a : Nat} (h : O8 S P a) : S (a + 4) = (1, 20) := h.2.2.2.2.2
def O9 (S : Nat → Nat × Nat) (P : Nat → Nat → Option Nat) (a : Nat) : Prop := S a = (0, 9) ∧ (P a 0 = some (a + 1) ∧ S (a + 1) = (1, 10)) ∧ (P a 1 = some (a + 2) ∧ S (a + 2) = (1, 10)) ∧ (P a 2 = some (a + 3) ∧ S (a + 3) = (1, 10)) ∧ (P a 3 = some (a + 4) ∧ S (a + 4) = (1, 10)) ∧ (P a 4 = some (a + 5) ∧ S (a + 5) = (1, 10)) ∧ (P a 5 = some (a + 6) ∧ S (a + 6) = (1, 6)) ∧ (P a 6 = some (a + 7) ∧ S (a + 7) = (1, 6)) ∧ (P a 7 = some (a + 8) ∧ S (a + 8) = (1, 6)) ∧ (P a 8 = some (a + 9) ∧ S (a + 9) = (1, 36))
theorem O9.o {S : Nat → Nat × Nat} {P : Nat → Nat → Option Nat} {a : Nat} (h : O9 S P a) : S a = (0, 9) := h.1
theorem O9.p0 {S : Nat → Nat × Nat} {P : Nat → Nat → Option Nat} {a : Nat} (h : O9 S P a) : P a 0 = some (a + 1) := h.2.1.1
theorem O9.s0 {S : Nat → Nat × Nat} {P : Nat → Nat → Option Nat} {a : Nat} (h : O9 S P a) : S (a + 1) = (1, 10) := h.2.1.2
theorem O9.p1 {S : Nat → Nat × Nat} {P : Nat → Nat → Option Nat} {a : Nat} (h : O9 S P a) : P a 1 = some (a + 2) := h.2.2.1.1
theorem O9.s1 {S : Nat → Nat × Nat} {P : Nat → Nat → Option Nat} {a : Nat} (h : O9 S P a) : S (a + 2) = (1, 10) := h.2.2.1.2
theorem O9.p2 {S : Nat → Nat × Nat} {P : Nat → Nat → Option Nat} {a : Nat} (h : O9 S P a) : P a 2 = some (a + 3) := h.2.2.2.1.1
theorem O9.s2 {S : Nat → Nat × Nat} {P : Nat → Nat → Option Nat} {a : Nat} (h : O9 S P a) : S (a + 3) = (1, 10) := h.2.2.2.1.2
theorem O9.p3 {S : Nat → Nat × Nat} {P : Nat → Nat → Option Nat} {a : Nat} (h : O9 S P a) : P a 3 = some (a + 4) := h.2.2.2.2.1.1
theorem O9.s3 {S : Nat → Nat × Nat} {P : Nat → Nat → Option Nat} {a : Nat} (h : O9 S P a) : S (a + 4) = (1, 10) := h.2.2.2.2.1.2
theorem O9.p4 {S : Nat → Nat × Nat} {P : Nat → Nat → Option Nat} {a : Nat} (h : O9 S P a) : P a 4 = some (a + 5) := h.2.2.2.2.2.1.1
theorem O9.s4 {S : Nat → Nat × Nat} {P : Nat → Nat → Option Nat} {a : Nat} (h : O9 S P a) : S (a + 5) = (1, 10) := h.2.2.2.2.2.1.2
theorem O9.p5 {S : Nat → Nat × Nat} {P : Nat → Nat → Option Nat} {a : Nat} (h : O9 S P a) : P a 5 = some (a + 6) := h.2.2.2.2.2.2.1.1
theorem O9.s5 {S : Nat → Nat × Nat} {P : Nat → Nat → Option Nat} {a : Nat} (h : O9 S P a) : S (a + 6) = (1, 6) := h.2.2.2.2.2.2.1.2
theorem O9.p6 {S : Nat → Nat × Nat} {P : Nat → Nat → Option Nat} {a : Nat} (h : O9 S P a) : P a 6 = some (a + 7) := h.2.2.2.2.2.2.2.1.1
theorem O9.s6 {S : Nat → Nat × Nat} {P : Nat → Nat → Option Nat} {a : Nat} (h : O9 S P a) : S (a + 7) = (1, 6) := h.2.2.2.2.2.2.2.1.2
theorem O9.p7 {S : Nat → Nat × Nat} {P : Nat → Nat → Option Nat} {a : Nat} (h : O9 S P a) : P a 7 = some (a + 8) := h.2.2.2.2.2.2.2.2.1.1
theorem O9.s7 {S : Nat → Nat × Nat} {P : Nat → Nat → Option Nat} {a : Nat} (h : O9 S P a) : S (a + 8) = (1, 6) := h.2.2.2.2.2.2.2.2.1.2
theorem O9.p8 {S : Nat → Nat × Nat} {P : Nat → Nat → Option Nat} {a : Nat} (h : O9 S P a) : P a 8 = some (a + 9) := h.2.2.2.2.2.2.2.2.2.1
theorem O9.s8 {S : Nat → Nat × Nat} {P : Nat → Nat → Option Nat} {a : Nat} (h : O9 S P a) : S (a + 9) = (1, 36) := h.2.2.2.2.2.2.2.2.2.2
def O10 (S : Nat → Nat × Nat) (P : Nat → Nat → Option Nat) (a : Nat) : Prop := S a = (0, 10) ∧ (P a 0 = some (a + 1) ∧ S (a + 1) = (2, 940)) ∧ (P a 1 = some (a + 2) ∧ S (a + 2) = (4, 35)) ∧ (P a 2 = some (a + 3) ∧ S (a + 3) = (1, 901)) ∧ (P a 3 = some (a + 4) ∧ S (a + 4) = (1, 901)) ∧ (P a 4 = some (a + 5) ∧ S (a + 5) = (4, 901))
theorem O10.o {S : Nat → Nat × Nat} {P : Nat → Nat → Option Nat} {a : Nat} (h : O10 S P a) : S a = (0, 10) := h.1
theorem O10.p0 {S : Nat → Nat × Nat} {P : Nat → Nat → Option Nat} {a : Nat} (h : O10 S P a) : P a 0 = some (a + 1) := h.2.1.1
theorem O10.s0 {S : Nat → Nat × Nat} {P : Nat → Nat → Option Nat} {a : Nat} (h : O10 S P a) : S (a + 1) = (2, 940) := h.2.1.2
theorem O10.p1 {S : Nat → Nat × Nat} {P : Nat → Nat → Option Nat} {a : Nat} (h : O10 S P a) : P a 1 = some (a + 2) := h.2.2.1.1
theorem O10.s1 {S : Nat → Nat × Nat} {P : Nat → Nat → Option Nat} {a : Nat} (h : O10 S P a) : S (a + 2) = (4, 35) := h.2.2.1.2
theorem O10.p2 {S : Nat → Nat × Nat} {P : Nat → Nat → Option Nat} {a : Nat} (h : O10 S P a) : P a 2 = some (a + 3) := h.2.2.2.1.1
theorem O10.s2 {S : Nat → Nat × Nat} {P : Nat → Nat → Option Nat} {a : Nat} (h : O10 S P a) : S (a + 3) = (1, 901) := h.2.2.2.1.2
theorem O10.p3 {S : Nat → Nat × Nat} {P : Nat → Nat → Option Nat} {a : Nat} (h : O10 S P a) : P a 3 = some (a + 4) := h.2.2.2.2.1.1
theorem O10.s3 {S : Nat → Nat × Nat} {P : Nat → Nat → Option Nat} {a : Nat} (h : O10 S P a) : S (a + 4) = (1, 901) := h.2.2.2.2.1.2
theorem O10.p4 {S : Nat → Nat × Nat} {P : Nat → Nat → Option Nat} {a : Nat} (h : O10 S P a) : P a 4 = some (a + 5) := h.2.2.2.2.2.1
theorem O10.s4 {S : Nat → Nat × Nat} {P : Nat → Nat → Option Nat} {a : Nat} (h : O10 S P a) : S (a + 5) = (4, 901) := h.2.2.2.2.2.2
def O3 (S : Nat → Nat × Nat) (P : Nat → Nat → Option Nat) (a : Nat) : Prop := S a = (0, 3) ∧ (P a 0 = some (a + 1) ∧ S (a + 1) = (5, 8)) ∧ (∀ i, i < 8 → P (a + 1) i = some (a + 2 + 10 * i) ∧ O9 S P (a + 2 + 10 * i))
theorem O3.o {S : Nat → Nat × Nat} {P : Nat → Nat → Option Nat} {a : Nat} (h : O3 S P a) : S a = (0, 3) := h.1
theorem O3.p0 {S : Nat → Nat × Nat} {P : Nat → Nat → Option Nat} {a : Nat} (h : O3 S P a) : P a 0 = some (a + 1) := h.2.1.1
theorem O3.s0 {S : Nat → Nat × Nat} {P : Nat → Nat → Option Nat} {a : Nat} (h : O3 S P a) : S (a + 1) = (5, 8) := h.2.1.2
theorem O3.e {S : Nat → Nat × Nat} {P : Nat → Nat → Option Nat} {a : Nat} (h : O3 S P a) {i : Nat} (hi : i < 8) : P (a + 1) i = some (a + 2 + 10 * i) := (h.2.2 i hi).1
theorem O3.t {S : Nat → Nat × Nat} {P : Nat → Nat → Option Nat} {a : Nat} (h : O3 S P a) {i : Nat} (hi : i < 8) : O9 S P (a + 2 + 10 * i) := (h.2.2 i hi).2
def O4 (S : Nat → Nat × Nat) (P : Nat → Nat → Option Nat) (a : Nat) : Prop := S a = (0, 4) ∧ (P a 0 = some (a + 1) ∧ O6 S P (a + 1)) ∧ (P a 1 = some (a + 10) ∧ O9 S P (a + 10)) ∧ (P a 2 = some (a + 20) ∧ O8 S P (a + 20))
theorem O4.o {S : Nat → Nat × Nat} {P : Nat → Nat → Option Nat} {a : Nat} (h : O4 S P a) : S a = (0, 4) := h.1
theorem O4.p0 {S : Nat → Nat × Nat} {P : Nat → Nat → Option Nat} {a : Nat} (h : O4 S P a) : P a 0 = some (a + 1) := h.2.1.1
theorem O4.q0 {S : Nat → Nat × Nat} {P : Nat → Nat → Option Nat} {a : Nat} (h : O4 S P a) : O6 S P (a + 1) := h.2.1.2
theorem O4.p1 {S : Nat → Nat × Nat} {P : Nat → Nat → Option Nat} {a : Nat} (h : O4 S P a) : P a 1 = some (a + 10) := h.2.2.1.1
theorem O4.q1 {S : Nat → Nat × Nat} {P : Nat → Nat → Option Nat} {a : Nat} (h : O4 S P a) : O9 S P (a + 10) := h.2.2.1.2
theorem O4.p2 {S : Nat → Nat × Nat} {P : Nat → Nat → Option Nat} {a : Nat} (h : O4 S P a) : P a 2 = some (a + 20) := h.2.2.2.1
theorem O4.q2 {S : Nat → Nat × Nat} {P : Nat → Nat → Option Nat} {a : Nat} (h : O4 S P a) : O8 S P (a + 20) := h.2.2.2.2
def OH (S : Nat → Nat × Nat) (P : Nat → Nat → Option Nat) (ln sp sn ss : Nat) : Prop := S 0 = (0, 11) ∧ (P 0 0 = some 1 ∧ O10 S P 1) ∧ (P 0 1 = some ln ∧ O6 S P ln) ∧ (P 0 2 = some sp ∧ O6 S P sp) ∧ (P 0 3 = some 25 ∧ O9 S P 25) ∧ (P 0 4 = some 35 ∧ O9 S P 35) ∧ (P 0 5 = some sn ∧ O8 S P sn) ∧ (P 0 6 = some ss ∧ O8 S P ss) ∧ (P 0 7 = some 55 ∧ O1 S P 55) ∧ (P 0 8 = some 60 ∧ O3 S P 60) ∧ (P 0 9 = some 142 ∧ O4 S P 142) ∧ (P 0 10 = some 167 ∧ O4 S P 167) ∧ (P 0 11 = some 192 ∧ O2 S P 192) ∧ (P 0 12 = some 193 ∧ O0 S P 193) ∧ (P 0 13 = some 195 ∧ O7 S P 195) ∧ (P 0 14 = some 200 ∧ O5 S P 200) ∧ (P 0 15 = some 202 ∧ S 202 = (1, 4)) ∧ (P 0 16 = some 203 ∧ S 203 = (1, 10))
theorem OH.o {S : Nat → Nat × Nat} {P : Nat → Nat → Option Nat} {ln sp sn ss : Nat} (h : OH S P ln sp sn ss) : S 0 = (0, 11) := h.1
theorem OH.p0 {S : Nat → Nat × Nat} {P : Nat → Nat → Option Nat} {ln sp sn ss : Nat} (h : OH S P ln sp sn ss) : P 0 0 = some 1 := h.2.1.1
theorem OH.q0 {S : Nat → Nat × Nat} {P : Nat → Nat → Option Nat} {ln sp sn ss : Nat} (h : OH S P ln sp sn ss) : O10 S P 1 := h.2.1.2
theorem OH.p1 {S : Nat → Nat × Nat} {P : Nat → Nat → Option Nat} {ln sp sn ss : Nat} (h : OH S P ln sp sn ss) : P 0 1 = some ln := h.2.2.1.1
theorem OH.q1 {S : Nat → Nat × Nat} {P : Nat → Nat → Option Nat} {ln sp sn ss : Nat} (h : OH S P ln sp sn ss) : O6 S P ln := h.2.2.1.2
theorem OH.p2 {S : Nat → Nat × Nat} {P : Nat → Nat → Option Nat} {ln sp sn ss : Nat} (h : OH S P ln sp sn ss) : P 0 2 = some sp := h.2.2.2.1.1
theorem OH.q2 {S : Nat → Nat × Nat} {P : Nat → Nat → Option Nat} {ln sp sn ss : Nat} (h : OH S P ln sp sn ss) : O6 S P sp := h.2.2.2.1.2
theorem OH.p3 {S : Nat → Nat × Nat} {P : Nat → Nat → Option Nat} {ln sp sn ss : Nat} (h : OH S P ln sp sn ss) : P 0 3 = some 25 := h.2.2.2.2.1.1
theorem OH.q3 {S : Nat → Nat × Nat} {P : Nat → Nat → Option Nat} {ln sp sn ss : Nat} (h : OH S P ln sp sn ss) : O9 S P 25 := h.2.2.2.2.1.2
theorem OH.p4 {S : Nat → Nat × Nat} {P : Nat → Nat → Option Nat} {ln sp sn ss : Nat} (h : OH S P ln sp sn ss) : P 0 4 = some 35 := h.2.2.2.2.2.1.1
theorem OH.q4 {S : Nat → Nat × Nat} {P : Nat → Nat → Option Nat} {ln sp sn ss : Nat} (h : OH S P ln sp sn ss) : O9 S P 35 := h.2.2.2.2.2.1.2
theorem OH.p5 {S : Nat → Nat × Nat} {P : Nat → Nat → Option Nat} {ln sp sn ss : Nat} (h : OH S P ln sp sn ss) : P 0 5 = some sn := h.2.2.2.2.2.2.1.1
theorem OH.q5 {S : Nat → Nat × Nat} {P : Nat → Nat → Option Nat} {ln sp sn ss : Nat} (h : OH S P ln sp sn ss) : O8 S P sn := h.2.2.2.2.2.2.1.2
theorem OH.p6 {S : Nat → Nat × Nat} {P : Nat → Nat → Option Nat} {ln sp sn ss : Nat} (h : OH S P ln sp sn ss) : P 0 6 = some ss := h.2.2.2.2.2.2.2.1.1
theorem OH.q6 {S : Nat → Nat × Nat} {P : Nat → Nat → Option Nat} {ln sp sn ss : Nat} (h : OH S P ln sp sn ss) : O8 S P ss := h.2.2.2.2.2.2.2.1.2
theorem OH.p7 {S : Nat → Nat × Nat} {P : Nat → Nat → Option Nat} {ln sp sn ss : Nat} (h : OH S P ln sp sn ss) : P 0 7 = some 55 := h.2.2.2.2.2.2.2.2.1.1
theorem OH.q7 {S : Nat → Nat × Nat} {P : Nat → Nat → Option Nat} {ln sp sn ss : Nat} (h : OH S P ln sp sn ss) : O1 S P 55 := h.2.2.2.2.2.2.2.2.1.2
theorem OH.p8 {S : Nat → Nat × Nat} {P : Nat → Nat → Option Nat} {ln sp sn ss : Nat} (h : OH S P ln sp sn ss) : P 0 8 = some 60 := h.2.2.2.2.2.2.2.2.2.1.1
theorem OH.q8 {S : Nat → Nat × Nat} {P : Nat → Nat → Option Nat} {ln sp sn ss : Nat} (h : OH S P ln sp sn ss) : O3 S P 60 := h.2.2.2.2.2.2.2.2.2.1.2
theorem OH.p9 {S : Nat → Nat × Nat} {P : Nat → Nat → Option Nat} {ln sp sn ss : Nat} (h : OH S P ln sp sn ss) : P 0 9 = some 142 := h.2.2.2.2.2.2.2.2.2.2.1.1
theorem OH.q9 {S : Nat → Nat × Nat} {P : Nat → Nat → Option Nat} {ln sp sn ss : Nat} (h : OH S P ln sp sn ss) : O4 S P 142 := h.2.2.2.2.2.2.2.2.2.2.1.2
theorem OH.p10 {S : Nat → Nat × Nat} {P : Nat → Nat → Option Nat} {ln sp sn ss : Nat} (h : OH S P ln sp sn ss) : P 0 10 = some 167 := h.2.2.2.2.2.2.2.2.2.2.2.1.1
theorem OH.q10 {S : Nat → Nat × Nat} {P : Nat → Nat → Option Nat} {ln sp sn ss : Nat} (h : OH S P ln sp sn ss) : O4 S P 167 := h.2.2.2.2.2.2.2.2.2.2.2.1.2
theorem OH.p11 {S : Nat → Nat × Nat} {P : Nat → Nat → Option Nat} {ln sp sn ss : Nat} (h : OH S P ln sp sn ss) : P 0 11 = some 192 := h.2.2.2.2.2.2.2.2.2.2.2.2.1.1
theorem OH.q11 {S : Nat → Nat × Nat} {P : Nat → Nat → Option Nat} {ln sp sn ss : Nat} (h : OH S P ln sp sn ss) : O2 S P 192 := h.2.2.2.2.2.2.2.2.2.2.2.2.1.2
theorem OH.p12 {S : Nat → Nat × Nat} {P : Nat → Nat → Option Nat} {ln sp sn ss : Nat} (h : OH S P ln sp sn ss) : P 0 12 = some 193 := h.2.2.2.2.2.2.2.2.2.2.2.2.2.1.1
theorem OH.q12 {S : Nat → Nat × Nat} {P : Nat → Nat → Option Nat} {ln sp sn ss : Nat} (h : OH S P ln sp sn ss) : O0 S P 193 := h.2.2.2.2.2.2.2.2.2.2.2.2.2.1.2
theorem OH.p13 {S : Nat → Nat × Nat} {P : Nat → Nat → Option Nat} {ln sp sn ss : Nat} (h : OH S P ln sp sn ss) : P 0 13 = some 195 := h.2.2.2.2.2.2.2.2.2.2.2.2.2.2.1.1
theorem OH.q13 {S : Nat → Nat × Nat} {P : Nat → Nat → Option Nat} {ln sp sn ss : Nat} (h : OH S P ln sp sn ss) : O7 S P 195 := h.2.2.2.2.2.2.2.2.2.2.2.2.2.2.1.2
theorem OH.p14 {S : Nat → Nat × Nat} {P : Nat → Nat → Option Nat} {ln sp sn ss : Nat} (h : OH S P ln sp sn ss) : P 0 14 = some 200 := h.2.2.2.2.2.2.2.2.2.2.2.2.2.2.2.1.1
theorem OH.q14 {S : Nat → Nat × Nat} {P : Nat → Nat → Option Nat} {ln sp sn ss : Nat} (h : OH S P ln sp sn ss) : O5 S P 200 := h.2.2.2.2.2.2.2.2.2.2.2.2.2.2.2.1.2
theorem OH.p15 {S : Nat → Nat × Nat} {P : Nat → Nat → Option Nat} {ln sp sn ss : Nat} (h : OH S P ln sp sn ss) : P 0 15 = some 202 := h.2.2.2.2.2.2.2.2.2.2.2.2.2.2.2.2.1.1
theorem OH.s15 {S : Nat → Nat × Nat} {P : Nat → Nat → Option Nat} {ln sp sn ss : Nat} (h : OH S P ln sp sn ss) : S 202 = (1, 4) := h.2.2.2.2.2.2.2.2.2.2.2.2.2.2.2.2.1.2
theorem OH.p16 {S : Nat → Nat × Nat} {P : Nat → Nat → Option Nat} {ln sp sn ss : Nat} (h : OH S P ln sp sn ss) : P 0 16 = some 203 := h.2.2.2.2.2.2.2.2.2.2.2.2.2.2.2.2.2.1
theorem OH.s16 {S : Nat → Nat × Nat} {P : Nat → Nat → Option Nat} {ln sp sn ss : Nat} (h : OH S P ln sp sn ss) : S 203 = (1, 10) := h.2.2.2.2.2.2.2.2.2.2.2.2.2.2.2.2.2.2
def OM (S : Nat → Nat × Nat) (P : Nat → Nat → Option Nat) : Prop := S 204 = (0, 12) ∧ (P 204 1 = some 205 ∧ S 205 = (1, 940)) ∧ (P 204 14 = some 206 ∧ S 206 = (1, 451)) ∧ (P 204 15 = some 207 ∧ S 207 = (1, 102)) ∧ (P 204 16 = some 208 ∧ S 208 = (1, 902)) ∧ (P 204 17 = some 209 ∧ S 209 = (1, 856)) ∧ (P 204 18 = some 210 ∧ S 210 = (1, 107)) ∧ (P 204 19 = some 211 ∧ S 211 = (4, 22)) ∧ (P 204 20 = some 212 ∧ S 212 = (4, 22)) ∧ (P 204 21 = some 213 ∧ S 213 = (4, 44)) ∧ (P 204 22 = some 214 ∧ S 214 = (3, 2)) ∧ (P 204 23 = some 215 ∧ S 215 = (3, 64)) ∧ (P 204 26 = some 216 ∧ S 216 = (4, 3)) ∧ (P 204 27 = some 217 ∧ S 217 = (1, 8)) ∧ (P 204 28 = some 218 ∧ S 218 = (1, 8)) ∧ (P 204 29 = some 219 ∧ S 219 = (1, 36)) ∧ (P 204 32 = some 220 ∧ S 220 = (1, 10)) ∧ (P 204 35 = some 221 ∧ S 221 = (1, 64)) ∧ (P 204 37 = some 222 ∧ S 222 = (1, 160)) ∧ (P 204 38 = some 223 ∧ S 223 = (1, 4)) ∧ (P 204 41 = some 224 ∧ S 224 = (1, 240))
theorem OM.o {S : Nat → Nat × Nat} {P : Nat → Nat → Option Nat} (h : OM S P) : S 204 = (0, 12) := h.1
theorem OM.p1 {S : Nat → Nat × Nat} {P : Nat → Nat → Option Nat} (h : OM S P) : P 204 1 = some 205 := h.2.1.1
theorem OM.s1 {S : Nat → Nat × Nat} {P : Nat → Nat → Option Nat} (h : OM S P) : S 205 = (1, 940) := h.2.1.2
theorem OM.p14 {S : Nat → Nat × Nat} {P : Nat → Nat → Option Nat} (h : OM S P) : P 204 14 = some 206 := h.2.2.1.1
theorem OM.s14 {S : Nat → Nat × Nat} {P : Nat → Nat → Option Nat} (h : OM S P) : S 206 = (1, 451) := h.2.2.1.2
theorem OM.p15 {S : Nat → Nat × Nat} {P : Nat → Nat → Option Nat} (h : OM S P) : P 204 15 = some 207 := h.2.2.2.1.1
theorem OM.s15 {S : Nat → Nat × Nat} {P : Nat → Nat → Option Nat} (h : OM S P) : S 207 = (1, 102) := h.2.2.2.1.2
theorem OM.p16 {S : Nat → Nat × Nat} {P : Nat → Nat → Option Nat} (h : OM S P) : P 204 16 = some 208 := h.2.2.2.2.1.1
theorem OM.s16 {S : Nat → Nat × Nat} {P : Nat → Nat → Option Nat} (h : OM S P) : S 208 = (1, 902) := h.2.2.2.2.1.2
theorem OM.p17 {S : Nat → Nat × Nat} {P : Nat → Nat → Option Nat} (h : OM S P) : P 204 17 = some 209 := h.2.2.2.2.2.1.1
theorem OM.s17 {S : Nat → Nat × Nat} {P : Nat → Nat → Option Nat} (h : OM S P) : S 209 = (1, 856) := h.2.2.2.2.2.1.2
theorem OM.p18 {S : Nat → Nat × Nat} {P : Nat → Nat → Option Nat} (h : OM S P) : P 204 18 = some 210 := h.2.2.2.2.2.2.1.1
theorem OM.s18 {S : Nat → Nat × Nat} {P : Nat → Nat → Option Nat} (h : OM S P) : S 210 = (1, 107) := h.2.2.2.2.2.2.1.2
theorem OM.p19 {S : Nat → Nat × Nat} {P : Nat → Nat → Option Nat} (h : OM S P) : P 204 19 = some 211 := h.2.2.2.2.2.2.2.1.1
theorem OM.s19 {S : Nat → Nat × Nat} {P : Nat → Nat → Option Nat} (h : OM S P) : S 211 = (4, 22) := h.2.2.2.2.2.2.2.1.2
theorem OM.p20 {S : Nat → Nat × Nat} {P : Nat → Nat → Option Nat} (h : OM S P) : P 204 20 = some 212 := h.2.2.2.2.2.2.2.2.1.1
theorem OM.s20 {S : Nat → Nat × Nat} {P : Nat → Nat → Option Nat} (h : OM S P) : S 212 = (4, 22) := h.2.2.2.2.2.2.2.2.1.2
theorem OM.p21 {S : Nat → Nat × Nat} {P : Nat → Nat → Option Nat} (h : OM S P) : P 204 21 = some 213 := h.2.2.2.2.2.2.2.2.2.1.1
theorem OM.s21 {S : Nat → Nat × Nat} {P : Nat → Nat → Option Nat} (h : OM S P) : S 213 = (4, 44) := h.2.2.2.2.2.2.2.2.2.1.2
theorem OM.p22 {S : Nat → Nat × Nat} {P : Nat → Nat → Option Nat} (h : OM S P) : P 204 22 = some 214 := h.2.2.2.2.2.2.2.2.2.2.1.1
theorem OM.s22 {S : Nat → Nat × Nat} {P : Nat → Nat → Option Nat} (h : OM S P) : S 214 = (3, 2) := h.2.2.2.2.2.2.2.2.2.2.1.2
theorem OM.p23 {S : Nat → Nat × Nat} {P : Nat → Nat → Option Nat} (h : OM S P) : P 204 23 = some 215 := h.2.2.2.2.2.2.2.2.2.2.2.1.1
theorem OM.s23 {S : Nat → Nat × Nat} {P : Nat → Nat → Option Nat} (h : OM S P) : S 215 = (3, 64) := h.2.2.2.2.2.2.2.2.2.2.2.1.2
theorem OM.p26 {S : Nat → Nat × Nat} {P : Nat → Nat → Option Nat} (h : OM S P) : P 204 26 = some 216 := h.2.2.2.2.2.2.2.2.2.2.2.2.1.1
theorem OM.s26 {S : Nat → Nat × Nat} {P : Nat → Nat → Option Nat} (h : OM S P) : S 216 = (4, 3) := h.2.2.2.2.2.2.2.2.2.2.2.2.1.2
theorem OM.p27 {S : Nat → Nat × Nat} {P : Nat → Nat → Option Nat} (h : OM S P) : P 204 27 = some 217 := h.2.2.2.2.2.2.2.2.2.2.2.2.2.1.1
theorem OM.s27 {S : Nat → Nat × Nat} {P : Nat → Nat → Option Nat} (h : OM S P) : S 217 = (1, 8) := h.2.2.2.2.2.2.2.2.2.2.2.2.2.1.2
theorem OM.p28 {S : Nat → Nat × Nat} {P : Nat → Nat → Option Nat} (h : OM S P) : P 204 28 = some 218 := h.2.2.2.2.2.2.2.2.2.2.2.2.2.2.1.1
theorem OM.s28 {S : Nat → Nat × Nat} {P : Nat → Nat → Option Nat} (h : OM S P) : S 218 = (1, 8) := h.2.2.2.2.2.2.2.2.2.2.2.2.2.2.1.2
theorem OM.p29 {S : Nat → Nat × Nat} {P : Nat → Nat → Option Nat} (h : OM S P) : P 204 29 = some 219 := h.2.2.2.2.2.2.2.2.2.2.2.2.2.2.2.1.1
theorem OM.s29 {S : Nat → Nat × Nat} {P : Nat → Nat → Option Nat} (h : OM S P) : S 219 = (1, 36) := h.2.2.2.2.2.2.2.2.2.2.2.2.2.2.2.1.2
theorem OM.p32 {S : Nat → Nat × Nat} {P : Nat → Nat → Option Nat} (h : OM S P) : P 204 32 = some 220 := h.2.2.2.2.2.2.2.2.2.2.2.2.2.2.2.2.1.1
theorem OM.s32 {S : Nat → Nat × Nat} {P : Nat → Nat → Option Nat} (h : OM S P) : S 220 = (1, 10) := h.2.2.2.2.2.2.2.2.2.2.2.2.2.2.2.2.1.2
theorem OM.p35 {S : Nat → Nat × Nat} {P : Nat → Nat → Option Nat} (h : OM S P) : P 204 35 = some 221 := h.2.2.2.2.2.2.2.2.2.2.2.2.2.2.2.2.2.1.1
theorem OM.s35 {S : Nat → Nat × Nat} {P : Nat → Nat → Option Nat} (h : OM S P) : S 221 = (1, 64) := h.2.2.2.2.2.2.2.2.2.2.2.2.2.2.2.2.2.1.2
theorem OM.p37 {S : Nat → Nat × Nat} {P : Nat → Nat → Option Nat} (h : OM S P) : P 204 37 = some 222 := h.2.2.2.2.2.2.2.2.2.2.2.2.2.2.2.2.2.2.1.1
theorem OM.s37 {S : Nat → Nat × Nat} {P : Nat → Nat → Option Nat} (h : OM S P) : S 222 = (1, 160) := h.2.2.2.2.2.2.2.2.2.2.2.2.2.2.2.2.2.2.1.2
theorem OM.p38 {S : Nat → Nat × Nat} {P : Nat → Nat → Option Nat} (h : OM S P) : P 204 38 = some 223 := h.2.2.2.2.2.2.2.2.2.2.2.2.2.2.2.2.2.2.2.1.1
theorem OM.s38 {S : Nat → Nat × Nat} {P : Nat → Nat → Option Nat} (h : OM S P) : S 223 = (1, 4) := h.2.2.2.2.2.2.2.2.2.2.2.2.2.2.2.2.2.2.2.1.2
theorem OM.p41 {S : Nat → Nat × Nat} {P : Nat → Nat → Option Nat} (h : OM S P) : P 204 41 = some 224 := h.2.2.2.2.2.2.2.2.2.2.2.2.2.2.2.2.2.2.2.2.1
theorem OM.s41 {S : Nat → Nat × Nat} {P : Nat → Nat → Option Nat} (h : OM S P) : S 224 = (1, 240) := h.2.2.2.2.2.2.2.2.2.2.2.2.2.2.2.2.2.2.2.2.2
