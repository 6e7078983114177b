/-! the start: the objects -/
def dO0 (S : Nat → Nat × Nat) (P : Nat → Nat → Option Nat) (a : Nat) : Decidable (O0 S P a) := by
  unfold O0
  repeat' (first | refine @instDecidableAnd _ _ ?_ ?_ | infer_instance)
def dO1 (S : Nat → Nat × Nat) (P : Nat → Nat → Option Nat) (a : Nat) : Decidable (O1 S P a) := by
  unfold O1
  repeat' (first | refine @instDecidableAnd _ _ ?_ ?_ | infer_instance)
def dO2 (S : Nat → Nat × Nat) (P : Nat → Nat → Option Nat) (a : Nat) : Decidable (O2 S P a) := by
  unfold O2
  repeat' (first | refine @instDecidableAnd _ _ ?_ ?_ | infer_instance)
def dO5 (S : Nat → Nat × Nat) (P : Nat → Nat → Option Nat) (a : Nat) : Decidable (O5 S P a) := by
  unfold O5
  repeat' (first | refine @instDecidableAnd _ _ ?_ ?_ | infer_instance)
def dO6 (S : Nat → Nat × Nat) (P : Nat → Nat → Option Nat) (a : Nat) : Decidable (O6 S P a) := by
  unfold O6
  repeat' (first | refine @instDecidableAnd _ _ ?_ ?_ | infer_instance)
def dO7 (S : Nat → Nat × Nat) (P : Nat → Nat → Option Nat) (a : Nat) : Decidable (O7 S P a) := by
  unfold O7
  repeat' (first | refine @instDecidableAnd _ _ ?_ ?_ | infer_instance)
def dO8 (S : Nat → Nat × Nat) (P : Nat → Nat → Option Nat) (a : Nat) : Decidable (O8 S P a) := by
  unfold O8
  repeat' (first | refine @instDecidableAnd _ _ ?_ ?_ | infer_instance)
def dO9 (S : Nat → Nat × Nat) (P : Nat → Nat → Option Nat) (a : Nat) : Decidable (O9 S P a) := by
  unfold O9
  repeat' (first | refine @instDecidableAnd _ _ ?_ ?_ | infer_instance)
def dO10 (S : Nat → Nat × Nat) (P : Nat → Nat → Option Nat) (a : Nat) : Decidable (O10 S P a) := by
  unfold O10
  repeat' (first | refine @instDecidableAnd _ _ ?_ ?_ | infer_instance)
def dO3 (S : Nat → Nat × Nat) (P : Nat → Nat → Option Nat) (a : Nat) : Decidable (O3 S P a) := by
  unfold O3
  haveI : ∀ a, Decidable (O9 S P a) := dO9 S P
  infer_instance
def dO4 (S : Nat → Nat × Nat) (P : Nat → Nat → Option Nat) (a : Nat) : Decidable (O4 S P a) := by
  unfold O4
  repeat' (first | exact dO6 _ _ _ | exact dO9 _ _ _ | exact dO8 _ _ _ | refine @instDecidableAnd _ _ ?_ ?_ | infer_instance)
def dOH (S : Nat → Nat × Nat) (P : Nat → Nat → Option Nat) (a b c d : Nat) : Decidable (OH S P a b c d) := by
  unfold OH
  repeat' (first | exact dO0 _ _ _ | exact dO1 _ _ _ | exact dO2 _ _ _ | exact dO3 _ _ _ | exact dO4 _ _ _ | exact dO5 _ _ _ | exact dO6 _ _ _ | exact dO7 _ _ _ | exact dO8 _ _ _ | exact dO9 _ _ _ | exact dO10 _ _ _ | refine @instDecidableAnd _ _ ?_ ?_ | infer_instance)
def dOM (S : Nat → Nat × Nat) (P : Nat → Nat → Option Nat) : Decidable (OM S P) := by
  unfold OM
  repeat' (first | refine @instDecidableAnd _ _ ?_ ?_ | infer_instance)
set_option maxRecDepth 1000000 in
theorem m2_OH : OH (mSh (m2 D9)) (mP (m2 D9)) 7 16 45 50 := @of_decide_eq_true _ (dOH _ _ _ _ _ _) (by decide +kernel)
set_option maxRecDepth 1000000 in
theorem m2_OM : OM (mSh (m2 D9)) (mP (m2 D9)) := @of_decide_eq_true _ (dOM _ _) (by decide +kernel)
