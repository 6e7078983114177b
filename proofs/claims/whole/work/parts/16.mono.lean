/-! cells and slots only grow -/
def Mo9 (μ : Mem) (o : Option Res) : Prop := ∀ r, o = some r → mHp μ ≤ mHp r.2.2 ∧ mSl μ ≤ mSl r.2.2
section MONO
variable {μ μ' : Mem} {o : Option Res}
theorem mo_none : Mo9 μ none := fun _ h => by cases h
theorem mo_some {v : Option Value} {b : Bool} : Mo9 μ (some (v, b, μ)) := fun r h => by cases h; exact ⟨Nat.le_refl _, Nat.le_refl _⟩
theorem mo_new {v : Option Value} {b : Bool} {kd : Nat × Nat} {n : Nat} : Mo9 μ (some (v, b, mNew μ kd n)) := fun r h => by cases h; exact ⟨Nat.le_succ _, Nat.le_add_right _ _⟩
theorem mo_up (h : Mo9 μ' o) (h1 : mHp μ ≤ mHp μ') (h2 : mSl μ ≤ mSl μ') : Mo9 μ o := fun r hr => ⟨Nat.le_trans h1 (h r hr).1, Nat.le_trans h2 (h r hr).2⟩
theorem mo_ite {c : Prop} [Decidable c] {a b : Option Res} (h1 : Mo9 μ a) (h2 : Mo9 μ b) : Mo9 μ (if c then a else b) := by split <;> assumption
theorem mo_cond {c : Bool} {a b : Option Res} (h1 : Mo9 μ a) (h2 : Mo9 μ b) : Mo9 μ (bif c then a else b) := by cases c <;> assumption
theorem mo_kII {st : List Value} {k : Int32 → Int32 → List Value → Option Res} (h : ∀ x y r, Mo9 μ (k x y r)) : Mo9 μ (kII st k) := by
  unfold kII; split <;> first | exact h _ _ _ | exact mo_none
theorem mo_kJJ {st : List Value} {k : Int64 → Int64 → List Value → Option Res} (h : ∀ x y r, Mo9 μ (k x y r)) : Mo9 μ (kJJ st k) := by
  unfold kJJ; split <;> first | exact h _ _ _ | exact mo_none
theorem mo_kJI {st : List Value} {k : Int64 → Int32 → List Value → Option Res} (h : ∀ x y r, Mo9 μ (k x y r)) : Mo9 μ (kJI st k) := by
  unfold kJI; split <;> first | exact h _ _ _ | exact mo_none
theorem mo_kI {st : List Value} {k : Int32 → List Value → Option Res} (h : ∀ x r, Mo9 μ (k x r)) : Mo9 μ (kI st k) := by
  unfold kI; split <;> first | exact h _ _ | exact mo_none
theorem mo_kJ {st : List Value} {k : Int64 → List Value → Option Res} (h : ∀ x r, Mo9 μ (k x r)) : Mo9 μ (kJ st k) := by
  unfold kJ; split <;> first | exact h _ _ | exact mo_none
theorem mo_kR {st : List Value} {k : Nat → List Value → Option Res} (h : ∀ x r, Mo9 μ (k x r)) : Mo9 μ (kR st k) := by
  unfold kR; split <;> first | exact h _ _ | exact mo_none
theorem mo_kIR {st : List Value} {k : Nat → Int32 → List Value → Option Res} (h : ∀ x i r, Mo9 μ (k x i r)) : Mo9 μ (kIR st k) := by
  unfold kIR; split <;> first | exact h _ _ _ | exact mo_none
theorem mo_sw {k : Nat → Option Res} {x : Int32} {t : Nat} (h : ∀ t, Mo9 μ (k t)) : ∀ sw, Mo9 μ (sw9 k x t sw)
  | [] => h t
  | (c, u) :: r => by
    show Mo9 μ (if x = c then k u else sw9 k x t r)
    exact mo_ite (h u) (mo_sw h r)
theorem mo_cV {c : Option Res} {k h : Mem → Option Res} (hc : Mo9 μ c) (h1 : ∀ ν, Mo9 ν (k ν)) (h2 : ∀ ν, Mo9 ν (h ν)) : Mo9 μ (cV c k h) := by
  unfold cV
  split
  · exact mo_up (h1 _) (hc _ rfl).1 (hc _ rfl).2
  · exact mo_up (h2 _) (hc _ rfl).1 (hc _ rfl).2
  · exact mo_none
theorem mo_cI {c : Option Res} {k : Int32 → Mem → Option Res} {h : Mem → Option Res} (hc : Mo9 μ c) (h1 : ∀ x ν, Mo9 ν (k x ν)) (h2 : ∀ ν, Mo9 ν (h ν)) : Mo9 μ (cI c k h) := by
  unfold cI
  split
  · exact mo_up (h1 _ _) (hc _ rfl).1 (hc _ rfl).2
  · exact mo_up (h2 _) (hc _ rfl).1 (hc _ rfl).2
  · exact mo_none
theorem mo_cJ {c : Option Res} {k : Int64 → Mem → Option Res} {h : Mem → Option Res} (hc : Mo9 μ c) (h1 : ∀ x ν, Mo9 ν (k x ν)) (h2 : ∀ ν, Mo9 ν (h ν)) : Mo9 μ (cJ c k h) := by
  unfold cJ
  split
  · exact mo_up (h1 _ _) (hc _ rfl).1 (hc _ rfl).2
  · exact mo_up (h2 _) (hc _ rfl).1 (hc _ rfl).2
  · exact mo_none
theorem mo_call {rec : Rec9} (hrec : ∀ d M pc ls st μ, Mo9 μ (rec d M pc ls st μ)) {d M pc : Nat} {ls : Loc9} {st : List Value} {M' na kd rt nl ci hd : Nat} : Mo9 μ (call9 rec d M pc ls st μ M' na kd rt nl ci hd) := by
  unfold call9
  split
  · exact mo_none
  · split
    · exact mo_none
    · refine mo_cond ?_ mo_none
      have hh : ∀ (d' : Nat) (ν : Mem), Mo9 ν (match hd with
          | 0 => none
          | h + 1 => rec (d' + 1) M h ls [.ref (mHp ν - 1)] ν) := by
        intro d' ν
        cases hd with
        | zero => exact mo_none
        | succ h => exact hrec _ _ _ _ _ _
      dsimp only
      split
      · split
        · exact mo_cV (hrec _ _ _ _ _ _) (fun _ => hrec _ _ _ _ _ _) (hh _)
        · exact mo_cJ (hrec _ _ _ _ _ _) (fun _ _ => hrec _ _ _ _ _ _) (hh _)
        · exact mo_cI (hrec _ _ _ _ _ _) (fun _ _ => hrec _ _ _ _ _ _) (hh _)
      · split
        · refine mo_ite ?_ mo_none
          split
          · exact mo_cV (hrec _ _ _ _ _ _) (fun _ => hrec _ _ _ _ _ _) (hh _)
          · exact mo_cJ (hrec _ _ _ _ _ _) (fun _ _ => hrec _ _ _ _ _ _) (hh _)
          · exact mo_cI (hrec _ _ _ _ _ _) (fun _ _ => hrec _ _ _ _ _ _) (hh _)
        · exact mo_none
set_option maxHeartbeats 4000000 in
theorem mo_step {rec : Rec9} (hrec : ∀ d M pc ls st μ, Mo9 μ (rec d M pc ls st μ)) {d M pc : Nat} {ls : Loc9} {st : List Value} {i : Instr} {q : List Nat} {v : Value} {sw : List (Int32 × Nat)} : Mo9 μ (step9 rec d M pc ls st μ i q v sw) := by
  unfold step9
  dsimp only
  split
  all_goals repeat' (first
    | exact mo_none
    | exact hrec _ _ _ _ _ _
    | exact mo_some
    | exact mo_new
    | exact mo_call hrec
    | exact mo_sw (fun _ => hrec _ _ _ _ _ _) _
    | exact mo_up (hrec _ _ _ _ _ _) (Nat.le_refl _) (Nat.le_refl _)
    | exact mo_up (hrec _ _ _ _ _ _) (Nat.le_succ _) (Nat.le_add_right _ _)
    | refine mo_kII (fun _ _ _ => ?_)
    | refine mo_kJJ (fun _ _ _ => ?_)
    | refine mo_kJI (fun _ _ _ => ?_)
    | refine mo_kIR (fun _ _ _ => ?_)
    | refine mo_kI (fun _ _ => ?_)
    | refine mo_kJ (fun _ _ => ?_)
    | refine mo_kR (fun _ _ => ?_)
    | refine mo_ite ?_ ?_
    | refine mo_cond ?_ ?_
    | split)
theorem mo_run : ∀ (n d M pc : Nat) (ls : Loc9) (st : List Value) (μ : Mem), Mo9 μ (run n d M pc ls st μ)
  | 0, _, _, _, _, _, _ => mo_none
  | n + 1, d, M, pc, ls, st, μ => by
    show Mo9 μ (match code9 M pc with
      | some (c, i, q, v, sw) => step9 (run n) d M pc (cutA c ls) st μ i q v sw
      | none => none)
    split
    · exact mo_step (fun d M pc ls st μ => mo_run n d M pc ls st μ)
    · exact mo_none
end MONO
