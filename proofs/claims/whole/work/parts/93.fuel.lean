/-! more fuel, the same end -/
def Le9 (a b : Option Res) : Prop := ∀ r, a = some r → b = some r
section FUEL
variable {a b : Option Res}
theorem le_none : Le9 none b := fun _ h => by cases h
theorem le_rfl9 : Le9 a a := fun _ h => h
theorem le_ite {c : Prop} [Decidable c] {a b a2 b2 : Option Res} (h1 : Le9 a a2) (h2 : Le9 b b2) : Le9 (if c then a else b) (if c then a2 else b2) := by by_cases h : c <;> simp only [h, if_true, if_false] <;> assumption
theorem le_cond {c : Bool} {a b a2 b2 : Option Res} (h1 : Le9 a a2) (h2 : Le9 b b2) : Le9 (bif c then a else b) (bif c then a2 else b2) := by cases c <;> assumption
theorem le_kII {st : List Value} {k k2 : Int32 → Int32 → List Value → Option Res} (h : ∀ x y r, Le9 (k x y r) (k2 x y r)) : Le9 (kII st k) (kII st k2) := by
  intro r hr; unfold kII at hr ⊢; split at hr <;> first | exact h _ _ _ _ hr | cases hr
theorem le_kJJ {st : List Value} {k k2 : Int64 → Int64 → List Value → Option Res} (h : ∀ x y r, Le9 (k x y r) (k2 x y r)) : Le9 (kJJ st k) (kJJ st k2) := by
  intro r hr; unfold kJJ at hr ⊢; split at hr <;> first | exact h _ _ _ _ hr | cases hr
theorem le_kJI {st : List Value} {k k2 : Int64 → Int32 → List Value → Option Res} (h : ∀ x y r, Le9 (k x y r) (k2 x y r)) : Le9 (kJI st k) (kJI st k2) := by
  intro r hr; unfold kJI at hr ⊢; split at hr <;> first | exact h _ _ _ _ hr | cases hr
theorem le_kI {st : List Value} {k k2 : Int32 → List Value → Option Res} (h : ∀ x r, Le9 (k x r) (k2 x r)) : Le9 (kI st k) (kI st k2) := by
  intro r hr; unfold kI at hr ⊢; split at hr <;> first | exact h _ _ _ hr | cases hr
theorem le_kJ {st : List Value} {k k2 : Int64 → List Value → Option Res} (h : ∀ x r, Le9 (k x r) (k2 x r)) : Le9 (kJ st k) (kJ st k2) := by
  intro r hr; unfold kJ at hr ⊢; split at hr <;> first | exact h _ _ _ hr | cases hr
theorem le_kR {st : List Value} {k k2 : Nat → List Value → Option Res} (h : ∀ x r, Le9 (k x r) (k2 x r)) : Le9 (kR st k) (kR st k2) := by
  intro r hr; unfold kR at hr ⊢; split at hr <;> first | exact h _ _ _ hr | cases hr
theorem le_kIR {st : List Value} {k k2 : Nat → Int32 → List Value → Option Res} (h : ∀ x i r, Le9 (k x i r) (k2 x i r)) : Le9 (kIR st k) (kIR st k2) := by
  intro r hr; unfold kIR at hr ⊢; split at hr <;> first | exact h _ _ _ _ hr | cases hr
theorem le_sw {k k2 : Nat → Option Res} {x : Int32} {t : Nat} (h : ∀ t, Le9 (k t) (k2 t)) : ∀ sw, Le9 (sw9 k x t sw) (sw9 k2 x t sw)
  | [] => h t
  | (c, u) :: r => by
    show Le9 (if x = c then k u else sw9 k x t r) (if x = c then k2 u else sw9 k2 x t r)
    exact le_ite (h u) (le_sw h r)
theorem le_cV {c c2 : Option Res} {k h k2 h2 : Mem → Option Res} (hc : Le9 c c2) (e1 : ∀ ν, Le9 (k ν) (k2 ν)) (e2 : ∀ ν, Le9 (h ν) (h2 ν)) : Le9 (cV c k h) (cV c2 k2 h2) := by
  intro r hr
  cases c with
  | none => cases hr
  | some x =>
    rw [hc x rfl]
    unfold cV at hr ⊢
    split at hr
    · exact e1 _ _ hr
    · exact e2 _ _ hr
    · cases hr
theorem le_cI {c c2 : Option Res} {k k2 : Int32 → Mem → Option Res} {h h2 : Mem → Option Res} (hc : Le9 c c2) (e1 : ∀ x ν, Le9 (k x ν) (k2 x ν)) (e2 : ∀ ν, Le9 (h ν) (h2 ν)) : Le9 (cI c k h) (cI c2 k2 h2) := by
  intro r hr
  cases c with
  | none => cases hr
  | some x =>
    rw [hc x rfl]
    unfold cI at hr ⊢
    split at hr
    · exact e1 _ _ _ hr
    · exact e2 _ _ hr
    · cases hr
theorem le_cJ {c c2 : Option Res} {k k2 : Int64 → Mem → Option Res} {h h2 : Mem → Option Res} (hc : Le9 c c2) (e1 : ∀ x ν, Le9 (k x ν) (k2 x ν)) (e2 : ∀ ν, Le9 (h ν) (h2 ν)) : Le9 (cJ c k h) (cJ c2 k2 h2) := by
  intro r hr
  cases c with
  | none => cases hr
  | some x =>
    rw [hc x rfl]
    unfold cJ at hr ⊢
    split at hr
    · exact e1 _ _ _ hr
    · exact e2 _ _ hr
    · cases hr
theorem le_rt {rec rec2 : Rec9} (hrec : ∀ d M pc ls st μ, Le9 (rec d M pc ls st μ) (rec2 d M pc ls st μ)) {e d M pc M' nl rt : Nat} {ls : Loc9} {as r : List Value} {μ : Mem} {h h2 : Mem → Option Res} (hh : ∀ ν, Le9 (h ν) (h2 ν)) : Le9 (match rt with
    | 0 => cV (rec e M' 0 (arg9 nl as) [] μ) (fun μ => rec d M (pc + 3) ls r μ) h
    | 2 => cJ (rec e M' 0 (arg9 nl as) [] μ) (fun x μ => rec d M (pc + 3) ls (.long x :: r) μ) h
    | _ => cI (rec e M' 0 (arg9 nl as) [] μ) (fun x μ => rec d M (pc + 3) ls (.int x :: r) μ) h) (match rt with
    | 0 => cV (rec2 e M' 0 (arg9 nl as) [] μ) (fun μ => rec2 d M (pc + 3) ls r μ) h2
    | 2 => cJ (rec2 e M' 0 (arg9 nl as) [] μ) (fun x μ => rec2 d M (pc + 3) ls (.long x :: r) μ) h2
    | _ => cI (rec2 e M' 0 (arg9 nl as) [] μ) (fun x μ => rec2 d M (pc + 3) ls (.int x :: r) μ) h2) := by
  match rt with
  | 0 => exact le_cV (hrec _ _ _ _ _ _) (fun _ => hrec _ _ _ _ _ _) hh
  | 1 => exact le_cI (hrec _ _ _ _ _ _) (fun _ _ => hrec _ _ _ _ _ _) hh
  | 2 => exact le_cJ (hrec _ _ _ _ _ _) (fun _ _ => hrec _ _ _ _ _ _) hh
  | _ + 3 => exact le_cI (hrec _ _ _ _ _ _) (fun _ _ => hrec _ _ _ _ _ _) hh
theorem le_call {rec rec2 : Rec9} (hrec : ∀ d M pc ls st μ, Le9 (rec d M pc ls st μ) (rec2 d M pc ls st μ)) {d M pc : Nat} {ls : Loc9} {st : List Value} {μ : Mem} {M' na kd rt nl ci hd : Nat} : Le9 (call9 rec d M pc ls st μ M' na kd rt nl ci hd) (call9 rec2 d M pc ls st μ M' na kd rt nl ci hd) := by
  unfold call9
  cases d with
  | zero => exact le_none
  | succ d' =>
    dsimp only
    cases tk9 na [] st with
    | none => exact le_none
    | some x =>
      obtain ⟨as, r⟩ := x
      dsimp only
      refine le_cond ?_ le_none
      cases kd with
      | zero =>
        refine le_rt hrec (fun ν => ?_)
        cases hd with
        | zero => exact le_none
        | succ h => exact hrec _ _ _ _ _ _
      | succ kd =>
        cases as with
        | nil => exact le_none
        | cons v w =>
          cases v
          all_goals first
            | exact le_none
            | (refine le_ite (le_rt hrec (fun ν => ?_)) le_none
               cases hd with
               | zero => exact le_none
               | succ h => exact hrec _ _ _ _ _ _)
set_option maxHeartbeats 8000000 in
theorem le_step {rec rec2 : Rec9} (hrec : ∀ d M pc ls st μ, Le9 (rec d M pc ls st μ) (rec2 d M pc ls st μ)) {d M pc : Nat} {ls : Loc9} {st : List Value} {μ : Mem} {i : Instr} {q : List Nat} {v : Value} {sw : List (Int32 × Nat)} : Le9 (step9 rec d M pc ls st μ i q v sw) (step9 rec2 d M pc ls st μ i q v sw) := by
  unfold step9
  cases i
  all_goals dsimp only
  all_goals repeat' (first
    | exact le_none
    | exact hrec _ _ _ _ _ _
    | exact le_rfl9
    | exact le_call hrec
    | exact le_sw (fun _ => hrec _ _ _ _ _ _) _
    | refine le_kII (fun _ _ _ => ?_)
    | refine le_kJJ (fun _ _ _ => ?_)
    | refine le_kJI (fun _ _ _ => ?_)
    | refine le_kIR (fun _ _ _ => ?_)
    | refine le_kI (fun _ _ => ?_)
    | refine le_kJ (fun _ _ => ?_)
    | refine le_kR (fun _ _ => ?_)
    | refine le_ite ?_ ?_
    | refine le_cond ?_ ?_
    | split)
theorem le_run : ∀ (n d M pc : Nat) (ls : Loc9) (st : List Value) (μ : Mem), Le9 (run n d M pc ls st μ) (run (n + 1) d M pc ls st μ)
  | 0, _, _, _, _, _, _ => le_none
  | n + 1, d, M, pc, ls, st, μ => by
    show Le9 (match code9 M pc with
      | some (c, i, q, v, sw) => step9 (run n) d M pc (cutA c ls) st μ i q v sw
      | none => none) (match code9 M pc with
      | some (c, i, q, v, sw) => step9 (run (n + 1)) d M pc (cutA c ls) st μ i q v sw
      | none => none)
    cases code9 M pc with
    | none => exact le_none
    | some x => exact le_step (fun d M pc ls st μ => le_run n d M pc ls st μ)
theorem go_run {d M pc : Nat} {ls : Loc9} {st : List Value} {μ : Mem} {r : Res} {n : Nat} (h : run n d M pc ls st μ = some r) : Go d M pc ls st μ r := by
  refine ⟨n, fun k hk => ?_⟩
  obtain ⟨j, rfl⟩ : ∃ j, k = n + j := ⟨k - n, by omega⟩
  clear hk
  induction j with
  | zero => exact h
  | succ j ih => exact le_run (n + j) d M pc ls st μ r ih
end FUEL
