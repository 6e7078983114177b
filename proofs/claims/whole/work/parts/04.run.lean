def run : Nat → Rec9
  | 0 => fun _ _ _ _ _ _ => none
  | n + 1 => fun d M pc ls st μ => match code9 M pc with
    | some (c, i, q, v, sw) => step9 (run n) d M pc (cutA c ls) st μ i q v sw
    | none => none
/-- from here on the machine comes to the end r -/
def Go (d M pc : Nat) (ls : Loc9) (st : List Value) (μ : Mem) (r : Res) : Prop := ∃ N, ∀ n, N ≤ n → run n d M pc ls st μ = some r
section Rows9
variable {d M pc : Nat} {ls : Loc9} {st : List Value} {μ : Mem} {r : Res}
theorem go_of {c : Nat} {i : Instr} {q : List Nat} {v : Value} {sw : List (Int32 × Nat)} (h : code9 M pc = some (c, i, q, v, sw)) (k : ∃ N, ∀ n, N ≤ n → step9 (run n) d M pc (cutA c ls) st μ i q v sw = some r) : Go d M pc ls st μ r := by
  obtain ⟨N, hN⟩ := k
  refine ⟨N + 1, fun n hn => ?_⟩
  obtain ⟨m, rfl⟩ : ∃ m, n = m + 1 := ⟨n - 1, by omega⟩
  show (match code9 M pc with
    | some (c, i, q, v, sw) => step9 (run m) d M pc (cutA c ls) st μ i q v sw
    | none => none) = some r
  rw [h]
  exact hN m (by omega)
theorem go_cut {c k : Nat} {i : Instr} {q : List Nat} {v : Value} {sw : List (Int32 × Nat)} {ls' : Loc9} (h : code9 M pc = some (c, i, q, v, sw)) (hc : cutA c ls = cutA c ls') (g : Go d M pc ls' st μ r) : Go d M pc ls st μ r := by
  obtain ⟨N, hN⟩ := g
  refine ⟨N, fun n hn => ?_⟩
  rw [← hN n hn]
  cases n with
  | zero => rfl
  | succ m =>
    show (match code9 M pc with
      | some (c, i, q, v, sw) => step9 (run m) d M pc (cutA c ls) st μ i q v sw
      | none => none) = (match code9 M pc with
      | some (c, i, q, v, sw) => step9 (run m) d M pc (cutA c ls') st μ i q v sw
      | none => none)
    rw [h]
    show step9 _ _ _ _ (cutA c ls) _ _ _ _ _ _ = step9 _ _ _ _ (cutA c ls') _ _ _ _ _ _
    rw [hc]
end Rows9
