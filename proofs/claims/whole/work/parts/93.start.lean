/-! THE START: the two constructors, run out. -/
section Q93
def m0 : Mem := ((0, 0), fun _ => (0, 0), fun _ _ => 0, fun _ _ => 0, fun _ _ => none)
def okR (r : Option Res) : Bool := match r with
  | some (none, false, _) => true
  | _ => false
set_option maxRecDepth 1000000 in
theorem hol_runs : okR (run 30000 200 M_Hol_init 0 (arg9 (mL9 M_Hol_init) [.ref 0]) [] (mNew m0 (0, 11) 20)) = true := by decide +kernel
end Q93
