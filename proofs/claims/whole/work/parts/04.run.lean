def run : Nat → Rec9
  | 0 => fun _ _ _ _ _ _ => none
  | n + 1 => fun d M pc ls st μ => match code9 M pc with
    | some (c, i, q, v, sw) => step9 (run n) d M pc (cutA c ls) st μ i q v sw
    | none => none
