/-! letters as bytes and as numbers: both sides -/
/-- a letter as the book keeps it -/
def sb (v : Nat) : Int32 := vp_nar .byte (nI v).toInt8.toInt32
set_option maxRecDepth 20000 in
theorem sb_digit : ∀ v, v < 256 → Tape_isDigit (sb v) = Mod_isDigit (nI v) := by decide +kernel
set_option maxRecDepth 20000 in
theorem sb_goes : ∀ v, v < 256 → Tape_goesOn (sb v) = (Mod_isLetter (nI v) || Mod_isDigit (nI v)) := by decide +kernel
set_option maxRecDepth 20000 in
theorem sb_same : ∀ v, v < 256 → Tape_goesOn (sb v) = true → sb v = nI v := by decide +kernel
set_option maxRecDepth 20000 in
theorem sb_sign : ∀ v, v < 256 → Tape_isSign (sb v) = (decide (v = 59) || decide (v = 60) || decide (v = 61) || decide (v = 62) || decide (v = 40) || decide (v = 41)) := by decide +kernel
set_option maxRecDepth 20000 in
theorem sb_32 : ∀ v, v < 256 → decide (sb v = 32) = decide (v = 32) := by decide +kernel
set_option maxRecDepth 20000 in
theorem sb_10 : ∀ v, v < 256 → decide (sb v = 10) = decide (v = 10) := by decide +kernel
set_option maxRecDepth 20000 in
theorem sb_sig2 : ∀ v, v < 256 → Tape_isSign (sb v) = true → sb v = nI v := by decide +kernel
