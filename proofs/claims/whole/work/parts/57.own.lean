/-! the own words: the book's order, the model's order -/
def ownB : List (List Nat) := [[6, 9, 5, 12, 4], [16, 5, 18, 19, 15, 14], [6, 9, 14, 4], [6, 5, 1, 18], [8, 9, 14, 20], [16, 18, 9, 15, 18], [7, 5, 20, 19], [18, 9, 19, 11], [3, 15, 9, 14], [16, 15, 20], [12, 9, 4], [2, 15, 14, 5], [8, 9, 4, 4, 5, 14], [12, 15, 19, 20], [2, 21, 18, 9, 5, 4], [11, 9, 14, 7], [6, 9, 14, 4, 5, 18], [15, 23, 14, 5, 18], [4, 9, 7, 19], [20, 15, 12, 4], [19, 15, 12, 4], [12, 1, 9, 4], [7, 9, 22, 5, 14], [16, 12, 15, 21, 7, 8], [14, 9, 7, 8, 20], [15, 18], [1, 14, 4], [14, 15, 20], [7, 18, 15, 21, 14, 4], [6, 15, 21, 14, 4], [15, 6], [25, 5, 1, 18], [22, 1, 12, 21, 5], [4, 5, 5, 16], [14, 21, 13, 2, 5, 18]]
/-- the model's k-th own word is the book's so-many-th -/
def ownM : List Nat := [0, 1, 2, 3, 4, 12, 13, 14, 5, 6, 15, 16, 17, 7, 18, 21, 22, 23, 24, 25, 26, 27, 28, 29, 19, 20, 8, 9, 10, 11, 30, 31, 32, 33, 34]
theorem ownB_ok : ownB.all (fun L => L.all (fun d => decide (1 ≤ d) && decide (d ≤ 26)) && decide (1 ≤ L.length) && decide (L.length ≤ 7)) = true := by decide
theorem ownB_len : ownB.length = 35 := by decide
theorem ownM_w : ∀ k, k < 35 → Mod_wordOf (nI k) = lN (nameN 27 (ownB.getD (ownM.getD k 0) [])) := by decide +kernel
theorem ownM_lt : ∀ k, k < 35 → ownM.getD k 0 < 35 := by decide
theorem ownB_dis : ∀ i, i < 35 → ∀ k, k < 35 → i ≠ k → nameN 32 (ownB.getD i []) ≠ nameN 32 (ownB.getD k []) := by decide +kernel
theorem ownB_spell : (ownB.map (fun L => L.map (fun d => 96 + d) ++ [32])).flatten.map nI = strs9.getD 0 [] := by decide +kernel
