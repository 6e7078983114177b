set_option maxRecDepth 100000 in
theorem ck0_0 : ∀ j, j < 17 → chkE 0 (0 + j) = true := by decide +kernel
set_option maxRecDepth 100000 in
theorem ck1_0 : ∀ j, j < 133 → chkE 1 (0 + j) = true := by decide +kernel
set_option maxRecDepth 100000 in
theorem ck2_0 : ∀ j, j < 35 → chkE 2 (0 + j) = true := by decide +kernel
set_option maxRecDepth 100000 in
theorem ck3_0 : ∀ j, j < 35 → chkE 3 (0 + j) = true := by decide +kernel
set_option maxRecDepth 100000 in
theorem ck4_0 : ∀ j, j < 75 → chkE 4 (0 + j) = true := by decide +kernel
set_option maxRecDepth 100000 in
theorem ck5_0 : ∀ j, j < 48 → chkE 5 (0 + j) = true := by decide +kernel
set_option maxRecDepth 100000 in
theorem ck6_0 : ∀ j, j < 42 → chkE 6 (0 + j) = true := by decide +kernel
set_option maxRecDepth 100000 in
theorem ck7_0 : ∀ j, j < 33 → chkE 7 (0 + j) = true := by decide +kernel
set_option maxRecDepth 100000 in
theorem ck8_0 : ∀ j, j < 48 → chkE 8 (0 + j) = true := by decide +kernel
set_option maxRecDepth 100000 in
theorem ck9_0 : ∀ j, j < 47 → chkE 9 (0 + j) = true := by decide +kernel
set_option maxRecDepth 100000 in
theorem ck10_0 : ∀ j, j < 66 → chkE 10 (0 + j) = true := by decide +kernel
set_option maxRecDepth 100000 in
theorem ck11_0 : ∀ j, j < 167 → chkE 11 (0 + j) = true := by decide +kernel
set_option maxRecDepth 100000 in
theorem ck12_0 : ∀ j, j < 77 → chkE 12 (0 + j) = true := by decide +kernel
set_option maxRecDepth 100000 in
theorem ck13_0 : ∀ j, j < 35 → chkE 13 (0 + j) = true := by decide +kernel
set_option maxRecDepth 100000 in
theorem ck14_0 : ∀ j, j < 50 → chkE 14 (0 + j) = true := by decide +kernel
set_option maxRecDepth 100000 in
theorem ck15_0 : ∀ j, j < 75 → chkE 15 (0 + j) = true := by decide +kernel
set_option maxRecDepth 100000 in
theorem ck16_0 : ∀ j, j < 54 → chkE 16 (0 + j) = true := by decide +kernel
set_option maxRecDepth 100000 in
theorem ck17_0 : ∀ j, j < 66 → chkE 17 (0 + j) = true := by decide +kernel
set_option maxRecDepth 100000 in
theorem ck18_0 : ∀ j, j < 209 → chkE 18 (0 + j) = true := by decide +kernel
set_option maxRecDepth 100000 in
theorem ck19_0 : ∀ j, j < 12 → chkE 19 (0 + j) = true := by decide +kernel
set_option maxRecDepth 100000 in
theorem ck20_0 : ∀ j, j < 166 → chkE 20 (0 + j) = true := by decide +kernel
set_option maxRecDepth 100000 in
theorem ck21_0 : ∀ j, j < 10 → chkE 21 (0 + j) = true := by decide +kernel
set_option maxRecDepth 100000 in
theorem ck22_0 : ∀ j, j < 33 → chkE 22 (0 + j) = true := by decide +kernel
set_option maxRecDepth 100000 in
theorem ck23_0 : ∀ j, j < 51 → chkE 23 (0 + j) = true := by decide +kernel
set_option maxRecDepth 100000 in
theorem ck24_0 : ∀ j, j < 6 → chkE 24 (0 + j) = true := by decide +kernel
set_option maxRecDepth 100000 in
theorem ck25_0 : ∀ j, j < 70 → chkE 25 (0 + j) = true := by decide +kernel
set_option maxRecDepth 100000 in
theorem ck26_0 : ∀ j, j < 48 → chkE 26 (0 + j) = true := by decide +kernel
set_option maxRecDepth 100000 in
theorem ck27_0 : ∀ j, j < 43 → chkE 27 (0 + j) = true := by decide +kernel
set_option maxRecDepth 100000 in
theorem ck28_0 : ∀ j, j < 18 → chkE 28 (0 + j) = true := by decide +kernel
set_option maxRecDepth 100000 in
theorem ck29_0 : ∀ j, j < 126 → chkE 29 (0 + j) = true := by decide +kernel
set_option maxRecDepth 100000 in
theorem ck30_0 : ∀ j, j < 40 → chkE 30 (0 + j) = true := by decide +kernel
set_option maxRecDepth 100000 in
theorem ck31_0 : ∀ j, j < 34 → chkE 31 (0 + j) = true := by decide +kernel
set_option maxRecDepth 100000 in
theorem ck32_0 : ∀ j, j < 49 → chkE 32 (0 + j) = true := by decide +kernel
set_option maxRecDepth 100000 in
theorem ck33_0 : ∀ j, j < 26 → chkE 33 (0 + j) = true := by decide +kernel
set_option maxRecDepth 100000 in
theorem ck34_0 : ∀ j, j < 112 → chkE 34 (0 + j) = true := by decide +kernel
set_option maxRecDepth 100000 in
theorem ck35_0 : ∀ j, j < 66 → chkE 35 (0 + j) = true := by decide +kernel
set_option maxRecDepth 100000 in
theorem ck36_0 : ∀ j, j < 64 → chkE 36 (0 + j) = true := by decide +kernel
set_option maxRecDepth 100000 in
theorem ck37_0 : ∀ j, j < 129 → chkE 37 (0 + j) = true := by decide +kernel
set_option maxRecDepth 100000 in
theorem ck38_0 : ∀ j, j < 64 → chkE 38 (0 + j) = true := by decide +kernel
set_option maxRecDepth 100000 in
theorem ck39_0 : ∀ j, j < 36 → chkE 39 (0 + j) = true := by decide +kernel
set_option maxRecDepth 100000 in
theorem ck40_0 : ∀ j, j < 53 → chkE 40 (0 + j) = true := by decide +kernel
set_option maxRecDepth 100000 in
theorem ck41_0 : ∀ j, j < 91 → chkE 41 (0 + j) = true := by decide +kernel
set_option maxRecDepth 100000 in
theorem ck42_0 : ∀ j, j < 13 → chkE 42 (0 + j) = true := by decide +kernel
set_option maxRecDepth 100000 in
theorem ck43_0 : ∀ j, j < 36 → chkE 43 (0 + j) = true := by decide +kernel
set_option maxRecDepth 100000 in
theorem ck44_0 : ∀ j, j < 13 → chkE 44 (0 + j) = true := by decide +kernel
set_option maxRecDepth 100000 in
theorem ck45_0 : ∀ j, j < 124 → chkE 45 (0 + j) = true := by decide +kernel
set_option maxRecDepth 100000 in
theorem ck46_0 : ∀ j, j < 56 → chkE 46 (0 + j) = true := by decide +kernel
set_option maxRecDepth 100000 in
theorem ck47_0 : ∀ j, j < 113 → chkE 47 (0 + j) = true := by decide +kernel
set_option maxRecDepth 100000 in
theorem ck48_0 : ∀ j, j < 99 → chkE 48 (0 + j) = true := by decide +kernel
set_option maxRecDepth 100000 in
theorem ck49_0 : ∀ j, j < 63 → chkE 49 (0 + j) = true := by decide +kernel
set_option maxRecDepth 100000 in
theorem ck50_0 : ∀ j, j < 31 → chkE 50 (0 + j) = true := by decide +kernel
set_option maxRecDepth 100000 in
theorem ck51_0 : ∀ j, j < 38 → chkE 51 (0 + j) = true := by decide +kernel
set_option maxRecDepth 100000 in
theorem ck52_0 : ∀ j, j < 18 → chkE 52 (0 + j) = true := by decide +kernel
set_option maxRecDepth 100000 in
theorem ck53_0 : ∀ j, j < 30 → chkE 53 (0 + j) = true := by decide +kernel
set_option maxRecDepth 100000 in
theorem ck54_0 : ∀ j, j < 38 → chkE 54 (0 + j) = true := by decide +kernel
set_option maxRecDepth 100000 in
theorem ck55_0 : ∀ j, j < 18 → chkE 55 (0 + j) = true := by decide +kernel
set_option maxRecDepth 100000 in
theorem ck56_0 : ∀ j, j < 18 → chkE 56 (0 + j) = true := by decide +kernel
set_option maxRecDepth 100000 in
theorem ck57_0 : ∀ j, j < 18 → chkE 57 (0 + j) = true := by decide +kernel
set_option maxRecDepth 100000 in
theorem ck58_0 : ∀ j, j < 9 → chkE 58 (0 + j) = true := by decide +kernel
set_option maxRecDepth 100000 in
theorem ck59_0 : ∀ j, j < 11 → chkE 59 (0 + j) = true := by decide +kernel
set_option maxRecDepth 100000 in
theorem ck60_0 : ∀ j, j < 209 → chkE 60 (0 + j) = true := by decide +kernel
set_option maxRecDepth 100000 in
theorem ck61_0 : ∀ j, j < 52 → chkE 61 (0 + j) = true := by decide +kernel
set_option maxRecDepth 100000 in
theorem ck62_0 : ∀ j, j < 108 → chkE 62 (0 + j) = true := by decide +kernel
set_option maxRecDepth 100000 in
theorem ck63_0 : ∀ j, j < 210 → chkE 63 (0 + j) = true := by decide +kernel
set_option maxRecDepth 100000 in
theorem ck64_0 : ∀ j, j < 31 → chkE 64 (0 + j) = true := by decide +kernel
set_option maxRecDepth 100000 in
theorem ck65_0 : ∀ j, j < 47 → chkE 65 (0 + j) = true := by decide +kernel
set_option maxRecDepth 100000 in
theorem ck66_0 : ∀ j, j < 11 → chkE 66 (0 + j) = true := by decide +kernel
set_option maxRecDepth 100000 in
theorem ck67_0 : ∀ j, j < 44 → chkE 67 (0 + j) = true := by decide +kernel
set_option maxRecDepth 100000 in
theorem ck68_0 : ∀ j, j < 64 → chkE 68 (0 + j) = true := by decide +kernel
set_option maxRecDepth 100000 in
theorem ck69_0 : ∀ j, j < 64 → chkE 69 (0 + j) = true := by decide +kernel
set_option maxRecDepth 100000 in
theorem ck70_0 : ∀ j, j < 157 → chkE 70 (0 + j) = true := by decide +kernel
set_option maxRecDepth 100000 in
theorem ck71_0 : ∀ j, j < 46 → chkE 71 (0 + j) = true := by decide +kernel
set_option maxRecDepth 100000 in
theorem ck72_0 : ∀ j, j < 50 → chkE 72 (0 + j) = true := by decide +kernel
set_option maxRecDepth 100000 in
theorem ck73_0 : ∀ j, j < 46 → chkE 73 (0 + j) = true := by decide +kernel
set_option maxRecDepth 100000 in
theorem ck74_0 : ∀ j, j < 47 → chkE 74 (0 + j) = true := by decide +kernel
set_option maxRecDepth 100000 in
theorem ck75_0 : ∀ j, j < 194 → chkE 75 (0 + j) = true := by decide +kernel
set_option maxRecDepth 100000 in
theorem ck76_0 : ∀ j, j < 45 → chkE 76 (0 + j) = true := by decide +kernel
set_option maxRecDepth 100000 in
theorem ck77_0 : ∀ j, j < 270 → chkE 77 (0 + j) = true := by decide +kernel
set_option maxRecDepth 100000 in
theorem ck78_0 : ∀ j, j < 72 → chkE 78 (0 + j) = true := by decide +kernel
set_option maxRecDepth 100000 in
theorem ck79_0 : ∀ j, j < 71 → chkE 79 (0 + j) = true := by decide +kernel
set_option maxRecDepth 100000 in
theorem ck80_0 : ∀ j, j < 87 → chkE 80 (0 + j) = true := by decide +kernel
set_option maxRecDepth 100000 in
theorem ck81_0 : ∀ j, j < 111 → chkE 81 (0 + j) = true := by decide +kernel
set_option maxRecDepth 100000 in
theorem ck82_0 : ∀ j, j < 51 → chkE 82 (0 + j) = true := by decide +kernel
set_option maxRecDepth 100000 in
theorem ck83_0 : ∀ j, j < 65 → chkE 83 (0 + j) = true := by decide +kernel
set_option maxRecDepth 100000 in
theorem ck84_0 : ∀ j, j < 102 → chkE 84 (0 + j) = true := by decide +kernel
set_option maxRecDepth 100000 in
theorem ck85_0 : ∀ j, j < 34 → chkE 85 (0 + j) = true := by decide +kernel
set_option maxRecDepth 100000 in
theorem ck86_0 : ∀ j, j < 40 → chkE 86 (0 + j) = true := by decide +kernel
set_option maxRecDepth 100000 in
theorem ck87_0 : ∀ j, j < 24 → chkE 87 (0 + j) = true := by decide +kernel
set_option maxRecDepth 100000 in
theorem ck88_0 : ∀ j, j < 11 → chkE 88 (0 + j) = true := by decide +kernel
set_option maxRecDepth 100000 in
theorem ck89_0 : ∀ j, j < 179 → chkE 89 (0 + j) = true := by decide +kernel
set_option maxRecDepth 100000 in
theorem ck90_0 : ∀ j, j < 166 → chkE 90 (0 + j) = true := by decide +kernel
set_option maxRecDepth 100000 in
theorem ck91_0 : ∀ j, j < 16 → chkE 91 (0 + j) = true := by decide +kernel
set_option maxRecDepth 100000 in
theorem ck92_0 : ∀ j, j < 40 → chkE 92 (0 + j) = true := by decide +kernel
set_option maxRecDepth 100000 in
theorem ck93_0 : ∀ j, j < 29 → chkE 93 (0 + j) = true := by decide +kernel
set_option maxRecDepth 100000 in
theorem ck94_0 : ∀ j, j < 28 → chkE 94 (0 + j) = true := by decide +kernel
set_option maxRecDepth 100000 in
theorem ck95_0 : ∀ j, j < 91 → chkE 95 (0 + j) = true := by decide +kernel
set_option maxRecDepth 100000 in
theorem ck96_0 : ∀ j, j < 105 → chkE 96 (0 + j) = true := by decide +kernel
set_option maxRecDepth 100000 in
theorem ck97_0 : ∀ j, j < 39 → chkE 97 (0 + j) = true := by decide +kernel
set_option maxRecDepth 100000 in
theorem ck98_0 : ∀ j, j < 119 → chkE 98 (0 + j) = true := by decide +kernel
set_option maxRecDepth 100000 in
theorem ck99_0 : ∀ j, j < 100 → chkE 99 (0 + j) = true := by decide +kernel
set_option maxRecDepth 100000 in
theorem ck100_0 : ∀ j, j < 49 → chkE 100 (0 + j) = true := by decide +kernel
set_option maxRecDepth 100000 in
theorem ck101_0 : ∀ j, j < 41 → chkE 101 (0 + j) = true := by decide +kernel
set_option maxRecDepth 100000 in
theorem ck102_0 : ∀ j, j < 171 → chkE 102 (0 + j) = true := by decide +kernel
