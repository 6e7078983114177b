set_option maxRecDepth 100000 in
theorem ck103_0 : ∀ j, j < 14 → chkE 103 (0 + j) = true := by decide +kernel
set_option maxRecDepth 100000 in
theorem ck104_0 : ∀ j, j < 49 → chkE 104 (0 + j) = true := by decide +kernel
set_option maxRecDepth 100000 in
theorem ck105_0 : ∀ j, j < 120 → chkE 105 (0 + j) = true := by decide +kernel
set_option maxRecDepth 100000 in
theorem ck106_0 : ∀ j, j < 53 → chkE 106 (0 + j) = true := by decide +kernel
set_option maxRecDepth 100000 in
theorem ck107_0 : ∀ j, j < 54 → chkE 107 (0 + j) = true := by decide +kernel
set_option maxRecDepth 100000 in
theorem ck108_0 : ∀ j, j < 25 → chkE 108 (0 + j) = true := by decide +kernel
set_option maxRecDepth 100000 in
theorem ck109_0 : ∀ j, j < 18 → chkE 109 (0 + j) = true := by decide +kernel
set_option maxRecDepth 100000 in
theorem ck110_0 : ∀ j, j < 206 → chkE 110 (0 + j) = true := by decide +kernel
set_option maxRecDepth 100000 in
theorem ck111_0 : ∀ j, j < 29 → chkE 111 (0 + j) = true := by decide +kernel
set_option maxRecDepth 100000 in
theorem ck112_0 : ∀ j, j < 31 → chkE 112 (0 + j) = true := by decide +kernel
set_option maxRecDepth 100000 in
theorem ck113_0 : ∀ j, j < 24 → chkE 113 (0 + j) = true := by decide +kernel
set_option maxRecDepth 100000 in
theorem ck114_0 : ∀ j, j < 82 → chkE 114 (0 + j) = true := by decide +kernel
set_option maxRecDepth 100000 in
theorem ck115_0 : ∀ j, j < 24 → chkE 115 (0 + j) = true := by decide +kernel
set_option maxRecDepth 100000 in
theorem ck116_0 : ∀ j, j < 15 → chkE 116 (0 + j) = true := by decide +kernel
set_option maxRecDepth 100000 in
theorem ck117_0 : ∀ j, j < 55 → chkE 117 (0 + j) = true := by decide +kernel
set_option maxRecDepth 100000 in
theorem ck118_0 : ∀ j, j < 14 → chkE 118 (0 + j) = true := by decide +kernel
set_option maxRecDepth 100000 in
theorem ck119_0 : ∀ j, j < 31 → chkE 119 (0 + j) = true := by decide +kernel
set_option maxRecDepth 100000 in
theorem ck120_0 : ∀ j, j < 20 → chkE 120 (0 + j) = true := by decide +kernel
set_option maxRecDepth 100000 in
theorem ck121_0 : ∀ j, j < 14 → chkE 121 (0 + j) = true := by decide +kernel
set_option maxRecDepth 100000 in
theorem ck122_0 : ∀ j, j < 216 → chkE 122 (0 + j) = true := by decide +kernel
set_option maxRecDepth 100000 in
theorem ck123_0 : ∀ j, j < 68 → chkE 123 (0 + j) = true := by decide +kernel
set_option maxRecDepth 100000 in
theorem ck124_0 : ∀ j, j < 27 → chkE 124 (0 + j) = true := by decide +kernel
set_option maxRecDepth 100000 in
theorem ck125_0 : ∀ j, j < 96 → chkE 125 (0 + j) = true := by decide +kernel
set_option maxRecDepth 100000 in
theorem ck126_0 : ∀ j, j < 5 → chkE 126 (0 + j) = true := by decide +kernel
set_option maxRecDepth 100000 in
theorem ck127_0 : ∀ j, j < 89 → chkE 127 (0 + j) = true := by decide +kernel
set_option maxRecDepth 100000 in
theorem ck128_0 : ∀ j, j < 85 → chkE 128 (0 + j) = true := by decide +kernel
set_option maxRecDepth 100000 in
theorem ck129_0 : ∀ j, j < 127 → chkE 129 (0 + j) = true := by decide +kernel
set_option maxRecDepth 100000 in
theorem ck130_0 : ∀ j, j < 66 → chkE 130 (0 + j) = true := by decide +kernel
set_option maxRecDepth 100000 in
theorem ck131_0 : ∀ j, j < 49 → chkE 131 (0 + j) = true := by decide +kernel
set_option maxRecDepth 100000 in
theorem ck132_0 : ∀ j, j < 51 → chkE 132 (0 + j) = true := by decide +kernel
set_option maxRecDepth 100000 in
theorem ck133_0 : ∀ j, j < 64 → chkE 133 (0 + j) = true := by decide +kernel
set_option maxRecDepth 100000 in
theorem ck134_0 : ∀ j, j < 61 → chkE 134 (0 + j) = true := by decide +kernel
set_option maxRecDepth 100000 in
theorem ck135_0 : ∀ j, j < 35 → chkE 135 (0 + j) = true := by decide +kernel
set_option maxRecDepth 100000 in
theorem ck136_0 : ∀ j, j < 74 → chkE 136 (0 + j) = true := by decide +kernel
set_option maxRecDepth 100000 in
theorem ck137_0 : ∀ j, j < 24 → chkE 137 (0 + j) = true := by decide +kernel
set_option maxRecDepth 100000 in
theorem ck138_0 : ∀ j, j < 24 → chkE 138 (0 + j) = true := by decide +kernel
set_option maxRecDepth 100000 in
theorem ck139_0 : ∀ j, j < 28 → chkE 139 (0 + j) = true := by decide +kernel
set_option maxRecDepth 100000 in
theorem ck140_0 : ∀ j, j < 71 → chkE 140 (0 + j) = true := by decide +kernel
set_option maxRecDepth 100000 in
theorem ck141_0 : ∀ j, j < 55 → chkE 141 (0 + j) = true := by decide +kernel
set_option maxRecDepth 100000 in
theorem ck142_0 : ∀ j, j < 29 → chkE 142 (0 + j) = true := by decide +kernel
set_option maxRecDepth 100000 in
theorem ck143_0 : ∀ j, j < 13 → chkE 143 (0 + j) = true := by decide +kernel
set_option maxRecDepth 100000 in
theorem ck144_0 : ∀ j, j < 79 → chkE 144 (0 + j) = true := by decide +kernel
set_option maxRecDepth 100000 in
theorem ck145_0 : ∀ j, j < 76 → chkE 145 (0 + j) = true := by decide +kernel
set_option maxRecDepth 100000 in
theorem ck146_0 : ∀ j, j < 84 → chkE 146 (0 + j) = true := by decide +kernel
set_option maxRecDepth 100000 in
theorem ck147_0 : ∀ j, j < 50 → chkE 147 (0 + j) = true := by decide +kernel
set_option maxRecDepth 100000 in
theorem ck148_0 : ∀ j, j < 86 → chkE 148 (0 + j) = true := by decide +kernel
set_option maxRecDepth 100000 in
theorem ck149_0 : ∀ j, j < 103 → chkE 149 (0 + j) = true := by decide +kernel
set_option maxRecDepth 100000 in
theorem ck150_0 : ∀ j, j < 15 → chkE 150 (0 + j) = true := by decide +kernel
set_option maxRecDepth 100000 in
theorem ck151_0 : ∀ j, j < 28 → chkE 151 (0 + j) = true := by decide +kernel
set_option maxRecDepth 100000 in
theorem ck152_0 : ∀ j, j < 5 → chkE 152 (0 + j) = true := by decide +kernel
set_option maxRecDepth 100000 in
theorem ck153_0 : ∀ j, j < 91 → chkE 153 (0 + j) = true := by decide +kernel
set_option maxRecDepth 100000 in
theorem ck154_0 : ∀ j, j < 5 → chkE 154 (0 + j) = true := by decide +kernel
set_option maxRecDepth 100000 in
theorem ck155_0 : ∀ j, j < 37 → chkE 155 (0 + j) = true := by decide +kernel
set_option maxRecDepth 100000 in
theorem ck156_0 : ∀ j, j < 29 → chkE 156 (0 + j) = true := by decide +kernel
set_option maxRecDepth 100000 in
theorem ck157_0 : ∀ j, j < 111 → chkE 157 (0 + j) = true := by decide +kernel
set_option maxRecDepth 100000 in
theorem ck158_0 : ∀ j, j < 192 → chkE 158 (0 + j) = true := by decide +kernel
set_option maxRecDepth 100000 in
theorem ck159_0 : ∀ j, j < 24 → chkE 159 (0 + j) = true := by decide +kernel
set_option maxRecDepth 100000 in
theorem ck160_0 : ∀ j, j < 75 → chkE 160 (0 + j) = true := by decide +kernel
set_option maxRecDepth 100000 in
theorem ck161_0 : ∀ j, j < 89 → chkE 161 (0 + j) = true := by decide +kernel
set_option maxRecDepth 100000 in
theorem ck162_0 : ∀ j, j < 67 → chkE 162 (0 + j) = true := by decide +kernel
set_option maxRecDepth 100000 in
theorem ck163_0 : ∀ j, j < 78 → chkE 163 (0 + j) = true := by decide +kernel
set_option maxRecDepth 100000 in
theorem ck164_0 : ∀ j, j < 102 → chkE 164 (0 + j) = true := by decide +kernel
set_option maxRecDepth 100000 in
theorem ck165_0 : ∀ j, j < 132 → chkE 165 (0 + j) = true := by decide +kernel
set_option maxRecDepth 100000 in
theorem ck166_0 : ∀ j, j < 63 → chkE 166 (0 + j) = true := by decide +kernel
set_option maxRecDepth 100000 in
theorem ck167_0 : ∀ j, j < 70 → chkE 167 (0 + j) = true := by decide +kernel
set_option maxRecDepth 100000 in
theorem ck168_0 : ∀ j, j < 85 → chkE 168 (0 + j) = true := by decide +kernel
set_option maxRecDepth 100000 in
theorem ck169_0 : ∀ j, j < 5 → chkE 169 (0 + j) = true := by decide +kernel
set_option maxRecDepth 100000 in
theorem ck170_0 : ∀ j, j < 52 → chkE 170 (0 + j) = true := by decide +kernel
set_option maxRecDepth 100000 in
theorem ck171_0 : ∀ j, j < 40 → chkE 171 (0 + j) = true := by decide +kernel
set_option maxRecDepth 100000 in
theorem ck172_0 : ∀ j, j < 26 → chkE 172 (0 + j) = true := by decide +kernel
set_option maxRecDepth 100000 in
theorem ck173_0 : ∀ j, j < 212 → chkE 173 (0 + j) = true := by decide +kernel
set_option maxRecDepth 100000 in
theorem ck174_0 : ∀ j, j < 136 → chkE 174 (0 + j) = true := by decide +kernel
set_option maxRecDepth 100000 in
theorem ck175_0 : ∀ j, j < 103 → chkE 175 (0 + j) = true := by decide +kernel
set_option maxRecDepth 100000 in
theorem ck176_0 : ∀ j, j < 110 → chkE 176 (0 + j) = true := by decide +kernel
set_option maxRecDepth 100000 in
theorem ck177_0 : ∀ j, j < 33 → chkE 177 (0 + j) = true := by decide +kernel
set_option maxRecDepth 100000 in
theorem ck178_0 : ∀ j, j < 12 → chkE 178 (0 + j) = true := by decide +kernel
set_option maxRecDepth 100000 in
theorem ck179_0 : ∀ j, j < 300 → chkE 179 (0 + j) = true := by decide +kernel
set_option maxRecDepth 100000 in
theorem ck179_300 : ∀ j, j < 94 → chkE 179 (300 + j) = true := by decide +kernel
set_option maxRecDepth 100000 in
theorem ck180_0 : ∀ j, j < 18 → chkE 180 (0 + j) = true := by decide +kernel
set_option maxRecDepth 100000 in
theorem ck181_0 : ∀ j, j < 18 → chkE 181 (0 + j) = true := by decide +kernel
set_option maxRecDepth 100000 in
theorem ck182_0 : ∀ j, j < 19 → chkE 182 (0 + j) = true := by decide +kernel
set_option maxRecDepth 100000 in
theorem ck183_0 : ∀ j, j < 140 → chkE 183 (0 + j) = true := by decide +kernel
set_option maxRecDepth 100000 in
theorem ck184_0 : ∀ j, j < 26 → chkE 184 (0 + j) = true := by decide +kernel
set_option maxRecDepth 100000 in
theorem ck185_0 : ∀ j, j < 300 → chkE 185 (0 + j) = true := by decide +kernel
set_option maxRecDepth 100000 in
theorem ck185_300 : ∀ j, j < 300 → chkE 185 (300 + j) = true := by decide +kernel
set_option maxRecDepth 100000 in
theorem ck185_600 : ∀ j, j < 55 → chkE 185 (600 + j) = true := by decide +kernel
set_option maxRecDepth 100000 in
theorem ck186_0 : ∀ j, j < 102 → chkE 186 (0 + j) = true := by decide +kernel
set_option maxRecDepth 100000 in
theorem ck187_0 : ∀ j, j < 59 → chkE 187 (0 + j) = true := by decide +kernel
set_option maxRecDepth 100000 in
theorem ck188_0 : ∀ j, j < 27 → chkE 188 (0 + j) = true := by decide +kernel
set_option maxRecDepth 100000 in
theorem ck189_0 : ∀ j, j < 28 → chkE 189 (0 + j) = true := by decide +kernel
set_option maxRecDepth 100000 in
theorem ck190_0 : ∀ j, j < 46 → chkE 190 (0 + j) = true := by decide +kernel
set_option maxRecDepth 100000 in
theorem ck191_0 : ∀ j, j < 16 → chkE 191 (0 + j) = true := by decide +kernel
set_option maxRecDepth 100000 in
theorem ck192_0 : ∀ j, j < 16 → chkE 192 (0 + j) = true := by decide +kernel
set_option maxRecDepth 100000 in
theorem ck193_0 : ∀ j, j < 37 → chkE 193 (0 + j) = true := by decide +kernel
set_option maxRecDepth 100000 in
theorem ck194_0 : ∀ j, j < 22 → chkE 194 (0 + j) = true := by decide +kernel
set_option maxRecDepth 100000 in
theorem ck195_0 : ∀ j, j < 103 → chkE 195 (0 + j) = true := by decide +kernel
set_option maxRecDepth 100000 in
theorem ck196_0 : ∀ j, j < 40 → chkE 196 (0 + j) = true := by decide +kernel
set_option maxRecDepth 100000 in
theorem ck197_0 : ∀ j, j < 31 → chkE 197 (0 + j) = true := by decide +kernel
set_option maxRecDepth 100000 in
theorem ck198_0 : ∀ j, j < 174 → chkE 198 (0 + j) = true := by decide +kernel
set_option maxRecDepth 100000 in
theorem ck199_0 : ∀ j, j < 41 → chkE 199 (0 + j) = true := by decide +kernel
set_option maxRecDepth 100000 in
theorem ck200_0 : ∀ j, j < 90 → chkE 200 (0 + j) = true := by decide +kernel
set_option maxRecDepth 100000 in
theorem ck201_0 : ∀ j, j < 74 → chkE 201 (0 + j) = true := by decide +kernel
set_option maxRecDepth 100000 in
theorem ck202_0 : ∀ j, j < 12 → chkE 202 (0 + j) = true := by decide +kernel
