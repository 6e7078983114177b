set_option maxRecDepth 100000 in
theorem ck203_0 : ∀ j, j < 49 → chkE 203 (0 + j) = true := by decide +kernel
set_option maxRecDepth 100000 in
theorem ck204_0 : ∀ j, j < 75 → chkE 204 (0 + j) = true := by decide +kernel
set_option maxRecDepth 100000 in
theorem ck205_0 : ∀ j, j < 21 → chkE 205 (0 + j) = true := by decide +kernel
set_option maxRecDepth 100000 in
theorem ck206_0 : ∀ j, j < 22 → chkE 206 (0 + j) = true := by decide +kernel
set_option maxRecDepth 100000 in
theorem ck207_0 : ∀ j, j < 10 → chkE 207 (0 + j) = true := by decide +kernel
set_option maxRecDepth 100000 in
theorem ck208_0 : ∀ j, j < 151 → chkE 208 (0 + j) = true := by decide +kernel
set_option maxRecDepth 100000 in
theorem ck209_0 : ∀ j, j < 14 → chkE 209 (0 + j) = true := by decide +kernel
set_option maxRecDepth 100000 in
theorem ck210_0 : ∀ j, j < 7 → chkE 210 (0 + j) = true := by decide +kernel
set_option maxRecDepth 100000 in
theorem ck211_0 : ∀ j, j < 142 → chkE 211 (0 + j) = true := by decide +kernel
set_option maxRecDepth 100000 in
theorem ck212_0 : ∀ j, j < 14 → chkE 212 (0 + j) = true := by decide +kernel
set_option maxRecDepth 100000 in
theorem ck213_0 : ∀ j, j < 147 → chkE 213 (0 + j) = true := by decide +kernel
set_option maxRecDepth 100000 in
theorem ck214_0 : ∀ j, j < 38 → chkE 214 (0 + j) = true := by decide +kernel
set_option maxRecDepth 100000 in
theorem ck215_0 : ∀ j, j < 118 → chkE 215 (0 + j) = true := by decide +kernel
set_option maxRecDepth 100000 in
theorem ck216_0 : ∀ j, j < 14 → chkE 216 (0 + j) = true := by decide +kernel
set_option maxRecDepth 100000 in
theorem ck217_0 : ∀ j, j < 11 → chkE 217 (0 + j) = true := by decide +kernel
set_option maxRecDepth 100000 in
theorem ck218_0 : ∀ j, j < 133 → chkE 218 (0 + j) = true := by decide +kernel
set_option maxRecDepth 100000 in
theorem ck219_0 : ∀ j, j < 42 → chkE 219 (0 + j) = true := by decide +kernel
set_option maxRecDepth 100000 in
theorem ck220_0 : ∀ j, j < 38 → chkE 220 (0 + j) = true := by decide +kernel
set_option maxRecDepth 100000 in
theorem ck221_0 : ∀ j, j < 15 → chkE 221 (0 + j) = true := by decide +kernel
set_option maxRecDepth 100000 in
theorem ck222_0 : ∀ j, j < 48 → chkE 222 (0 + j) = true := by decide +kernel
set_option maxRecDepth 100000 in
theorem ck223_0 : ∀ j, j < 26 → chkE 223 (0 + j) = true := by decide +kernel
set_option maxRecDepth 100000 in
theorem ck224_0 : ∀ j, j < 97 → chkE 224 (0 + j) = true := by decide +kernel
set_option maxRecDepth 100000 in
theorem ck225_0 : ∀ j, j < 181 → chkE 225 (0 + j) = true := by decide +kernel
set_option maxRecDepth 100000 in
theorem ck226_0 : ∀ j, j < 42 → chkE 226 (0 + j) = true := by decide +kernel
set_option maxRecDepth 100000 in
theorem ck227_0 : ∀ j, j < 20 → chkE 227 (0 + j) = true := by decide +kernel
set_option maxRecDepth 100000 in
theorem ck228_0 : ∀ j, j < 36 → chkE 228 (0 + j) = true := by decide +kernel
set_option maxRecDepth 100000 in
theorem ck229_0 : ∀ j, j < 45 → chkE 229 (0 + j) = true := by decide +kernel
set_option maxRecDepth 100000 in
theorem ck230_0 : ∀ j, j < 47 → chkE 230 (0 + j) = true := by decide +kernel
set_option maxRecDepth 100000 in
theorem ck231_0 : ∀ j, j < 42 → chkE 231 (0 + j) = true := by decide +kernel
set_option maxRecDepth 100000 in
theorem ck232_0 : ∀ j, j < 66 → chkE 232 (0 + j) = true := by decide +kernel
set_option maxRecDepth 100000 in
theorem ck233_0 : ∀ j, j < 19 → chkE 233 (0 + j) = true := by decide +kernel
set_option maxRecDepth 100000 in
theorem ck234_0 : ∀ j, j < 209 → chkE 234 (0 + j) = true := by decide +kernel
set_option maxRecDepth 100000 in
theorem ck235_0 : ∀ j, j < 26 → chkE 235 (0 + j) = true := by decide +kernel
set_option maxRecDepth 100000 in
theorem ck236_0 : ∀ j, j < 66 → chkE 236 (0 + j) = true := by decide +kernel
set_option maxRecDepth 100000 in
theorem ck237_0 : ∀ j, j < 52 → chkE 237 (0 + j) = true := by decide +kernel
set_option maxRecDepth 100000 in
theorem ck238_0 : ∀ j, j < 42 → chkE 238 (0 + j) = true := by decide +kernel
set_option maxRecDepth 100000 in
theorem ck239_0 : ∀ j, j < 11 → chkE 239 (0 + j) = true := by decide +kernel
set_option maxRecDepth 100000 in
theorem ck240_0 : ∀ j, j < 150 → chkE 240 (0 + j) = true := by decide +kernel
set_option maxRecDepth 100000 in
theorem ck241_0 : ∀ j, j < 53 → chkE 241 (0 + j) = true := by decide +kernel
set_option maxRecDepth 100000 in
theorem ck242_0 : ∀ j, j < 113 → chkE 242 (0 + j) = true := by decide +kernel
set_option maxRecDepth 100000 in
theorem ck243_0 : ∀ j, j < 21 → chkE 243 (0 + j) = true := by decide +kernel
set_option maxRecDepth 100000 in
theorem ck244_0 : ∀ j, j < 21 → chkE 244 (0 + j) = true := by decide +kernel
set_option maxRecDepth 100000 in
theorem ck245_0 : ∀ j, j < 34 → chkE 245 (0 + j) = true := by decide +kernel
set_option maxRecDepth 100000 in
theorem ck246_0 : ∀ j, j < 49 → chkE 246 (0 + j) = true := by decide +kernel
set_option maxRecDepth 100000 in
theorem ck247_0 : ∀ j, j < 56 → chkE 247 (0 + j) = true := by decide +kernel
set_option maxRecDepth 100000 in
theorem ck248_0 : ∀ j, j < 105 → chkE 248 (0 + j) = true := by decide +kernel
set_option maxRecDepth 100000 in
theorem ck249_0 : ∀ j, j < 47 → chkE 249 (0 + j) = true := by decide +kernel
set_option maxRecDepth 100000 in
theorem ck250_0 : ∀ j, j < 67 → chkE 250 (0 + j) = true := by decide +kernel
set_option maxRecDepth 100000 in
theorem ck251_0 : ∀ j, j < 45 → chkE 251 (0 + j) = true := by decide +kernel
set_option maxRecDepth 100000 in
theorem ck252_0 : ∀ j, j < 88 → chkE 252 (0 + j) = true := by decide +kernel
set_option maxRecDepth 100000 in
theorem ck253_0 : ∀ j, j < 60 → chkE 253 (0 + j) = true := by decide +kernel
set_option maxRecDepth 100000 in
theorem ck254_0 : ∀ j, j < 228 → chkE 254 (0 + j) = true := by decide +kernel
set_option maxRecDepth 100000 in
theorem ck255_0 : ∀ j, j < 30 → chkE 255 (0 + j) = true := by decide +kernel
set_option maxRecDepth 100000 in
theorem ck256_0 : ∀ j, j < 15 → chkE 256 (0 + j) = true := by decide +kernel
set_option maxRecDepth 100000 in
theorem ck257_0 : ∀ j, j < 94 → chkE 257 (0 + j) = true := by decide +kernel
set_option maxRecDepth 100000 in
theorem ck258_0 : ∀ j, j < 159 → chkE 258 (0 + j) = true := by decide +kernel
set_option maxRecDepth 100000 in
theorem ck259_0 : ∀ j, j < 30 → chkE 259 (0 + j) = true := by decide +kernel
set_option maxRecDepth 100000 in
theorem ck260_0 : ∀ j, j < 30 → chkE 260 (0 + j) = true := by decide +kernel
set_option maxRecDepth 100000 in
theorem ck261_0 : ∀ j, j < 124 → chkE 261 (0 + j) = true := by decide +kernel
set_option maxRecDepth 100000 in
theorem ck262_0 : ∀ j, j < 58 → chkE 262 (0 + j) = true := by decide +kernel
set_option maxRecDepth 100000 in
theorem ck263_0 : ∀ j, j < 271 → chkE 263 (0 + j) = true := by decide +kernel
set_option maxRecDepth 100000 in
theorem ck264_0 : ∀ j, j < 10 → chkE 264 (0 + j) = true := by decide +kernel
set_option maxRecDepth 100000 in
theorem ck265_0 : ∀ j, j < 86 → chkE 265 (0 + j) = true := by decide +kernel
set_option maxRecDepth 100000 in
theorem ck266_0 : ∀ j, j < 10 → chkE 266 (0 + j) = true := by decide +kernel
set_option maxRecDepth 100000 in
theorem ck267_0 : ∀ j, j < 208 → chkE 267 (0 + j) = true := by decide +kernel
set_option maxRecDepth 100000 in
theorem ck268_0 : ∀ j, j < 31 → chkE 268 (0 + j) = true := by decide +kernel
set_option maxRecDepth 100000 in
theorem ck269_0 : ∀ j, j < 21 → chkE 269 (0 + j) = true := by decide +kernel
set_option maxRecDepth 100000 in
theorem ck270_0 : ∀ j, j < 26 → chkE 270 (0 + j) = true := by decide +kernel
set_option maxRecDepth 100000 in
theorem ck271_0 : ∀ j, j < 12 → chkE 271 (0 + j) = true := by decide +kernel
set_option maxRecDepth 100000 in
theorem ck272_0 : ∀ j, j < 30 → chkE 272 (0 + j) = true := by decide +kernel
set_option maxRecDepth 100000 in
theorem ck273_0 : ∀ j, j < 91 → chkE 273 (0 + j) = true := by decide +kernel
set_option maxRecDepth 100000 in
theorem ck274_0 : ∀ j, j < 198 → chkE 274 (0 + j) = true := by decide +kernel
set_option maxRecDepth 100000 in
theorem ck275_0 : ∀ j, j < 123 → chkE 275 (0 + j) = true := by decide +kernel
set_option maxRecDepth 100000 in
theorem ck276_0 : ∀ j, j < 293 → chkE 276 (0 + j) = true := by decide +kernel
set_option maxRecDepth 100000 in
theorem ck277_0 : ∀ j, j < 37 → chkE 277 (0 + j) = true := by decide +kernel
set_option maxRecDepth 100000 in
theorem ck278_0 : ∀ j, j < 48 → chkE 278 (0 + j) = true := by decide +kernel
set_option maxRecDepth 100000 in
theorem ck279_0 : ∀ j, j < 225 → chkE 279 (0 + j) = true := by decide +kernel
set_option maxRecDepth 100000 in
theorem ck280_0 : ∀ j, j < 140 → chkE 280 (0 + j) = true := by decide +kernel
set_option maxRecDepth 100000 in
theorem ck281_0 : ∀ j, j < 60 → chkE 281 (0 + j) = true := by decide +kernel
set_option maxRecDepth 100000 in
theorem ck282_0 : ∀ j, j < 32 → chkE 282 (0 + j) = true := by decide +kernel
set_option maxRecDepth 100000 in
theorem ck283_0 : ∀ j, j < 113 → chkE 283 (0 + j) = true := by decide +kernel
set_option maxRecDepth 100000 in
theorem ck284_0 : ∀ j, j < 58 → chkE 284 (0 + j) = true := by decide +kernel
set_option maxRecDepth 100000 in
theorem ck285_0 : ∀ j, j < 58 → chkE 285 (0 + j) = true := by decide +kernel
set_option maxRecDepth 100000 in
theorem ck286_0 : ∀ j, j < 178 → chkE 286 (0 + j) = true := by decide +kernel
set_option maxRecDepth 100000 in
theorem ck287_0 : ∀ j, j < 30 → chkE 287 (0 + j) = true := by decide +kernel
set_option maxRecDepth 100000 in
theorem ck288_0 : ∀ j, j < 26 → chkE 288 (0 + j) = true := by decide +kernel
set_option maxRecDepth 100000 in
theorem ck289_0 : ∀ j, j < 64 → chkE 289 (0 + j) = true := by decide +kernel
set_option maxRecDepth 100000 in
theorem ck290_0 : ∀ j, j < 29 → chkE 290 (0 + j) = true := by decide +kernel
set_option maxRecDepth 100000 in
theorem ck291_0 : ∀ j, j < 55 → chkE 291 (0 + j) = true := by decide +kernel
set_option maxRecDepth 100000 in
theorem ck292_0 : ∀ j, j < 75 → chkE 292 (0 + j) = true := by decide +kernel
set_option maxRecDepth 100000 in
theorem ck293_0 : ∀ j, j < 78 → chkE 293 (0 + j) = true := by decide +kernel
set_option maxRecDepth 100000 in
theorem ck294_0 : ∀ j, j < 300 → chkE 294 (0 + j) = true := by decide +kernel
set_option maxRecDepth 100000 in
theorem ck294_300 : ∀ j, j < 172 → chkE 294 (300 + j) = true := by decide +kernel
set_option maxRecDepth 100000 in
theorem ck295_0 : ∀ j, j < 89 → chkE 295 (0 + j) = true := by decide +kernel
set_option maxRecDepth 100000 in
theorem ck296_0 : ∀ j, j < 96 → chkE 296 (0 + j) = true := by decide +kernel
set_option maxRecDepth 100000 in
theorem ck297_0 : ∀ j, j < 97 → chkE 297 (0 + j) = true := by decide +kernel
set_option maxRecDepth 100000 in
theorem ck298_0 : ∀ j, j < 53 → chkE 298 (0 + j) = true := by decide +kernel
set_option maxRecDepth 100000 in
theorem ck299_0 : ∀ j, j < 21 → chkE 299 (0 + j) = true := by decide +kernel
set_option maxRecDepth 100000 in
theorem ck300_0 : ∀ j, j < 23 → chkE 300 (0 + j) = true := by decide +kernel
set_option maxRecDepth 100000 in
theorem ck301_0 : ∀ j, j < 19 → chkE 301 (0 + j) = true := by decide +kernel
set_option maxRecDepth 100000 in
theorem ck302_0 : ∀ j, j < 18 → chkE 302 (0 + j) = true := by decide +kernel
set_option maxRecDepth 100000 in
theorem ck303_0 : ∀ j, j < 18 → chkE 303 (0 + j) = true := by decide +kernel
set_option maxRecDepth 100000 in
theorem ck304_0 : ∀ j, j < 18 → chkE 304 (0 + j) = true := by decide +kernel
