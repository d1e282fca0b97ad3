/-! the world: who holds whom -/
def gTab : List (Nat × Nat × Nat) := [(256, 0, 0), (256, 1, 257), (256, 2, 258), (256, 3, 259), (256, 4, 260), (256, 5, 261), (256, 6, 262), (256, 7, 263), (256, 8, 264), (256, 9, 265), (258, 0, 0), (258, 1, 266), (258, 2, 267), (258, 3, 268), (258, 4, 269), (258, 5, 270), (258, 6, 271), (259, 0, 0), (259, 1, 272), (259, 2, 273), (259, 3, 274), (260, 1, 0), (260, 0, 275), (262, 0, 0), (262, 1, 283), (262, 2, 284), (262, 3, 285), (263, 0, 0), (263, 1, 286), (264, 2, 0), (264, 3, 287), (264, 4, 288), (264, 5, 289), (275, 1, 276), (275, 2, 277), (275, 3, 278), (275, 4, 279), (275, 5, 280), (275, 6, 281), (275, 7, 282), (300, 1, 301), (300, 2, 302), (300, 3, 303), (300, 4, 304), (300, 5, 305), (300, 6, 306), (300, 7, 307), (300, 8, 308), (300, 9, 309), (300, 10, 310), (300, 11, 311), (300, 12, 312), (300, 13, 313), (300, 14, 314), (300, 15, 315), (300, 16, 316), (300, 17, 317), (300, 18, 318), (300, 19, 319), (300, 20, 320), (300, 21, 321), (300, 22, 322), (300, 23, 323), (300, 24, 324), (300, 25, 325), (300, 26, 326), (300, 27, 327), (300, 28, 328), (300, 29, 329), (300, 30, 330), (300, 31, 331), (300, 32, 332), (300, 33, 333), (300, 34, 334), (300, 35, 335), (300, 36, 336), (300, 37, 337), (300, 38, 338), (300, 39, 339), (300, 40, 340), (300, 41, 341), (300, 42, 342), (300, 43, 343), (300, 44, 344), (300, 45, 345), (300, 46, 346), (300, 56, 347), (300, 57, 348), (300, 58, 349), (300, 59, 350), (300, 60, 351), (300, 61, 352), (300, 62, 353), (300, 63, 354), (300, 64, 355), (300, 65, 356), (300, 66, 357)]
def cTab : List (Nat × Nat × Nat) := [(0, 0, 1), (0, 3, 2), (0, 5, 3), (0, 7, 4), (0, 11, 5), (0, 12, 6), (0, 16, 7), (5, 1, 8), (5, 2, 9), (5, 3, 10), (5, 4, 11), (5, 5, 12), (5, 6, 13), (5, 7, 14)]
def lkT (l : List (Nat × Nat × Nat)) (o k : Nat) : Option Nat := match l with
  | [] => none
  | q :: l => if q.1 = o ∧ q.2.1 = k then some q.2.2 else lkT l o k
def gW (f : Nat → Bool) : MR := fun o k =>
  if o < 256 then (if o / 64 = 0 ∨ f (o / 64 - 1) = true then (if o % 64 = 1 then some (cid (o / 64) k) else (lkT cTab (o % 64) k).map (fun t => o / 64 * 64 + t)) else none)
  else if o = 257 then (if f k then some (64 * (k + 1)) else none) else lkT gTab o k
theorem gr_256_0 {f : Nat → Bool} : gW f 256 0 = some 0 := rfl
theorem gr_256_1 {f : Nat → Bool} : gW f 256 1 = some 257 := rfl
theorem gr_256_2 {f : Nat → Bool} : gW f 256 2 = some 258 := rfl
theorem gr_256_3 {f : Nat → Bool} : gW f 256 3 = some 259 := rfl
theorem gr_256_4 {f : Nat → Bool} : gW f 256 4 = some 260 := rfl
theorem gr_256_5 {f : Nat → Bool} : gW f 256 5 = some 261 := rfl
theorem gr_256_6 {f : Nat → Bool} : gW f 256 6 = some 262 := rfl
theorem gr_256_7 {f : Nat → Bool} : gW f 256 7 = some 263 := rfl
theorem gr_256_8 {f : Nat → Bool} : gW f 256 8 = some 264 := rfl
theorem gr_256_9 {f : Nat → Bool} : gW f 256 9 = some 265 := rfl
theorem gr_258_0 {f : Nat → Bool} : gW f 258 0 = some 0 := rfl
theorem gr_258_1 {f : Nat → Bool} : gW f 258 1 = some 266 := rfl
theorem gr_258_2 {f : Nat → Bool} : gW f 258 2 = some 267 := rfl
theorem gr_258_3 {f : Nat → Bool} : gW f 258 3 = some 268 := rfl
theorem gr_258_4 {f : Nat → Bool} : gW f 258 4 = some 269 := rfl
theorem gr_258_5 {f : Nat → Bool} : gW f 258 5 = some 270 := rfl
theorem gr_258_6 {f : Nat → Bool} : gW f 258 6 = some 271 := rfl
theorem gr_259_0 {f : Nat → Bool} : gW f 259 0 = some 0 := rfl
theorem gr_259_1 {f : Nat → Bool} : gW f 259 1 = some 272 := rfl
theorem gr_259_2 {f : Nat → Bool} : gW f 259 2 = some 273 := rfl
theorem gr_259_3 {f : Nat → Bool} : gW f 259 3 = some 274 := rfl
theorem gr_260_1 {f : Nat → Bool} : gW f 260 1 = some 0 := rfl
theorem gr_260_0 {f : Nat → Bool} : gW f 260 0 = some 275 := rfl
theorem gr_262_0 {f : Nat → Bool} : gW f 262 0 = some 0 := rfl
theorem gr_262_1 {f : Nat → Bool} : gW f 262 1 = some 283 := rfl
theorem gr_262_2 {f : Nat → Bool} : gW f 262 2 = some 284 := rfl
theorem gr_262_3 {f : Nat → Bool} : gW f 262 3 = some 285 := rfl
theorem gr_263_0 {f : Nat → Bool} : gW f 263 0 = some 0 := rfl
theorem gr_263_1 {f : Nat → Bool} : gW f 263 1 = some 286 := rfl
theorem gr_264_2 {f : Nat → Bool} : gW f 264 2 = some 0 := rfl
theorem gr_264_3 {f : Nat → Bool} : gW f 264 3 = some 287 := rfl
theorem gr_264_4 {f : Nat → Bool} : gW f 264 4 = some 288 := rfl
theorem gr_264_5 {f : Nat → Bool} : gW f 264 5 = some 289 := rfl
theorem gr_275_1 {f : Nat → Bool} : gW f 275 1 = some 276 := rfl
theorem gr_275_2 {f : Nat → Bool} : gW f 275 2 = some 277 := rfl
theorem gr_275_3 {f : Nat → Bool} : gW f 275 3 = some 278 := rfl
theorem gr_275_4 {f : Nat → Bool} : gW f 275 4 = some 279 := rfl
theorem gr_275_5 {f : Nat → Bool} : gW f 275 5 = some 280 := rfl
theorem gr_275_6 {f : Nat → Bool} : gW f 275 6 = some 281 := rfl
theorem gr_275_7 {f : Nat → Bool} : gW f 275 7 = some 282 := rfl
theorem gr_300_1 {f : Nat → Bool} : gW f 300 1 = some 301 := rfl
theorem gr_300_2 {f : Nat → Bool} : gW f 300 2 = some 302 := rfl
theorem gr_300_3 {f : Nat → Bool} : gW f 300 3 = some 303 := rfl
theorem gr_300_4 {f : Nat → Bool} : gW f 300 4 = some 304 := rfl
theorem gr_300_5 {f : Nat → Bool} : gW f 300 5 = some 305 := rfl
theorem gr_300_6 {f : Nat → Bool} : gW f 300 6 = some 306 := rfl
theorem gr_300_7 {f : Nat → Bool} : gW f 300 7 = some 307 := rfl
theorem gr_300_8 {f : Nat → Bool} : gW f 300 8 = some 308 := rfl
theorem gr_300_9 {f : Nat → Bool} : gW f 300 9 = some 309 := rfl
theorem gr_300_10 {f : Nat → Bool} : gW f 300 10 = some 310 := rfl
theorem gr_300_11 {f : Nat → Bool} : gW f 300 11 = some 311 := rfl
theorem gr_300_12 {f : Nat → Bool} : gW f 300 12 = some 312 := rfl
theorem gr_300_13 {f : Nat → Bool} : gW f 300 13 = some 313 := rfl
theorem gr_300_14 {f : Nat → Bool} : gW f 300 14 = some 314 := rfl
theorem gr_300_15 {f : Nat → Bool} : gW f 300 15 = some 315 := rfl
theorem gr_300_16 {f : Nat → Bool} : gW f 300 16 = some 316 := rfl
theorem gr_300_17 {f : Nat → Bool} : gW f 300 17 = some 317 := rfl
theorem gr_300_18 {f : Nat → Bool} : gW f 300 18 = some 318 := rfl
theorem gr_300_19 {f : Nat → Bool} : gW f 300 19 = some 319 := rfl
theorem gr_300_20 {f : Nat → Bool} : gW f 300 20 = some 320 := rfl
theorem gr_300_21 {f : Nat → Bool} : gW f 300 21 = some 321 := rfl
theorem gr_300_22 {f : Nat → Bool} : gW f 300 22 = some 322 := rfl
theorem gr_300_23 {f : Nat → Bool} : gW f 300 23 = some 323 := rfl
theorem gr_300_24 {f : Nat → Bool} : gW f 300 24 = some 324 := rfl
theorem gr_300_25 {f : Nat → Bool} : gW f 300 25 = some 325 := rfl
theorem gr_300_26 {f : Nat → Bool} : gW f 300 26 = some 326 := rfl
theorem gr_300_27 {f : Nat → Bool} : gW f 300 27 = some 327 := rfl
theorem gr_300_28 {f : Nat → Bool} : gW f 300 28 = some 328 := rfl
theorem gr_300_29 {f : Nat → Bool} : gW f 300 29 = some 329 := rfl
theorem gr_300_30 {f : Nat → Bool} : gW f 300 30 = some 330 := rfl
theorem gr_300_31 {f : Nat → Bool} : gW f 300 31 = some 331 := rfl
theorem gr_300_32 {f : Nat → Bool} : gW f 300 32 = some 332 := rfl
theorem gr_300_33 {f : Nat → Bool} : gW f 300 33 = some 333 := rfl
theorem gr_300_34 {f : Nat → Bool} : gW f 300 34 = some 334 := rfl
theorem gr_300_35 {f : Nat → Bool} : gW f 300 35 = some 335 := rfl
theorem gr_300_36 {f : Nat → Bool} : gW f 300 36 = some 336 := rfl
theorem gr_300_37 {f : Nat → Bool} : gW f 300 37 = some 337 := rfl
theorem gr_300_38 {f : Nat → Bool} : gW f 300 38 = some 338 := rfl
theorem gr_300_39 {f : Nat → Bool} : gW f 300 39 = some 339 := rfl
theorem gr_300_40 {f : Nat → Bool} : gW f 300 40 = some 340 := rfl
theorem gr_300_41 {f : Nat → Bool} : gW f 300 41 = some 341 := rfl
theorem gr_300_42 {f : Nat → Bool} : gW f 300 42 = some 342 := rfl
theorem gr_300_43 {f : Nat → Bool} : gW f 300 43 = some 343 := rfl
theorem gr_300_44 {f : Nat → Bool} : gW f 300 44 = some 344 := rfl
theorem gr_300_45 {f : Nat → Bool} : gW f 300 45 = some 345 := rfl
theorem gr_300_46 {f : Nat → Bool} : gW f 300 46 = some 346 := rfl
theorem gr_300_56 {f : Nat → Bool} : gW f 300 56 = some 347 := rfl
theorem gr_300_57 {f : Nat → Bool} : gW f 300 57 = some 348 := rfl
theorem gr_300_58 {f : Nat → Bool} : gW f 300 58 = some 349 := rfl
theorem gr_300_59 {f : Nat → Bool} : gW f 300 59 = some 350 := rfl
theorem gr_300_60 {f : Nat → Bool} : gW f 300 60 = some 351 := rfl
theorem gr_300_61 {f : Nat → Bool} : gW f 300 61 = some 352 := rfl
theorem gr_300_62 {f : Nat → Bool} : gW f 300 62 = some 353 := rfl
theorem gr_300_63 {f : Nat → Bool} : gW f 300 63 = some 354 := rfl
theorem gr_300_64 {f : Nat → Bool} : gW f 300 64 = some 355 := rfl
theorem gr_300_65 {f : Nat → Bool} : gW f 300 65 = some 356 := rfl
theorem gr_300_66 {f : Nat → Bool} : gW f 300 66 = some 357 := rfl
theorem gr_0_0 {f : Nat → Bool} : gW f 0 0 = some 1 := rfl
theorem gr_0_3 {f : Nat → Bool} : gW f 0 3 = some 2 := rfl
theorem gr_0_5 {f : Nat → Bool} : gW f 0 5 = some 3 := rfl
theorem gr_0_7 {f : Nat → Bool} : gW f 0 7 = some 4 := rfl
theorem gr_0_11 {f : Nat → Bool} : gW f 0 11 = some 5 := rfl
theorem gr_0_12 {f : Nat → Bool} : gW f 0 12 = some 6 := rfl
theorem gr_0_16 {f : Nat → Bool} : gW f 0 16 = some 7 := rfl
theorem gr_5_1 {f : Nat → Bool} : gW f 5 1 = some 8 := rfl
theorem gr_5_2 {f : Nat → Bool} : gW f 5 2 = some 9 := rfl
theorem gr_5_3 {f : Nat → Bool} : gW f 5 3 = some 10 := rfl
theorem gr_5_4 {f : Nat → Bool} : gW f 5 4 = some 11 := rfl
theorem gr_5_5 {f : Nat → Bool} : gW f 5 5 = some 12 := rfl
theorem gr_5_6 {f : Nat → Bool} : gW f 5 6 = some 13 := rfl
theorem gr_5_7 {f : Nat → Bool} : gW f 5 7 = some 14 := rfl
theorem gr_1 {f : Nat → Bool} {k : Nat} : gW f 1 k = some (cid 0 k) := rfl
theorem gr_64_0 {f : Nat → Bool} (h : f 0 = true) : gW f 64 0 = some 65 := by simp [gW, h, lkT, cTab]
theorem gr_64_3 {f : Nat → Bool} (h : f 0 = true) : gW f 64 3 = some 66 := by simp [gW, h, lkT, cTab]
theorem gr_64_5 {f : Nat → Bool} (h : f 0 = true) : gW f 64 5 = some 67 := by simp [gW, h, lkT, cTab]
theorem gr_64_7 {f : Nat → Bool} (h : f 0 = true) : gW f 64 7 = some 68 := by simp [gW, h, lkT, cTab]
theorem gr_64_11 {f : Nat → Bool} (h : f 0 = true) : gW f 64 11 = some 69 := by simp [gW, h, lkT, cTab]
theorem gr_64_12 {f : Nat → Bool} (h : f 0 = true) : gW f 64 12 = some 70 := by simp [gW, h, lkT, cTab]
theorem gr_64_16 {f : Nat → Bool} (h : f 0 = true) : gW f 64 16 = some 71 := by simp [gW, h, lkT, cTab]
theorem gr_69_1 {f : Nat → Bool} (h : f 0 = true) : gW f 69 1 = some 72 := by simp [gW, h, lkT, cTab]
theorem gr_69_2 {f : Nat → Bool} (h : f 0 = true) : gW f 69 2 = some 73 := by simp [gW, h, lkT, cTab]
theorem gr_69_3 {f : Nat → Bool} (h : f 0 = true) : gW f 69 3 = some 74 := by simp [gW, h, lkT, cTab]
theorem gr_69_4 {f : Nat → Bool} (h : f 0 = true) : gW f 69 4 = some 75 := by simp [gW, h, lkT, cTab]
theorem gr_69_5 {f : Nat → Bool} (h : f 0 = true) : gW f 69 5 = some 76 := by simp [gW, h, lkT, cTab]
theorem gr_69_6 {f : Nat → Bool} (h : f 0 = true) : gW f 69 6 = some 77 := by simp [gW, h, lkT, cTab]
theorem gr_69_7 {f : Nat → Bool} (h : f 0 = true) : gW f 69 7 = some 78 := by simp [gW, h, lkT, cTab]
theorem gr_65 {f : Nat → Bool} {k : Nat} (h : f 0 = true) : gW f 65 k = some (cid 1 k) := by simp [gW, h]
theorem gr_128_0 {f : Nat → Bool} (h : f 1 = true) : gW f 128 0 = some 129 := by simp [gW, h, lkT, cTab]
theorem gr_128_3 {f : Nat → Bool} (h : f 1 = true) : gW f 128 3 = some 130 := by simp [gW, h, lkT, cTab]
theorem gr_128_5 {f : Nat → Bool} (h : f 1 = true) : gW f 128 5 = some 131 := by simp [gW, h, lkT, cTab]
theorem gr_128_7 {f : Nat → Bool} (h : f 1 = true) : gW f 128 7 = some 132 := by simp [gW, h, lkT, cTab]
theorem gr_128_11 {f : Nat → Bool} (h : f 1 = true) : gW f 128 11 = some 133 := by simp [gW, h, lkT, cTab]
theorem gr_128_12 {f : Nat → Bool} (h : f 1 = true) : gW f 128 12 = some 134 := by simp [gW, h, lkT, cTab]
theorem gr_128_16 {f : Nat → Bool} (h : f 1 = true) : gW f 128 16 = some 135 := by simp [gW, h, lkT, cTab]
theorem gr_133_1 {f : Nat → Bool} (h : f 1 = true) : gW f 133 1 = some 136 := by simp [gW, h, lkT, cTab]
theorem gr_133_2 {f : Nat → Bool} (h : f 1 = true) : gW f 133 2 = some 137 := by simp [gW, h, lkT, cTab]
theorem gr_133_3 {f : Nat → Bool} (h : f 1 = true) : gW f 133 3 = some 138 := by simp [gW, h, lkT, cTab]
theorem gr_133_4 {f : Nat → Bool} (h : f 1 = true) : gW f 133 4 = some 139 := by simp [gW, h, lkT, cTab]
theorem gr_133_5 {f : Nat → Bool} (h : f 1 = true) : gW f 133 5 = some 140 := by simp [gW, h, lkT, cTab]
theorem gr_133_6 {f : Nat → Bool} (h : f 1 = true) : gW f 133 6 = some 141 := by simp [gW, h, lkT, cTab]
theorem gr_133_7 {f : Nat → Bool} (h : f 1 = true) : gW f 133 7 = some 142 := by simp [gW, h, lkT, cTab]
theorem gr_129 {f : Nat → Bool} {k : Nat} (h : f 1 = true) : gW f 129 k = some (cid 2 k) := by simp [gW, h]
theorem gr_192_0 {f : Nat → Bool} (h : f 2 = true) : gW f 192 0 = some 193 := by simp [gW, h, lkT, cTab]
theorem gr_192_3 {f : Nat → Bool} (h : f 2 = true) : gW f 192 3 = some 194 := by simp [gW, h, lkT, cTab]
theorem gr_192_5 {f : Nat → Bool} (h : f 2 = true) : gW f 192 5 = some 195 := by simp [gW, h, lkT, cTab]
theorem gr_192_7 {f : Nat → Bool} (h : f 2 = true) : gW f 192 7 = some 196 := by simp [gW, h, lkT, cTab]
theorem gr_192_11 {f : Nat → Bool} (h : f 2 = true) : gW f 192 11 = some 197 := by simp [gW, h, lkT, cTab]
theorem gr_192_12 {f : Nat → Bool} (h : f 2 = true) : gW f 192 12 = some 198 := by simp [gW, h, lkT, cTab]
theorem gr_192_16 {f : Nat → Bool} (h : f 2 = true) : gW f 192 16 = some 199 := by simp [gW, h, lkT, cTab]
theorem gr_197_1 {f : Nat → Bool} (h : f 2 = true) : gW f 197 1 = some 200 := by simp [gW, h, lkT, cTab]
theorem gr_197_2 {f : Nat → Bool} (h : f 2 = true) : gW f 197 2 = some 201 := by simp [gW, h, lkT, cTab]
theorem gr_197_3 {f : Nat → Bool} (h : f 2 = true) : gW f 197 3 = some 202 := by simp [gW, h, lkT, cTab]
theorem gr_197_4 {f : Nat → Bool} (h : f 2 = true) : gW f 197 4 = some 203 := by simp [gW, h, lkT, cTab]
theorem gr_197_5 {f : Nat → Bool} (h : f 2 = true) : gW f 197 5 = some 204 := by simp [gW, h, lkT, cTab]
theorem gr_197_6 {f : Nat → Bool} (h : f 2 = true) : gW f 197 6 = some 205 := by simp [gW, h, lkT, cTab]
theorem gr_197_7 {f : Nat → Bool} (h : f 2 = true) : gW f 197 7 = some 206 := by simp [gW, h, lkT, cTab]
theorem gr_193 {f : Nat → Bool} {k : Nat} (h : f 2 = true) : gW f 193 k = some (cid 3 k) := by simp [gW, h]
theorem gr_257 {f : Nat → Bool} {k : Nat} : gW f 257 k = if f k then some (64 * (k + 1)) else none := rfl
theorem sh_0 : shp 0 = (0, 0) := rfl
theorem sh_1 : shp 1 = (5, 24) := rfl
theorem sh_2 : shp 2 = (1, 6) := rfl
theorem sh_3 : shp 3 = (1, 6) := rfl
theorem sh_4 : shp 4 = (1, 192) := rfl
theorem sh_5 : shp 5 = (0, 2) := rfl
theorem sh_6 : shp 6 = (2, 500) := rfl
theorem sh_7 : shp 7 = (1, 14) := rfl
theorem sh_8 : shp 8 = (1, 16) := rfl
theorem sh_9 : shp 9 = (1, 16) := rfl
theorem sh_10 : shp 10 = (1, 16) := rfl
theorem sh_11 : shp 11 = (1, 64) := rfl
theorem sh_12 : shp 12 = (1, 64) := rfl
theorem sh_13 : shp 13 = (1, 64) := rfl
theorem sh_14 : shp 14 = (1, 64) := rfl
theorem sh_64 : shp 64 = (0, 0) := rfl
theorem sh_65 : shp 65 = (5, 24) := rfl
theorem sh_66 : shp 66 = (1, 6) := rfl
theorem sh_67 : shp 67 = (1, 6) := rfl
theorem sh_68 : shp 68 = (1, 192) := rfl
theorem sh_69 : shp 69 = (0, 2) := rfl
theorem sh_70 : shp 70 = (2, 500) := rfl
theorem sh_71 : shp 71 = (1, 14) := rfl
theorem sh_72 : shp 72 = (1, 16) := rfl
theorem sh_73 : shp 73 = (1, 16) := rfl
theorem sh_74 : shp 74 = (1, 16) := rfl
theorem sh_75 : shp 75 = (1, 64) := rfl
theorem sh_76 : shp 76 = (1, 64) := rfl
theorem sh_77 : shp 77 = (1, 64) := rfl
theorem sh_78 : shp 78 = (1, 64) := rfl
theorem sh_128 : shp 128 = (0, 0) := rfl
theorem sh_129 : shp 129 = (5, 24) := rfl
theorem sh_130 : shp 130 = (1, 6) := rfl
theorem sh_131 : shp 131 = (1, 6) := rfl
theorem sh_132 : shp 132 = (1, 192) := rfl
theorem sh_133 : shp 133 = (0, 2) := rfl
theorem sh_134 : shp 134 = (2, 500) := rfl
theorem sh_135 : shp 135 = (1, 14) := rfl
theorem sh_136 : shp 136 = (1, 16) := rfl
theorem sh_137 : shp 137 = (1, 16) := rfl
theorem sh_138 : shp 138 = (1, 16) := rfl
theorem sh_139 : shp 139 = (1, 64) := rfl
theorem sh_140 : shp 140 = (1, 64) := rfl
theorem sh_141 : shp 141 = (1, 64) := rfl
theorem sh_142 : shp 142 = (1, 64) := rfl
theorem sh_192 : shp 192 = (0, 0) := rfl
theorem sh_193 : shp 193 = (5, 24) := rfl
theorem sh_194 : shp 194 = (1, 6) := rfl
theorem sh_195 : shp 195 = (1, 6) := rfl
theorem sh_196 : shp 196 = (1, 192) := rfl
theorem sh_197 : shp 197 = (0, 2) := rfl
theorem sh_198 : shp 198 = (2, 500) := rfl
theorem sh_199 : shp 199 = (1, 14) := rfl
theorem sh_200 : shp 200 = (1, 16) := rfl
theorem sh_201 : shp 201 = (1, 16) := rfl
theorem sh_202 : shp 202 = (1, 16) := rfl
theorem sh_203 : shp 203 = (1, 64) := rfl
theorem sh_204 : shp 204 = (1, 64) := rfl
theorem sh_205 : shp 205 = (1, 64) := rfl
theorem sh_206 : shp 206 = (1, 64) := rfl
theorem sh_256 : shp 256 = (0, 10) := rfl
theorem sh_257 : shp 257 = (6, 3) := rfl
theorem sh_258 : shp 258 = (0, 6) := rfl
theorem sh_259 : shp 259 = (0, 4) := rfl
theorem sh_260 : shp 260 = (0, 8) := rfl
theorem sh_261 : shp 261 = (0, 7) := rfl
theorem sh_262 : shp 262 = (0, 9) := rfl
theorem sh_263 : shp 263 = (0, 3) := rfl
theorem sh_264 : shp 264 = (0, 5) := rfl
theorem sh_265 : shp 265 = (1, 24) := rfl
theorem sh_266 : shp 266 = (1, 576) := rfl
theorem sh_267 : shp 267 = (1, 144) := rfl
theorem sh_268 : shp 268 = (1, 6) := rfl
theorem sh_269 : shp 269 = (1, 6) := rfl
theorem sh_270 : shp 270 = (1, 128) := rfl
theorem sh_271 : shp 271 = (1, 128) := rfl
theorem sh_272 : shp 272 = (1, 24) := rfl
theorem sh_273 : shp 273 = (1, 175) := rfl
theorem sh_274 : shp 274 = (1, 150) := rfl
theorem sh_275 : shp 275 = (0, 2) := rfl
theorem sh_276 : shp 276 = (1, 16) := rfl
theorem sh_277 : shp 277 = (1, 16) := rfl
theorem sh_278 : shp 278 = (1, 16) := rfl
theorem sh_279 : shp 279 = (1, 64) := rfl
theorem sh_280 : shp 280 = (1, 64) := rfl
theorem sh_281 : shp 281 = (1, 64) := rfl
theorem sh_282 : shp 282 = (1, 64) := rfl
theorem sh_283 : shp 283 = (1, 14) := rfl
theorem sh_284 : shp 284 = (1, 14) := rfl
theorem sh_285 : shp 285 = (4, 896) := rfl
theorem sh_286 : shp 286 = (1, 6400) := rfl
theorem sh_287 : shp 287 = (1, 16) := rfl
theorem sh_288 : shp 288 = (1, 256) := rfl
theorem sh_289 : shp 289 = (1, 256) := rfl
theorem sh_300 : shp 300 = (0, 11) := rfl
theorem sh_301 : shp 301 = (2, 2000) := rfl
theorem sh_302 : shp 302 = (1, 4) := rfl
theorem sh_303 : shp 303 = (1, 4) := rfl
theorem sh_304 : shp 304 = (1, 4) := rfl
theorem sh_305 : shp 305 = (1, 4) := rfl
theorem sh_306 : shp 306 = (1, 96) := rfl
theorem sh_307 : shp 307 = (1, 96) := rfl
theorem sh_308 : shp 308 = (3, 96) := rfl
theorem sh_309 : shp 309 = (1, 96) := rfl
theorem sh_310 : shp 310 = (1, 96) := rfl
theorem sh_311 : shp 311 = (1, 96) := rfl
theorem sh_312 : shp 312 = (1, 96) := rfl
theorem sh_313 : shp 313 = (1, 96) := rfl
theorem sh_314 : shp 314 = (1, 96) := rfl
theorem sh_315 : shp 315 = (1, 96) := rfl
theorem sh_316 : shp 316 = (1, 96) := rfl
theorem sh_317 : shp 317 = (3, 96) := rfl
theorem sh_318 : shp 318 = (1, 96) := rfl
theorem sh_319 : shp 319 = (1, 4) := rfl
theorem sh_320 : shp 320 = (1, 96) := rfl
theorem sh_321 : shp 321 = (1, 4) := rfl
theorem sh_322 : shp 322 = (1, 24) := rfl
theorem sh_323 : shp 323 = (1, 4) := rfl
theorem sh_324 : shp 324 = (1, 4) := rfl
theorem sh_325 : shp 325 = (1, 4) := rfl
theorem sh_326 : shp 326 = (1, 64) := rfl
theorem sh_327 : shp 327 = (1, 256) := rfl
theorem sh_328 : shp 328 = (1, 256) := rfl
theorem sh_329 : shp 329 = (1, 256) := rfl
theorem sh_330 : shp 330 = (1, 64) := rfl
theorem sh_331 : shp 331 = (1, 64) := rfl
theorem sh_332 : shp 332 = (1, 4) := rfl
theorem sh_333 : shp 333 = (1, 24) := rfl
theorem sh_334 : shp 334 = (1, 4) := rfl
theorem sh_335 : shp 335 = (1, 56) := rfl
theorem sh_336 : shp 336 = (1, 4) := rfl
theorem sh_337 : shp 337 = (1, 768) := rfl
theorem sh_338 : shp 338 = (3, 96) := rfl
theorem sh_339 : shp 339 = (1, 96) := rfl
theorem sh_340 : shp 340 = (1, 96) := rfl
theorem sh_341 : shp 341 = (1, 96) := rfl
theorem sh_342 : shp 342 = (1, 24) := rfl
theorem sh_343 : shp 343 = (1, 9) := rfl
theorem sh_344 : shp 344 = (1, 24) := rfl
theorem sh_345 : shp 345 = (1, 175) := rfl
theorem sh_346 : shp 346 = (1, 6) := rfl
theorem sh_347 : shp 347 = (1, 17) := rfl
theorem sh_348 : shp 348 = (1, 64) := rfl
theorem sh_349 : shp 349 = (1, 64) := rfl
theorem sh_350 : shp 350 = (1, 64) := rfl
theorem sh_351 : shp 351 = (1, 17) := rfl
theorem sh_352 : shp 352 = (1, 17) := rfl
theorem sh_353 : shp 353 = (1, 11) := rfl
theorem sh_354 : shp 354 = (3, 61440) := rfl
theorem sh_355 : shp 355 = (1, 6400) := rfl
theorem sh_356 : shp 356 = (1, 16) := rfl
theorem sh_357 : shp 357 = (3, 3) := rfl
theorem ldS_265 {g : GX} {I : MI} {j : Int} {F : Int → Prop} : ldS g I 265 j F = (0 ≤ j ∧ j < 24 ∧ F (I 265 j.toNat)) := rfl
theorem ldS_266 {g : GX} {I : MI} {j : Int} {F : Int → Prop} : ldS g I 266 j F = (0 ≤ j ∧ j < 576 ∧ F (I 266 j.toNat)) := rfl
theorem ldS_267 {g : GX} {I : MI} {j : Int} {F : Int → Prop} : ldS g I 267 j F = (0 ≤ j ∧ j < 144 ∧ F (I 267 j.toNat)) := rfl
theorem ldS_268 {g : GX} {I : MI} {j : Int} {F : Int → Prop} : ldS g I 268 j F = (0 ≤ j ∧ j < 6 ∧ F (I 268 j.toNat)) := rfl
theorem ldS_269 {g : GX} {I : MI} {j : Int} {F : Int → Prop} : ldS g I 269 j F = (0 ≤ j ∧ j < 6 ∧ F (I 269 j.toNat)) := rfl
theorem ldS_270 {g : GX} {I : MI} {j : Int} {F : Int → Prop} : ldS g I 270 j F = (0 ≤ j ∧ j < 128 ∧ F (I 270 j.toNat)) := rfl
theorem ldS_271 {g : GX} {I : MI} {j : Int} {F : Int → Prop} : ldS g I 271 j F = (0 ≤ j ∧ j < 128 ∧ F (I 271 j.toNat)) := rfl
theorem ldS_272 {g : GX} {I : MI} {j : Int} {F : Int → Prop} : ldS g I 272 j F = (0 ≤ j ∧ j < 24 ∧ F (I 272 j.toNat)) := rfl
theorem ldS_273 {g : GX} {I : MI} {j : Int} {F : Int → Prop} : ldS g I 273 j F = (0 ≤ j ∧ j < 175 ∧ F (I 273 j.toNat)) := rfl
theorem ldS_274 {g : GX} {I : MI} {j : Int} {F : Int → Prop} : ldS g I 274 j F = (0 ≤ j ∧ j < 150 ∧ F (I 274 j.toNat)) := rfl
theorem ldS_276 {g : GX} {I : MI} {j : Int} {F : Int → Prop} : ldS g I 276 j F = (0 ≤ j ∧ j < 16 ∧ F (I 276 j.toNat)) := rfl
theorem ldS_277 {g : GX} {I : MI} {j : Int} {F : Int → Prop} : ldS g I 277 j F = (0 ≤ j ∧ j < 16 ∧ F (I 277 j.toNat)) := rfl
theorem ldS_278 {g : GX} {I : MI} {j : Int} {F : Int → Prop} : ldS g I 278 j F = (0 ≤ j ∧ j < 16 ∧ F (I 278 j.toNat)) := rfl
theorem ldS_279 {g : GX} {I : MI} {j : Int} {F : Int → Prop} : ldS g I 279 j F = (0 ≤ j ∧ j < 64 ∧ F (I 279 j.toNat)) := rfl
theorem ldS_280 {g : GX} {I : MI} {j : Int} {F : Int → Prop} : ldS g I 280 j F = (0 ≤ j ∧ j < 64 ∧ F (I 280 j.toNat)) := rfl
theorem ldS_281 {g : GX} {I : MI} {j : Int} {F : Int → Prop} : ldS g I 281 j F = (0 ≤ j ∧ j < 64 ∧ F (I 281 j.toNat)) := rfl
theorem ldS_282 {g : GX} {I : MI} {j : Int} {F : Int → Prop} : ldS g I 282 j F = (0 ≤ j ∧ j < 64 ∧ F (I 282 j.toNat)) := rfl
theorem ldS_283 {g : GX} {I : MI} {j : Int} {F : Int → Prop} : ldS g I 283 j F = (0 ≤ j ∧ j < 14 ∧ F (I 283 j.toNat)) := rfl
theorem ldS_284 {g : GX} {I : MI} {j : Int} {F : Int → Prop} : ldS g I 284 j F = (0 ≤ j ∧ j < 14 ∧ F (I 284 j.toNat)) := rfl
theorem ldS_286 {g : GX} {I : MI} {j : Int} {F : Int → Prop} : ldS g I 286 j F = (0 ≤ j ∧ j < 6400 ∧ F (I 286 j.toNat)) := rfl
theorem ldS_287 {g : GX} {I : MI} {j : Int} {F : Int → Prop} : ldS g I 287 j F = (0 ≤ j ∧ j < 16 ∧ F (I 287 j.toNat)) := rfl
theorem ldS_288 {g : GX} {I : MI} {j : Int} {F : Int → Prop} : ldS g I 288 j F = (0 ≤ j ∧ j < 256 ∧ F (I 288 j.toNat)) := rfl
theorem ldS_289 {g : GX} {I : MI} {j : Int} {F : Int → Prop} : ldS g I 289 j F = (0 ≤ j ∧ j < 256 ∧ F (I 289 j.toNat)) := rfl
theorem ldS_302 {g : GX} {I : MI} {j : Int} {F : Int → Prop} : ldS g I 302 j F = (0 ≤ j ∧ j < 4 ∧ F (I 302 j.toNat)) := rfl
theorem ldS_303 {g : GX} {I : MI} {j : Int} {F : Int → Prop} : ldS g I 303 j F = (0 ≤ j ∧ j < 4 ∧ F (I 303 j.toNat)) := rfl
theorem ldS_304 {g : GX} {I : MI} {j : Int} {F : Int → Prop} : ldS g I 304 j F = (0 ≤ j ∧ j < 4 ∧ F (I 304 j.toNat)) := rfl
theorem ldS_305 {g : GX} {I : MI} {j : Int} {F : Int → Prop} : ldS g I 305 j F = (0 ≤ j ∧ j < 4 ∧ F (I 305 j.toNat)) := rfl
theorem ldS_306 {g : GX} {I : MI} {j : Int} {F : Int → Prop} : ldS g I 306 j F = (0 ≤ j ∧ j < 96 ∧ F (I 306 j.toNat)) := rfl
theorem ldS_307 {g : GX} {I : MI} {j : Int} {F : Int → Prop} : ldS g I 307 j F = (0 ≤ j ∧ j < 96 ∧ F (I 307 j.toNat)) := rfl
theorem ldS_309 {g : GX} {I : MI} {j : Int} {F : Int → Prop} : ldS g I 309 j F = (0 ≤ j ∧ j < 96 ∧ F (I 309 j.toNat)) := rfl
theorem ldS_310 {g : GX} {I : MI} {j : Int} {F : Int → Prop} : ldS g I 310 j F = (0 ≤ j ∧ j < 96 ∧ F (I 310 j.toNat)) := rfl
theorem ldS_311 {g : GX} {I : MI} {j : Int} {F : Int → Prop} : ldS g I 311 j F = (0 ≤ j ∧ j < 96 ∧ F (I 311 j.toNat)) := rfl
theorem ldS_312 {g : GX} {I : MI} {j : Int} {F : Int → Prop} : ldS g I 312 j F = (0 ≤ j ∧ j < 96 ∧ F (I 312 j.toNat)) := rfl
theorem ldS_313 {g : GX} {I : MI} {j : Int} {F : Int → Prop} : ldS g I 313 j F = (0 ≤ j ∧ j < 96 ∧ F (I 313 j.toNat)) := rfl
theorem ldS_314 {g : GX} {I : MI} {j : Int} {F : Int → Prop} : ldS g I 314 j F = (0 ≤ j ∧ j < 96 ∧ F (I 314 j.toNat)) := rfl
theorem ldS_315 {g : GX} {I : MI} {j : Int} {F : Int → Prop} : ldS g I 315 j F = (0 ≤ j ∧ j < 96 ∧ F (I 315 j.toNat)) := rfl
theorem ldS_316 {g : GX} {I : MI} {j : Int} {F : Int → Prop} : ldS g I 316 j F = (0 ≤ j ∧ j < 96 ∧ F (I 316 j.toNat)) := rfl
theorem ldS_318 {g : GX} {I : MI} {j : Int} {F : Int → Prop} : ldS g I 318 j F = (0 ≤ j ∧ j < 96 ∧ F (I 318 j.toNat)) := rfl
theorem ldS_319 {g : GX} {I : MI} {j : Int} {F : Int → Prop} : ldS g I 319 j F = (0 ≤ j ∧ j < 4 ∧ F (I 319 j.toNat)) := rfl
theorem ldS_320 {g : GX} {I : MI} {j : Int} {F : Int → Prop} : ldS g I 320 j F = (0 ≤ j ∧ j < 96 ∧ F (I 320 j.toNat)) := rfl
theorem ldS_321 {g : GX} {I : MI} {j : Int} {F : Int → Prop} : ldS g I 321 j F = (0 ≤ j ∧ j < 4 ∧ F (I 321 j.toNat)) := rfl
theorem ldS_322 {g : GX} {I : MI} {j : Int} {F : Int → Prop} : ldS g I 322 j F = (0 ≤ j ∧ j < 24 ∧ F (I 322 j.toNat)) := rfl
theorem ldS_323 {g : GX} {I : MI} {j : Int} {F : Int → Prop} : ldS g I 323 j F = (0 ≤ j ∧ j < 4 ∧ F (I 323 j.toNat)) := rfl
theorem ldS_324 {g : GX} {I : MI} {j : Int} {F : Int → Prop} : ldS g I 324 j F = (0 ≤ j ∧ j < 4 ∧ F (I 324 j.toNat)) := rfl
theorem ldS_325 {g : GX} {I : MI} {j : Int} {F : Int → Prop} : ldS g I 325 j F = (0 ≤ j ∧ j < 4 ∧ F (I 325 j.toNat)) := rfl
theorem ldS_326 {g : GX} {I : MI} {j : Int} {F : Int → Prop} : ldS g I 326 j F = (0 ≤ j ∧ j < 64 ∧ F (I 326 j.toNat)) := rfl
theorem ldS_327 {g : GX} {I : MI} {j : Int} {F : Int → Prop} : ldS g I 327 j F = (0 ≤ j ∧ j < 256 ∧ F (I 327 j.toNat)) := rfl
theorem ldS_328 {g : GX} {I : MI} {j : Int} {F : Int → Prop} : ldS g I 328 j F = (0 ≤ j ∧ j < 256 ∧ F (I 328 j.toNat)) := rfl
theorem ldS_329 {g : GX} {I : MI} {j : Int} {F : Int → Prop} : ldS g I 329 j F = (0 ≤ j ∧ j < 256 ∧ F (I 329 j.toNat)) := rfl
theorem ldS_330 {g : GX} {I : MI} {j : Int} {F : Int → Prop} : ldS g I 330 j F = (0 ≤ j ∧ j < 64 ∧ F (I 330 j.toNat)) := rfl
theorem ldS_331 {g : GX} {I : MI} {j : Int} {F : Int → Prop} : ldS g I 331 j F = (0 ≤ j ∧ j < 64 ∧ F (I 331 j.toNat)) := rfl
theorem ldS_332 {g : GX} {I : MI} {j : Int} {F : Int → Prop} : ldS g I 332 j F = (0 ≤ j ∧ j < 4 ∧ F (I 332 j.toNat)) := rfl
theorem ldS_333 {g : GX} {I : MI} {j : Int} {F : Int → Prop} : ldS g I 333 j F = (0 ≤ j ∧ j < 24 ∧ F (I 333 j.toNat)) := rfl
theorem ldS_334 {g : GX} {I : MI} {j : Int} {F : Int → Prop} : ldS g I 334 j F = (0 ≤ j ∧ j < 4 ∧ F (I 334 j.toNat)) := rfl
theorem ldS_335 {g : GX} {I : MI} {j : Int} {F : Int → Prop} : ldS g I 335 j F = (0 ≤ j ∧ j < 56 ∧ F (I 335 j.toNat)) := rfl
theorem ldS_336 {g : GX} {I : MI} {j : Int} {F : Int → Prop} : ldS g I 336 j F = (0 ≤ j ∧ j < 4 ∧ F (I 336 j.toNat)) := rfl
theorem ldS_337 {g : GX} {I : MI} {j : Int} {F : Int → Prop} : ldS g I 337 j F = (0 ≤ j ∧ j < 768 ∧ F (I 337 j.toNat)) := rfl
theorem ldS_339 {g : GX} {I : MI} {j : Int} {F : Int → Prop} : ldS g I 339 j F = (0 ≤ j ∧ j < 96 ∧ F (I 339 j.toNat)) := rfl
theorem ldS_340 {g : GX} {I : MI} {j : Int} {F : Int → Prop} : ldS g I 340 j F = (0 ≤ j ∧ j < 96 ∧ F (I 340 j.toNat)) := rfl
theorem ldS_341 {g : GX} {I : MI} {j : Int} {F : Int → Prop} : ldS g I 341 j F = (0 ≤ j ∧ j < 96 ∧ F (I 341 j.toNat)) := rfl
theorem ldS_342 {g : GX} {I : MI} {j : Int} {F : Int → Prop} : ldS g I 342 j F = (0 ≤ j ∧ j < 24 ∧ F (I 342 j.toNat)) := rfl
theorem ldS_343 {g : GX} {I : MI} {j : Int} {F : Int → Prop} : ldS g I 343 j F = (0 ≤ j ∧ j < 9 ∧ F (I 343 j.toNat)) := rfl
theorem ldS_344 {g : GX} {I : MI} {j : Int} {F : Int → Prop} : ldS g I 344 j F = (0 ≤ j ∧ j < 24 ∧ F (I 344 j.toNat)) := rfl
theorem ldS_345 {g : GX} {I : MI} {j : Int} {F : Int → Prop} : ldS g I 345 j F = (0 ≤ j ∧ j < 175 ∧ F (I 345 j.toNat)) := rfl
theorem ldS_346 {g : GX} {I : MI} {j : Int} {F : Int → Prop} : ldS g I 346 j F = (0 ≤ j ∧ j < 6 ∧ F (I 346 j.toNat)) := rfl
theorem ldS_347 {g : GX} {I : MI} {j : Int} {F : Int → Prop} : ldS g I 347 j F = (0 ≤ j ∧ j < 17 ∧ F (I 347 j.toNat)) := rfl
theorem ldS_348 {g : GX} {I : MI} {j : Int} {F : Int → Prop} : ldS g I 348 j F = (0 ≤ j ∧ j < 64 ∧ F (I 348 j.toNat)) := rfl
theorem ldS_349 {g : GX} {I : MI} {j : Int} {F : Int → Prop} : ldS g I 349 j F = (0 ≤ j ∧ j < 64 ∧ F (I 349 j.toNat)) := rfl
theorem ldS_350 {g : GX} {I : MI} {j : Int} {F : Int → Prop} : ldS g I 350 j F = (0 ≤ j ∧ j < 64 ∧ F (I 350 j.toNat)) := rfl
theorem ldS_351 {g : GX} {I : MI} {j : Int} {F : Int → Prop} : ldS g I 351 j F = (0 ≤ j ∧ j < 17 ∧ F (I 351 j.toNat)) := rfl
theorem ldS_352 {g : GX} {I : MI} {j : Int} {F : Int → Prop} : ldS g I 352 j F = (0 ≤ j ∧ j < 17 ∧ F (I 352 j.toNat)) := rfl
theorem ldS_353 {g : GX} {I : MI} {j : Int} {F : Int → Prop} : ldS g I 353 j F = (0 ≤ j ∧ j < 11 ∧ F (I 353 j.toNat)) := rfl
theorem ldS_355 {g : GX} {I : MI} {j : Int} {F : Int → Prop} : ldS g I 355 j F = (0 ≤ j ∧ j < 6400 ∧ F (I 355 j.toNat)) := rfl
theorem ldS_356 {g : GX} {I : MI} {j : Int} {F : Int → Prop} : ldS g I 356 j F = (0 ≤ j ∧ j < 16 ∧ F (I 356 j.toNat)) := rfl
theorem ldS_2 {g : GX} {I : MI} {j : Int} {F : Int → Prop} : ldS g I 2 j F = (0 ≤ j ∧ j < 6 ∧ F (I 2 j.toNat)) := rfl
theorem ldS_3 {g : GX} {I : MI} {j : Int} {F : Int → Prop} : ldS g I 3 j F = (0 ≤ j ∧ j < 6 ∧ F (I 3 j.toNat)) := rfl
theorem ldS_4 {g : GX} {I : MI} {j : Int} {F : Int → Prop} : ldS g I 4 j F = (0 ≤ j ∧ j < 192 ∧ F (I 4 j.toNat)) := rfl
theorem ldS_7 {g : GX} {I : MI} {j : Int} {F : Int → Prop} : ldS g I 7 j F = (0 ≤ j ∧ j < 14 ∧ F (I 7 j.toNat)) := rfl
theorem ldS_8 {g : GX} {I : MI} {j : Int} {F : Int → Prop} : ldS g I 8 j F = (0 ≤ j ∧ j < 16 ∧ F (I 8 j.toNat)) := rfl
theorem ldS_9 {g : GX} {I : MI} {j : Int} {F : Int → Prop} : ldS g I 9 j F = (0 ≤ j ∧ j < 16 ∧ F (I 9 j.toNat)) := rfl
theorem ldS_10 {g : GX} {I : MI} {j : Int} {F : Int → Prop} : ldS g I 10 j F = (0 ≤ j ∧ j < 16 ∧ F (I 10 j.toNat)) := rfl
theorem ldS_11 {g : GX} {I : MI} {j : Int} {F : Int → Prop} : ldS g I 11 j F = (0 ≤ j ∧ j < 64 ∧ F (I 11 j.toNat)) := rfl
theorem ldS_12 {g : GX} {I : MI} {j : Int} {F : Int → Prop} : ldS g I 12 j F = (0 ≤ j ∧ j < 64 ∧ F (I 12 j.toNat)) := rfl
theorem ldS_13 {g : GX} {I : MI} {j : Int} {F : Int → Prop} : ldS g I 13 j F = (0 ≤ j ∧ j < 64 ∧ F (I 13 j.toNat)) := rfl
theorem ldS_14 {g : GX} {I : MI} {j : Int} {F : Int → Prop} : ldS g I 14 j F = (0 ≤ j ∧ j < 64 ∧ F (I 14 j.toNat)) := rfl
theorem ldS_66 {g : GX} {I : MI} {j : Int} {F : Int → Prop} : ldS g I 66 j F = (0 ≤ j ∧ j < 6 ∧ F (I 66 j.toNat)) := rfl
theorem ldS_67 {g : GX} {I : MI} {j : Int} {F : Int → Prop} : ldS g I 67 j F = (0 ≤ j ∧ j < 6 ∧ F (I 67 j.toNat)) := rfl
theorem ldS_68 {g : GX} {I : MI} {j : Int} {F : Int → Prop} : ldS g I 68 j F = (0 ≤ j ∧ j < 192 ∧ F (I 68 j.toNat)) := rfl
theorem ldS_71 {g : GX} {I : MI} {j : Int} {F : Int → Prop} : ldS g I 71 j F = (0 ≤ j ∧ j < 14 ∧ F (I 71 j.toNat)) := rfl
theorem ldS_72 {g : GX} {I : MI} {j : Int} {F : Int → Prop} : ldS g I 72 j F = (0 ≤ j ∧ j < 16 ∧ F (I 72 j.toNat)) := rfl
theorem ldS_73 {g : GX} {I : MI} {j : Int} {F : Int → Prop} : ldS g I 73 j F = (0 ≤ j ∧ j < 16 ∧ F (I 73 j.toNat)) := rfl
theorem ldS_74 {g : GX} {I : MI} {j : Int} {F : Int → Prop} : ldS g I 74 j F = (0 ≤ j ∧ j < 16 ∧ F (I 74 j.toNat)) := rfl
theorem ldS_75 {g : GX} {I : MI} {j : Int} {F : Int → Prop} : ldS g I 75 j F = (0 ≤ j ∧ j < 64 ∧ F (I 75 j.toNat)) := rfl
theorem ldS_76 {g : GX} {I : MI} {j : Int} {F : Int → Prop} : ldS g I 76 j F = (0 ≤ j ∧ j < 64 ∧ F (I 76 j.toNat)) := rfl
theorem ldS_77 {g : GX} {I : MI} {j : Int} {F : Int → Prop} : ldS g I 77 j F = (0 ≤ j ∧ j < 64 ∧ F (I 77 j.toNat)) := rfl
theorem ldS_78 {g : GX} {I : MI} {j : Int} {F : Int → Prop} : ldS g I 78 j F = (0 ≤ j ∧ j < 64 ∧ F (I 78 j.toNat)) := rfl
theorem ldS_130 {g : GX} {I : MI} {j : Int} {F : Int → Prop} : ldS g I 130 j F = (0 ≤ j ∧ j < 6 ∧ F (I 130 j.toNat)) := rfl
theorem ldS_131 {g : GX} {I : MI} {j : Int} {F : Int → Prop} : ldS g I 131 j F = (0 ≤ j ∧ j < 6 ∧ F (I 131 j.toNat)) := rfl
theorem ldS_132 {g : GX} {I : MI} {j : Int} {F : Int → Prop} : ldS g I 132 j F = (0 ≤ j ∧ j < 192 ∧ F (I 132 j.toNat)) := rfl
theorem ldS_135 {g : GX} {I : MI} {j : Int} {F : Int → Prop} : ldS g I 135 j F = (0 ≤ j ∧ j < 14 ∧ F (I 135 j.toNat)) := rfl
theorem ldS_136 {g : GX} {I : MI} {j : Int} {F : Int → Prop} : ldS g I 136 j F = (0 ≤ j ∧ j < 16 ∧ F (I 136 j.toNat)) := rfl
theorem ldS_137 {g : GX} {I : MI} {j : Int} {F : Int → Prop} : ldS g I 137 j F = (0 ≤ j ∧ j < 16 ∧ F (I 137 j.toNat)) := rfl
theorem ldS_138 {g : GX} {I : MI} {j : Int} {F : Int → Prop} : ldS g I 138 j F = (0 ≤ j ∧ j < 16 ∧ F (I 138 j.toNat)) := rfl
theorem ldS_139 {g : GX} {I : MI} {j : Int} {F : Int → Prop} : ldS g I 139 j F = (0 ≤ j ∧ j < 64 ∧ F (I 139 j.toNat)) := rfl
theorem ldS_140 {g : GX} {I : MI} {j : Int} {F : Int → Prop} : ldS g I 140 j F = (0 ≤ j ∧ j < 64 ∧ F (I 140 j.toNat)) := rfl
theorem ldS_141 {g : GX} {I : MI} {j : Int} {F : Int → Prop} : ldS g I 141 j F = (0 ≤ j ∧ j < 64 ∧ F (I 141 j.toNat)) := rfl
theorem ldS_142 {g : GX} {I : MI} {j : Int} {F : Int → Prop} : ldS g I 142 j F = (0 ≤ j ∧ j < 64 ∧ F (I 142 j.toNat)) := rfl
theorem ldS_194 {g : GX} {I : MI} {j : Int} {F : Int → Prop} : ldS g I 194 j F = (0 ≤ j ∧ j < 6 ∧ F (I 194 j.toNat)) := rfl
theorem ldS_195 {g : GX} {I : MI} {j : Int} {F : Int → Prop} : ldS g I 195 j F = (0 ≤ j ∧ j < 6 ∧ F (I 195 j.toNat)) := rfl
theorem ldS_196 {g : GX} {I : MI} {j : Int} {F : Int → Prop} : ldS g I 196 j F = (0 ≤ j ∧ j < 192 ∧ F (I 196 j.toNat)) := rfl
theorem ldS_199 {g : GX} {I : MI} {j : Int} {F : Int → Prop} : ldS g I 199 j F = (0 ≤ j ∧ j < 14 ∧ F (I 199 j.toNat)) := rfl
theorem ldS_200 {g : GX} {I : MI} {j : Int} {F : Int → Prop} : ldS g I 200 j F = (0 ≤ j ∧ j < 16 ∧ F (I 200 j.toNat)) := rfl
theorem ldS_201 {g : GX} {I : MI} {j : Int} {F : Int → Prop} : ldS g I 201 j F = (0 ≤ j ∧ j < 16 ∧ F (I 201 j.toNat)) := rfl
theorem ldS_202 {g : GX} {I : MI} {j : Int} {F : Int → Prop} : ldS g I 202 j F = (0 ≤ j ∧ j < 16 ∧ F (I 202 j.toNat)) := rfl
theorem ldS_203 {g : GX} {I : MI} {j : Int} {F : Int → Prop} : ldS g I 203 j F = (0 ≤ j ∧ j < 64 ∧ F (I 203 j.toNat)) := rfl
theorem ldS_204 {g : GX} {I : MI} {j : Int} {F : Int → Prop} : ldS g I 204 j F = (0 ≤ j ∧ j < 64 ∧ F (I 204 j.toNat)) := rfl
theorem ldS_205 {g : GX} {I : MI} {j : Int} {F : Int → Prop} : ldS g I 205 j F = (0 ≤ j ∧ j < 64 ∧ F (I 205 j.toNat)) := rfl
theorem ldS_206 {g : GX} {I : MI} {j : Int} {F : Int → Prop} : ldS g I 206 j F = (0 ≤ j ∧ j < 64 ∧ F (I 206 j.toNat)) := rfl
theorem stB_2 {n : Nat} {v j : Int} {F : Int → Prop} : stB (2, n) v j F = (0 ≤ j ∧ j < n ∧ F (w8 v)) := rfl
theorem stB_3 {n : Nat} {v j : Int} {F : Int → Prop} : stB (3, n) v j F = (0 ≤ j ∧ j < n ∧ F (v % 2)) := rfl
theorem upI_oc {I : MI} {o p j k : Nat} {v : Int} (h : o < 1000) : upI I o p v (cid j k) = I (cid j k) := upI_ne (by unfold cid; omega)
theorem upI_co {I : MI} {o p j k : Nat} {v : Int} (h : o < 1000) : upI I (cid j k) p v o = I o := upI_ne (by unfold cid; omega)
theorem sh_c {j k : Nat} : shp (cid j k) = (0, 1) := by
  unfold shp cid
  rw [if_neg (by omega), if_neg (by omega), if_neg (by omega)]
theorem rcvC_1 {o : Nat} {a : List AV} : rcv 1 (.inr (.inr (some o)) :: a) = (shp o = (0, 0)) := rfl
theorem rcvC_2 {o : Nat} {a : List AV} : rcv 2 (.inr (.inr (some o)) :: a) = (shp o = (0, 1)) := rfl
theorem rcvC_3 {o : Nat} {a : List AV} : rcv 3 (.inr (.inr (some o)) :: a) = (shp o = (0, 2)) := rfl
theorem rcvC_4 {o : Nat} {a : List AV} : rcv 4 (.inr (.inr (some o)) :: a) = (shp o = (0, 3)) := rfl
theorem rcvC_5 {o : Nat} {a : List AV} : rcv 5 (.inr (.inr (some o)) :: a) = (shp o = (0, 4)) := rfl
theorem rcvC_6 {o : Nat} {a : List AV} : rcv 6 (.inr (.inr (some o)) :: a) = (shp o = (0, 5)) := rfl
theorem rcvC_7 {o : Nat} {a : List AV} : rcv 7 (.inr (.inr (some o)) :: a) = (shp o = (0, 6)) := rfl
theorem rcvC_8 {o : Nat} {a : List AV} : rcv 8 (.inr (.inr (some o)) :: a) = (shp o = (0, 7)) := rfl
theorem rcvC_9 {o : Nat} {a : List AV} : rcv 9 (.inr (.inr (some o)) :: a) = (shp o = (0, 8)) := rfl
theorem rcvC_10 {o : Nat} {a : List AV} : rcv 10 (.inr (.inr (some o)) :: a) = (shp o = (0, 9)) := rfl
theorem rcvC_11 {o : Nat} {a : List AV} : rcv 11 (.inr (.inr (some o)) :: a) = (shp o = (0, 10)) := rfl
theorem rcvC_12 {o : Nat} {a : List AV} : rcv 12 (.inr (.inr (some o)) :: a) = (shp o = (0, 11)) := rfl
def nlg (a : Option AV) (P : Prop) : Prop := match a with
  | some (.inr (.inl _)) => False
  | _ => P
theorem nlg_n {P : Prop} : nlg none P = P := rfl
theorem nlg_i {P : Prop} {x : Int} : nlg (some (.inl x)) P = P := rfl
theorem nlg_r {P : Prop} {x : Option Nat} : nlg (some (.inr (.inr x))) P = P := rfl
theorem stl_def {l : LV} {i : Nat} {v : AV} {F : LV → Prop} : stl l i v F = (i < l.length ∧ nlg (nth l (i - 1)) (F (setl l i (some v)))) := rfl
theorem setl_0 {a v : Option AV} {l : LV} : setl (a :: l) 0 v = v :: l := rfl
theorem setl_s {a v : Option AV} {i : Nat} {l : LV} : setl (a :: l) (i + 1) v = a :: setl l i v := rfl
theorem nth_0 {a : Option AV} {l : LV} : nth (a :: l) 0 = a := rfl
theorem nth_s {a : Option AV} {i : Nat} {l : LV} : nth (a :: l) (i + 1) = nth l i := rfl
theorem stl_n {l : LV} {i : Nat} {v : AV} {F : LV → Prop} (h : nth l (i - 1) = none) : stl l i v F = (i < l.length ∧ F (setl l i (some v))) := by unfold stl; rw [h]
theorem stl_i {l : LV} {i : Nat} {x : Int} {v : AV} {F : LV → Prop} (h : nth l (i - 1) = some (.inl x)) : stl l i v F = (i < l.length ∧ F (setl l i (some v))) := by unfold stl; rw [h]
theorem stl_r {l : LV} {i : Nat} {x : Option Nat} {v : AV} {F : LV → Prop} (h : nth l (i - 1) = some (.inr (.inr x))) : stl l i v F = (i < l.length ∧ F (setl l i (some v))) := by unfold stl; rw [h]
theorem ex_I {a : Int} {F : Int → Prop} : (∃ v : Int, (some (.inl a) : Option AV) = some (.inl v) ∧ F v) = F a := propext ⟨fun ⟨v, h, k⟩ => by cases h; exact k, fun k => ⟨a, rfl, k⟩⟩
theorem ex_V {F : Prop} : ((none : Option AV) = none ∧ F) = F := propext ⟨fun h => h.2, fun h => ⟨rfl, h⟩⟩
section
variable {g : GX} {AT : Nat → KT} {CL : CLT} {Q : Option AV → MI → MR → Prop} {B : Nat → CD} {n pc : Nat} {k : CD} {ls : LV} {I : MI} {R : MR} {nx : List Nat}
theorem x_iret1 {v : Int} : xw g AT CL Q 1 B (n + 1) ((pc, .ireturn) :: k) ls [.inl v] I R nx = Q (some (.inl v)) I R := propext ⟨fun h => h.2, fun h => ⟨Or.inl rfl, h⟩⟩
theorem x_iret2 {v : Int} : xw g AT CL Q 2 B (n + 1) ((pc, .ireturn) :: k) ls [.inl v] I R nx = ((v = 0 ∨ v = 1) ∧ Q (some (.inl v)) I R) := propext ⟨fun h => ⟨h.1.elim (fun z => absurd z (by decide)) (fun z => z.2), h.2⟩, fun h => ⟨Or.inr ⟨rfl, h.1⟩, h.2⟩⟩
theorem x_ret0 : xw g AT CL Q 0 B (n + 1) ((pc, .return_) :: k) ls [] I R nx = Q none I R := propext ⟨fun h => h.2.2, fun h => ⟨rfl, rfl, h⟩⟩
end
/-- the bare wrap -/
theorem w32_id {x : Int} (h1 : -2147483648 ≤ x) (h2 : x < 2147483648) : w32 x = x := by rw [w32_eq]; exact i32_toInt ⟨h1, h2⟩
