/-! ===== where the cells lie: numbers 5 .. 346 are the class's, 347 .. 384 the reference's ===== -/
def shT : List (Nat × Nat) := [(0, 0), (4, 7), (4, 7), (4, 7), (0, 0), (29, 0), (26, 0), (2, 1600), (28, 0), (7, 6), (2, 10), (2, 10), (2, 10), (2, 10), (2, 10), (2, 10), (1, 6), (21, 0), (2, 10), (9, 2), (20, 0), (28, 0), (7, 40), (2, 10), (2, 10), (2, 10), (2, 10), (2, 10), (2, 10), (2, 10), (2, 10), (2, 10), (2, 10), (2, 10), (2, 10), (2, 10), (2, 10), (2, 10), (2, 10), (2, 10), (2, 10), (2, 10), (2, 10), (2, 10), (2, 10), (2, 10), (2, 10), (2, 10), (2, 10), (2, 10), (2, 10), (2, 10), (2, 10), (2, 10), (2, 10), (2, 10), (2, 10), (2, 10), (2, 10), (2, 10), (2, 10), (2, 10), (2, 10), (1, 40), (6, 20), (1, 10), (1, 10), (1, 10), (1, 10), (1, 10), (1, 10), (1, 10), (1, 10), (1, 10), (1, 10), (1, 10), (1, 10), (1, 10), (1, 10), (1, 10), (1, 10), (1, 10), (1, 10), (1, 10), (1, 10), (1, 20), (1, 20), (1, 20), (20, 0), (28, 0), (7, 40), (2, 10), (2, 10), (2, 10), (2, 10), (2, 10), (2, 10), (2, 10), (2, 10), (2, 10), (2, 10), (2, 10), (2, 10), (2, 10), (2, 10), (2, 10), (2, 10), (2, 10), (2, 10), (2, 10), (2, 10), (2, 10), (2, 10), (2, 10), (2, 10), (2, 10), (2, 10), (2, 10), (2, 10), (2, 10), (2, 10), (2, 10), (2, 10), (2, 10), (2, 10), (2, 10), (2, 10), (2, 10), (2, 10), (2, 10), (2, 10), (1, 40), (6, 20), (1, 10), (1, 10), (1, 10), (1, 10), (1, 10), (1, 10), (1, 10), (1, 10), (1, 10), (1, 10), (1, 10), (1, 10), (1, 10), (1, 10), (1, 10), (1, 10), (1, 10), (1, 10), (1, 10), (1, 10), (1, 20), (1, 20), (1, 20), (20, 0), (28, 0), (7, 40), (2, 10), (2, 10), (2, 10), (2, 10), (2, 10), (2, 10), (2, 10), (2, 10), (2, 10), (2, 10), (2, 10), (2, 10), (2, 10), (2, 10), (2, 10), (2, 10), (2, 10), (2, 10), (2, 10), (2, 10), (2, 10), (2, 10), (2, 10), (2, 10), (2, 10), (2, 10), (2, 10), (2, 10), (2, 10), (2, 10), (2, 10), (2, 10), (2, 10), (2, 10), (2, 10), (2, 10), (2, 10), (2, 10), (2, 10), (2, 10), (1, 40), (6, 20), (1, 10), (1, 10), (1, 10), (1, 10), (1, 10), (1, 10), (1, 10), (1, 10), (1, 10), (1, 10), (1, 10), (1, 10), (1, 10), (1, 10), (1, 10), (1, 10), (1, 10), (1, 10), (1, 10), (1, 10), (1, 20), (1, 20), (1, 20), (23, 0), (1, 20), (1, 20), (24, 0), (6, 40), (1, 41), (1, 41), (1, 41), (1, 41), (1, 41), (1, 41), (1, 41), (1, 41), (1, 41), (1, 41), (1, 41), (1, 41), (1, 41), (1, 41), (1, 41), (1, 41), (1, 41), (1, 41), (1, 41), (1, 41), (1, 41), (1, 41), (1, 41), (1, 41), (1, 41), (1, 41), (1, 41), (1, 41), (1, 41), (1, 41), (1, 41), (1, 41), (1, 41), (1, 41), (1, 41), (1, 41), (1, 41), (1, 41), (1, 41), (1, 41), (8, 40), (5, 41), (5, 41), (5, 41), (5, 41), (5, 41), (5, 41), (5, 41), (5, 41), (5, 41), (5, 41), (5, 41), (5, 41), (5, 41), (5, 41), (5, 41), (5, 41), (5, 41), (5, 41), (5, 41), (5, 41), (5, 41), (5, 41), (5, 41), (5, 41), (5, 41), (5, 41), (5, 41), (5, 41), (5, 41), (5, 41), (5, 41), (5, 41), (5, 41), (5, 41), (5, 41), (5, 41), (5, 41), (5, 41), (5, 41), (5, 41), (1, 40), (27, 0), (1, 21), (1, 21), (5, 40), (5, 20), (1, 3087), (1, 441), (1, 441), (1, 40), (1, 40), (1, 40), (1, 40), (22, 0), (1, 20), (1, 20), (1, 20), (1, 20), (1, 20), (1, 20), (10, 8), (25, 0), (1, 30), (25, 0), (1, 30), (25, 0), (1, 30), (25, 0), (1, 30), (25, 0), (1, 30), (25, 0), (1, 30), (25, 0), (1, 30), (25, 0), (1, 30), (30, 0), (1, 1600), (1, 60), (1, 6), (1, 2), (1, 40), (1, 400), (1, 40), (1, 2), (1, 2), (1, 80), (1, 800), (1, 20), (1, 20), (1, 40), (1, 1640), (1, 10), (1, 21), (1, 200), (1, 21), (1, 40), (1, 400), (1, 40), (1, 40), (1, 441), (1, 441), (1, 40), (1, 40), (1, 40), (5, 1640), (1, 20), (1, 20), (1, 20), (1, 20), (3, 400), (1, 8), (1, 8), (1, 240)]
def rfT : List (List Nat) := [[], [], [], [], [], [6, 8, 17, 19, 0, 224, 227, 311, 323, 330], [7], [], [0, 9, 16], [10, 11, 12, 13, 14, 15], [], [], [], [], [], [], [], [6, 8, 18], [], [], [21, 64, 85, 86, 87], [0, 22, 63], [23, 24, 25, 26, 27, 28, 29, 30, 31, 32, 33, 34, 35, 36, 37, 38, 39, 40, 41, 42, 43, 44, 45, 46, 47, 48, 49, 50, 51, 52, 53, 54, 55, 56, 57, 58, 59, 60, 61, 62], [], [], [], [], [], [], [], [], [], [], [], [], [], [], [], [], [], [], [], [], [], [], [], [], [], [], [], [], [], [], [], [], [], [], [], [], [], [], [], [], [], [65, 66, 67, 68, 69, 70, 71, 72, 73, 74, 75, 76, 77, 78, 79, 80, 81, 82, 83, 84], [], [], [], [], [], [], [], [], [], [], [], [], [], [], [], [], [], [], [], [], [], [], [], [89, 132, 153, 154, 155], [0, 90, 131], [91, 92, 93, 94, 95, 96, 97, 98, 99, 100, 101, 102, 103, 104, 105, 106, 107, 108, 109, 110, 111, 112, 113, 114, 115, 116, 117, 118, 119, 120, 121, 122, 123, 124, 125, 126, 127, 128, 129, 130], [], [], [], [], [], [], [], [], [], [], [], [], [], [], [], [], [], [], [], [], [], [], [], [], [], [], [], [], [], [], [], [], [], [], [], [], [], [], [], [], [], [133, 134, 135, 136, 137, 138, 139, 140, 141, 142, 143, 144, 145, 146, 147, 148, 149, 150, 151, 152], [], [], [], [], [], [], [], [], [], [], [], [], [], [], [], [], [], [], [], [], [], [], [], [157, 200, 221, 222, 223], [0, 158, 199], [159, 160, 161, 162, 163, 164, 165, 166, 167, 168, 169, 170, 171, 172, 173, 174, 175, 176, 177, 178, 179, 180, 181, 182, 183, 184, 185, 186, 187, 188, 189, 190, 191, 192, 193, 194, 195, 196, 197, 198], [], [], [], [], [], [], [], [], [], [], [], [], [], [], [], [], [], [], [], [], [], [], [], [], [], [], [], [], [], [], [], [], [], [], [], [], [], [], [], [], [], [201, 202, 203, 204, 205, 206, 207, 208, 209, 210, 211, 212, 213, 214, 215, 216, 217, 218, 219, 220], [], [], [], [], [], [], [], [], [], [], [], [], [], [], [], [], [], [], [], [], [], [], [], [225, 226], [], [], [228, 269, 310], [229, 230, 231, 232, 233, 234, 235, 236, 237, 238, 239, 240, 241, 242, 243, 244, 245, 246, 247, 248, 249, 250, 251, 252, 253, 254, 255, 256, 257, 258, 259, 260, 261, 262, 263, 264, 265, 266, 267, 268], [], [], [], [], [], [], [], [], [], [], [], [], [], [], [], [], [], [], [], [], [], [], [], [], [], [], [], [], [], [], [], [], [], [], [], [], [], [], [], [], [270, 271, 272, 273, 274, 275, 276, 277, 278, 279, 280, 281, 282, 283, 284, 285, 286, 287, 288, 289, 290, 291, 292, 293, 294, 295, 296, 297, 298, 299, 300, 301, 302, 303, 304, 305, 306, 307, 308, 309], [], [], [], [], [], [], [], [], [], [], [], [], [], [], [], [], [], [], [], [], [], [], [], [], [], [], [], [], [], [], [], [], [], [], [], [], [], [], [], [], [], [19, 224, 227, 0, 312, 313, 314, 315, 316, 317, 318, 0, 0, 319, 320, 321, 322], [], [], [], [], [], [], [], [], [], [], [], [19, 311, 227, 324, 325, 0, 0, 326, 327, 328, 329], [], [], [], [], [], [], [331, 333, 335, 337, 339, 341, 343, 345], [0, 0, 332], [], [0, 0, 334], [], [0, 0, 336], [], [0, 0, 338], [], [0, 0, 340], [], [0, 0, 342], [], [0, 0, 344], [], [0, 0, 346], [], [348, 0, 349, 350, 0, 351, 352, 353, 354, 355, 356, 357, 358, 359, 360, 0, 0, 361, 362, 0, 363, 0, 0, 364, 365, 366, 367, 368, 0, 0, 0, 0, 0, 369, 370, 0, 0, 371, 372, 0, 0, 0, 373, 374, 375, 0, 376, 377, 0, 378, 0, 379, 380, 381, 382, 383, 384], [], [], [], [], [], [], [], [], [], [], [], [], [], [], [], [], [], [], [], [], [], [], [], [], [], [], [], [], [], [], [], [], [], [], [], [], []]
/-- every cell has its shape, every reference that nobody changes its value -/
def Lay (L : Nat) (h : Hp) : Prop := (h.1 = 385 ∧ hs h 4 = (4, L) ∧ ∀ id z, id ≠ 4 → shT[id]? = some z → hs h id = z) ∧ (∀ id k r, (rfT.getD id []).getD k 0 = r → r ≠ 0 → hR h id k = r) ∧ (∀ a j, 1 ≤ a → a ≤ 3 → hI h a j = sdT a j)
theorem Lay.s {L : Nat} {h : Hp} (c : Lay L h) (id : Nat) {z : Nat × Nat} (h4 : id ≠ 4) (hz : shT[id]? = some z) : hs h id = z := c.1.2.2 id z h4 hz
theorem Lay.r {L : Nat} {h : Hp} (c : Lay L h) (id k : Nat) {r : Nat} (hz : (rfT.getD id []).getD k 0 = r) (h0 : r ≠ 0) : hR h id k = r := c.2.1 id k r hz h0
theorem Lay.t {L : Nat} {h : Hp} (c : Lay L h) (a j : Nat) (h1 : 1 ≤ a) (h2 : a ≤ 3) : hI h a j = sdT a j := c.2.2 a j h1 h2
theorem s_1 {L : Nat} {h : Hp} (c : Lay L h) : hs h 1 = (4, 7) := c.s 1 (by decide) rfl
theorem s_2 {L : Nat} {h : Hp} (c : Lay L h) : hs h 2 = (4, 7) := c.s 2 (by decide) rfl
theorem s_3 {L : Nat} {h : Hp} (c : Lay L h) : hs h 3 = (4, 7) := c.s 3 (by decide) rfl
theorem s_5 {L : Nat} {h : Hp} (c : Lay L h) : hs h 5 = (29, 0) := c.s 5 (by decide) rfl
theorem s_6 {L : Nat} {h : Hp} (c : Lay L h) : hs h 6 = (26, 0) := c.s 6 (by decide) rfl
theorem s_7 {L : Nat} {h : Hp} (c : Lay L h) : hs h 7 = (2, 1600) := c.s 7 (by decide) rfl
theorem s_8 {L : Nat} {h : Hp} (c : Lay L h) : hs h 8 = (28, 0) := c.s 8 (by decide) rfl
theorem s_9 {L : Nat} {h : Hp} (c : Lay L h) : hs h 9 = (7, 6) := c.s 9 (by decide) rfl
theorem s_16 {L : Nat} {h : Hp} (c : Lay L h) : hs h 16 = (1, 6) := c.s 16 (by decide) rfl
theorem s_17 {L : Nat} {h : Hp} (c : Lay L h) : hs h 17 = (21, 0) := c.s 17 (by decide) rfl
theorem s_18 {L : Nat} {h : Hp} (c : Lay L h) : hs h 18 = (2, 10) := c.s 18 (by decide) rfl
theorem s_19 {L : Nat} {h : Hp} (c : Lay L h) : hs h 19 = (9, 2) := c.s 19 (by decide) rfl
theorem s_224 {L : Nat} {h : Hp} (c : Lay L h) : hs h 224 = (23, 0) := c.s 224 (by decide) rfl
theorem s_225 {L : Nat} {h : Hp} (c : Lay L h) : hs h 225 = (1, 20) := c.s 225 (by decide) rfl
theorem s_226 {L : Nat} {h : Hp} (c : Lay L h) : hs h 226 = (1, 20) := c.s 226 (by decide) rfl
theorem s_227 {L : Nat} {h : Hp} (c : Lay L h) : hs h 227 = (24, 0) := c.s 227 (by decide) rfl
theorem s_228 {L : Nat} {h : Hp} (c : Lay L h) : hs h 228 = (6, 40) := c.s 228 (by decide) rfl
theorem s_269 {L : Nat} {h : Hp} (c : Lay L h) : hs h 269 = (8, 40) := c.s 269 (by decide) rfl
theorem s_310 {L : Nat} {h : Hp} (c : Lay L h) : hs h 310 = (1, 40) := c.s 310 (by decide) rfl
theorem s_311 {L : Nat} {h : Hp} (c : Lay L h) : hs h 311 = (27, 0) := c.s 311 (by decide) rfl
theorem s_312 {L : Nat} {h : Hp} (c : Lay L h) : hs h 312 = (1, 21) := c.s 312 (by decide) rfl
theorem s_313 {L : Nat} {h : Hp} (c : Lay L h) : hs h 313 = (1, 21) := c.s 313 (by decide) rfl
theorem s_314 {L : Nat} {h : Hp} (c : Lay L h) : hs h 314 = (5, 40) := c.s 314 (by decide) rfl
theorem s_315 {L : Nat} {h : Hp} (c : Lay L h) : hs h 315 = (5, 20) := c.s 315 (by decide) rfl
theorem s_316 {L : Nat} {h : Hp} (c : Lay L h) : hs h 316 = (1, 3087) := c.s 316 (by decide) rfl
theorem s_317 {L : Nat} {h : Hp} (c : Lay L h) : hs h 317 = (1, 441) := c.s 317 (by decide) rfl
theorem s_318 {L : Nat} {h : Hp} (c : Lay L h) : hs h 318 = (1, 441) := c.s 318 (by decide) rfl
theorem s_319 {L : Nat} {h : Hp} (c : Lay L h) : hs h 319 = (1, 40) := c.s 319 (by decide) rfl
theorem s_320 {L : Nat} {h : Hp} (c : Lay L h) : hs h 320 = (1, 40) := c.s 320 (by decide) rfl
theorem s_321 {L : Nat} {h : Hp} (c : Lay L h) : hs h 321 = (1, 40) := c.s 321 (by decide) rfl
theorem s_322 {L : Nat} {h : Hp} (c : Lay L h) : hs h 322 = (1, 40) := c.s 322 (by decide) rfl
theorem s_323 {L : Nat} {h : Hp} (c : Lay L h) : hs h 323 = (22, 0) := c.s 323 (by decide) rfl
theorem s_324 {L : Nat} {h : Hp} (c : Lay L h) : hs h 324 = (1, 20) := c.s 324 (by decide) rfl
theorem s_325 {L : Nat} {h : Hp} (c : Lay L h) : hs h 325 = (1, 20) := c.s 325 (by decide) rfl
theorem s_326 {L : Nat} {h : Hp} (c : Lay L h) : hs h 326 = (1, 20) := c.s 326 (by decide) rfl
theorem s_327 {L : Nat} {h : Hp} (c : Lay L h) : hs h 327 = (1, 20) := c.s 327 (by decide) rfl
theorem s_328 {L : Nat} {h : Hp} (c : Lay L h) : hs h 328 = (1, 20) := c.s 328 (by decide) rfl
theorem s_329 {L : Nat} {h : Hp} (c : Lay L h) : hs h 329 = (1, 20) := c.s 329 (by decide) rfl
theorem s_330 {L : Nat} {h : Hp} (c : Lay L h) : hs h 330 = (10, 8) := c.s 330 (by decide) rfl
theorem s_347 {L : Nat} {h : Hp} (c : Lay L h) : hs h 347 = (30, 0) := c.s 347 (by decide) rfl
theorem s_348 {L : Nat} {h : Hp} (c : Lay L h) : hs h 348 = (1, 1600) := c.s 348 (by decide) rfl
theorem s_349 {L : Nat} {h : Hp} (c : Lay L h) : hs h 349 = (1, 60) := c.s 349 (by decide) rfl
theorem s_350 {L : Nat} {h : Hp} (c : Lay L h) : hs h 350 = (1, 6) := c.s 350 (by decide) rfl
theorem s_351 {L : Nat} {h : Hp} (c : Lay L h) : hs h 351 = (1, 2) := c.s 351 (by decide) rfl
theorem s_352 {L : Nat} {h : Hp} (c : Lay L h) : hs h 352 = (1, 40) := c.s 352 (by decide) rfl
theorem s_353 {L : Nat} {h : Hp} (c : Lay L h) : hs h 353 = (1, 400) := c.s 353 (by decide) rfl
theorem s_354 {L : Nat} {h : Hp} (c : Lay L h) : hs h 354 = (1, 40) := c.s 354 (by decide) rfl
theorem s_355 {L : Nat} {h : Hp} (c : Lay L h) : hs h 355 = (1, 2) := c.s 355 (by decide) rfl
theorem s_356 {L : Nat} {h : Hp} (c : Lay L h) : hs h 356 = (1, 2) := c.s 356 (by decide) rfl
theorem s_357 {L : Nat} {h : Hp} (c : Lay L h) : hs h 357 = (1, 80) := c.s 357 (by decide) rfl
theorem s_358 {L : Nat} {h : Hp} (c : Lay L h) : hs h 358 = (1, 800) := c.s 358 (by decide) rfl
theorem s_359 {L : Nat} {h : Hp} (c : Lay L h) : hs h 359 = (1, 20) := c.s 359 (by decide) rfl
theorem s_360 {L : Nat} {h : Hp} (c : Lay L h) : hs h 360 = (1, 20) := c.s 360 (by decide) rfl
theorem s_361 {L : Nat} {h : Hp} (c : Lay L h) : hs h 361 = (1, 40) := c.s 361 (by decide) rfl
theorem s_362 {L : Nat} {h : Hp} (c : Lay L h) : hs h 362 = (1, 1640) := c.s 362 (by decide) rfl
theorem s_363 {L : Nat} {h : Hp} (c : Lay L h) : hs h 363 = (1, 10) := c.s 363 (by decide) rfl
theorem s_364 {L : Nat} {h : Hp} (c : Lay L h) : hs h 364 = (1, 21) := c.s 364 (by decide) rfl
theorem s_365 {L : Nat} {h : Hp} (c : Lay L h) : hs h 365 = (1, 200) := c.s 365 (by decide) rfl
theorem s_366 {L : Nat} {h : Hp} (c : Lay L h) : hs h 366 = (1, 21) := c.s 366 (by decide) rfl
theorem s_367 {L : Nat} {h : Hp} (c : Lay L h) : hs h 367 = (1, 40) := c.s 367 (by decide) rfl
theorem s_368 {L : Nat} {h : Hp} (c : Lay L h) : hs h 368 = (1, 400) := c.s 368 (by decide) rfl
theorem s_369 {L : Nat} {h : Hp} (c : Lay L h) : hs h 369 = (1, 40) := c.s 369 (by decide) rfl
theorem s_370 {L : Nat} {h : Hp} (c : Lay L h) : hs h 370 = (1, 40) := c.s 370 (by decide) rfl
theorem s_371 {L : Nat} {h : Hp} (c : Lay L h) : hs h 371 = (1, 441) := c.s 371 (by decide) rfl
theorem s_372 {L : Nat} {h : Hp} (c : Lay L h) : hs h 372 = (1, 441) := c.s 372 (by decide) rfl
theorem s_373 {L : Nat} {h : Hp} (c : Lay L h) : hs h 373 = (1, 40) := c.s 373 (by decide) rfl
theorem s_374 {L : Nat} {h : Hp} (c : Lay L h) : hs h 374 = (1, 40) := c.s 374 (by decide) rfl
theorem s_375 {L : Nat} {h : Hp} (c : Lay L h) : hs h 375 = (1, 40) := c.s 375 (by decide) rfl
theorem s_376 {L : Nat} {h : Hp} (c : Lay L h) : hs h 376 = (5, 1640) := c.s 376 (by decide) rfl
theorem s_377 {L : Nat} {h : Hp} (c : Lay L h) : hs h 377 = (1, 20) := c.s 377 (by decide) rfl
theorem s_378 {L : Nat} {h : Hp} (c : Lay L h) : hs h 378 = (1, 20) := c.s 378 (by decide) rfl
theorem s_379 {L : Nat} {h : Hp} (c : Lay L h) : hs h 379 = (1, 20) := c.s 379 (by decide) rfl
theorem s_380 {L : Nat} {h : Hp} (c : Lay L h) : hs h 380 = (1, 20) := c.s 380 (by decide) rfl
theorem s_381 {L : Nat} {h : Hp} (c : Lay L h) : hs h 381 = (3, 400) := c.s 381 (by decide) rfl
theorem s_382 {L : Nat} {h : Hp} (c : Lay L h) : hs h 382 = (1, 8) := c.s 382 (by decide) rfl
theorem s_383 {L : Nat} {h : Hp} (c : Lay L h) : hs h 383 = (1, 8) := c.s 383 (by decide) rfl
theorem s_384 {L : Nat} {h : Hp} (c : Lay L h) : hs h 384 = (1, 240) := c.s 384 (by decide) rfl
theorem r_5_0 {L : Nat} {h : Hp} (c : Lay L h) : hR h 5 0 = 6 := c.r 5 0 rfl (by decide)
theorem r_5_1 {L : Nat} {h : Hp} (c : Lay L h) : hR h 5 1 = 8 := c.r 5 1 rfl (by decide)
theorem r_5_2 {L : Nat} {h : Hp} (c : Lay L h) : hR h 5 2 = 17 := c.r 5 2 rfl (by decide)
theorem r_5_3 {L : Nat} {h : Hp} (c : Lay L h) : hR h 5 3 = 19 := c.r 5 3 rfl (by decide)
theorem r_5_5 {L : Nat} {h : Hp} (c : Lay L h) : hR h 5 5 = 224 := c.r 5 5 rfl (by decide)
theorem r_5_6 {L : Nat} {h : Hp} (c : Lay L h) : hR h 5 6 = 227 := c.r 5 6 rfl (by decide)
theorem r_5_7 {L : Nat} {h : Hp} (c : Lay L h) : hR h 5 7 = 311 := c.r 5 7 rfl (by decide)
theorem r_5_8 {L : Nat} {h : Hp} (c : Lay L h) : hR h 5 8 = 323 := c.r 5 8 rfl (by decide)
theorem r_5_9 {L : Nat} {h : Hp} (c : Lay L h) : hR h 5 9 = 330 := c.r 5 9 rfl (by decide)
theorem r_6_0 {L : Nat} {h : Hp} (c : Lay L h) : hR h 6 0 = 7 := c.r 6 0 rfl (by decide)
theorem r_8_1 {L : Nat} {h : Hp} (c : Lay L h) : hR h 8 1 = 9 := c.r 8 1 rfl (by decide)
theorem r_8_2 {L : Nat} {h : Hp} (c : Lay L h) : hR h 8 2 = 16 := c.r 8 2 rfl (by decide)
theorem r_17_0 {L : Nat} {h : Hp} (c : Lay L h) : hR h 17 0 = 6 := c.r 17 0 rfl (by decide)
theorem r_17_1 {L : Nat} {h : Hp} (c : Lay L h) : hR h 17 1 = 8 := c.r 17 1 rfl (by decide)
theorem r_17_2 {L : Nat} {h : Hp} (c : Lay L h) : hR h 17 2 = 18 := c.r 17 2 rfl (by decide)
theorem r_224_0 {L : Nat} {h : Hp} (c : Lay L h) : hR h 224 0 = 225 := c.r 224 0 rfl (by decide)
theorem r_224_1 {L : Nat} {h : Hp} (c : Lay L h) : hR h 224 1 = 226 := c.r 224 1 rfl (by decide)
theorem r_227_0 {L : Nat} {h : Hp} (c : Lay L h) : hR h 227 0 = 228 := c.r 227 0 rfl (by decide)
theorem r_227_1 {L : Nat} {h : Hp} (c : Lay L h) : hR h 227 1 = 269 := c.r 227 1 rfl (by decide)
theorem r_227_2 {L : Nat} {h : Hp} (c : Lay L h) : hR h 227 2 = 310 := c.r 227 2 rfl (by decide)
theorem r_311_0 {L : Nat} {h : Hp} (c : Lay L h) : hR h 311 0 = 19 := c.r 311 0 rfl (by decide)
theorem r_311_1 {L : Nat} {h : Hp} (c : Lay L h) : hR h 311 1 = 224 := c.r 311 1 rfl (by decide)
theorem r_311_2 {L : Nat} {h : Hp} (c : Lay L h) : hR h 311 2 = 227 := c.r 311 2 rfl (by decide)
theorem r_311_4 {L : Nat} {h : Hp} (c : Lay L h) : hR h 311 4 = 312 := c.r 311 4 rfl (by decide)
theorem r_311_5 {L : Nat} {h : Hp} (c : Lay L h) : hR h 311 5 = 313 := c.r 311 5 rfl (by decide)
theorem r_311_6 {L : Nat} {h : Hp} (c : Lay L h) : hR h 311 6 = 314 := c.r 311 6 rfl (by decide)
theorem r_311_7 {L : Nat} {h : Hp} (c : Lay L h) : hR h 311 7 = 315 := c.r 311 7 rfl (by decide)
theorem r_311_8 {L : Nat} {h : Hp} (c : Lay L h) : hR h 311 8 = 316 := c.r 311 8 rfl (by decide)
theorem r_311_9 {L : Nat} {h : Hp} (c : Lay L h) : hR h 311 9 = 317 := c.r 311 9 rfl (by decide)
theorem r_311_10 {L : Nat} {h : Hp} (c : Lay L h) : hR h 311 10 = 318 := c.r 311 10 rfl (by decide)
theorem r_311_13 {L : Nat} {h : Hp} (c : Lay L h) : hR h 311 13 = 319 := c.r 311 13 rfl (by decide)
theorem r_311_14 {L : Nat} {h : Hp} (c : Lay L h) : hR h 311 14 = 320 := c.r 311 14 rfl (by decide)
theorem r_311_15 {L : Nat} {h : Hp} (c : Lay L h) : hR h 311 15 = 321 := c.r 311 15 rfl (by decide)
theorem r_311_16 {L : Nat} {h : Hp} (c : Lay L h) : hR h 311 16 = 322 := c.r 311 16 rfl (by decide)
theorem r_323_0 {L : Nat} {h : Hp} (c : Lay L h) : hR h 323 0 = 19 := c.r 323 0 rfl (by decide)
theorem r_323_1 {L : Nat} {h : Hp} (c : Lay L h) : hR h 323 1 = 311 := c.r 323 1 rfl (by decide)
theorem r_323_2 {L : Nat} {h : Hp} (c : Lay L h) : hR h 323 2 = 227 := c.r 323 2 rfl (by decide)
theorem r_323_3 {L : Nat} {h : Hp} (c : Lay L h) : hR h 323 3 = 324 := c.r 323 3 rfl (by decide)
theorem r_323_4 {L : Nat} {h : Hp} (c : Lay L h) : hR h 323 4 = 325 := c.r 323 4 rfl (by decide)
theorem r_323_7 {L : Nat} {h : Hp} (c : Lay L h) : hR h 323 7 = 326 := c.r 323 7 rfl (by decide)
theorem r_323_8 {L : Nat} {h : Hp} (c : Lay L h) : hR h 323 8 = 327 := c.r 323 8 rfl (by decide)
theorem r_323_9 {L : Nat} {h : Hp} (c : Lay L h) : hR h 323 9 = 328 := c.r 323 9 rfl (by decide)
theorem r_323_10 {L : Nat} {h : Hp} (c : Lay L h) : hR h 323 10 = 329 := c.r 323 10 rfl (by decide)
theorem r_347_0 {L : Nat} {h : Hp} (c : Lay L h) : hR h 347 0 = 348 := c.r 347 0 rfl (by decide)
theorem r_347_2 {L : Nat} {h : Hp} (c : Lay L h) : hR h 347 2 = 349 := c.r 347 2 rfl (by decide)
theorem r_347_3 {L : Nat} {h : Hp} (c : Lay L h) : hR h 347 3 = 350 := c.r 347 3 rfl (by decide)
theorem r_347_5 {L : Nat} {h : Hp} (c : Lay L h) : hR h 347 5 = 351 := c.r 347 5 rfl (by decide)
theorem r_347_6 {L : Nat} {h : Hp} (c : Lay L h) : hR h 347 6 = 352 := c.r 347 6 rfl (by decide)
theorem r_347_7 {L : Nat} {h : Hp} (c : Lay L h) : hR h 347 7 = 353 := c.r 347 7 rfl (by decide)
theorem r_347_8 {L : Nat} {h : Hp} (c : Lay L h) : hR h 347 8 = 354 := c.r 347 8 rfl (by decide)
theorem r_347_9 {L : Nat} {h : Hp} (c : Lay L h) : hR h 347 9 = 355 := c.r 347 9 rfl (by decide)
theorem r_347_10 {L : Nat} {h : Hp} (c : Lay L h) : hR h 347 10 = 356 := c.r 347 10 rfl (by decide)
theorem r_347_11 {L : Nat} {h : Hp} (c : Lay L h) : hR h 347 11 = 357 := c.r 347 11 rfl (by decide)
theorem r_347_12 {L : Nat} {h : Hp} (c : Lay L h) : hR h 347 12 = 358 := c.r 347 12 rfl (by decide)
theorem r_347_13 {L : Nat} {h : Hp} (c : Lay L h) : hR h 347 13 = 359 := c.r 347 13 rfl (by decide)
theorem r_347_14 {L : Nat} {h : Hp} (c : Lay L h) : hR h 347 14 = 360 := c.r 347 14 rfl (by decide)
theorem r_347_17 {L : Nat} {h : Hp} (c : Lay L h) : hR h 347 17 = 361 := c.r 347 17 rfl (by decide)
theorem r_347_18 {L : Nat} {h : Hp} (c : Lay L h) : hR h 347 18 = 362 := c.r 347 18 rfl (by decide)
theorem r_347_20 {L : Nat} {h : Hp} (c : Lay L h) : hR h 347 20 = 363 := c.r 347 20 rfl (by decide)
theorem r_347_23 {L : Nat} {h : Hp} (c : Lay L h) : hR h 347 23 = 364 := c.r 347 23 rfl (by decide)
theorem r_347_24 {L : Nat} {h : Hp} (c : Lay L h) : hR h 347 24 = 365 := c.r 347 24 rfl (by decide)
theorem r_347_25 {L : Nat} {h : Hp} (c : Lay L h) : hR h 347 25 = 366 := c.r 347 25 rfl (by decide)
theorem r_347_26 {L : Nat} {h : Hp} (c : Lay L h) : hR h 347 26 = 367 := c.r 347 26 rfl (by decide)
theorem r_347_27 {L : Nat} {h : Hp} (c : Lay L h) : hR h 347 27 = 368 := c.r 347 27 rfl (by decide)
theorem r_347_33 {L : Nat} {h : Hp} (c : Lay L h) : hR h 347 33 = 369 := c.r 347 33 rfl (by decide)
theorem r_347_34 {L : Nat} {h : Hp} (c : Lay L h) : hR h 347 34 = 370 := c.r 347 34 rfl (by decide)
theorem r_347_37 {L : Nat} {h : Hp} (c : Lay L h) : hR h 347 37 = 371 := c.r 347 37 rfl (by decide)
theorem r_347_38 {L : Nat} {h : Hp} (c : Lay L h) : hR h 347 38 = 372 := c.r 347 38 rfl (by decide)
theorem r_347_42 {L : Nat} {h : Hp} (c : Lay L h) : hR h 347 42 = 373 := c.r 347 42 rfl (by decide)
theorem r_347_43 {L : Nat} {h : Hp} (c : Lay L h) : hR h 347 43 = 374 := c.r 347 43 rfl (by decide)
theorem r_347_44 {L : Nat} {h : Hp} (c : Lay L h) : hR h 347 44 = 375 := c.r 347 44 rfl (by decide)
theorem r_347_46 {L : Nat} {h : Hp} (c : Lay L h) : hR h 347 46 = 376 := c.r 347 46 rfl (by decide)
theorem r_347_47 {L : Nat} {h : Hp} (c : Lay L h) : hR h 347 47 = 377 := c.r 347 47 rfl (by decide)
theorem r_347_49 {L : Nat} {h : Hp} (c : Lay L h) : hR h 347 49 = 378 := c.r 347 49 rfl (by decide)
theorem r_347_51 {L : Nat} {h : Hp} (c : Lay L h) : hR h 347 51 = 379 := c.r 347 51 rfl (by decide)
theorem r_347_52 {L : Nat} {h : Hp} (c : Lay L h) : hR h 347 52 = 380 := c.r 347 52 rfl (by decide)
theorem r_347_53 {L : Nat} {h : Hp} (c : Lay L h) : hR h 347 53 = 381 := c.r 347 53 rfl (by decide)
theorem r_347_54 {L : Nat} {h : Hp} (c : Lay L h) : hR h 347 54 = 382 := c.r 347 54 rfl (by decide)
theorem r_347_55 {L : Nat} {h : Hp} (c : Lay L h) : hR h 347 55 = 383 := c.r 347 55 rfl (by decide)
theorem r_347_56 {L : Nat} {h : Hp} (c : Lay L h) : hR h 347 56 = 384 := c.r 347 56 rfl (by decide)
theorem s_slot {L : Nat} {h : Hp} (c : Lay L h) {s : Nat} (hs8 : s < 8) : hs h (331 + 2 * s) = (25, 0) := c.s _ (by omega) (by
  have : ∀ s, s < 8 → shT[331 + 2 * s]? = some (25, 0) := by decide +kernel
  exact this s hs8)
theorem s_cells {L : Nat} {h : Hp} (c : Lay L h) {s : Nat} (hs8 : s < 8) : hs h (332 + 2 * s) = (1, 30) := c.s _ (by omega) (by
  have : ∀ s, s < 8 → shT[332 + 2 * s]? = some (1, 30) := by decide +kernel
  exact this s hs8)
theorem r_desk {L : Nat} {h : Hp} (c : Lay L h) {s : Nat} (hs8 : s < 8) : hR h 330 s = 331 + 2 * s := c.r _ _ (by
  have : ∀ s, s < 8 → (rfT.getD 330 []).getD s 0 = 331 + 2 * s := by decide +kernel
  exact this s hs8) (by omega)
theorem r_cells {L : Nat} {h : Hp} (c : Lay L h) {s : Nat} (hs8 : s < 8) : hR h (331 + 2 * s) 2 = 332 + 2 * s := c.r _ _ (by
  have : ∀ s, s < 8 → (rfT.getD (331 + 2 * s) []).getD 2 0 = 332 + 2 * s := by decide +kernel
  exact this s hs8) (by omega)
/-- a book's own cells, by the number of its object -/
def isBk (b : Nat) : Prop := b = 20 ∨ b = 88 ∨ b = 156
theorem sb_0 {L : Nat} {h : Hp} (c : Lay L h) {b : Nat} (hb : isBk b) : hs h (b + 0) = (20, 0) := by
  rcases hb with rfl | rfl | rfl <;> exact c.s _ (by decide) rfl
theorem sb_1 {L : Nat} {h : Hp} (c : Lay L h) {b : Nat} (hb : isBk b) : hs h (b + 1) = (28, 0) := by
  rcases hb with rfl | rfl | rfl <;> exact c.s _ (by decide) rfl
theorem sb_2 {L : Nat} {h : Hp} (c : Lay L h) {b : Nat} (hb : isBk b) : hs h (b + 2) = (7, 40) := by
  rcases hb with rfl | rfl | rfl <;> exact c.s _ (by decide) rfl
theorem sb_43 {L : Nat} {h : Hp} (c : Lay L h) {b : Nat} (hb : isBk b) : hs h (b + 43) = (1, 40) := by
  rcases hb with rfl | rfl | rfl <;> exact c.s _ (by decide) rfl
theorem sb_44 {L : Nat} {h : Hp} (c : Lay L h) {b : Nat} (hb : isBk b) : hs h (b + 44) = (6, 20) := by
  rcases hb with rfl | rfl | rfl <;> exact c.s _ (by decide) rfl
theorem sb_65 {L : Nat} {h : Hp} (c : Lay L h) {b : Nat} (hb : isBk b) : hs h (b + 65) = (1, 20) := by
  rcases hb with rfl | rfl | rfl <;> exact c.s _ (by decide) rfl
theorem sb_66 {L : Nat} {h : Hp} (c : Lay L h) {b : Nat} (hb : isBk b) : hs h (b + 66) = (1, 20) := by
  rcases hb with rfl | rfl | rfl <;> exact c.s _ (by decide) rfl
theorem sb_67 {L : Nat} {h : Hp} (c : Lay L h) {b : Nat} (hb : isBk b) : hs h (b + 67) = (1, 20) := by
  rcases hb with rfl | rfl | rfl <;> exact c.s _ (by decide) rfl
theorem sb_this {L : Nat} {h : Hp} (c : Lay L h) {b : Nat} (hb : isBk b) : hs h b = (20, 0) := sb_0 c hb
theorem rb_0_0 {L : Nat} {h : Hp} (c : Lay L h) {b : Nat} (hb : isBk b) : hR h (b + 0) 0 = b + 1 := by
  rcases hb with rfl | rfl | rfl <;> exact c.r _ _ rfl (by decide)
theorem rb_0_1 {L : Nat} {h : Hp} (c : Lay L h) {b : Nat} (hb : isBk b) : hR h (b + 0) 1 = b + 44 := by
  rcases hb with rfl | rfl | rfl <;> exact c.r _ _ rfl (by decide)
theorem rb_0_2 {L : Nat} {h : Hp} (c : Lay L h) {b : Nat} (hb : isBk b) : hR h (b + 0) 2 = b + 65 := by
  rcases hb with rfl | rfl | rfl <;> exact c.r _ _ rfl (by decide)
theorem rb_0_3 {L : Nat} {h : Hp} (c : Lay L h) {b : Nat} (hb : isBk b) : hR h (b + 0) 3 = b + 66 := by
  rcases hb with rfl | rfl | rfl <;> exact c.r _ _ rfl (by decide)
theorem rb_0_4 {L : Nat} {h : Hp} (c : Lay L h) {b : Nat} (hb : isBk b) : hR h (b + 0) 4 = b + 67 := by
  rcases hb with rfl | rfl | rfl <;> exact c.r _ _ rfl (by decide)
theorem rb_1_1 {L : Nat} {h : Hp} (c : Lay L h) {b : Nat} (hb : isBk b) : hR h (b + 1) 1 = b + 2 := by
  rcases hb with rfl | rfl | rfl <;> exact c.r _ _ rfl (by decide)
theorem rb_1_2 {L : Nat} {h : Hp} (c : Lay L h) {b : Nat} (hb : isBk b) : hR h (b + 1) 2 = b + 43 := by
  rcases hb with rfl | rfl | rfl <;> exact c.r _ _ rfl (by decide)
theorem sb_kl {L : Nat} {h : Hp} (c : Lay L h) {b i : Nat} (hb : isBk b) (hi : i < 40) : hs h (b + 3 + i) = (2, 10) := by
  have h1 : ∀ i, i < 40 → shT[20 + 3 + i]? = some (2, 10) ∧ shT[88 + 3 + i]? = some (2, 10) ∧ shT[156 + 3 + i]? = some (2, 10) := by decide +kernel
  rcases hb with rfl | rfl | rfl
  · exact c.s _ (by omega) (h1 i hi).1
  · exact c.s _ (by omega) (h1 i hi).2.1
  · exact c.s _ (by omega) (h1 i hi).2.2
theorem rb_kl {L : Nat} {h : Hp} (c : Lay L h) {b i : Nat} (hb : isBk b) (hi : i < 40) : hR h (b + 2) i = b + 3 + i := by
  have h1 : ∀ i, i < 40 → (rfT.getD (20 + 2) []).getD i 0 = 20 + 3 + i ∧ (rfT.getD (88 + 2) []).getD i 0 = 88 + 3 + i ∧ (rfT.getD (156 + 2) []).getD i 0 = 156 + 3 + i := by decide +kernel
  rcases hb with rfl | rfl | rfl
  · exact c.r _ _ (h1 i hi).1 (by omega)
  · exact c.r _ _ (h1 i hi).2.1 (by omega)
  · exact c.r _ _ (h1 i hi).2.2 (by omega)
theorem sb_wd {L : Nat} {h : Hp} (c : Lay L h) {b i : Nat} (hb : isBk b) (hi : i < 20) : hs h (b + 45 + i) = (1, 10) := by
  have h1 : ∀ i, i < 20 → shT[20 + 45 + i]? = some (1, 10) ∧ shT[88 + 45 + i]? = some (1, 10) ∧ shT[156 + 45 + i]? = some (1, 10) := by decide +kernel
  rcases hb with rfl | rfl | rfl
  · exact c.s _ (by omega) (h1 i hi).1
  · exact c.s _ (by omega) (h1 i hi).2.1
  · exact c.s _ (by omega) (h1 i hi).2.2
theorem rb_wd {L : Nat} {h : Hp} (c : Lay L h) {b i : Nat} (hb : isBk b) (hi : i < 20) : hR h (b + 44) i = b + 45 + i := by
  have h1 : ∀ i, i < 20 → (rfT.getD (20 + 44) []).getD i 0 = 20 + 45 + i ∧ (rfT.getD (88 + 44) []).getD i 0 = 88 + 45 + i ∧ (rfT.getD (156 + 44) []).getD i 0 = 156 + 45 + i := by decide +kernel
  rcases hb with rfl | rfl | rfl
  · exact c.r _ _ (h1 i hi).1 (by omega)
  · exact c.r _ _ (h1 i hi).2.1 (by omega)
  · exact c.r _ _ (h1 i hi).2.2 (by omega)
theorem s_sl {L : Nat} {h : Hp} (c : Lay L h) {i : Nat} (hi : i < 6) : hs h (10 + i) = (2, 10) := c.s _ (by omega) (by
  have : ∀ i, i < 6 → shT[10 + i]? = some (2, 10) := by decide +kernel
  exact this i hi)
theorem r_sl {L : Nat} {h : Hp} (c : Lay L h) {i : Nat} (hi : i < 6) : hR h 9 i = 10 + i := c.r _ _ (by
  have : ∀ i, i < 6 → (rfT.getD 9 []).getD i 0 = 10 + i := by decide +kernel
  exact this i hi) (by omega)
theorem s_pt {L : Nat} {h : Hp} (c : Lay L h) {i : Nat} (hi : i < 40) : hs h (229 + i) = (1, 41) := c.s _ (by omega) (by
  have : ∀ i, i < 40 → shT[229 + i]? = some (1, 41) := by decide +kernel
  exact this i hi)
theorem r_pt {L : Nat} {h : Hp} (c : Lay L h) {i : Nat} (hi : i < 40) : hR h 228 i = 229 + i := c.r _ _ (by
  have : ∀ i, i < 40 → (rfT.getD 228 []).getD i 0 = 229 + i := by decide +kernel
  exact this i hi) (by omega)
theorem s_dl {L : Nat} {h : Hp} (c : Lay L h) {i : Nat} (hi : i < 40) : hs h (270 + i) = (5, 41) := c.s _ (by omega) (by
  have : ∀ i, i < 40 → shT[270 + i]? = some (5, 41) := by decide +kernel
  exact this i hi)
theorem r_dl {L : Nat} {h : Hp} (c : Lay L h) {i : Nat} (hi : i < 40) : hR h 269 i = 270 + i := c.r _ _ (by
  have : ∀ i, i < 40 → (rfT.getD 269 []).getD i 0 = 270 + i := by decide +kernel
  exact this i hi) (by omega)
theorem Lay.sI {L : Nat} {h : Hp} (c : Lay L h) {a i : Nat} {v : Int32} (ha : 5 ≤ a) : Lay L (sI h a i v) := ⟨c.1, c.2.1, fun b j h1 h2 => by rw [hI_sI, u2_n (Or.inl (by omega))]; exact c.2.2 b j h1 h2⟩
theorem Lay.sL {L : Nat} {h : Hp} (c : Lay L h) {a i : Nat} {v : Int64} : Lay L (sL h a i v) := c
/-- nothing but ints and longs of the cells D has changed -/
def Chg (D : Nat → Prop) (h h' : Hp) : Prop := h'.1 = h.1 ∧ hs h' = hs h ∧ hR h' = hR h ∧ ∀ id, ¬ D id → ∀ j, hI h' id j = hI h id j ∧ hL h' id j = hL h id j
theorem Chg.rfl' {D : Nat → Prop} (h : Hp) : Chg D h h := ⟨rfl, rfl, rfl, fun _ _ _ => ⟨rfl, rfl⟩⟩
theorem Chg.trans {D : Nat → Prop} {h h1 h2 : Hp} (a : Chg D h h1) (b : Chg D h1 h2) : Chg D h h2 := ⟨b.1.trans a.1, b.2.1.trans a.2.1, b.2.2.1.trans a.2.2.1, fun id hd j => ⟨(b.2.2.2 id hd j).1.trans (a.2.2.2 id hd j).1, (b.2.2.2 id hd j).2.trans (a.2.2.2 id hd j).2⟩⟩
theorem Chg.mono {D E : Nat → Prop} {h h' : Hp} (a : Chg D h h') (hd : ∀ id, D id → E id) : Chg E h h' := ⟨a.1, a.2.1, a.2.2.1, fun id he => a.2.2.2 id (fun q => he (hd id q))⟩
theorem Chg.sI {D : Nat → Prop} {h h' : Hp} (a : Chg D h h') {b i : Nat} {v : Int32} (hb : D b) : Chg D h (sI h' b i v) := ⟨a.1, a.2.1, a.2.2.1, fun id hd j => ⟨by rw [hI_sI, u2_n (Or.inl (fun q => hd (by rw [q]; exact hb)))]; exact (a.2.2.2 id hd j).1, (a.2.2.2 id hd j).2⟩⟩
theorem Chg.sL {D : Nat → Prop} {h h' : Hp} (a : Chg D h h') {b i : Nat} {v : Int64} (hb : D b) : Chg D h (sL h' b i v) := ⟨a.1, a.2.1, a.2.2.1, fun id hd j => ⟨(a.2.2.2 id hd j).1, by rw [hL_sL, u2_n (Or.inl (fun q => hd (by rw [q]; exact hb)))]; exact (a.2.2.2 id hd j).2⟩⟩
theorem Chg.lay {D : Nat → Prop} {h h' : Hp} {L : Nat} (a : Chg D h h') (c : Lay L h) (hD : ∀ id, D id → 5 ≤ id) : Lay L h' := ⟨⟨by rw [a.1]; exact c.1.1, by rw [a.2.1]; exact c.1.2.1, by rw [a.2.1]; exact c.1.2.2⟩, by rw [a.2.2.1]; exact c.2.1, fun b j h1 h2 => by rw [(a.2.2.2 b (fun q => by have := hD b q; omega) j).1]; exact c.2.2 b j h1 h2⟩
