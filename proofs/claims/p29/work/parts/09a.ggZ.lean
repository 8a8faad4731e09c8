set_option maxRecDepth 20000 in
set_option maxRecDepth 20000 in
theorem ggZ_1 : GoodIn wsL_law wsL_isSound_r1 := goodIn_r _ [383, 131, 132, 52, 133, 134, 135, 136, 137, 138, 139, 140, 141, 142, 143, 144, 145, 146, 147, 148, 149, 150, 151, 152] (by rfl) (by decide +kernel)
set_option maxRecDepth 20000 in
theorem ggZ_2 : GoodIn wsL_law wsL_isSound_r2 := goodIn_r _ [153, 154, 155, 156, 157, 158, 159, 160, 161, 162, 163, 164, 165, 166, 167, 168, 169, 170, 171, 172, 173, 174, 175, 176] (by decide +kernel) (by decide +kernel)
set_option maxRecDepth 20000 in
theorem ggZ_3 : GoodIn wsL_law wsL_isSound_r3 := goodIn_r _ [177, 178, 179, 180, 181, 2, 182, 23, 183, 184, 185, 186, 187, 188, 189, 190, 191, 22, 192, 193, 97, 44, 47, 194] (by decide +kernel) (by decide +kernel)
set_option maxRecDepth 20000 in
theorem ggZ_4 : GoodIn wsL_law wsL_isSound_r4 := goodIn_r _ [195, 196, 197, 24, 198, 199, 200, 48, 201, 202, 203, 204, 46, 45, 205, 206, 207, 208, 19, 209, 210, 211, 212, 213] (by decide +kernel) (by decide +kernel)
set_option maxRecDepth 20000 in
theorem ggZ_5 : GoodIn wsL_law wsL_isSound_r5 := goodIn_r _ [214, 215, 105, 106, 107, 108, 109, 18, 110, 111, 29, 112, 113, 114, 115, 116, 117, 39, 118, 119, 120, 30, 31, 216] (by decide +kernel) (by decide +kernel)
set_option maxRecDepth 20000 in
theorem ggZ_6 : GoodIn wsL_law wsL_isSound_r6 := goodIn_r _ [217, 218, 38, 41, 42, 43, 219, 220, 221, 222, 223, 224, 225, 57, 58, 59, 60, 61, 62, 63, 64, 65, 66, 67] (by decide +kernel) (by decide +kernel)
set_option maxRecDepth 20000 in
theorem ggZ_7 : GoodIn wsL_law wsL_isSound_r7 := goodIn_r _ [68, 69, 70, 71, 72, 73, 74, 75, 76, 77, 78, 79, 80, 81, 82, 83, 84, 85, 86, 87, 88, 89, 90, 91] (by decide +kernel) (by decide +kernel)
set_option maxRecDepth 20000 in
theorem ggZ_8 : GoodIn wsL_law wsL_isSound_r8 := goodIn_r _ [49, 92, 5, 6, 7, 93, 94, 95, 96, 98, 99, 100, 101, 102, 103, 104, 121, 122, 123, 124, 125, 126, 127, 128] (by decide +kernel) (by decide +kernel)
set_option maxRecDepth 20000 in
theorem ggZ_9 : GoodIn wsL_law wsL_isSound_r9 := goodIn_r _ [129, 130, 238, 239, 240, 241, 242, 243, 244, 245, 246, 247, 248, 249, 250, 251, 252, 253, 254, 255, 256, 257, 258, 259] (by decide +kernel) (by decide +kernel)
set_option maxRecDepth 20000 in
theorem ggZ_10 : GoodIn wsL_law wsL_isSound_r10 := goodIn_r _ [260, 261, 262, 263, 264, 265, 266, 267, 268, 269, 270, 271, 272, 273, 274, 275, 276, 277, 278, 279, 280, 281, 282, 283] (by decide +kernel) (by decide +kernel)
set_option maxRecDepth 20000 in
theorem ggZ_11 : GoodIn wsL_law wsL_isSound_r11 := goodIn_r _ [284, 285, 286, 34, 287, 288, 289, 290, 291, 292, 293, 294, 295, 296, 297, 298, 299, 300, 301, 345, 346, 347, 348, 349] (by decide +kernel) (by decide +kernel)
