set_option maxRecDepth 20000 in
theorem ggZ_12 : GoodIn wsL_law wsL_isSound_r12 := goodIn_r _ [350, 351, 342, 343, 344, 352, 353, 354, 355, 356, 357, 358, 359, 360, 361, 362, 363, 364, 365, 366, 367, 368, 369, 234] (by decide +kernel) (by decide +kernel)
set_option maxRecDepth 20000 in
theorem ggZ_13 : GoodIn wsL_law wsL_isSound_r13 := goodIn_r _ [235, 236, 237, 328, 329, 330, 331, 332, 333, 334, 384, 385, 386, 387, 388, 389, 390, 391, 392, 393] (by decide +kernel) (by decide +kernel)
set_option maxRecDepth 20000 in
theorem ggZ_J00 : GoodIn wsL_law wsJ00 := goodIn_r _ [417, 418] (by decide +kernel) (by decide +kernel)
set_option maxRecDepth 20000 in
theorem ggZ_X20 : GoodIn wsL_law wsX20 := goodIn_r _ [394, 395, 396] (by decide +kernel) (by decide +kernel)
set_option maxRecDepth 20000 in
theorem ggZ_X10 : GoodIn wsL_law wsX10 := goodIn_r _ [404, 405, 406, 407, 408, 409, 410, 411, 412, 413, 414, 415, 416] (by decide +kernel) (by decide +kernel)
set_option maxRecDepth 20000 in
theorem ggZ_X00 : GoodIn wsL_law wsX00 := goodIn_r _ [397, 398, 399, 400, 401, 402, 403] (by decide +kernel) (by decide +kernel)
set_option maxRecDepth 20000 in
theorem ggZ_c : GoodIn wsL_law [Cond.code yL_isSound cL_isSound 11 (some .boolean)] := goodIn_r _ [382] (by rfl) (by decide +kernel)
