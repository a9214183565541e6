set_option maxRecDepth 20000 in
theorem lx__law_r1 : GoodIn lw_tbl wsL_law_r1 := goodIn_p _ [114, 117] (by decide +kernel) (by decide +kernel)
set_option maxRecDepth 20000 in
theorem lx__law_r2 : GoodIn lw_tbl wsL_law_r2 := goodIn_p _ [122, 136, 152] (by decide +kernel) (by decide +kernel)
set_option maxRecDepth 20000 in
theorem lx__law_r3 : GoodIn lw_tbl wsL_law_r3 := goodIn_p _ [177, 196] (by decide +kernel) (by decide +kernel)
set_option maxRecDepth 20000 in
theorem lx__law_r4 : GoodIn lw_tbl wsL_law_r4 := goodIn_p _ [202, 850] (by decide +kernel) (by decide +kernel)
set_option maxRecDepth 20000 in
theorem lx__law_r5 : GoodIn lw_tbl wsL_law_r5 := goodIn_p _ [277, 282, 286, 935] (by decide +kernel) (by decide +kernel)
set_option maxRecDepth 20000 in
theorem lx__law_r6 : GoodIn lw_tbl wsL_law_r6 := goodIn_p _ [940, 290, 294, 944, 298, 302] (by decide +kernel) (by decide +kernel)
set_option maxRecDepth 20000 in
theorem lx__law_r7 : GoodIn lw_tbl wsL_law_r7 := goodIn_p _ [501, 307, 310, 314, 318] (by decide +kernel) (by decide +kernel)
set_option maxRecDepth 20000 in
theorem lx__law_r8 : GoodIn lw_tbl wsL_law_r8 := goodIn_p _ [321, 325, 328, 333, 337, 341] (by decide +kernel) (by decide +kernel)
set_option maxRecDepth 20000 in
theorem lx__law_r9 : GoodIn lw_tbl wsL_law_r9 := goodIn_p _ [347, 353, 357, 360, 363] (by decide +kernel) (by decide +kernel)
set_option maxRecDepth 20000 in
theorem lx__law_r10 : GoodIn lw_tbl wsL_law_r10 := goodIn_p _ [368, 371, 374, 377, 381, 391] (by decide +kernel) (by decide +kernel)
set_option maxRecDepth 20000 in
theorem lx__law_r11 : GoodIn lw_tbl wsL_law_r11 := goodIn_p _ [395, 399, 403, 407, 411, 428] (by decide +kernel) (by decide +kernel)
set_option maxRecDepth 20000 in
theorem lx__law_r12 : GoodIn lw_tbl wsL_law_r12 := goodIn_p _ [432, 437, 440, 444, 451, 455] (by decide +kernel) (by decide +kernel)
set_option maxRecDepth 20000 in
theorem lx__law_r13 : GoodIn lw_tbl wsL_law_r13 := goodIn_p _ [461, 466, 469, 477, 481] (by decide +kernel) (by decide +kernel)
set_option maxRecDepth 20000 in
theorem lx__law_r14 : GoodIn lw_tbl wsL_law_r14 := goodIn_p _ [488, 952, 956, 960, 964] (by decide +kernel) (by decide +kernel)
