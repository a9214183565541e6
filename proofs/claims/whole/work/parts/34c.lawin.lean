set_option maxRecDepth 20000 in
theorem lx__law_r29 : GoodIn lw_tbl wsL_law_r29 := goodIn_p _ [691, 697, 704, 710, 714, 718] (by decide +kernel) (by decide +kernel)
set_option maxRecDepth 20000 in
theorem lx__law_r30 : GoodIn lw_tbl wsL_law_r30 := goodIn_p _ [724, 761, 772, 785, 790, 794] (by decide +kernel) (by decide +kernel)
set_option maxRecDepth 20000 in
theorem lx__law_r31 : GoodIn lw_tbl wsL_law_r31 := goodIn_p _ [798, 801, 805, 809, 813, 1116] (by decide +kernel) (by decide +kernel)
set_option maxRecDepth 20000 in
theorem lx__law_r32 : GoodIn lw_tbl wsL_law_r32 := goodIn_p _ [1120, 1124, 1128, 1131, 1135, 1139] (by decide +kernel) (by decide +kernel)
set_option maxRecDepth 20000 in
theorem lx__law_r33 : GoodIn lw_tbl wsL_law_r33 := goodIn_p _ [1143, 1147, 1152, 1160] (by decide +kernel) (by decide +kernel)
set_option maxRecDepth 20000 in
theorem lx__law_r34 : GoodIn lw_tbl wsL_law_r34 := goodIn_p _ [1164, 1168, 1173, 1177, 1185] (by decide +kernel) (by decide +kernel)
set_option maxRecDepth 20000 in
theorem lx__law_r35 : GoodIn lw_tbl wsL_law_r35 := goodIn_p _ [1189, 1195] (by decide +kernel) (by decide +kernel)
set_option maxRecDepth 20000 in
theorem lx__law_r36 : GoodIn lw_tbl wsL_law_r36 := goodIn_p _ [1201, 1235] (by decide +kernel) (by decide +kernel)
set_option maxRecDepth 20000 in
theorem lx__law_r37 : GoodIn lw_tbl wsL_law_r37 := goodIn_p _ [1246, 1259] (by decide +kernel) (by decide +kernel)
set_option maxRecDepth 20000 in
theorem lx__law_r38 : GoodIn lw_tbl wsL_law_r38 := goodIn_p _ [1264, 817, 821, 1268, 1272] (by decide +kernel) (by decide +kernel)
set_option maxRecDepth 20000 in
theorem lx__law_r39 : GoodIn lw_tbl wsL_law_r39 := goodIn_p _ [825, 829, 1276, 833, 837, 1280] (by decide +kernel) (by decide +kernel)
set_option maxRecDepth 20000 in
theorem lx__law_r40 : GoodIn lw_tbl wsL_law_r40 := goodIn_p _ [1284, 841, 845, 1288] (by decide +kernel) (by decide +kernel)
set_option maxRecDepth 20000 in
theorem lx_X7 : GoodIn lw_tbl wsX70 := goodIn_p _ [] (by decide +kernel) (by decide +kernel)
set_option maxRecDepth 20000 in
theorem lx_X8 : GoodIn lw_tbl wsX80 := goodIn_p _ [] (by decide +kernel) (by decide +kernel)
