set_option maxRecDepth 20000 in
theorem lx__law_r15 : GoodIn lw_tbl wsL_law_r15 := goodIn_p _ [967, 971, 975, 978, 981] (by decide +kernel) (by decide +kernel)
set_option maxRecDepth 20000 in
theorem lx__law_r16 : GoodIn lw_tbl wsL_law_r16 := goodIn_p _ [984, 989, 992, 998, 1001, 1005] (by decide +kernel) (by decide +kernel)
set_option maxRecDepth 20000 in
theorem lx__law_r17 : GoodIn lw_tbl wsL_law_r17 := goodIn_p _ [1020, 1024, 1028, 1032] (by decide +kernel) (by decide +kernel)
set_option maxRecDepth 20000 in
theorem lx__law_r18 : GoodIn lw_tbl wsL_law_r18 := goodIn_p _ [1038, 1045, 1048, 1051, 1055] (by decide +kernel) (by decide +kernel)
set_option maxRecDepth 20000 in
theorem lx__law_r19 : GoodIn lw_tbl wsL_law_r19 := goodIn_p _ [1059, 1062, 1070, 507] (by decide +kernel) (by decide +kernel)
set_option maxRecDepth 20000 in
theorem lx__law_r20 : GoodIn lw_tbl wsL_law_r20 := goodIn_p _ [948, 512, 516, 520, 524] (by decide +kernel) (by decide +kernel)
set_option maxRecDepth 20000 in
theorem lx__law_r21 : GoodIn lw_tbl wsL_law_r21 := goodIn_p _ [530, 534, 541, 545] (by decide +kernel) (by decide +kernel)
set_option maxRecDepth 20000 in
theorem lx__law_r22 : GoodIn lw_tbl wsL_law_r22 := goodIn_p _ [550, 557, 561, 565, 569, 573] (by decide +kernel) (by decide +kernel)
set_option maxRecDepth 20000 in
theorem lx__law_r23 : GoodIn lw_tbl wsL_law_r23 := goodIn_p _ [1086, 1090, 1094, 1098, 1102] (by decide +kernel) (by decide +kernel)
set_option maxRecDepth 20000 in
theorem lx__law_r24 : GoodIn lw_tbl wsL_law_r24 := goodIn_p _ [1107, 577, 581, 1112, 585, 589] (by decide +kernel) (by decide +kernel)
set_option maxRecDepth 20000 in
theorem lx__law_r25 : GoodIn lw_tbl wsL_law_r25 := goodIn_p _ [594, 597, 600, 603, 607] (by decide +kernel) (by decide +kernel)
set_option maxRecDepth 20000 in
theorem lx__law_r26 : GoodIn lw_tbl wsL_law_r26 := goodIn_p _ [611, 615, 619, 623, 628, 631] (by decide +kernel) (by decide +kernel)
set_option maxRecDepth 20000 in
theorem lx__law_r27 : GoodIn lw_tbl wsL_law_r27 := goodIn_p _ [638, 644, 648, 652, 656] (by decide +kernel) (by decide +kernel)
set_option maxRecDepth 20000 in
theorem lx__law_r28 : GoodIn lw_tbl wsL_law_r28 := goodIn_p _ [661, 669, 677, 683, 687] (by decide +kernel) (by decide +kernel)
