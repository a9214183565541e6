set_option maxRecDepth 20000 in
theorem ggL_law_X7_page_c8 : GoodIn wsL_law wsX7_page_r8 := goodIn_r _ [298, 299, 300, 301, 302, 303, 304, 305, 306, 307, 308, 309, 310, 311, 312, 313, 314, 129, 130, 131, 109] (by decide +kernel) (by decide +kernel)
set_option maxRecDepth 20000 in
theorem ggL_law_X7_page_c9 : GoodIn wsL_law wsX70 := goodIn_r _ [949, 950, 951, 952] (by decide +kernel) (by decide +kernel)
set_option maxRecDepth 20000 in
theorem ggL_law_X7_page_c10 : GoodIn wsL_law wsX30 := goodIn_r _ [981, 982, 983] (by decide +kernel) (by decide +kernel)
set_option maxRecDepth 20000 in
theorem ggL_law_X7_page_c11 : GoodIn wsL_law wsX50 := goodIn_r _ [979, 980] (by decide +kernel) (by decide +kernel)
set_option maxRecDepth 20000 in
theorem ggL_law_X7_page : GoodIn wsL_law wsX7_page := (goodIn_ca (goodIn_ca (goodIn_ca (goodIn_ca ggL_law_X7_page_c1 (goodIn_app ggL_law_X7_page_c2 (goodIn_app ggL_law_X7_page_c3 (goodIn_app ggL_law_X7_page_c4 (goodIn_app ggL_law_X7_page_c5 (goodIn_app ggL_law_X7_page_c6 (goodIn_app ggL_law_X7_page_c7 ggL_law_X7_page_c8))))))) ggL_law_X7_page_c9) ggL_law_X7_page_c10) ggL_law_X7_page_c11)
set_option maxRecDepth 20000 in
theorem gL_law_X7_page : GoodIn wsL_law (wsV RL 22 RX7 yX7_page wsX7_page) := goodIn_app (goodIn_of _ (by decide +kernel)) ggL_law_X7_page
set_option maxRecDepth 20000 in
theorem ggL_law_X8_page_c1 : GoodIn wsL_law (.code yX8_page cX8_page 2 (some .int) :: wsX8_page_r1) := goodIn_r _ [318, 117, 319, 320, 321, 119, 82, 83, 322, 323, 324, 5, 325, 326, 327, 328, 329, 330, 331, 332, 333, 334, 335, 336, 337] (by decide +kernel) (by decide +kernel)
set_option maxRecDepth 20000 in
theorem ggL_law_X8_page_c2 : GoodIn wsL_law wsX8_page_r2 := goodIn_r _ [338, 339, 340, 341, 342, 343, 344, 345, 346, 347, 348, 349, 350, 351, 352, 353, 354, 355, 356, 357, 358, 359, 360, 361] (by decide +kernel) (by decide +kernel)
set_option maxRecDepth 20000 in
theorem ggL_law_X8_page_c3 : GoodIn wsL_law wsX8_page_r3 := goodIn_r _ [362, 363, 364, 365, 366, 367, 368, 369, 370, 371, 372, 373, 374, 375, 376, 377, 378, 379, 380, 381, 382, 383, 384, 385] (by decide +kernel) (by decide +kernel)
set_option maxRecDepth 20000 in
theorem ggL_law_X8_page_c4 : GoodIn wsL_law wsX8_page_r4 := goodIn_r _ [386, 387, 388, 389, 390, 391, 392, 393, 394, 395, 396, 397, 398, 399, 400, 401, 402, 403, 404, 405, 406, 407, 408, 409] (by decide +kernel) (by decide +kernel)
set_option maxRecDepth 20000 in
theorem ggL_law_X8_page_c5 : GoodIn wsL_law wsX8_page_r5 := goodIn_r _ [410, 411, 412, 413, 414, 415, 416, 417, 418, 419, 420, 421, 422, 423, 424, 425, 426, 427, 428, 429, 430, 431, 432, 433] (by decide +kernel) (by decide +kernel)
set_option maxRecDepth 20000 in
theorem ggL_law_X8_page_c6 : GoodIn wsL_law wsX8_page_r6 := goodIn_r _ [434, 435, 436, 437, 438, 439, 440, 441, 118, 442, 443, 444, 445, 446, 447, 448, 449, 450, 451] (by decide +kernel) (by decide +kernel)
set_option maxRecDepth 20000 in
theorem ggL_law_X8_page_c7 : GoodIn wsL_law wsX80 := goodIn_r _ [953, 954, 955, 956, 957, 958, 959, 960, 961, 962, 963, 964, 965, 966, 967, 968, 969, 970, 971, 972, 973, 974, 975, 976, 977, 978] (by decide +kernel) (by decide +kernel)
set_option maxRecDepth 20000 in
theorem ggL_law_X8_page : GoodIn wsL_law wsX8_page := (goodIn_ca (goodIn_ca ggL_law_X8_page_c1 (goodIn_app ggL_law_X8_page_c2 (goodIn_app ggL_law_X8_page_c3 (goodIn_app ggL_law_X8_page_c4 (goodIn_app ggL_law_X8_page_c5 ggL_law_X8_page_c6))))) ggL_law_X8_page_c7)
set_option maxRecDepth 20000 in
theorem gL_law_X8_page : GoodIn wsL_law (wsV RL 26 RX8 yX8_page wsX8_page) := goodIn_app (goodIn_of _ (by decide +kernel)) ggL_law_X8_page
set_option maxRecDepth 20000 in
theorem ggL_law_X7_at : GoodIn wsL_law wsX7_at := goodIn_r _ [455, 15, 456, 152, 153, 14, 154, 108, 35, 949, 950, 951, 952, 979, 980] (by decide +kernel) (by decide +kernel)
set_option maxRecDepth 20000 in
theorem gL_law_X7_at : GoodIn wsL_law (wsV RL 27 RX7 yX7_at wsX7_at) := goodIn_app (goodIn_of _ (by decide +kernel)) ggL_law_X7_at
set_option maxRecDepth 20000 in
theorem ggL_law_X8_at : GoodIn wsL_law wsX8_at := goodIn_r _ [460, 117, 119, 82, 953, 954, 955, 956, 957, 958, 959, 960, 961, 962, 963, 964, 965, 966, 967, 968, 969, 970, 971, 972, 973, 974, 975, 976, 977, 978] (by decide +kernel) (by decide +kernel)
set_option maxRecDepth 20000 in
theorem gL_law_X8_at : GoodIn wsL_law (wsV RL 31 RX8 yX8_at wsX8_at) := goodIn_app (goodIn_of _ (by decide +kernel)) ggL_law_X8_at
set_option maxRecDepth 20000 in
theorem ggL_law_X7_lines_c1 : GoodIn wsL_law (.code yX7_lines cX7_lines 1 (some .int) :: wsX7_lines_r1) := goodIn_r _ [464, 26, 465, 466, 467, 25, 468, 469, 52, 51, 50, 470, 471, 472, 22, 473, 474, 475, 476, 477, 478, 479, 45, 480, 481] (by decide +kernel) (by decide +kernel)
set_option maxRecDepth 20000 in
theorem ggL_law_X7_lines_c2 : GoodIn wsL_law wsX7_lines_r2 := goodIn_r _ [482, 483, 110, 111, 14, 112, 108, 484, 152, 153, 154, 35, 485, 486, 487, 488, 489, 490, 491, 492, 493, 280, 281, 282] (by decide +kernel) (by decide +kernel)
set_option maxRecDepth 20000 in
theorem ggL_law_X7_lines_c3 : GoodIn wsL_law wsX7_lines_r3 := goodIn_r _ [197, 182, 183, 184, 185, 186, 187, 188, 189, 190, 191, 192, 198, 199, 200, 201, 202, 203, 204, 205, 206, 207, 208, 209] (by decide +kernel) (by decide +kernel)
set_option maxRecDepth 20000 in
theorem ggL_law_X7_lines_c4 : GoodIn wsL_law wsX7_lines_r4 := goodIn_r _ [210, 211, 212, 213, 214, 215, 216, 217, 218, 219, 220, 221, 222, 223, 224, 225, 226, 227, 228, 229, 230, 231, 232, 233] (by decide +kernel) (by decide +kernel)
set_option maxRecDepth 20000 in
theorem ggL_law_X7_lines_c5 : GoodIn wsL_law wsX7_lines_r5 := goodIn_r _ [234, 235, 494, 495, 496, 497, 498, 499, 500, 501, 502, 503, 504, 505, 506, 507, 273, 157, 274, 275, 168, 169, 276, 277] (by decide +kernel) (by decide +kernel)
set_option maxRecDepth 20000 in
theorem ggL_law_X7_lines_c6 : GoodIn wsL_law wsX7_lines_r6 := goodIn_r _ [278, 508, 509, 510, 511, 512, 513, 514, 515, 516, 517, 518, 519, 520, 521, 522, 523, 524, 525, 526, 527] (by decide +kernel) (by decide +kernel)
set_option maxRecDepth 20000 in
theorem ggL_law_X7_lines_c7 : GoodIn wsL_law wsX70 := goodIn_r _ [949, 950, 951, 952] (by decide +kernel) (by decide +kernel)
set_option maxRecDepth 20000 in
theorem ggL_law_X7_lines_c8 : GoodIn wsL_law wsX10 := goodIn_r _ [990, 991, 992, 993] (by decide +kernel) (by decide +kernel)
set_option maxRecDepth 20000 in
theorem ggL_law_X7_lines_c9 : GoodIn wsL_law wsX20 := goodIn_r _ [984, 985, 986, 987, 988, 989] (by decide +kernel) (by decide +kernel)
set_option maxRecDepth 20000 in
theorem ggL_law_X7_lines_c10 : GoodIn wsL_law wsX50 := goodIn_r _ [979, 980] (by decide +kernel) (by decide +kernel)
set_option maxRecDepth 20000 in
theorem ggL_law_X7_lines : GoodIn wsL_law wsX7_lines := (goodIn_ca (goodIn_ca (goodIn_ca (goodIn_ca (goodIn_ca ggL_law_X7_lines_c1 (goodIn_app ggL_law_X7_lines_c2 (goodIn_app ggL_law_X7_lines_c3 (goodIn_app ggL_law_X7_lines_c4 (goodIn_app ggL_law_X7_lines_c5 ggL_law_X7_lines_c6))))) ggL_law_X7_lines_c7) ggL_law_X7_lines_c8) ggL_law_X7_lines_c9) ggL_law_X7_lines_c10)
