set_option maxRecDepth 20000 in
theorem gL_law_X7_lines : GoodIn wsL_law (wsV RL 32 RX7 yX7_lines wsX7_lines) := goodIn_app (goodIn_of _ (by decide +kernel)) ggL_law_X7_lines
set_option maxRecDepth 20000 in
theorem ggL_law_X8_lines_c1 : GoodIn wsL_law (.code yX8_lines cX8_lines 2 (some .int) :: wsX8_lines_r1) := goodIn_r _ [531, 117, 532, 89, 86, 87, 88, 84, 85, 533, 534, 535, 536, 5, 537, 119, 82, 538, 539, 540, 541, 542, 543, 544, 545] (by decide +kernel) (by decide +kernel)
set_option maxRecDepth 20000 in
theorem ggL_law_X8_lines_c2 : GoodIn wsL_law wsX8_lines_r2 := goodIn_r _ [546, 547, 548, 549, 550, 551, 552, 553, 554, 555, 367, 368, 369, 415, 416, 417, 418, 419, 420, 334, 335, 336, 353, 354] (by decide +kernel) (by decide +kernel)
set_option maxRecDepth 20000 in
theorem ggL_law_X8_lines_c3 : GoodIn wsL_law wsX8_lines_r3 := goodIn_r _ [355, 362, 363, 364, 365, 366, 326, 327, 328, 329, 356, 357, 358, 359, 360, 361] (by decide +kernel) (by decide +kernel)
set_option maxRecDepth 20000 in
theorem ggL_law_X8_lines_c4 : GoodIn wsL_law wsX80 := goodIn_r _ [953, 954, 955, 956, 957, 958, 959, 960, 961, 962, 963, 964, 965, 966, 967, 968, 969, 970, 971, 972, 973, 974, 975, 976, 977, 978] (by decide +kernel) (by decide +kernel)
set_option maxRecDepth 20000 in
theorem ggL_law_X8_lines : GoodIn wsL_law wsX8_lines := (goodIn_ca (goodIn_ca ggL_law_X8_lines_c1 (goodIn_app ggL_law_X8_lines_c2 ggL_law_X8_lines_c3)) ggL_law_X8_lines_c4)
set_option maxRecDepth 20000 in
theorem gL_law_X8_lines : GoodIn wsL_law (wsV RL 35 RX8 yX8_lines wsX8_lines) := goodIn_app (goodIn_of _ (by decide +kernel)) ggL_law_X8_lines
set_option maxRecDepth 20000 in
theorem ggL_law_X7_line : GoodIn wsL_law wsX7_line := goodIn_r _ [559, 26, 560, 561, 562, 25, 563, 469, 51, 50, 949, 950, 951, 952, 990, 991, 992, 993] (by decide +kernel) (by decide +kernel)
set_option maxRecDepth 20000 in
theorem gL_law_X7_line : GoodIn wsL_law (wsV RL 36 RX7 yX7_line wsX7_line) := goodIn_app (goodIn_of _ (by decide +kernel)) ggL_law_X7_line
set_option maxRecDepth 20000 in
theorem ggL_law_X8_line : GoodIn wsL_law wsX8_line := goodIn_r _ [567, 117, 533, 89, 953, 954, 955, 956, 957, 958, 959, 960, 961, 962, 963, 964, 965, 966, 967, 968, 969, 970, 971, 972, 973, 974, 975, 976, 977, 978] (by decide +kernel) (by decide +kernel)
set_option maxRecDepth 20000 in
theorem gL_law_X8_line : GoodIn wsL_law (wsV RL 40 RX8 yX8_line wsX8_line) := goodIn_app (goodIn_of _ (by decide +kernel)) ggL_law_X8_line
set_option maxRecDepth 20000 in
theorem ggL_law_X7_cut_c1 : GoodIn wsL_law (.code yX7_cut cX7_cut 2 (some .int) :: wsX7_cut_r1) := goodIn_r _ [571, 30, 572, 573, 574, 29, 575, 576, 577, 71, 67, 72, 578, 110, 111, 14, 112, 108, 579, 152, 153, 154, 35, 580, 581] (by decide +kernel) (by decide +kernel)
set_option maxRecDepth 20000 in
theorem ggL_law_X7_cut_c2 : GoodIn wsL_law wsX7_cut_r2 := goodIn_r _ [157, 582, 583, 584, 585, 586, 587, 588, 589, 590, 591, 592, 593, 594, 595, 596, 147, 148, 149, 597, 598, 599, 600, 601] (by decide +kernel) (by decide +kernel)
set_option maxRecDepth 20000 in
theorem ggL_law_X7_cut_c3 : GoodIn wsL_law wsX7_cut_r3 := goodIn_r _ [273, 274, 275, 168, 169, 276, 277, 278, 602, 603, 604, 605, 606, 607, 608, 609, 610, 611, 612, 613, 614, 615, 616, 617] (by decide +kernel) (by decide +kernel)
set_option maxRecDepth 20000 in
theorem ggL_law_X7_cut_c4 : GoodIn wsL_law wsX7_cut_r4 := goodIn_r _ [61, 62, 618, 619, 620, 64, 66, 621, 471, 472, 22, 473, 474, 475, 622, 477, 478, 479, 45, 480, 481, 482, 483, 484] (by decide +kernel) (by decide +kernel)
set_option maxRecDepth 20000 in
theorem ggL_law_X7_cut_c5 : GoodIn wsL_law wsX7_cut_r5 := goodIn_r _ [485, 486, 487, 488, 489, 490, 491, 492, 493, 280, 281, 282, 197, 182, 183, 184, 185, 186, 187, 188, 189, 190, 191, 192] (by decide +kernel) (by decide +kernel)
set_option maxRecDepth 20000 in
theorem ggL_law_X7_cut_c6 : GoodIn wsL_law wsX7_cut_r6 := goodIn_r _ [198, 199, 200, 201, 202, 203, 204, 205, 206, 207, 208, 209, 210, 211, 212, 213, 214, 215, 216, 217, 218, 219, 220, 221] (by decide +kernel) (by decide +kernel)
set_option maxRecDepth 20000 in
theorem ggL_law_X7_cut_c7 : GoodIn wsL_law wsX7_cut_r7 := goodIn_r _ [222, 223, 224, 225, 226, 227, 228, 229, 230, 231, 232, 233, 234, 235, 494, 495, 496, 497, 498, 499, 500, 501, 502, 503] (by decide +kernel) (by decide +kernel)
set_option maxRecDepth 20000 in
theorem ggL_law_X7_cut_c8 : GoodIn wsL_law wsX7_cut_r8 := goodIn_r _ [504, 505, 506, 507, 623, 624, 625, 626, 627, 509, 510, 511, 628, 513, 514, 515, 629, 630, 631, 632, 633, 69, 63, 60] (by decide +kernel) (by decide +kernel)
set_option maxRecDepth 20000 in
theorem ggL_law_X7_cut_c9 : GoodIn wsL_law wsX7_cut_r9 := goodIn_r _ [68, 634, 635, 636, 59, 637, 638, 76, 639, 640, 641, 642, 77, 643, 644, 645, 646, 647, 648, 649, 650, 651, 652, 653] (by decide +kernel) (by decide +kernel)
set_option maxRecDepth 20000 in
theorem ggL_law_X7_cut_c10 : GoodIn wsL_law wsX7_cut_r10 := goodIn_r _ [654, 655, 656, 657, 658, 659, 660, 661, 662, 663, 664, 665, 666, 667, 668, 669, 670, 671, 672, 673, 674, 675, 676, 677] (by decide +kernel) (by decide +kernel)
set_option maxRecDepth 20000 in
theorem ggL_law_X7_cut_c11 : GoodIn wsL_law wsX7_cut_r11 := goodIn_r _ [678, 679, 680, 681, 682, 683, 684, 685, 686, 687, 688, 689, 690, 691, 692, 693, 694, 695, 696, 697, 698, 699, 700, 701] (by decide +kernel) (by decide +kernel)
set_option maxRecDepth 20000 in
theorem ggL_law_X7_cut_c12 : GoodIn wsL_law wsX7_cut_r12 := goodIn_r _ [702, 703, 704, 705, 706, 707, 708, 709, 710, 711, 712, 713, 714, 70, 715, 716, 717, 718, 719, 720, 721, 722, 723, 724] (by decide +kernel) (by decide +kernel)
set_option maxRecDepth 20000 in
theorem ggL_law_X7_cut_c13 : GoodIn wsL_law wsX7_cut_r13 := goodIn_r _ [725, 726, 727, 728, 729, 730, 731, 732, 733, 734, 735, 736, 737] (by decide +kernel) (by decide +kernel)
set_option maxRecDepth 20000 in
theorem ggL_law_X7_cut_c14 : GoodIn wsL_law wsX70 := goodIn_r _ [949, 950, 951, 952] (by decide +kernel) (by decide +kernel)
set_option maxRecDepth 20000 in
theorem ggL_law_X7_cut_c15 : GoodIn wsL_law wsX60 := goodIn_r _ [994, 995, 996, 997, 998, 999, 1000, 1001, 1002, 1003, 1004, 1005, 1006, 1007, 1008] (by decide +kernel) (by decide +kernel)
set_option maxRecDepth 20000 in
theorem ggL_law_X7_cut_c16 : GoodIn wsL_law wsX50 := goodIn_r _ [979, 980] (by decide +kernel) (by decide +kernel)
set_option maxRecDepth 20000 in
theorem ggL_law_X7_cut_c17 : GoodIn wsL_law wsX20 := goodIn_r _ [984, 985, 986, 987, 988, 989] (by decide +kernel) (by decide +kernel)
set_option maxRecDepth 20000 in
theorem ggL_law_X7_cut_c18 : GoodIn wsL_law wsX40 := goodIn_r _ [1009, 1010, 1011] (by decide +kernel) (by decide +kernel)
set_option maxRecDepth 20000 in
theorem ggL_law_X7_cut : GoodIn wsL_law wsX7_cut := (goodIn_ca (goodIn_ca (goodIn_ca (goodIn_ca (goodIn_ca (goodIn_ca ggL_law_X7_cut_c1 (goodIn_app ggL_law_X7_cut_c2 (goodIn_app ggL_law_X7_cut_c3 (goodIn_app ggL_law_X7_cut_c4 (goodIn_app ggL_law_X7_cut_c5 (goodIn_app ggL_law_X7_cut_c6 (goodIn_app ggL_law_X7_cut_c7 (goodIn_app ggL_law_X7_cut_c8 (goodIn_app ggL_law_X7_cut_c9 (goodIn_app ggL_law_X7_cut_c10 (goodIn_app ggL_law_X7_cut_c11 (goodIn_app ggL_law_X7_cut_c12 ggL_law_X7_cut_c13)))))))))))) ggL_law_X7_cut_c14) ggL_law_X7_cut_c15) ggL_law_X7_cut_c16) ggL_law_X7_cut_c17) ggL_law_X7_cut_c18)
