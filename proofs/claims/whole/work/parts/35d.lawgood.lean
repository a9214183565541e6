set_option maxRecDepth 20000 in
theorem gL_law_X7_cut : GoodIn wsL_law (wsV RL 41 RX7 yX7_cut wsX7_cut) := goodIn_app (goodIn_of _ (by decide +kernel)) ggL_law_X7_cut
set_option maxRecDepth 20000 in
theorem ggL_law_X8_cut_c1 : GoodIn wsL_law (.code yX8_cut cX8_cut 3 (some .int) :: wsX8_cut_r1) := goodIn_r _ [741, 117, 742, 743, 532, 86, 87, 88, 84, 85, 534, 535, 536, 5, 537, 119, 82, 538, 539, 540, 541, 542, 543, 544, 545] (by decide +kernel) (by decide +kernel)
set_option maxRecDepth 20000 in
theorem ggL_law_X8_cut_c2 : GoodIn wsL_law wsX8_cut_r2 := goodIn_r _ [546, 547, 548, 549, 550, 551, 552, 553, 554, 555, 367, 368, 369, 415, 416, 417, 418, 419, 420, 334, 335, 336, 353, 354] (by decide +kernel) (by decide +kernel)
set_option maxRecDepth 20000 in
theorem ggL_law_X8_cut_c3 : GoodIn wsL_law wsX8_cut_r3 := goodIn_r _ [355, 362, 363, 364, 365, 366, 326, 327, 328, 329, 356, 357, 358, 359, 360, 361, 744, 745, 746, 747, 748, 749, 750, 751] (by decide +kernel) (by decide +kernel)
set_option maxRecDepth 20000 in
theorem ggL_law_X8_cut_c4 : GoodIn wsL_law wsX8_cut_r4 := goodIn_r _ [752, 753, 754, 755, 756, 757, 758, 759, 760, 761, 762, 763, 764, 765, 766, 96, 97, 90, 91, 92, 94, 93, 767, 768] (by decide +kernel) (by decide +kernel)
set_option maxRecDepth 20000 in
theorem ggL_law_X8_cut_c5 : GoodIn wsL_law wsX8_cut_r5 := goodIn_r _ [769, 770, 771, 98, 772, 773, 774, 775, 776, 777, 778, 779, 780, 781, 782, 783, 784, 785, 786, 787, 788, 789, 790, 791] (by decide +kernel) (by decide +kernel)
set_option maxRecDepth 20000 in
theorem ggL_law_X8_cut_c6 : GoodIn wsL_law wsX8_cut_r6 := goodIn_r _ [792, 793, 794, 795, 796, 797, 798, 799, 800, 801, 802, 803, 804, 805, 806, 807, 808, 809, 810, 811, 812, 813, 814, 815] (by decide +kernel) (by decide +kernel)
set_option maxRecDepth 20000 in
theorem ggL_law_X8_cut_c7 : GoodIn wsL_law wsX8_cut_r7 := goodIn_r _ [816, 817, 818, 819, 820, 821, 822, 823, 824, 825, 826, 827, 828, 829, 830, 831, 832, 833, 834, 835, 836, 837, 838, 839] (by decide +kernel) (by decide +kernel)
set_option maxRecDepth 20000 in
theorem ggL_law_X8_cut_c8 : GoodIn wsL_law wsX8_cut_r8 := goodIn_r _ [840, 841, 842, 843, 844, 845, 846, 847, 848, 849, 850, 851, 852, 853, 854, 855, 856, 857, 858, 859, 860, 861, 862, 863] (by decide +kernel) (by decide +kernel)
set_option maxRecDepth 20000 in
theorem ggL_law_X8_cut_c9 : GoodIn wsL_law wsX8_cut_r9 := goodIn_r _ [864, 865, 866, 867, 868, 869, 870, 871, 872, 873, 874, 875, 876, 877, 878, 879, 880, 881, 882, 883, 884, 885, 886, 887] (by decide +kernel) (by decide +kernel)
set_option maxRecDepth 20000 in
theorem ggL_law_X8_cut_c10 : GoodIn wsL_law wsX8_cut_r10 := goodIn_r _ [888, 889, 890, 891, 892] (by decide +kernel) (by decide +kernel)
set_option maxRecDepth 20000 in
theorem ggL_law_X8_cut_c11 : GoodIn wsL_law wsX80 := goodIn_r _ [953, 954, 955, 956, 957, 958, 959, 960, 961, 962, 963, 964, 965, 966, 967, 968, 969, 970, 971, 972, 973, 974, 975, 976, 977, 978] (by decide +kernel) (by decide +kernel)
set_option maxRecDepth 20000 in
theorem ggL_law_X8_cut : GoodIn wsL_law wsX8_cut := (goodIn_ca (goodIn_ca ggL_law_X8_cut_c1 (goodIn_app ggL_law_X8_cut_c2 (goodIn_app ggL_law_X8_cut_c3 (goodIn_app ggL_law_X8_cut_c4 (goodIn_app ggL_law_X8_cut_c5 (goodIn_app ggL_law_X8_cut_c6 (goodIn_app ggL_law_X8_cut_c7 (goodIn_app ggL_law_X8_cut_c8 (goodIn_app ggL_law_X8_cut_c9 ggL_law_X8_cut_c10))))))))) ggL_law_X8_cut_c11)
set_option maxRecDepth 20000 in
theorem gL_law_X8_cut : GoodIn wsL_law (wsV RL 45 RX8 yX8_cut wsX8_cut) := goodIn_app (goodIn_of _ (by decide +kernel)) ggL_law_X8_cut
set_option maxRecDepth 20000 in
theorem ggL_law_X7_token : GoodIn wsL_law wsX7_token := goodIn_r _ [896, 30, 897, 898, 899, 29, 900, 64, 62, 63, 66, 61, 726, 727, 728, 729, 576, 949, 950, 951, 952, 994, 995, 996, 997, 998, 999, 1000, 1001, 1002, 1003, 1004, 1005, 1006, 1007, 1008] (by decide +kernel) (by decide +kernel)
set_option maxRecDepth 20000 in
theorem gL_law_X7_token : GoodIn wsL_law (wsV RL 46 RX7 yX7_token wsX7_token) := goodIn_app (goodIn_of _ (by decide +kernel)) ggL_law_X7_token
set_option maxRecDepth 20000 in
theorem ggL_law_X8_token : GoodIn wsL_law wsX8_token := goodIn_r _ [904, 117, 90, 92, 93, 94, 91, 905, 906, 907, 5, 908, 742, 953, 954, 955, 956, 957, 958, 959, 960, 961, 962, 963, 964, 965, 966, 967, 968, 969, 970, 971, 972, 973, 974, 975, 976, 977, 978] (by decide +kernel) (by decide +kernel)
set_option maxRecDepth 20000 in
theorem gL_law_X8_token : GoodIn wsL_law (wsV RL 49 RX8 yX8_token wsX8_token) := goodIn_app (goodIn_of _ (by decide +kernel)) ggL_law_X8_token
set_option maxRecDepth 20000 in
theorem ggL_law_X7_letter : GoodIn wsL_law wsX7_letter := goodIn_r _ [912, 30, 913, 914, 915, 29, 916, 63, 62, 67, 61, 726, 727, 728, 729, 576, 719, 720, 721, 722, 66, 68, 723, 724, 725, 949, 950, 951, 952, 994, 995, 996, 997, 998, 999, 1000, 1001, 1002, 1003, 1004, 1005, 1006, 1007, 1008] (by decide +kernel) (by decide +kernel)
set_option maxRecDepth 20000 in
theorem gL_law_X7_letter : GoodIn wsL_law (wsV RL 50 RX7 yX7_letter wsX7_letter) := goodIn_app (goodIn_of _ (by decide +kernel)) ggL_law_X7_letter
set_option maxRecDepth 20000 in
theorem ggL_law_X8_letter : GoodIn wsL_law wsX8_letter := goodIn_r _ [920, 117, 93, 92, 97, 96, 905, 906, 907, 5, 908, 742, 953, 954, 955, 956, 957, 958, 959, 960, 961, 962, 963, 964, 965, 966, 967, 968, 969, 970, 971, 972, 973, 974, 975, 976, 977, 978] (by decide +kernel) (by decide +kernel)
set_option maxRecDepth 20000 in
theorem gL_law_X8_letter : GoodIn wsL_law (wsV RL 54 RX8 yX8_letter wsX8_letter) := goodIn_app (goodIn_of _ (by decide +kernel)) ggL_law_X8_letter
set_option maxRecDepth 20000 in
theorem ggL_law_X7_different : GoodIn wsL_law wsX7_different := goodIn_r _ [924, 30, 925, 926, 927, 29, 928, 633, 949, 950, 951, 952, 994, 995, 996, 997, 998, 999, 1000, 1001, 1002, 1003, 1004, 1005, 1006, 1007, 1008] (by decide +kernel) (by decide +kernel)
set_option maxRecDepth 20000 in
theorem gL_law_X7_different : GoodIn wsL_law (wsV RL 55 RX7 yX7_different wsX7_different) := goodIn_app (goodIn_of _ (by decide +kernel)) ggL_law_X7_different
set_option maxRecDepth 20000 in
theorem ggL_law_X8_different : GoodIn wsL_law wsX8_different := goodIn_r _ [932, 117, 742, 94, 933, 934, 935, 5, 936, 93, 97, 953, 954, 955, 956, 957, 958, 959, 960, 961, 962, 963, 964, 965, 966, 967, 968, 969, 970, 971, 972, 973, 974, 975, 976, 977, 978] (by decide +kernel) (by decide +kernel)
set_option maxRecDepth 20000 in
theorem gL_law_X8_different : GoodIn wsL_law (wsV RL 58 RX8 yX8_different wsX8_different) := goodIn_app (goodIn_of _ (by decide +kernel)) ggL_law_X8_different
set_option maxRecDepth 20000 in
theorem ggL_law_X7_often : GoodIn wsL_law wsX7_often := goodIn_r _ [940, 30, 941, 942, 943, 29, 944, 576, 66, 726, 727, 728, 729, 730, 731, 732, 733, 63, 719, 720, 721, 722, 67, 68, 61, 723, 724, 725, 949, 950, 951, 952, 994, 995, 996, 997, 998, 999, 1000, 1001, 1002, 1003, 1004, 1005, 1006, 1007, 1008] (by decide +kernel) (by decide +kernel)
set_option maxRecDepth 20000 in
theorem gL_law_X7_often : GoodIn wsL_law (wsV RL 59 RX7 yX7_often wsX7_often) := goodIn_app (goodIn_of _ (by decide +kernel)) ggL_law_X7_often
set_option maxRecDepth 20000 in
theorem ggL_law_X8_often : GoodIn wsL_law wsX8_often := goodIn_r _ [948, 117, 742, 94, 905, 906, 907, 5, 908, 933, 934, 935, 936, 93, 97, 953, 954, 955, 956, 957, 958, 959, 960, 961, 962, 963, 964, 965, 966, 967, 968, 969, 970, 971, 972, 973, 974, 975, 976, 977, 978] (by decide +kernel) (by decide +kernel)
set_option maxRecDepth 20000 in
theorem gL_law_X8_often : GoodIn wsL_law (wsV RL 62 RX8 yX8_often wsX8_often) := goodIn_app (goodIn_of _ (by decide +kernel)) ggL_law_X8_often
