theorem dX4_init_0 : decode cX4_init 0 = .ok (.aload_n 0, 1) := by decide +kernel
theorem dX4_init_1 : decode cX4_init 1 = .ok (.invokespecial 3, 3) := by decide +kernel
theorem dX4_init_4 : decode cX4_init 4 = .ok (.aload_n 0, 1) := by decide +kernel
theorem dX4_init_5 : decode cX4_init 5 = .ok (.bipush 30, 2) := by decide +kernel
theorem dX4_init_7 : decode cX4_init 7 = .ok (.newarray .int, 2) := by decide +kernel
theorem dX4_init_9 : decode cX4_init 9 = .ok (.putfield 9, 3) := by decide +kernel
theorem dX4_init_12 : decode cX4_init 12 = .ok (.aload_n 0, 1) := by decide +kernel
theorem dX4_init_13 : decode cX4_init 13 = .ok (.bipush 30, 2) := by decide +kernel
theorem dX4_init_15 : decode cX4_init 15 = .ok (.newarray .boolean, 2) := by decide +kernel
theorem dX4_init_17 : decode cX4_init 17 = .ok (.putfield 15, 3) := by decide +kernel
theorem dX4_init_20 : decode cX4_init 20 = .ok (.return_, 1) := by decide +kernel
set_option maxRecDepth 20000 in
theorem ggX4_stem_X4_append : GoodIn wsX4_stem wsX4_append := goodIn_r _ [7, 1, 2, 8, 129, 130, 131] (by decide +kernel) (by decide +kernel)
set_option maxRecDepth 20000 in
theorem gX4_stem_X4_append : GoodIn wsX4_stem (wsV RX4 23 RX4 yX4_append wsX4_append) := goodIn_app (goodIn_of _ (by decide +kernel)) ggX4_stem_X4_append
set_option maxRecDepth 20000 in
theorem ggX4_stem_X4_endOfMany : GoodIn wsX4_stem wsX4_endOfMany := goodIn_r _ [12, 1, 13, 14, 15, 6, 16, 2, 17, 18, 19, 20, 21, 22, 23, 24, 25, 26, 27, 28, 29, 30, 31, 32, 33, 34, 35, 36, 37, 38, 39, 40, 41, 42, 43, 44, 45, 46, 47, 48, 49, 50, 51, 52, 53, 54, 55, 56, 57, 58, 59, 60, 61, 62, 63, 64, 65, 66, 67, 68, 69, 70, 71, 72, 73, 74, 75, 76, 3, 4, 5, 7, 8, 129, 130, 131] (by decide +kernel) (by decide +kernel)
set_option maxRecDepth 20000 in
theorem gX4_stem_X4_endOfMany : GoodIn wsX4_stem (wsV RX4 27 RX4 yX4_endOfMany wsX4_endOfMany) := goodIn_app (goodIn_of _ (by decide +kernel)) ggX4_stem_X4_endOfMany
set_option maxRecDepth 20000 in
theorem ggX4_stem_X4_endOfPast : GoodIn wsX4_stem wsX4_endOfPast := goodIn_r _ [80, 1, 81, 82, 83, 6, 84, 13, 14, 15, 16, 2, 17, 18, 19, 20, 21, 22, 23, 24, 25, 26, 27, 28, 29, 30, 31, 32, 33, 34, 35, 36, 37, 38, 39, 40, 41, 42, 43, 44, 45, 46, 47, 48, 49, 50, 51, 52, 53, 54, 55, 56, 57, 58, 59, 60, 61, 62, 63, 64, 65, 85, 86, 87, 88, 89, 90, 91, 92, 8, 66, 67, 68, 69, 70, 71, 72, 73, 74, 75, 76, 3, 4, 5, 7, 93, 94, 95, 96, 97, 98, 99, 100, 101, 102, 103, 104, 105, 106, 107, 108, 129, 130, 131] (by decide +kernel) (by decide +kernel)
set_option maxRecDepth 20000 in
theorem gX4_stem_X4_endOfPast : GoodIn wsX4_stem (wsV RX4 30 RX4 yX4_endOfPast wsX4_endOfPast) := goodIn_app (goodIn_of _ (by decide +kernel)) ggX4_stem_X4_endOfPast
set_option maxRecDepth 20000 in
theorem ggX4_stem_X4_endOfY : GoodIn wsX4_stem wsX4_endOfY := goodIn_r _ [112, 1, 13, 14, 15, 6, 16, 2, 17, 18, 19, 20, 21, 22, 23, 24, 25, 26, 27, 28, 29, 30, 31, 32, 33, 34, 35, 36, 37, 38, 39, 40, 41, 42, 43, 44, 45, 46, 47, 48, 49, 50, 51, 52, 53, 54, 55, 56, 57, 58, 59, 60, 61, 62, 63, 64, 65, 93, 94, 95, 96, 89, 90, 91, 92, 8, 66, 67, 68, 69, 70, 71, 72, 73, 74, 75, 76, 3, 4, 5, 7, 129, 130, 131] (by decide +kernel) (by decide +kernel)
set_option maxRecDepth 20000 in
theorem gX4_stem_X4_endOfY : GoodIn wsX4_stem (wsV RX4 33 RX4 yX4_endOfY wsX4_endOfY) := goodIn_app (goodIn_of _ (by decide +kernel)) ggX4_stem_X4_endOfY
set_option maxRecDepth 20000 in
theorem ggX4_stem_X4_secondStep : GoodIn wsX4_stem wsX4_secondStep := goodIn_r _ [116, 81, 82, 83, 6, 84, 1, 13, 14, 15, 16, 2, 17, 18, 19, 20, 21, 22, 23, 24, 25, 26, 27, 28, 29, 30, 31, 32, 33, 34, 35, 36, 37, 38, 39, 40, 41, 42, 43, 44, 45, 46, 47, 48, 49, 50, 51, 52, 53, 54, 55, 56, 57, 58, 59, 60, 61, 62, 63, 64, 65, 85, 86, 87, 88, 89, 90, 91, 92, 8, 66, 67, 68, 69, 70, 71, 72, 73, 74, 75, 76, 3, 4, 5, 7, 129, 130, 131] (by decide +kernel) (by decide +kernel)
set_option maxRecDepth 20000 in
theorem gX4_stem_X4_secondStep : GoodIn wsX4_stem (wsV RX4 36 RX4 yX4_secondStep wsX4_secondStep) := goodIn_app (goodIn_of _ (by decide +kernel)) ggX4_stem_X4_secondStep
set_option maxRecDepth 20000 in
theorem ggX4_stem_X4_thirdStep : GoodIn wsX4_stem wsX4_thirdStep := goodIn_r _ [120, 81, 82, 83, 6, 84, 1, 13, 14, 15, 16, 2, 17, 18, 19, 20, 21, 22, 23, 24, 25, 26, 27, 28, 29, 30, 31, 32, 33, 34, 35, 36, 37, 38, 39, 40, 41, 42, 43, 44, 45, 46, 47, 48, 49, 50, 51, 52, 53, 54, 55, 56, 57, 58, 59, 60, 61, 62, 63, 64, 65, 85, 86, 87, 88, 89, 90, 91, 92, 8, 66, 67, 68, 69, 70, 71, 72, 73, 74, 75, 76, 3, 4, 5, 7, 129, 130, 131] (by decide +kernel) (by decide +kernel)
set_option maxRecDepth 20000 in
theorem gX4_stem_X4_thirdStep : GoodIn wsX4_stem (wsV RX4 40 RX4 yX4_thirdStep wsX4_thirdStep) := goodIn_app (goodIn_of _ (by decide +kernel)) ggX4_stem_X4_thirdStep
set_option maxRecDepth 20000 in
theorem ggX4_stem_X4_fourthStep : GoodIn wsX4_stem wsX4_fourthStep := goodIn_r _ [124, 1, 13, 14, 15, 6, 16, 2, 17, 18, 19, 20, 21, 22, 23, 24, 25, 26, 27, 28, 29, 30, 31, 32, 33, 34, 35, 36, 37, 38, 39, 40, 41, 42, 43, 44, 45, 46, 47, 48, 49, 50, 51, 52, 53, 54, 55, 56, 57, 58, 59, 60, 61, 62, 63, 64, 65, 105, 106, 107, 108, 81, 82, 83, 84, 85, 86, 87, 88, 89, 90, 91, 92, 8, 66, 67, 68, 69, 70, 71, 72, 73, 74, 75, 76, 3, 4, 5, 7, 129, 130, 131] (by decide +kernel) (by decide +kernel)
set_option maxRecDepth 20000 in
theorem gX4_stem_X4_fourthStep : GoodIn wsX4_stem (wsV RX4 43 RX4 yX4_fourthStep wsX4_fourthStep) := goodIn_app (goodIn_of _ (by decide +kernel)) ggX4_stem_X4_fourthStep
set_option maxRecDepth 20000 in
theorem ggX4_stem_X4_fifthStep : GoodIn wsX4_stem wsX4_fifthStep := goodIn_r _ [128, 1, 13, 14, 15, 6, 16, 2, 17, 18, 19, 20, 21, 22, 23, 24, 25, 26, 27, 28, 29, 30, 31, 32, 33, 34, 35, 36, 37, 38, 39, 40, 41, 42, 43, 44, 45, 46, 47, 48, 49, 50, 51, 52, 53, 54, 55, 56, 57, 58, 59, 60, 61, 62, 63, 64, 65, 85, 86, 87, 88, 89, 90, 91, 92, 8, 101, 102, 103, 104, 105, 106, 107, 108, 66, 67, 68, 69, 70, 71, 72, 73, 74, 75, 76, 3, 4, 5, 7, 129, 130, 131] (by decide +kernel) (by decide +kernel)
set_option maxRecDepth 20000 in
theorem gX4_stem_X4_fifthStep : GoodIn wsX4_stem (wsV RX4 46 RX4 yX4_fifthStep wsX4_fifthStep) := goodIn_app (goodIn_of _ (by decide +kernel)) ggX4_stem_X4_fifthStep
theorem dX4_stem_0 : decode cX4_stem 0 = .ok (.aload_n 0, 1) := by decide +kernel
theorem dX4_stem_1 : decode cX4_stem 1 = .ok (.iconst 0, 1) := by decide +kernel
theorem dX4_stem_2 : decode cX4_stem 2 = .ok (.putfield 19, 3) := by decide +kernel
theorem dX4_stem_5 : decode cX4_stem 5 = .ok (.iload 4, 2) := by decide +kernel
theorem dX4_stem_7 : decode cX4_stem 7 = .ok (.iconst 3, 1) := by decide +kernel
theorem dX4_stem_8 : decode cX4_stem 8 = .ok (.if_icmp .lt 7, 3) := by decide +kernel
theorem dX4_stem_11 : decode cX4_stem 11 = .ok (.iconst 1, 1) := by decide +kernel
theorem dX4_stem_12 : decode cX4_stem 12 = .ok (.goto 4, 3) := by decide +kernel
theorem dX4_stem_15 : decode cX4_stem 15 = .ok (.iconst 0, 1) := by decide +kernel
theorem dX4_stem_16 : decode cX4_stem 16 = .ok (.istore 5, 2) := by decide +kernel
theorem dX4_stem_18 : decode cX4_stem 18 = .ok (.iload_n 3, 1) := by decide +kernel
theorem dX4_stem_19 : decode cX4_stem 19 = .ok (.istore 6, 2) := by decide +kernel
theorem dX4_stem_21 : decode cX4_stem 21 = .ok (.iload 6, 2) := by decide +kernel
theorem dX4_stem_23 : decode cX4_stem 23 = .ok (.ifCond .lt 63, 3) := by decide +kernel
theorem dX4_stem_26 : decode cX4_stem 26 = .ok (.iload 6, 2) := by decide +kernel
theorem dX4_stem_28 : decode cX4_stem 28 = .ok (.iload_n 3, 1) := by decide +kernel
theorem dX4_stem_29 : decode cX4_stem 29 = .ok (.iload 4, 2) := by decide +kernel
theorem dX4_stem_31 : decode cX4_stem 31 = .ok (.iadd, 1) := by decide +kernel
theorem dX4_stem_32 : decode cX4_stem 32 = .ok (.if_icmp .ge 54, 3) := by decide +kernel
theorem dX4_stem_35 : decode cX4_stem 35 = .ok (.iload 6, 2) := by decide +kernel
theorem dX4_stem_37 : decode cX4_stem 37 = .ok (.aload_n 1, 1) := by decide +kernel
theorem dX4_stem_38 : decode cX4_stem 38 = .ok (.arraylength, 1) := by decide +kernel
theorem dX4_stem_39 : decode cX4_stem 39 = .ok (.if_icmp .ge 47, 3) := by decide +kernel
theorem dX4_stem_42 : decode cX4_stem 42 = .ok (.iload 5, 2) := by decide +kernel
theorem dX4_stem_44 : decode cX4_stem 44 = .ok (.ifCond .eq 25, 3) := by decide +kernel
theorem dX4_stem_47 : decode cX4_stem 47 = .ok (.aload_n 1, 1) := by decide +kernel
theorem dX4_stem_48 : decode cX4_stem 48 = .ok (.iload 6, 2) := by decide +kernel
theorem dX4_stem_50 : decode cX4_stem 50 = .ok (.iaload, 1) := by decide +kernel
theorem dX4_stem_51 : decode cX4_stem 51 = .ok (.bipush 97, 2) := by decide +kernel
theorem dX4_stem_53 : decode cX4_stem 53 = .ok (.if_icmp .lt 16, 3) := by decide +kernel
theorem dX4_stem_56 : decode cX4_stem 56 = .ok (.aload_n 1, 1) := by decide +kernel
theorem dX4_stem_57 : decode cX4_stem 57 = .ok (.iload 6, 2) := by decide +kernel
theorem dX4_stem_59 : decode cX4_stem 59 = .ok (.iaload, 1) := by decide +kernel
theorem dX4_stem_60 : decode cX4_stem 60 = .ok (.bipush 122, 2) := by decide +kernel
theorem dX4_stem_62 : decode cX4_stem 62 = .ok (.if_icmp .gt 7, 3) := by decide +kernel
theorem dX4_stem_65 : decode cX4_stem 65 = .ok (.iconst 1, 1) := by decide +kernel
theorem dX4_stem_66 : decode cX4_stem 66 = .ok (.goto 4, 3) := by decide +kernel
theorem dX4_stem_69 : decode cX4_stem 69 = .ok (.iconst 0, 1) := by decide +kernel
theorem dX4_stem_70 : decode cX4_stem 70 = .ok (.istore 5, 2) := by decide +kernel
theorem dX4_stem_72 : decode cX4_stem 72 = .ok (.aload_n 0, 1) := by decide +kernel
theorem dX4_stem_73 : decode cX4_stem 73 = .ok (.aload_n 1, 1) := by decide +kernel
theorem dX4_stem_74 : decode cX4_stem 74 = .ok (.iload 6, 2) := by decide +kernel
theorem dX4_stem_76 : decode cX4_stem 76 = .ok (.iaload, 1) := by decide +kernel
theorem dX4_stem_77 : decode cX4_stem 77 = .ok (.invokevirtual 23, 3) := by decide +kernel
theorem dX4_stem_80 : decode cX4_stem 80 = .ok (.iinc 6 1, 3) := by decide +kernel
theorem dX4_stem_83 : decode cX4_stem 83 = .ok (.goto (-62), 3) := by decide +kernel
theorem dX4_stem_86 : decode cX4_stem 86 = .ok (.iload 5, 2) := by decide +kernel
theorem dX4_stem_88 : decode cX4_stem 88 = .ok (.ifCond .eq 34, 3) := by decide +kernel
theorem dX4_stem_91 : decode cX4_stem 91 = .ok (.aload_n 0, 1) := by decide +kernel
theorem dX4_stem_92 : decode cX4_stem 92 = .ok (.invokevirtual 27, 3) := by decide +kernel
theorem dX4_stem_95 : decode cX4_stem 95 = .ok (.aload_n 0, 1) := by decide +kernel
theorem dX4_stem_96 : decode cX4_stem 96 = .ok (.invokevirtual 30, 3) := by decide +kernel
theorem dX4_stem_99 : decode cX4_stem 99 = .ok (.aload_n 0, 1) := by decide +kernel
theorem dX4_stem_100 : decode cX4_stem 100 = .ok (.invokevirtual 33, 3) := by decide +kernel
theorem dX4_stem_103 : decode cX4_stem 103 = .ok (.aload_n 0, 1) := by decide +kernel
theorem dX4_stem_104 : decode cX4_stem 104 = .ok (.invokevirtual 36, 3) := by decide +kernel
theorem dX4_stem_107 : decode cX4_stem 107 = .ok (.pop, 1) := by decide +kernel
theorem dX4_stem_108 : decode cX4_stem 108 = .ok (.aload_n 0, 1) := by decide +kernel
theorem dX4_stem_109 : decode cX4_stem 109 = .ok (.invokevirtual 40, 3) := by decide +kernel
theorem dX4_stem_112 : decode cX4_stem 112 = .ok (.pop, 1) := by decide +kernel
theorem dX4_stem_113 : decode cX4_stem 113 = .ok (.aload_n 0, 1) := by decide +kernel
theorem dX4_stem_114 : decode cX4_stem 114 = .ok (.invokevirtual 43, 3) := by decide +kernel
theorem dX4_stem_117 : decode cX4_stem 117 = .ok (.pop, 1) := by decide +kernel
theorem dX4_stem_118 : decode cX4_stem 118 = .ok (.aload_n 0, 1) := by decide +kernel
theorem dX4_stem_119 : decode cX4_stem 119 = .ok (.invokevirtual 46, 3) := by decide +kernel
theorem dX4_stem_122 : decode cX4_stem 122 = .ok (.iconst 0, 1) := by decide +kernel
theorem dX4_stem_123 : decode cX4_stem 123 = .ok (.istore 6, 2) := by decide +kernel
theorem dX4_stem_125 : decode cX4_stem 125 = .ok (.iload 6, 2) := by decide +kernel
theorem dX4_stem_127 : decode cX4_stem 127 = .ok (.aload_n 0, 1) := by decide +kernel
theorem dX4_stem_128 : decode cX4_stem 128 = .ok (.getfield 19, 3) := by decide +kernel
theorem dX4_stem_131 : decode cX4_stem 131 = .ok (.if_icmp .ge 35, 3) := by decide +kernel
theorem dX4_stem_134 : decode cX4_stem 134 = .ok (.iload_n 3, 1) := by decide +kernel
theorem dX4_stem_135 : decode cX4_stem 135 = .ok (.ifCond .lt 31, 3) := by decide +kernel
theorem dX4_stem_138 : decode cX4_stem 138 = .ok (.iload_n 3, 1) := by decide +kernel
theorem dX4_stem_139 : decode cX4_stem 139 = .ok (.iload 6, 2) := by decide +kernel
theorem dX4_stem_141 : decode cX4_stem 141 = .ok (.iadd, 1) := by decide +kernel
theorem dX4_stem_142 : decode cX4_stem 142 = .ok (.aload_n 2, 1) := by decide +kernel
theorem dX4_stem_143 : decode cX4_stem 143 = .ok (.arraylength, 1) := by decide +kernel
theorem dX4_stem_144 : decode cX4_stem 144 = .ok (.if_icmp .ge 22, 3) := by decide +kernel
theorem dX4_stem_147 : decode cX4_stem 147 = .ok (.aload_n 2, 1) := by decide +kernel
theorem dX4_stem_148 : decode cX4_stem 148 = .ok (.iload_n 3, 1) := by decide +kernel
theorem dX4_stem_149 : decode cX4_stem 149 = .ok (.iload 6, 2) := by decide +kernel
theorem dX4_stem_151 : decode cX4_stem 151 = .ok (.iadd, 1) := by decide +kernel
theorem dX4_stem_152 : decode cX4_stem 152 = .ok (.aload_n 0, 1) := by decide +kernel
theorem dX4_stem_153 : decode cX4_stem 153 = .ok (.getfield 9, 3) := by decide +kernel
theorem dX4_stem_156 : decode cX4_stem 156 = .ok (.iload 6, 2) := by decide +kernel
theorem dX4_stem_158 : decode cX4_stem 158 = .ok (.iaload, 1) := by decide +kernel
theorem dX4_stem_159 : decode cX4_stem 159 = .ok (.iastore, 1) := by decide +kernel
theorem dX4_stem_160 : decode cX4_stem 160 = .ok (.iinc 6 1, 3) := by decide +kernel
theorem dX4_stem_163 : decode cX4_stem 163 = .ok (.goto (-38), 3) := by decide +kernel
theorem dX4_stem_166 : decode cX4_stem 166 = .ok (.aload_n 0, 1) := by decide +kernel
theorem dX4_stem_167 : decode cX4_stem 167 = .ok (.getfield 19, 3) := by decide +kernel
theorem dX4_stem_170 : decode cX4_stem 170 = .ok (.ireturn, 1) := by decide +kernel
theorem dX4_append_0 : decode cX4_append 0 = .ok (.aload_n 0, 1) := by decide +kernel
theorem dX4_append_1 : decode cX4_append 1 = .ok (.getfield 19, 3) := by decide +kernel
theorem dX4_append_4 : decode cX4_append 4 = .ok (.aload_n 0, 1) := by decide +kernel
theorem dX4_append_5 : decode cX4_append 5 = .ok (.getfield 9, 3) := by decide +kernel
theorem dX4_append_8 : decode cX4_append 8 = .ok (.arraylength, 1) := by decide +kernel
theorem dX4_append_9 : decode cX4_append 9 = .ok (.if_icmp .ge 104, 3) := by decide +kernel
theorem dX4_append_12 : decode cX4_append 12 = .ok (.iload_n 1, 1) := by decide +kernel
theorem dX4_append_13 : decode cX4_append 13 = .ok (.bipush 97, 2) := by decide +kernel
theorem dX4_append_15 : decode cX4_append 15 = .ok (.if_icmp .eq 27, 3) := by decide +kernel
theorem dX4_append_18 : decode cX4_append 18 = .ok (.iload_n 1, 1) := by decide +kernel
theorem dX4_append_19 : decode cX4_append 19 = .ok (.bipush 101, 2) := by decide +kernel
theorem dX4_append_21 : decode cX4_append 21 = .ok (.if_icmp .eq 21, 3) := by decide +kernel
theorem dX4_append_24 : decode cX4_append 24 = .ok (.iload_n 1, 1) := by decide +kernel
theorem dX4_append_25 : decode cX4_append 25 = .ok (.bipush 105, 2) := by decide +kernel
theorem dX4_append_27 : decode cX4_append 27 = .ok (.if_icmp .eq 15, 3) := by decide +kernel
theorem dX4_append_30 : decode cX4_append 30 = .ok (.iload_n 1, 1) := by decide +kernel
theorem dX4_append_31 : decode cX4_append 31 = .ok (.bipush 111, 2) := by decide +kernel
theorem dX4_append_33 : decode cX4_append 33 = .ok (.if_icmp .eq 9, 3) := by decide +kernel
theorem dX4_append_36 : decode cX4_append 36 = .ok (.iload_n 1, 1) := by decide +kernel
theorem dX4_append_37 : decode cX4_append 37 = .ok (.bipush 117, 2) := by decide +kernel
theorem dX4_append_39 : decode cX4_append 39 = .ok (.if_icmp .ne 7, 3) := by decide +kernel
theorem dX4_append_42 : decode cX4_append 42 = .ok (.iconst 1, 1) := by decide +kernel
theorem dX4_append_43 : decode cX4_append 43 = .ok (.goto 4, 3) := by decide +kernel
theorem dX4_append_46 : decode cX4_append 46 = .ok (.iconst 0, 1) := by decide +kernel
theorem dX4_append_47 : decode cX4_append 47 = .ok (.istore_n 2, 1) := by decide +kernel
theorem dX4_append_48 : decode cX4_append 48 = .ok (.aload_n 0, 1) := by decide +kernel
theorem dX4_append_49 : decode cX4_append 49 = .ok (.getfield 9, 3) := by decide +kernel
theorem dX4_append_52 : decode cX4_append 52 = .ok (.aload_n 0, 1) := by decide +kernel
theorem dX4_append_53 : decode cX4_append 53 = .ok (.getfield 19, 3) := by decide +kernel
theorem dX4_append_56 : decode cX4_append 56 = .ok (.iload_n 1, 1) := by decide +kernel
theorem dX4_append_57 : decode cX4_append 57 = .ok (.iastore, 1) := by decide +kernel
theorem dX4_append_58 : decode cX4_append 58 = .ok (.aload_n 0, 1) := by decide +kernel
theorem dX4_append_59 : decode cX4_append 59 = .ok (.getfield 15, 3) := by decide +kernel
theorem dX4_append_62 : decode cX4_append 62 = .ok (.aload_n 0, 1) := by decide +kernel
theorem dX4_append_63 : decode cX4_append 63 = .ok (.getfield 19, 3) := by decide +kernel
theorem dX4_append_66 : decode cX4_append 66 = .ok (.iload_n 2, 1) := by decide +kernel
theorem dX4_append_67 : decode cX4_append 67 = .ok (.ifCond .ne 30, 3) := by decide +kernel
theorem dX4_append_70 : decode cX4_append 70 = .ok (.iload_n 1, 1) := by decide +kernel
theorem dX4_append_71 : decode cX4_append 71 = .ok (.bipush 121, 2) := by decide +kernel
theorem dX4_append_73 : decode cX4_append 73 = .ok (.if_icmp .ne 28, 3) := by decide +kernel
theorem dX4_append_76 : decode cX4_append 76 = .ok (.aload_n 0, 1) := by decide +kernel
theorem dX4_append_77 : decode cX4_append 77 = .ok (.getfield 19, 3) := by decide +kernel
theorem dX4_append_80 : decode cX4_append 80 = .ok (.ifCond .le 21, 3) := by decide +kernel
theorem dX4_append_83 : decode cX4_append 83 = .ok (.aload_n 0, 1) := by decide +kernel
theorem dX4_append_84 : decode cX4_append 84 = .ok (.getfield 15, 3) := by decide +kernel
theorem dX4_append_87 : decode cX4_append 87 = .ok (.aload_n 0, 1) := by decide +kernel
theorem dX4_append_88 : decode cX4_append 88 = .ok (.getfield 19, 3) := by decide +kernel
theorem dX4_append_91 : decode cX4_append 91 = .ok (.iconst 1, 1) := by decide +kernel
theorem dX4_append_92 : decode cX4_append 92 = .ok (.isub, 1) := by decide +kernel
theorem dX4_append_93 : decode cX4_append 93 = .ok (.baload, 1) := by decide +kernel
theorem dX4_append_94 : decode cX4_append 94 = .ok (.ifCond .ne 7, 3) := by decide +kernel
theorem dX4_append_97 : decode cX4_append 97 = .ok (.iconst 1, 1) := by decide +kernel
theorem dX4_append_98 : decode cX4_append 98 = .ok (.goto 4, 3) := by decide +kernel
theorem dX4_append_101 : decode cX4_append 101 = .ok (.iconst 0, 1) := by decide +kernel
theorem dX4_append_102 : decode cX4_append 102 = .ok (.bastore, 1) := by decide +kernel
theorem dX4_append_103 : decode cX4_append 103 = .ok (.aload_n 0, 1) := by decide +kernel
theorem dX4_append_104 : decode cX4_append 104 = .ok (.dup, 1) := by decide +kernel
theorem dX4_append_105 : decode cX4_append 105 = .ok (.getfield 19, 3) := by decide +kernel
theorem dX4_append_108 : decode cX4_append 108 = .ok (.iconst 1, 1) := by decide +kernel
theorem dX4_append_109 : decode cX4_append 109 = .ok (.iadd, 1) := by decide +kernel
theorem dX4_append_110 : decode cX4_append 110 = .ok (.putfield 19, 3) := by decide +kernel
theorem dX4_append_113 : decode cX4_append 113 = .ok (.return_, 1) := by decide +kernel
set_option maxRecDepth 20000 in
theorem ggX4_become_J0_length_8abf5 : GoodIn wsX4_become wsJ0_length_8abf5 := goodIn_r _ [13, 14, 15, 16, 17, 12, 18, 19, 20] (by decide +kernel) (by decide +kernel)
set_option maxRecDepth 20000 in
theorem gX4_become_J0_length_8abf5 : GoodIn wsX4_become (wsV RX4 58 RJ0 yJ0_length_8abf5 wsJ0_length_8abf5) := goodIn_app (goodIn_of _ (by decide +kernel)) ggX4_become_J0_length_8abf5
set_option maxRecDepth 20000 in
theorem ggX4_become_J0_charAt_5068e : GoodIn wsX4_become wsJ0_charAt_5068e := goodIn_r _ [24, 14, 25, 26, 27, 12, 28, 19, 20, 29, 30, 31, 32, 33, 34, 35, 36, 37, 38, 39, 40, 41, 42, 43, 44, 45, 46, 47, 48, 49, 50, 51, 52, 53, 54, 55, 56, 57] (by decide +kernel) (by decide +kernel)
set_option maxRecDepth 20000 in
theorem gX4_become_J0_charAt_5068e : GoodIn wsX4_become (wsV RX4 64 RJ0 yJ0_charAt_5068e wsJ0_charAt_5068e) := goodIn_app (goodIn_of _ (by decide +kernel)) ggX4_become_J0_charAt_5068e
set_option maxRecDepth 20000 in
theorem ggX4_become_X4_append : GoodIn wsX4_become wsX4_append := goodIn_r _ [62, 1, 63, 64, 65, 66, 67] (by decide +kernel) (by decide +kernel)
set_option maxRecDepth 20000 in
theorem gX4_become_X4_append : GoodIn wsX4_become (wsV RX4 23 RX4 yX4_append wsX4_append) := goodIn_app (goodIn_of _ (by decide +kernel)) ggX4_become_X4_append
theorem dX4_become_0 : decode cX4_become 0 = .ok (.aload_n 0, 1) := by decide +kernel
theorem dX4_become_1 : decode cX4_become 1 = .ok (.iconst 0, 1) := by decide +kernel
theorem dX4_become_2 : decode cX4_become 2 = .ok (.iload_n 1, 1) := by decide +kernel
theorem dX4_become_3 : decode cX4_become 3 = .ok (.aload_n 0, 1) := by decide +kernel
theorem dX4_become_4 : decode cX4_become 4 = .ok (.getfield 19, 3) := by decide +kernel
theorem dX4_become_7 : decode cX4_become 7 = .ok (.invokestatic 49, 3) := by decide +kernel
theorem dX4_become_10 : decode cX4_become 10 = .ok (.invokestatic 55, 3) := by decide +kernel
theorem dX4_become_13 : decode cX4_become 13 = .ok (.putfield 19, 3) := by decide +kernel
theorem dX4_become_16 : decode cX4_become 16 = .ok (.iconst 0, 1) := by decide +kernel
theorem dX4_become_17 : decode cX4_become 17 = .ok (.istore_n 3, 1) := by decide +kernel
theorem dX4_become_18 : decode cX4_become 18 = .ok (.iload_n 3, 1) := by decide +kernel
theorem dX4_become_19 : decode cX4_become 19 = .ok (.aload_n 2, 1) := by decide +kernel
theorem dX4_become_20 : decode cX4_become 20 = .ok (.invokevirtual 58, 3) := by decide +kernel
theorem dX4_become_23 : decode cX4_become 23 = .ok (.if_icmp .ge 18, 3) := by decide +kernel
theorem dX4_become_26 : decode cX4_become 26 = .ok (.aload_n 0, 1) := by decide +kernel
theorem dX4_become_27 : decode cX4_become 27 = .ok (.aload_n 2, 1) := by decide +kernel
theorem dX4_become_28 : decode cX4_become 28 = .ok (.iload_n 3, 1) := by decide +kernel
theorem dX4_become_29 : decode cX4_become 29 = .ok (.invokevirtual 64, 3) := by decide +kernel
theorem dX4_become_32 : decode cX4_become 32 = .ok (.invokevirtual 23, 3) := by decide +kernel
theorem dX4_become_35 : decode cX4_become 35 = .ok (.iinc 3 1, 3) := by decide +kernel
theorem dX4_become_38 : decode cX4_become 38 = .ok (.goto (-20), 3) := by decide +kernel
theorem dX4_become_41 : decode cX4_become 41 = .ok (.return_, 1) := by decide +kernel
set_option maxRecDepth 20000 in
theorem ggX4_ends_J0_length_8abf5 : GoodIn wsX4_ends wsJ0_length_8abf5 := goodIn_r _ [7, 8, 9, 10, 11, 6, 12, 13, 14] (by decide +kernel) (by decide +kernel)
set_option maxRecDepth 20000 in
theorem gX4_ends_J0_length_8abf5 : GoodIn wsX4_ends (wsV RX4 58 RJ0 yJ0_length_8abf5 wsJ0_length_8abf5) := goodIn_app (goodIn_of _ (by decide +kernel)) ggX4_ends_J0_length_8abf5
set_option maxRecDepth 20000 in
theorem ggX4_ends_J0_charAt_5068e : GoodIn wsX4_ends wsJ0_charAt_5068e := goodIn_r _ [18, 8, 19, 20, 21, 6, 22, 13, 14, 23, 24, 25, 26, 27, 28, 29, 30, 31, 32, 33, 34, 35, 36, 37, 38, 39, 40, 41, 42, 43, 44, 45, 46, 47, 48, 49, 50, 51] (by decide +kernel) (by decide +kernel)
set_option maxRecDepth 20000 in
theorem gX4_ends_J0_charAt_5068e : GoodIn wsX4_ends (wsV RX4 64 RJ0 yJ0_charAt_5068e wsJ0_charAt_5068e) := goodIn_app (goodIn_of _ (by decide +kernel)) ggX4_ends_J0_charAt_5068e
theorem dX4_ends_0 : decode cX4_ends 0 = .ok (.aload_n 0, 1) := by decide +kernel
theorem dX4_ends_1 : decode cX4_ends 1 = .ok (.getfield 19, 3) := by decide +kernel
theorem dX4_ends_4 : decode cX4_ends 4 = .ok (.aload_n 1, 1) := by decide +kernel
theorem dX4_ends_5 : decode cX4_ends 5 = .ok (.invokevirtual 58, 3) := by decide +kernel
theorem dX4_ends_8 : decode cX4_ends 8 = .ok (.isub, 1) := by decide +kernel
theorem dX4_ends_9 : decode cX4_ends 9 = .ok (.istore_n 2, 1) := by decide +kernel
theorem dX4_ends_10 : decode cX4_ends 10 = .ok (.iload_n 2, 1) := by decide +kernel
theorem dX4_ends_11 : decode cX4_ends 11 = .ok (.ifCond .ge 5, 3) := by decide +kernel
theorem dX4_ends_14 : decode cX4_ends 14 = .ok (.iconst 0, 1) := by decide +kernel
theorem dX4_ends_15 : decode cX4_ends 15 = .ok (.ireturn, 1) := by decide +kernel
theorem dX4_ends_16 : decode cX4_ends 16 = .ok (.aload_n 1, 1) := by decide +kernel
theorem dX4_ends_17 : decode cX4_ends 17 = .ok (.invokevirtual 58, 3) := by decide +kernel
theorem dX4_ends_20 : decode cX4_ends 20 = .ok (.iconst 1, 1) := by decide +kernel
theorem dX4_ends_21 : decode cX4_ends 21 = .ok (.isub, 1) := by decide +kernel
theorem dX4_ends_22 : decode cX4_ends 22 = .ok (.istore_n 3, 1) := by decide +kernel
theorem dX4_ends_23 : decode cX4_ends 23 = .ok (.iload_n 3, 1) := by decide +kernel
theorem dX4_ends_24 : decode cX4_ends 24 = .ok (.ifCond .lt 27, 3) := by decide +kernel
theorem dX4_ends_27 : decode cX4_ends 27 = .ok (.aload_n 0, 1) := by decide +kernel
theorem dX4_ends_28 : decode cX4_ends 28 = .ok (.getfield 9, 3) := by decide +kernel
theorem dX4_ends_31 : decode cX4_ends 31 = .ok (.iload_n 2, 1) := by decide +kernel
theorem dX4_ends_32 : decode cX4_ends 32 = .ok (.iload_n 3, 1) := by decide +kernel
theorem dX4_ends_33 : decode cX4_ends 33 = .ok (.iadd, 1) := by decide +kernel
theorem dX4_ends_34 : decode cX4_ends 34 = .ok (.iaload, 1) := by decide +kernel
theorem dX4_ends_35 : decode cX4_ends 35 = .ok (.aload_n 1, 1) := by decide +kernel
theorem dX4_ends_36 : decode cX4_ends 36 = .ok (.iload_n 3, 1) := by decide +kernel
theorem dX4_ends_37 : decode cX4_ends 37 = .ok (.invokevirtual 64, 3) := by decide +kernel
theorem dX4_ends_40 : decode cX4_ends 40 = .ok (.if_icmp .eq 5, 3) := by decide +kernel
theorem dX4_ends_43 : decode cX4_ends 43 = .ok (.iconst 0, 1) := by decide +kernel
theorem dX4_ends_44 : decode cX4_ends 44 = .ok (.ireturn, 1) := by decide +kernel
theorem dX4_ends_45 : decode cX4_ends 45 = .ok (.iinc 3 (-1), 3) := by decide +kernel
theorem dX4_ends_48 : decode cX4_ends 48 = .ok (.goto (-25), 3) := by decide +kernel
theorem dX4_ends_51 : decode cX4_ends 51 = .ok (.iconst 1, 1) := by decide +kernel
theorem dX4_ends_52 : decode cX4_ends 52 = .ok (.ireturn, 1) := by decide +kernel
theorem dX4_isLetter_0 : decode cX4_isLetter 0 = .ok (.iload_n 1, 1) := by decide +kernel
theorem dX4_isLetter_1 : decode cX4_isLetter 1 = .ok (.ifCond .lt 25, 3) := by decide +kernel
theorem dX4_isLetter_4 : decode cX4_isLetter 4 = .ok (.iload_n 1, 1) := by decide +kernel
theorem dX4_isLetter_5 : decode cX4_isLetter 5 = .ok (.aload_n 0, 1) := by decide +kernel
theorem dX4_isLetter_6 : decode cX4_isLetter 6 = .ok (.getfield 19, 3) := by decide +kernel
theorem dX4_isLetter_9 : decode cX4_isLetter 9 = .ok (.if_icmp .ge 17, 3) := by decide +kernel
theorem dX4_isLetter_12 : decode cX4_isLetter 12 = .ok (.aload_n 0, 1) := by decide +kernel
theorem dX4_isLetter_13 : decode cX4_isLetter 13 = .ok (.getfield 9, 3) := by decide +kernel
theorem dX4_isLetter_16 : decode cX4_isLetter 16 = .ok (.iload_n 1, 1) := by decide +kernel
theorem dX4_isLetter_17 : decode cX4_isLetter 17 = .ok (.iaload, 1) := by decide +kernel
theorem dX4_isLetter_18 : decode cX4_isLetter 18 = .ok (.iload_n 2, 1) := by decide +kernel
theorem dX4_isLetter_19 : decode cX4_isLetter 19 = .ok (.if_icmp .ne 7, 3) := by decide +kernel
theorem dX4_isLetter_22 : decode cX4_isLetter 22 = .ok (.iconst 1, 1) := by decide +kernel
theorem dX4_isLetter_23 : decode cX4_isLetter 23 = .ok (.goto 4, 3) := by decide +kernel
theorem dX4_isLetter_26 : decode cX4_isLetter 26 = .ok (.iconst 0, 1) := by decide +kernel
theorem dX4_isLetter_27 : decode cX4_isLetter 27 = .ok (.ireturn, 1) := by decide +kernel
theorem dX4_isVowel_0 : decode cX4_isVowel 0 = .ok (.iload_n 1, 1) := by decide +kernel
theorem dX4_isVowel_1 : decode cX4_isVowel 1 = .ok (.ifCond .lt 24, 3) := by decide +kernel
theorem dX4_isVowel_4 : decode cX4_isVowel 4 = .ok (.iload_n 1, 1) := by decide +kernel
theorem dX4_isVowel_5 : decode cX4_isVowel 5 = .ok (.aload_n 0, 1) := by decide +kernel
theorem dX4_isVowel_6 : decode cX4_isVowel 6 = .ok (.getfield 19, 3) := by decide +kernel
theorem dX4_isVowel_9 : decode cX4_isVowel 9 = .ok (.if_icmp .ge 16, 3) := by decide +kernel
theorem dX4_isVowel_12 : decode cX4_isVowel 12 = .ok (.aload_n 0, 1) := by decide +kernel
theorem dX4_isVowel_13 : decode cX4_isVowel 13 = .ok (.getfield 15, 3) := by decide +kernel
theorem dX4_isVowel_16 : decode cX4_isVowel 16 = .ok (.iload_n 1, 1) := by decide +kernel
theorem dX4_isVowel_17 : decode cX4_isVowel 17 = .ok (.baload, 1) := by decide +kernel
theorem dX4_isVowel_18 : decode cX4_isVowel 18 = .ok (.ifCond .eq 7, 3) := by decide +kernel
theorem dX4_isVowel_21 : decode cX4_isVowel 21 = .ok (.iconst 1, 1) := by decide +kernel
theorem dX4_isVowel_22 : decode cX4_isVowel 22 = .ok (.goto 4, 3) := by decide +kernel
theorem dX4_isVowel_25 : decode cX4_isVowel 25 = .ok (.iconst 0, 1) := by decide +kernel
theorem dX4_isVowel_26 : decode cX4_isVowel 26 = .ok (.ireturn, 1) := by decide +kernel
set_option maxRecDepth 20000 in
theorem ggX4_measure_X4_isVowel : GoodIn wsX4_measure wsX4_isVowel := goodIn_r _ [5, 6, 7, 8, 9, 10] (by decide +kernel) (by decide +kernel)
set_option maxRecDepth 20000 in
theorem gX4_measure_X4_isVowel : GoodIn wsX4_measure (wsV RX4 68 RX4 yX4_isVowel wsX4_isVowel) := goodIn_app (goodIn_of _ (by decide +kernel)) ggX4_measure_X4_isVowel
theorem dX4_measure_0 : decode cX4_measure 0 = .ok (.iconst 0, 1) := by decide +kernel
theorem dX4_measure_1 : decode cX4_measure 1 = .ok (.istore_n 2, 1) := by decide +kernel
theorem dX4_measure_2 : decode cX4_measure 2 = .ok (.iconst 1, 1) := by decide +kernel
theorem dX4_measure_3 : decode cX4_measure 3 = .ok (.istore_n 3, 1) := by decide +kernel
theorem dX4_measure_4 : decode cX4_measure 4 = .ok (.iload_n 3, 1) := by decide +kernel
theorem dX4_measure_5 : decode cX4_measure 5 = .ok (.iload_n 1, 1) := by decide +kernel
theorem dX4_measure_6 : decode cX4_measure 6 = .ok (.if_icmp .ge 30, 3) := by decide +kernel
theorem dX4_measure_9 : decode cX4_measure 9 = .ok (.aload_n 0, 1) := by decide +kernel
theorem dX4_measure_10 : decode cX4_measure 10 = .ok (.iload_n 3, 1) := by decide +kernel
theorem dX4_measure_11 : decode cX4_measure 11 = .ok (.iconst 1, 1) := by decide +kernel
theorem dX4_measure_12 : decode cX4_measure 12 = .ok (.isub, 1) := by decide +kernel
theorem dX4_measure_13 : decode cX4_measure 13 = .ok (.invokevirtual 68, 3) := by decide +kernel
theorem dX4_measure_16 : decode cX4_measure 16 = .ok (.ifCond .eq 14, 3) := by decide +kernel
theorem dX4_measure_19 : decode cX4_measure 19 = .ok (.aload_n 0, 1) := by decide +kernel
theorem dX4_measure_20 : decode cX4_measure 20 = .ok (.iload_n 3, 1) := by decide +kernel
theorem dX4_measure_21 : decode cX4_measure 21 = .ok (.invokevirtual 68, 3) := by decide +kernel
theorem dX4_measure_24 : decode cX4_measure 24 = .ok (.ifCond .ne 6, 3) := by decide +kernel
theorem dX4_measure_27 : decode cX4_measure 27 = .ok (.iinc 2 1, 3) := by decide +kernel
theorem dX4_measure_30 : decode cX4_measure 30 = .ok (.iinc 3 1, 3) := by decide +kernel
theorem dX4_measure_33 : decode cX4_measure 33 = .ok (.goto (-29), 3) := by decide +kernel
theorem dX4_measure_36 : decode cX4_measure 36 = .ok (.iload_n 2, 1) := by decide +kernel
theorem dX4_measure_37 : decode cX4_measure 37 = .ok (.ireturn, 1) := by decide +kernel
set_option maxRecDepth 20000 in
theorem ggX4_hasVowel_X4_isVowel : GoodIn wsX4_hasVowel wsX4_isVowel := goodIn_r _ [5, 6, 7, 8, 9, 10] (by decide +kernel) (by decide +kernel)
set_option maxRecDepth 20000 in
theorem gX4_hasVowel_X4_isVowel : GoodIn wsX4_hasVowel (wsV RX4 68 RX4 yX4_isVowel wsX4_isVowel) := goodIn_app (goodIn_of _ (by decide +kernel)) ggX4_hasVowel_X4_isVowel
theorem dX4_hasVowel_0 : decode cX4_hasVowel 0 = .ok (.iconst 0, 1) := by decide +kernel
theorem dX4_hasVowel_1 : decode cX4_hasVowel 1 = .ok (.istore_n 2, 1) := by decide +kernel
theorem dX4_hasVowel_2 : decode cX4_hasVowel 2 = .ok (.iload_n 2, 1) := by decide +kernel
theorem dX4_hasVowel_3 : decode cX4_hasVowel 3 = .ok (.iload_n 1, 1) := by decide +kernel
theorem dX4_hasVowel_4 : decode cX4_hasVowel 4 = .ok (.if_icmp .ge 19, 3) := by decide +kernel
theorem dX4_hasVowel_7 : decode cX4_hasVowel 7 = .ok (.aload_n 0, 1) := by decide +kernel
theorem dX4_hasVowel_8 : decode cX4_hasVowel 8 = .ok (.iload_n 2, 1) := by decide +kernel
theorem dX4_hasVowel_9 : decode cX4_hasVowel 9 = .ok (.invokevirtual 68, 3) := by decide +kernel
theorem dX4_hasVowel_12 : decode cX4_hasVowel 12 = .ok (.ifCond .eq 5, 3) := by decide +kernel
theorem dX4_hasVowel_15 : decode cX4_hasVowel 15 = .ok (.iconst 1, 1) := by decide +kernel
theorem dX4_hasVowel_16 : decode cX4_hasVowel 16 = .ok (.ireturn, 1) := by decide +kernel
theorem dX4_hasVowel_17 : decode cX4_hasVowel 17 = .ok (.iinc 2 1, 3) := by decide +kernel
theorem dX4_hasVowel_20 : decode cX4_hasVowel 20 = .ok (.goto (-18), 3) := by decide +kernel
theorem dX4_hasVowel_23 : decode cX4_hasVowel 23 = .ok (.iconst 0, 1) := by decide +kernel
theorem dX4_hasVowel_24 : decode cX4_hasVowel 24 = .ok (.ireturn, 1) := by decide +kernel
set_option maxRecDepth 20000 in
theorem ggX4_isCvc_X4_isVowel : GoodIn wsX4_isCvc wsX4_isVowel := goodIn_r _ [5, 6, 7, 13, 14, 15] (by decide +kernel) (by decide +kernel)
set_option maxRecDepth 20000 in
theorem gX4_isCvc_X4_isVowel : GoodIn wsX4_isCvc (wsV RX4 68 RX4 yX4_isVowel wsX4_isVowel) := goodIn_app (goodIn_of _ (by decide +kernel)) ggX4_isCvc_X4_isVowel
set_option maxRecDepth 20000 in
theorem ggX4_isCvc_X4_isLetter : GoodIn wsX4_isCvc wsX4_isLetter := goodIn_r _ [11, 6, 12, 13, 14, 15] (by decide +kernel) (by decide +kernel)
set_option maxRecDepth 20000 in
theorem gX4_isCvc_X4_isLetter : GoodIn wsX4_isCvc (wsV RX4 72 RX4 yX4_isLetter wsX4_isLetter) := goodIn_app (goodIn_of _ (by decide +kernel)) ggX4_isCvc_X4_isLetter
theorem dX4_isCvc_0 : decode cX4_isCvc 0 = .ok (.iload_n 1, 1) := by decide +kernel
theorem dX4_isCvc_1 : decode cX4_isCvc 1 = .ok (.iconst 1, 1) := by decide +kernel
theorem dX4_isCvc_2 : decode cX4_isCvc 2 = .ok (.isub, 1) := by decide +kernel
theorem dX4_isCvc_3 : decode cX4_isCvc 3 = .ok (.istore_n 2, 1) := by decide +kernel
theorem dX4_isCvc_4 : decode cX4_isCvc 4 = .ok (.iload_n 1, 1) := by decide +kernel
theorem dX4_isCvc_5 : decode cX4_isCvc 5 = .ok (.iconst 3, 1) := by decide +kernel
theorem dX4_isCvc_6 : decode cX4_isCvc 6 = .ok (.if_icmp .lt 65, 3) := by decide +kernel
theorem dX4_isCvc_9 : decode cX4_isCvc 9 = .ok (.aload_n 0, 1) := by decide +kernel
theorem dX4_isCvc_10 : decode cX4_isCvc 10 = .ok (.iload_n 2, 1) := by decide +kernel
theorem dX4_isCvc_11 : decode cX4_isCvc 11 = .ok (.iconst 2, 1) := by decide +kernel
theorem dX4_isCvc_12 : decode cX4_isCvc 12 = .ok (.isub, 1) := by decide +kernel
theorem dX4_isCvc_13 : decode cX4_isCvc 13 = .ok (.invokevirtual 68, 3) := by decide +kernel
theorem dX4_isCvc_16 : decode cX4_isCvc 16 = .ok (.ifCond .ne 55, 3) := by decide +kernel
theorem dX4_isCvc_19 : decode cX4_isCvc 19 = .ok (.aload_n 0, 1) := by decide +kernel
theorem dX4_isCvc_20 : decode cX4_isCvc 20 = .ok (.iload_n 2, 1) := by decide +kernel
theorem dX4_isCvc_21 : decode cX4_isCvc 21 = .ok (.iconst 1, 1) := by decide +kernel
theorem dX4_isCvc_22 : decode cX4_isCvc 22 = .ok (.isub, 1) := by decide +kernel
theorem dX4_isCvc_23 : decode cX4_isCvc 23 = .ok (.invokevirtual 68, 3) := by decide +kernel
theorem dX4_isCvc_26 : decode cX4_isCvc 26 = .ok (.ifCond .eq 45, 3) := by decide +kernel
theorem dX4_isCvc_29 : decode cX4_isCvc 29 = .ok (.aload_n 0, 1) := by decide +kernel
theorem dX4_isCvc_30 : decode cX4_isCvc 30 = .ok (.iload_n 2, 1) := by decide +kernel
theorem dX4_isCvc_31 : decode cX4_isCvc 31 = .ok (.invokevirtual 68, 3) := by decide +kernel
theorem dX4_isCvc_34 : decode cX4_isCvc 34 = .ok (.ifCond .ne 37, 3) := by decide +kernel
theorem dX4_isCvc_37 : decode cX4_isCvc 37 = .ok (.aload_n 0, 1) := by decide +kernel
theorem dX4_isCvc_38 : decode cX4_isCvc 38 = .ok (.iload_n 2, 1) := by decide +kernel
theorem dX4_isCvc_39 : decode cX4_isCvc 39 = .ok (.bipush 119, 2) := by decide +kernel
theorem dX4_isCvc_41 : decode cX4_isCvc 41 = .ok (.invokevirtual 72, 3) := by decide +kernel
theorem dX4_isCvc_44 : decode cX4_isCvc 44 = .ok (.ifCond .ne 27, 3) := by decide +kernel
theorem dX4_isCvc_47 : decode cX4_isCvc 47 = .ok (.aload_n 0, 1) := by decide +kernel
theorem dX4_isCvc_48 : decode cX4_isCvc 48 = .ok (.iload_n 2, 1) := by decide +kernel
theorem dX4_isCvc_49 : decode cX4_isCvc 49 = .ok (.bipush 120, 2) := by decide +kernel
theorem dX4_isCvc_51 : decode cX4_isCvc 51 = .ok (.invokevirtual 72, 3) := by decide +kernel
theorem dX4_isCvc_54 : decode cX4_isCvc 54 = .ok (.ifCond .ne 17, 3) := by decide +kernel
theorem dX4_isCvc_57 : decode cX4_isCvc 57 = .ok (.aload_n 0, 1) := by decide +kernel
theorem dX4_isCvc_58 : decode cX4_isCvc 58 = .ok (.iload_n 2, 1) := by decide +kernel
theorem dX4_isCvc_59 : decode cX4_isCvc 59 = .ok (.bipush 121, 2) := by decide +kernel
theorem dX4_isCvc_61 : decode cX4_isCvc 61 = .ok (.invokevirtual 72, 3) := by decide +kernel
theorem dX4_isCvc_64 : decode cX4_isCvc 64 = .ok (.ifCond .ne 7, 3) := by decide +kernel
theorem dX4_isCvc_67 : decode cX4_isCvc 67 = .ok (.iconst 1, 1) := by decide +kernel
theorem dX4_isCvc_68 : decode cX4_isCvc 68 = .ok (.goto 4, 3) := by decide +kernel
theorem dX4_isCvc_71 : decode cX4_isCvc 71 = .ok (.iconst 0, 1) := by decide +kernel
theorem dX4_isCvc_72 : decode cX4_isCvc 72 = .ok (.ireturn, 1) := by decide +kernel
set_option maxRecDepth 20000 in
theorem ggX4_hasTwoAlike_X4_isVowel : GoodIn wsX4_hasTwoAlike wsX4_isVowel := goodIn_r _ [7, 1, 8, 9, 10, 11] (by decide +kernel) (by decide +kernel)
set_option maxRecDepth 20000 in
theorem gX4_hasTwoAlike_X4_isVowel : GoodIn wsX4_hasTwoAlike (wsV RX4 68 RX4 yX4_isVowel wsX4_isVowel) := goodIn_app (goodIn_of _ (by decide +kernel)) ggX4_hasTwoAlike_X4_isVowel
theorem dX4_hasTwoAlike_0 : decode cX4_hasTwoAlike 0 = .ok (.aload_n 0, 1) := by decide +kernel
theorem dX4_hasTwoAlike_1 : decode cX4_hasTwoAlike 1 = .ok (.getfield 19, 3) := by decide +kernel
theorem dX4_hasTwoAlike_4 : decode cX4_hasTwoAlike 4 = .ok (.iconst 2, 1) := by decide +kernel
theorem dX4_hasTwoAlike_5 : decode cX4_hasTwoAlike 5 = .ok (.if_icmp .lt 45, 3) := by decide +kernel
theorem dX4_hasTwoAlike_8 : decode cX4_hasTwoAlike 8 = .ok (.aload_n 0, 1) := by decide +kernel
theorem dX4_hasTwoAlike_9 : decode cX4_hasTwoAlike 9 = .ok (.getfield 9, 3) := by decide +kernel
theorem dX4_hasTwoAlike_12 : decode cX4_hasTwoAlike 12 = .ok (.aload_n 0, 1) := by decide +kernel
theorem dX4_hasTwoAlike_13 : decode cX4_hasTwoAlike 13 = .ok (.getfield 19, 3) := by decide +kernel
theorem dX4_hasTwoAlike_16 : decode cX4_hasTwoAlike 16 = .ok (.iconst 1, 1) := by decide +kernel
theorem dX4_hasTwoAlike_17 : decode cX4_hasTwoAlike 17 = .ok (.isub, 1) := by decide +kernel
theorem dX4_hasTwoAlike_18 : decode cX4_hasTwoAlike 18 = .ok (.iaload, 1) := by decide +kernel
theorem dX4_hasTwoAlike_19 : decode cX4_hasTwoAlike 19 = .ok (.aload_n 0, 1) := by decide +kernel
theorem dX4_hasTwoAlike_20 : decode cX4_hasTwoAlike 20 = .ok (.getfield 9, 3) := by decide +kernel
theorem dX4_hasTwoAlike_23 : decode cX4_hasTwoAlike 23 = .ok (.aload_n 0, 1) := by decide +kernel
theorem dX4_hasTwoAlike_24 : decode cX4_hasTwoAlike 24 = .ok (.getfield 19, 3) := by decide +kernel
theorem dX4_hasTwoAlike_27 : decode cX4_hasTwoAlike 27 = .ok (.iconst 2, 1) := by decide +kernel
theorem dX4_hasTwoAlike_28 : decode cX4_hasTwoAlike 28 = .ok (.isub, 1) := by decide +kernel
theorem dX4_hasTwoAlike_29 : decode cX4_hasTwoAlike 29 = .ok (.iaload, 1) := by decide +kernel
theorem dX4_hasTwoAlike_30 : decode cX4_hasTwoAlike 30 = .ok (.if_icmp .ne 20, 3) := by decide +kernel
theorem dX4_hasTwoAlike_33 : decode cX4_hasTwoAlike 33 = .ok (.aload_n 0, 1) := by decide +kernel
theorem dX4_hasTwoAlike_34 : decode cX4_hasTwoAlike 34 = .ok (.aload_n 0, 1) := by decide +kernel
theorem dX4_hasTwoAlike_35 : decode cX4_hasTwoAlike 35 = .ok (.getfield 19, 3) := by decide +kernel
theorem dX4_hasTwoAlike_38 : decode cX4_hasTwoAlike 38 = .ok (.iconst 1, 1) := by decide +kernel
theorem dX4_hasTwoAlike_39 : decode cX4_hasTwoAlike 39 = .ok (.isub, 1) := by decide +kernel
theorem dX4_hasTwoAlike_40 : decode cX4_hasTwoAlike 40 = .ok (.invokevirtual 68, 3) := by decide +kernel
theorem dX4_hasTwoAlike_43 : decode cX4_hasTwoAlike 43 = .ok (.ifCond .ne 7, 3) := by decide +kernel
theorem dX4_hasTwoAlike_46 : decode cX4_hasTwoAlike 46 = .ok (.iconst 1, 1) := by decide +kernel
theorem dX4_hasTwoAlike_47 : decode cX4_hasTwoAlike 47 = .ok (.goto 4, 3) := by decide +kernel
theorem dX4_hasTwoAlike_50 : decode cX4_hasTwoAlike 50 = .ok (.iconst 0, 1) := by decide +kernel
theorem dX4_hasTwoAlike_51 : decode cX4_hasTwoAlike 51 = .ok (.ireturn, 1) := by decide +kernel
set_option maxRecDepth 20000 in
theorem ggX4_tries_X4_ends : GoodIn wsX4_tries wsX4_ends := goodIn_r _ [6, 1, 7, 8, 9, 10, 11, 12, 13, 14, 15, 16, 17, 18, 19, 20, 21, 22, 23, 24, 25, 26, 27, 28, 29, 30, 31, 32, 33, 34, 35, 36, 37, 38, 39, 40, 41, 42, 43, 44, 45, 46, 47, 48, 49, 50, 51, 52, 53, 54, 55, 56, 81, 82, 83] (by decide +kernel) (by decide +kernel)
set_option maxRecDepth 20000 in
theorem gX4_tries_X4_ends : GoodIn wsX4_tries (wsV RX4 76 RX4 yX4_ends wsX4_ends) := goodIn_app (goodIn_of _ (by decide +kernel)) ggX4_tries_X4_ends
set_option maxRecDepth 20000 in
theorem ggX4_tries_J0_length_8abf5 : GoodIn wsX4_tries wsJ0_length_8abf5 := goodIn_r _ [12, 13, 14, 15, 16, 11, 17, 18, 19] (by decide +kernel) (by decide +kernel)
set_option maxRecDepth 20000 in
theorem gX4_tries_J0_length_8abf5 : GoodIn wsX4_tries (wsV RX4 58 RJ0 yJ0_length_8abf5 wsJ0_length_8abf5) := goodIn_app (goodIn_of _ (by decide +kernel)) ggX4_tries_J0_length_8abf5
set_option maxRecDepth 20000 in
theorem ggX4_tries_X4_measure : GoodIn wsX4_tries wsX4_measure := goodIn_r _ [60, 61, 62, 63, 5, 64, 1, 65, 81, 82, 83] (by decide +kernel) (by decide +kernel)
set_option maxRecDepth 20000 in
theorem gX4_tries_X4_measure : GoodIn wsX4_tries (wsV RX4 80 RX4 yX4_measure wsX4_measure) := goodIn_app (goodIn_of _ (by decide +kernel)) ggX4_tries_X4_measure
set_option maxRecDepth 20000 in
theorem ggX4_tries_X4_become : GoodIn wsX4_tries wsX4_become := goodIn_r _ [69, 1, 70, 71, 72, 73, 74, 75, 76, 8, 9, 10, 11, 12, 13, 14, 15, 16, 17, 18, 19, 20, 21, 22, 23, 24, 25, 26, 27, 28, 29, 30, 31, 32, 33, 34, 35, 36, 37, 38, 39, 40, 41, 42, 43, 44, 45, 46, 47, 48, 49, 50, 51, 52, 53, 54, 55, 56, 77, 78, 79, 5, 80, 7, 65, 81, 82, 83] (by decide +kernel) (by decide +kernel)
set_option maxRecDepth 20000 in
theorem gX4_tries_X4_become : GoodIn wsX4_tries (wsV RX4 84 RX4 yX4_become wsX4_become) := goodIn_app (goodIn_of _ (by decide +kernel)) ggX4_tries_X4_become
theorem dX4_tries_0 : decode cX4_tries 0 = .ok (.aload_n 0, 1) := by decide +kernel
theorem dX4_tries_1 : decode cX4_tries 1 = .ok (.aload_n 1, 1) := by decide +kernel
theorem dX4_tries_2 : decode cX4_tries 2 = .ok (.invokevirtual 76, 3) := by decide +kernel
theorem dX4_tries_5 : decode cX4_tries 5 = .ok (.ifCond .ne 5, 3) := by decide +kernel
theorem dX4_tries_8 : decode cX4_tries 8 = .ok (.iconst 0, 1) := by decide +kernel
theorem dX4_tries_9 : decode cX4_tries 9 = .ok (.ireturn, 1) := by decide +kernel
theorem dX4_tries_10 : decode cX4_tries 10 = .ok (.aload_n 0, 1) := by decide +kernel
theorem dX4_tries_11 : decode cX4_tries 11 = .ok (.getfield 19, 3) := by decide +kernel
theorem dX4_tries_14 : decode cX4_tries 14 = .ok (.aload_n 1, 1) := by decide +kernel
theorem dX4_tries_15 : decode cX4_tries 15 = .ok (.invokevirtual 58, 3) := by decide +kernel
theorem dX4_tries_18 : decode cX4_tries 18 = .ok (.isub, 1) := by decide +kernel
theorem dX4_tries_19 : decode cX4_tries 19 = .ok (.istore 4, 2) := by decide +kernel
theorem dX4_tries_21 : decode cX4_tries 21 = .ok (.aload_n 0, 1) := by decide +kernel
theorem dX4_tries_22 : decode cX4_tries 22 = .ok (.iload 4, 2) := by decide +kernel
theorem dX4_tries_24 : decode cX4_tries 24 = .ok (.invokevirtual 80, 3) := by decide +kernel
theorem dX4_tries_27 : decode cX4_tries 27 = .ok (.iload_n 3, 1) := by decide +kernel
theorem dX4_tries_28 : decode cX4_tries 28 = .ok (.if_icmp .le 10, 3) := by decide +kernel
theorem dX4_tries_31 : decode cX4_tries 31 = .ok (.aload_n 0, 1) := by decide +kernel
theorem dX4_tries_32 : decode cX4_tries 32 = .ok (.iload 4, 2) := by decide +kernel
theorem dX4_tries_34 : decode cX4_tries 34 = .ok (.aload_n 2, 1) := by decide +kernel
theorem dX4_tries_35 : decode cX4_tries 35 = .ok (.invokevirtual 84, 3) := by decide +kernel
theorem dX4_tries_38 : decode cX4_tries 38 = .ok (.iconst 1, 1) := by decide +kernel
theorem dX4_tries_39 : decode cX4_tries 39 = .ok (.ireturn, 1) := by decide +kernel
set_option maxRecDepth 20000 in
theorem ggX4_endOfMany_X4_ends : GoodIn wsX4_endOfMany wsX4_ends := goodIn_r _ [6, 1, 7, 8, 9, 10, 11, 12, 13, 14, 15, 16, 17, 18, 19, 20, 21, 22, 23, 24, 25, 26, 27, 28, 29, 30, 31, 32, 33, 34, 35, 36, 37, 38, 39, 40, 41, 42, 43, 44, 45, 46, 47, 48, 49, 50, 51, 52, 53, 54, 55, 56, 73, 74, 75] (by decide +kernel) (by decide +kernel)
set_option maxRecDepth 20000 in
theorem gX4_endOfMany_X4_ends : GoodIn wsX4_endOfMany (wsV RX4 76 RX4 yX4_ends wsX4_ends) := goodIn_app (goodIn_of _ (by decide +kernel)) ggX4_endOfMany_X4_ends
set_option maxRecDepth 20000 in
theorem ggX4_endOfMany_X4_become : GoodIn wsX4_endOfMany wsX4_become := goodIn_r _ [60, 1, 61, 62, 63, 64, 65, 66, 67, 8, 9, 10, 11, 12, 13, 14, 15, 16, 17, 18, 19, 20, 21, 22, 23, 24, 25, 26, 27, 28, 29, 30, 31, 32, 33, 34, 35, 36, 37, 38, 39, 40, 41, 42, 43, 44, 45, 46, 47, 48, 49, 50, 51, 52, 53, 54, 55, 56, 68, 69, 70, 5, 71, 7, 72, 73, 74, 75] (by decide +kernel) (by decide +kernel)
set_option maxRecDepth 20000 in
theorem gX4_endOfMany_X4_become : GoodIn wsX4_endOfMany (wsV RX4 84 RX4 yX4_become wsX4_become) := goodIn_app (goodIn_of _ (by decide +kernel)) ggX4_endOfMany_X4_become
theorem dX4_endOfMany_0 : decode cX4_endOfMany 0 = .ok (.aload_n 0, 1) := by decide +kernel
theorem dX4_endOfMany_1 : decode cX4_endOfMany 1 = .ok (.ldc 88, 2) := by decide +kernel
theorem dX4_endOfMany_3 : decode cX4_endOfMany 3 = .ok (.invokevirtual 76, 3) := by decide +kernel
theorem dX4_endOfMany_6 : decode cX4_endOfMany 6 = .ok (.ifCond .ne 12, 3) := by decide +kernel
theorem dX4_endOfMany_9 : decode cX4_endOfMany 9 = .ok (.aload_n 0, 1) := by decide +kernel
theorem dX4_endOfMany_10 : decode cX4_endOfMany 10 = .ok (.ldc 90, 2) := by decide +kernel
theorem dX4_endOfMany_12 : decode cX4_endOfMany 12 = .ok (.invokevirtual 76, 3) := by decide +kernel
theorem dX4_endOfMany_15 : decode cX4_endOfMany 15 = .ok (.ifCond .eq 18, 3) := by decide +kernel
theorem dX4_endOfMany_18 : decode cX4_endOfMany 18 = .ok (.aload_n 0, 1) := by decide +kernel
theorem dX4_endOfMany_19 : decode cX4_endOfMany 19 = .ok (.aload_n 0, 1) := by decide +kernel
theorem dX4_endOfMany_20 : decode cX4_endOfMany 20 = .ok (.getfield 19, 3) := by decide +kernel
theorem dX4_endOfMany_23 : decode cX4_endOfMany 23 = .ok (.iconst 2, 1) := by decide +kernel
theorem dX4_endOfMany_24 : decode cX4_endOfMany 24 = .ok (.isub, 1) := by decide +kernel
theorem dX4_endOfMany_25 : decode cX4_endOfMany 25 = .ok (.ldc 92, 2) := by decide +kernel
theorem dX4_endOfMany_27 : decode cX4_endOfMany 27 = .ok (.invokevirtual 84, 3) := by decide +kernel
theorem dX4_endOfMany_30 : decode cX4_endOfMany 30 = .ok (.goto 33, 3) := by decide +kernel
theorem dX4_endOfMany_33 : decode cX4_endOfMany 33 = .ok (.aload_n 0, 1) := by decide +kernel
theorem dX4_endOfMany_34 : decode cX4_endOfMany 34 = .ok (.ldc 94, 2) := by decide +kernel
theorem dX4_endOfMany_36 : decode cX4_endOfMany 36 = .ok (.invokevirtual 76, 3) := by decide +kernel
theorem dX4_endOfMany_39 : decode cX4_endOfMany 39 = .ok (.ifCond .eq 24, 3) := by decide +kernel
theorem dX4_endOfMany_42 : decode cX4_endOfMany 42 = .ok (.aload_n 0, 1) := by decide +kernel
theorem dX4_endOfMany_43 : decode cX4_endOfMany 43 = .ok (.ldc 96, 2) := by decide +kernel
theorem dX4_endOfMany_45 : decode cX4_endOfMany 45 = .ok (.invokevirtual 76, 3) := by decide +kernel
theorem dX4_endOfMany_48 : decode cX4_endOfMany 48 = .ok (.ifCond .ne 15, 3) := by decide +kernel
theorem dX4_endOfMany_51 : decode cX4_endOfMany 51 = .ok (.aload_n 0, 1) := by decide +kernel
theorem dX4_endOfMany_52 : decode cX4_endOfMany 52 = .ok (.aload_n 0, 1) := by decide +kernel
theorem dX4_endOfMany_53 : decode cX4_endOfMany 53 = .ok (.getfield 19, 3) := by decide +kernel
theorem dX4_endOfMany_56 : decode cX4_endOfMany 56 = .ok (.iconst 1, 1) := by decide +kernel
theorem dX4_endOfMany_57 : decode cX4_endOfMany 57 = .ok (.isub, 1) := by decide +kernel
theorem dX4_endOfMany_58 : decode cX4_endOfMany 58 = .ok (.ldc 92, 2) := by decide +kernel
theorem dX4_endOfMany_60 : decode cX4_endOfMany 60 = .ok (.invokevirtual 84, 3) := by decide +kernel
theorem dX4_endOfMany_63 : decode cX4_endOfMany 63 = .ok (.return_, 1) := by decide +kernel
set_option maxRecDepth 20000 in
theorem ggX4_endOfPast_X4_tries : GoodIn wsX4_endOfPast wsX4_tries := goodIn_r _ [6, 1, 7, 8, 9, 5, 10, 11, 12, 13, 14, 15, 16, 17, 18, 19, 20, 21, 22, 23, 24, 25, 26, 27, 28, 29, 30, 31, 32, 33, 34, 35, 36, 37, 38, 39, 40, 41, 42, 43, 44, 45, 46, 47, 48, 49, 50, 51, 52, 53, 54, 55, 56, 57, 58, 59, 60, 61, 62, 63, 64, 65, 66, 67, 68, 69, 70, 71, 72, 73, 74, 75, 76, 77, 78, 79, 80, 81, 82, 83, 84, 101, 102, 103] (by decide +kernel) (by decide +kernel)
set_option maxRecDepth 20000 in
theorem gX4_endOfPast_X4_tries : GoodIn wsX4_endOfPast (wsV RX4 102 RX4 yX4_tries wsX4_tries) := goodIn_app (goodIn_of _ (by decide +kernel)) ggX4_endOfPast_X4_tries
set_option maxRecDepth 20000 in
theorem ggX4_endOfPast_X4_ends : GoodIn wsX4_endOfPast wsX4_ends := goodIn_r _ [10, 1, 11, 12, 13, 14, 15, 16, 17, 18, 19, 20, 21, 22, 23, 24, 25, 26, 27, 28, 29, 30, 31, 32, 33, 34, 35, 36, 37, 38, 39, 40, 41, 42, 43, 44, 45, 46, 47, 48, 49, 50, 51, 52, 53, 54, 55, 56, 57, 58, 59, 60, 101, 102, 103] (by decide +kernel) (by decide +kernel)
set_option maxRecDepth 20000 in
theorem gX4_endOfPast_X4_ends : GoodIn wsX4_endOfPast (wsV RX4 76 RX4 yX4_ends wsX4_ends) := goodIn_app (goodIn_of _ (by decide +kernel)) ggX4_endOfPast_X4_ends
set_option maxRecDepth 20000 in
theorem ggX4_endOfPast_X4_hasVowel : GoodIn wsX4_endOfPast wsX4_hasVowel := goodIn_r _ [88, 65, 66, 67, 5, 68, 1, 69, 101, 102, 103] (by decide +kernel) (by decide +kernel)
set_option maxRecDepth 20000 in
theorem gX4_endOfPast_X4_hasVowel : GoodIn wsX4_endOfPast (wsV RX4 110 RX4 yX4_hasVowel wsX4_hasVowel) := goodIn_app (goodIn_of _ (by decide +kernel)) ggX4_endOfPast_X4_hasVowel
set_option maxRecDepth 20000 in
theorem ggX4_endOfPast_X4_become : GoodIn wsX4_endOfPast wsX4_become := goodIn_r _ [73, 1, 74, 75, 76, 77, 78, 79, 80, 12, 13, 14, 15, 16, 17, 18, 19, 20, 21, 22, 23, 24, 25, 26, 27, 28, 29, 30, 31, 32, 33, 34, 35, 36, 37, 38, 39, 40, 41, 42, 43, 44, 45, 46, 47, 48, 49, 50, 51, 52, 53, 54, 55, 56, 57, 58, 59, 60, 81, 82, 83, 5, 84, 11, 69, 101, 102, 103] (by decide +kernel) (by decide +kernel)
set_option maxRecDepth 20000 in
theorem gX4_endOfPast_X4_become : GoodIn wsX4_endOfPast (wsV RX4 84 RX4 yX4_become wsX4_become) := goodIn_app (goodIn_of _ (by decide +kernel)) ggX4_endOfPast_X4_become
set_option maxRecDepth 20000 in
theorem ggX4_endOfPast_X4_append : GoodIn wsX4_endOfPast wsX4_append := goodIn_r _ [84, 1, 11, 69, 101, 102, 103] (by decide +kernel) (by decide +kernel)
set_option maxRecDepth 20000 in
theorem gX4_endOfPast_X4_append : GoodIn wsX4_endOfPast (wsV RX4 23 RX4 yX4_append wsX4_append) := goodIn_app (goodIn_of _ (by decide +kernel)) ggX4_endOfPast_X4_append
set_option maxRecDepth 20000 in
theorem ggX4_endOfPast_X4_hasTwoAlike : GoodIn wsX4_endOfPast wsX4_hasTwoAlike := goodIn_r _ [92, 1, 11, 65, 66, 67, 5, 68, 69, 101, 102, 103] (by decide +kernel) (by decide +kernel)
set_option maxRecDepth 20000 in
theorem gX4_endOfPast_X4_hasTwoAlike : GoodIn wsX4_endOfPast (wsV RX4 119 RX4 yX4_hasTwoAlike wsX4_hasTwoAlike) := goodIn_app (goodIn_of _ (by decide +kernel)) ggX4_endOfPast_X4_hasTwoAlike
set_option maxRecDepth 20000 in
theorem ggX4_endOfPast_X4_measure : GoodIn wsX4_endOfPast wsX4_measure := goodIn_r _ [64, 65, 66, 67, 5, 68, 1, 69, 101, 102, 103] (by decide +kernel) (by decide +kernel)
set_option maxRecDepth 20000 in
theorem gX4_endOfPast_X4_measure : GoodIn wsX4_endOfPast (wsV RX4 80 RX4 yX4_measure wsX4_measure) := goodIn_app (goodIn_of _ (by decide +kernel)) ggX4_endOfPast_X4_measure
set_option maxRecDepth 20000 in
theorem ggX4_endOfPast_X4_isCvc : GoodIn wsX4_endOfPast wsX4_isCvc := goodIn_r _ [96, 65, 66, 67, 5, 68, 1, 69, 97, 98, 99, 100, 11, 101, 102, 103] (by decide +kernel) (by decide +kernel)
set_option maxRecDepth 20000 in
theorem gX4_endOfPast_X4_isCvc : GoodIn wsX4_endOfPast (wsV RX4 126 RX4 yX4_isCvc wsX4_isCvc) := goodIn_app (goodIn_of _ (by decide +kernel)) ggX4_endOfPast_X4_isCvc
theorem dX4_endOfPast_0 : decode cX4_endOfPast 0 = .ok (.aload_n 0, 1) := by decide +kernel
theorem dX4_endOfPast_1 : decode cX4_endOfPast 1 = .ok (.ldc 98, 2) := by decide +kernel
theorem dX4_endOfPast_3 : decode cX4_endOfPast 3 = .ok (.ldc 100, 2) := by decide +kernel
theorem dX4_endOfPast_5 : decode cX4_endOfPast 5 = .ok (.iconst 0, 1) := by decide +kernel
theorem dX4_endOfPast_6 : decode cX4_endOfPast 6 = .ok (.invokevirtual 102, 3) := by decide +kernel
theorem dX4_endOfPast_9 : decode cX4_endOfPast 9 = .ok (.ifCond .eq 4, 3) := by decide +kernel
theorem dX4_endOfPast_12 : decode cX4_endOfPast 12 = .ok (.return_, 1) := by decide +kernel
theorem dX4_endOfPast_13 : decode cX4_endOfPast 13 = .ok (.aload_n 0, 1) := by decide +kernel
theorem dX4_endOfPast_14 : decode cX4_endOfPast 14 = .ok (.ldc 106, 2) := by decide +kernel
theorem dX4_endOfPast_16 : decode cX4_endOfPast 16 = .ok (.invokevirtual 76, 3) := by decide +kernel
theorem dX4_endOfPast_19 : decode cX4_endOfPast 19 = .ok (.ifCond .eq 12, 3) := by decide +kernel
theorem dX4_endOfPast_22 : decode cX4_endOfPast 22 = .ok (.aload_n 0, 1) := by decide +kernel
theorem dX4_endOfPast_23 : decode cX4_endOfPast 23 = .ok (.getfield 19, 3) := by decide +kernel
theorem dX4_endOfPast_26 : decode cX4_endOfPast 26 = .ok (.iconst 2, 1) := by decide +kernel
theorem dX4_endOfPast_27 : decode cX4_endOfPast 27 = .ok (.isub, 1) := by decide +kernel
theorem dX4_endOfPast_28 : decode cX4_endOfPast 28 = .ok (.goto 22, 3) := by decide +kernel
theorem dX4_endOfPast_31 : decode cX4_endOfPast 31 = .ok (.aload_n 0, 1) := by decide +kernel
theorem dX4_endOfPast_32 : decode cX4_endOfPast 32 = .ok (.ldc 108, 2) := by decide +kernel
theorem dX4_endOfPast_34 : decode cX4_endOfPast 34 = .ok (.invokevirtual 76, 3) := by decide +kernel
theorem dX4_endOfPast_37 : decode cX4_endOfPast 37 = .ok (.ifCond .eq 12, 3) := by decide +kernel
theorem dX4_endOfPast_40 : decode cX4_endOfPast 40 = .ok (.aload_n 0, 1) := by decide +kernel
theorem dX4_endOfPast_41 : decode cX4_endOfPast 41 = .ok (.getfield 19, 3) := by decide +kernel
theorem dX4_endOfPast_44 : decode cX4_endOfPast 44 = .ok (.iconst 3, 1) := by decide +kernel
theorem dX4_endOfPast_45 : decode cX4_endOfPast 45 = .ok (.isub, 1) := by decide +kernel
theorem dX4_endOfPast_46 : decode cX4_endOfPast 46 = .ok (.goto 4, 3) := by decide +kernel
theorem dX4_endOfPast_49 : decode cX4_endOfPast 49 = .ok (.iconst 0, 1) := by decide +kernel
theorem dX4_endOfPast_50 : decode cX4_endOfPast 50 = .ok (.istore_n 1, 1) := by decide +kernel
theorem dX4_endOfPast_51 : decode cX4_endOfPast 51 = .ok (.aload_n 0, 1) := by decide +kernel
theorem dX4_endOfPast_52 : decode cX4_endOfPast 52 = .ok (.iload_n 1, 1) := by decide +kernel
theorem dX4_endOfPast_53 : decode cX4_endOfPast 53 = .ok (.invokevirtual 110, 3) := by decide +kernel
theorem dX4_endOfPast_56 : decode cX4_endOfPast 56 = .ok (.ifCond .ne 4, 3) := by decide +kernel
theorem dX4_endOfPast_59 : decode cX4_endOfPast 59 = .ok (.return_, 1) := by decide +kernel
theorem dX4_endOfPast_60 : decode cX4_endOfPast 60 = .ok (.aload_n 0, 1) := by decide +kernel
theorem dX4_endOfPast_61 : decode cX4_endOfPast 61 = .ok (.iload_n 1, 1) := by decide +kernel
theorem dX4_endOfPast_62 : decode cX4_endOfPast 62 = .ok (.ldc 92, 2) := by decide +kernel
theorem dX4_endOfPast_64 : decode cX4_endOfPast 64 = .ok (.invokevirtual 84, 3) := by decide +kernel
theorem dX4_endOfPast_67 : decode cX4_endOfPast 67 = .ok (.aload_n 0, 1) := by decide +kernel
theorem dX4_endOfPast_68 : decode cX4_endOfPast 68 = .ok (.ldc 113, 2) := by decide +kernel
theorem dX4_endOfPast_70 : decode cX4_endOfPast 70 = .ok (.invokevirtual 76, 3) := by decide +kernel
theorem dX4_endOfPast_73 : decode cX4_endOfPast 73 = .ok (.ifCond .ne 21, 3) := by decide +kernel
theorem dX4_endOfPast_76 : decode cX4_endOfPast 76 = .ok (.aload_n 0, 1) := by decide +kernel
theorem dX4_endOfPast_77 : decode cX4_endOfPast 77 = .ok (.ldc 115, 2) := by decide +kernel
theorem dX4_endOfPast_79 : decode cX4_endOfPast 79 = .ok (.invokevirtual 76, 3) := by decide +kernel
theorem dX4_endOfPast_82 : decode cX4_endOfPast 82 = .ok (.ifCond .ne 12, 3) := by decide +kernel
theorem dX4_endOfPast_85 : decode cX4_endOfPast 85 = .ok (.aload_n 0, 1) := by decide +kernel
theorem dX4_endOfPast_86 : decode cX4_endOfPast 86 = .ok (.ldc 117, 2) := by decide +kernel
theorem dX4_endOfPast_88 : decode cX4_endOfPast 88 = .ok (.invokevirtual 76, 3) := by decide +kernel
theorem dX4_endOfPast_91 : decode cX4_endOfPast 91 = .ok (.ifCond .eq 12, 3) := by decide +kernel
theorem dX4_endOfPast_94 : decode cX4_endOfPast 94 = .ok (.aload_n 0, 1) := by decide +kernel
theorem dX4_endOfPast_95 : decode cX4_endOfPast 95 = .ok (.bipush 101, 2) := by decide +kernel
theorem dX4_endOfPast_97 : decode cX4_endOfPast 97 = .ok (.invokevirtual 23, 3) := by decide +kernel
theorem dX4_endOfPast_100 : decode cX4_endOfPast 100 = .ok (.goto 81, 3) := by decide +kernel
theorem dX4_endOfPast_103 : decode cX4_endOfPast 103 = .ok (.aload_n 0, 1) := by decide +kernel
theorem dX4_endOfPast_104 : decode cX4_endOfPast 104 = .ok (.invokevirtual 119, 3) := by decide +kernel
theorem dX4_endOfPast_107 : decode cX4_endOfPast 107 = .ok (.ifCond .eq 45, 3) := by decide +kernel
theorem dX4_endOfPast_110 : decode cX4_endOfPast 110 = .ok (.aload_n 0, 1) := by decide +kernel
theorem dX4_endOfPast_111 : decode cX4_endOfPast 111 = .ok (.ldc 122, 2) := by decide +kernel
theorem dX4_endOfPast_113 : decode cX4_endOfPast 113 = .ok (.invokevirtual 76, 3) := by decide +kernel
theorem dX4_endOfPast_116 : decode cX4_endOfPast 116 = .ok (.ifCond .ne 65, 3) := by decide +kernel
theorem dX4_endOfPast_119 : decode cX4_endOfPast 119 = .ok (.aload_n 0, 1) := by decide +kernel
theorem dX4_endOfPast_120 : decode cX4_endOfPast 120 = .ok (.ldc 94, 2) := by decide +kernel
theorem dX4_endOfPast_122 : decode cX4_endOfPast 122 = .ok (.invokevirtual 76, 3) := by decide +kernel
theorem dX4_endOfPast_125 : decode cX4_endOfPast 125 = .ok (.ifCond .ne 56, 3) := by decide +kernel
theorem dX4_endOfPast_128 : decode cX4_endOfPast 128 = .ok (.aload_n 0, 1) := by decide +kernel
theorem dX4_endOfPast_129 : decode cX4_endOfPast 129 = .ok (.ldc 124, 2) := by decide +kernel
theorem dX4_endOfPast_131 : decode cX4_endOfPast 131 = .ok (.invokevirtual 76, 3) := by decide +kernel
theorem dX4_endOfPast_134 : decode cX4_endOfPast 134 = .ok (.ifCond .ne 47, 3) := by decide +kernel
theorem dX4_endOfPast_137 : decode cX4_endOfPast 137 = .ok (.aload_n 0, 1) := by decide +kernel
theorem dX4_endOfPast_138 : decode cX4_endOfPast 138 = .ok (.aload_n 0, 1) := by decide +kernel
theorem dX4_endOfPast_139 : decode cX4_endOfPast 139 = .ok (.getfield 19, 3) := by decide +kernel
theorem dX4_endOfPast_142 : decode cX4_endOfPast 142 = .ok (.iconst 1, 1) := by decide +kernel
theorem dX4_endOfPast_143 : decode cX4_endOfPast 143 = .ok (.isub, 1) := by decide +kernel
theorem dX4_endOfPast_144 : decode cX4_endOfPast 144 = .ok (.ldc 92, 2) := by decide +kernel
theorem dX4_endOfPast_146 : decode cX4_endOfPast 146 = .ok (.invokevirtual 84, 3) := by decide +kernel
theorem dX4_endOfPast_149 : decode cX4_endOfPast 149 = .ok (.goto 32, 3) := by decide +kernel
theorem dX4_endOfPast_152 : decode cX4_endOfPast 152 = .ok (.aload_n 0, 1) := by decide +kernel
theorem dX4_endOfPast_153 : decode cX4_endOfPast 153 = .ok (.aload_n 0, 1) := by decide +kernel
theorem dX4_endOfPast_154 : decode cX4_endOfPast 154 = .ok (.getfield 19, 3) := by decide +kernel
theorem dX4_endOfPast_157 : decode cX4_endOfPast 157 = .ok (.invokevirtual 80, 3) := by decide +kernel
theorem dX4_endOfPast_160 : decode cX4_endOfPast 160 = .ok (.iconst 1, 1) := by decide +kernel
theorem dX4_endOfPast_161 : decode cX4_endOfPast 161 = .ok (.if_icmp .ne 20, 3) := by decide +kernel
theorem dX4_endOfPast_164 : decode cX4_endOfPast 164 = .ok (.aload_n 0, 1) := by decide +kernel
theorem dX4_endOfPast_165 : decode cX4_endOfPast 165 = .ok (.aload_n 0, 1) := by decide +kernel
theorem dX4_endOfPast_166 : decode cX4_endOfPast 166 = .ok (.getfield 19, 3) := by decide +kernel
theorem dX4_endOfPast_169 : decode cX4_endOfPast 169 = .ok (.invokevirtual 126, 3) := by decide +kernel
theorem dX4_endOfPast_172 : decode cX4_endOfPast 172 = .ok (.ifCond .eq 9, 3) := by decide +kernel
theorem dX4_endOfPast_175 : decode cX4_endOfPast 175 = .ok (.aload_n 0, 1) := by decide +kernel
theorem dX4_endOfPast_176 : decode cX4_endOfPast 176 = .ok (.bipush 101, 2) := by decide +kernel
theorem dX4_endOfPast_178 : decode cX4_endOfPast 178 = .ok (.invokevirtual 23, 3) := by decide +kernel
theorem dX4_endOfPast_181 : decode cX4_endOfPast 181 = .ok (.return_, 1) := by decide +kernel
set_option maxRecDepth 20000 in
theorem ggX4_endOfY_X4_ends : GoodIn wsX4_endOfY wsX4_ends := goodIn_r _ [6, 1, 7, 8, 9, 10, 11, 12, 13, 14, 15, 16, 17, 18, 19, 20, 21, 22, 23, 24, 25, 26, 27, 28, 29, 30, 31, 32, 33, 34, 35, 36, 37, 38, 39, 40, 41, 42, 43, 44, 45, 46, 47, 48, 49, 50, 51, 52, 53, 54, 55, 56, 81, 82, 83] (by decide +kernel) (by decide +kernel)
set_option maxRecDepth 20000 in
theorem gX4_endOfY_X4_ends : GoodIn wsX4_endOfY (wsV RX4 76 RX4 yX4_ends wsX4_ends) := goodIn_app (goodIn_of _ (by decide +kernel)) ggX4_endOfY_X4_ends
set_option maxRecDepth 20000 in
theorem ggX4_endOfY_X4_hasVowel : GoodIn wsX4_endOfY wsX4_hasVowel := goodIn_r _ [60, 61, 62, 63, 5, 64, 1, 65, 81, 82, 83] (by decide +kernel) (by decide +kernel)
set_option maxRecDepth 20000 in
theorem gX4_endOfY_X4_hasVowel : GoodIn wsX4_endOfY (wsV RX4 110 RX4 yX4_hasVowel wsX4_hasVowel) := goodIn_app (goodIn_of _ (by decide +kernel)) ggX4_endOfY_X4_hasVowel
set_option maxRecDepth 20000 in
theorem ggX4_endOfY_X4_become : GoodIn wsX4_endOfY wsX4_become := goodIn_r _ [69, 1, 70, 71, 72, 73, 74, 75, 76, 8, 9, 10, 11, 12, 13, 14, 15, 16, 17, 18, 19, 20, 21, 22, 23, 24, 25, 26, 27, 28, 29, 30, 31, 32, 33, 34, 35, 36, 37, 38, 39, 40, 41, 42, 43, 44, 45, 46, 47, 48, 49, 50, 51, 52, 53, 54, 55, 56, 77, 78, 79, 5, 80, 7, 65, 81, 82, 83] (by decide +kernel) (by decide +kernel)
set_option maxRecDepth 20000 in
theorem gX4_endOfY_X4_become : GoodIn wsX4_endOfY (wsV RX4 84 RX4 yX4_become wsX4_become) := goodIn_app (goodIn_of _ (by decide +kernel)) ggX4_endOfY_X4_become
theorem dX4_endOfY_0 : decode cX4_endOfY 0 = .ok (.aload_n 0, 1) := by decide +kernel
theorem dX4_endOfY_1 : decode cX4_endOfY 1 = .ok (.ldc 129, 2) := by decide +kernel
theorem dX4_endOfY_3 : decode cX4_endOfY 3 = .ok (.invokevirtual 76, 3) := by decide +kernel
theorem dX4_endOfY_6 : decode cX4_endOfY 6 = .ok (.ifCond .eq 28, 3) := by decide +kernel
theorem dX4_endOfY_9 : decode cX4_endOfY 9 = .ok (.aload_n 0, 1) := by decide +kernel
theorem dX4_endOfY_10 : decode cX4_endOfY 10 = .ok (.aload_n 0, 1) := by decide +kernel
theorem dX4_endOfY_11 : decode cX4_endOfY 11 = .ok (.getfield 19, 3) := by decide +kernel
theorem dX4_endOfY_14 : decode cX4_endOfY 14 = .ok (.iconst 1, 1) := by decide +kernel
theorem dX4_endOfY_15 : decode cX4_endOfY 15 = .ok (.isub, 1) := by decide +kernel
theorem dX4_endOfY_16 : decode cX4_endOfY 16 = .ok (.invokevirtual 110, 3) := by decide +kernel
theorem dX4_endOfY_19 : decode cX4_endOfY 19 = .ok (.ifCond .eq 15, 3) := by decide +kernel
theorem dX4_endOfY_22 : decode cX4_endOfY 22 = .ok (.aload_n 0, 1) := by decide +kernel
theorem dX4_endOfY_23 : decode cX4_endOfY 23 = .ok (.aload_n 0, 1) := by decide +kernel
theorem dX4_endOfY_24 : decode cX4_endOfY 24 = .ok (.getfield 19, 3) := by decide +kernel
theorem dX4_endOfY_27 : decode cX4_endOfY 27 = .ok (.iconst 1, 1) := by decide +kernel
theorem dX4_endOfY_28 : decode cX4_endOfY 28 = .ok (.isub, 1) := by decide +kernel
theorem dX4_endOfY_29 : decode cX4_endOfY 29 = .ok (.ldc 131, 2) := by decide +kernel
theorem dX4_endOfY_31 : decode cX4_endOfY 31 = .ok (.invokevirtual 84, 3) := by decide +kernel
theorem dX4_endOfY_34 : decode cX4_endOfY 34 = .ok (.return_, 1) := by decide +kernel
set_option maxRecDepth 20000 in
theorem ggX4_secondStep_X4_tries : GoodIn wsX4_secondStep wsX4_tries := goodIn_r _ [5, 6, 7, 8, 9, 4, 10, 11, 12, 13, 14, 15, 16, 17, 18, 19, 20, 21, 22, 23, 24, 25, 26, 27, 28, 29, 30, 31, 32, 33, 34, 35, 36, 37, 38, 39, 40, 41, 42, 43, 44, 45, 46, 47, 48, 49, 50, 51, 52, 53, 54, 55, 56, 57, 58, 59, 60, 61, 62, 63, 64, 65, 66, 67, 68, 69, 70, 71, 72, 73, 74, 75, 76, 77, 78, 79, 80, 81, 82, 83, 84, 85, 86, 87] (by decide +kernel) (by decide +kernel)
set_option maxRecDepth 20000 in
theorem gX4_secondStep_X4_tries : GoodIn wsX4_secondStep (wsV RX4 102 RX4 yX4_tries wsX4_tries) := goodIn_app (goodIn_of _ (by decide +kernel)) ggX4_secondStep_X4_tries
theorem dX4_secondStep_0 : decode cX4_secondStep 0 = .ok (.aload_n 0, 1) := by decide +kernel
theorem dX4_secondStep_1 : decode cX4_secondStep 1 = .ok (.ldc 133, 2) := by decide +kernel
theorem dX4_secondStep_3 : decode cX4_secondStep 3 = .ok (.ldc 135, 2) := by decide +kernel
theorem dX4_secondStep_5 : decode cX4_secondStep 5 = .ok (.iconst 0, 1) := by decide +kernel
theorem dX4_secondStep_6 : decode cX4_secondStep 6 = .ok (.invokevirtual 102, 3) := by decide +kernel
theorem dX4_secondStep_9 : decode cX4_secondStep 9 = .ok (.ifCond .ne 231, 3) := by decide +kernel
theorem dX4_secondStep_12 : decode cX4_secondStep 12 = .ok (.aload_n 0, 1) := by decide +kernel
theorem dX4_secondStep_13 : decode cX4_secondStep 13 = .ok (.ldc 137, 2) := by decide +kernel
theorem dX4_secondStep_15 : decode cX4_secondStep 15 = .ok (.ldc 139, 2) := by decide +kernel
theorem dX4_secondStep_17 : decode cX4_secondStep 17 = .ok (.iconst 0, 1) := by decide +kernel
theorem dX4_secondStep_18 : decode cX4_secondStep 18 = .ok (.invokevirtual 102, 3) := by decide +kernel
theorem dX4_secondStep_21 : decode cX4_secondStep 21 = .ok (.ifCond .ne 219, 3) := by decide +kernel
theorem dX4_secondStep_24 : decode cX4_secondStep 24 = .ok (.aload_n 0, 1) := by decide +kernel
theorem dX4_secondStep_25 : decode cX4_secondStep 25 = .ok (.ldc 141, 2) := by decide +kernel
theorem dX4_secondStep_27 : decode cX4_secondStep 27 = .ok (.ldc 143, 2) := by decide +kernel
theorem dX4_secondStep_29 : decode cX4_secondStep 29 = .ok (.iconst 0, 1) := by decide +kernel
theorem dX4_secondStep_30 : decode cX4_secondStep 30 = .ok (.invokevirtual 102, 3) := by decide +kernel
theorem dX4_secondStep_33 : decode cX4_secondStep 33 = .ok (.ifCond .ne 207, 3) := by decide +kernel
theorem dX4_secondStep_36 : decode cX4_secondStep 36 = .ok (.aload_n 0, 1) := by decide +kernel
theorem dX4_secondStep_37 : decode cX4_secondStep 37 = .ok (.ldc 145, 2) := by decide +kernel
theorem dX4_secondStep_39 : decode cX4_secondStep 39 = .ok (.ldc 147, 2) := by decide +kernel
theorem dX4_secondStep_41 : decode cX4_secondStep 41 = .ok (.iconst 0, 1) := by decide +kernel
theorem dX4_secondStep_42 : decode cX4_secondStep 42 = .ok (.invokevirtual 102, 3) := by decide +kernel
theorem dX4_secondStep_45 : decode cX4_secondStep 45 = .ok (.ifCond .ne 195, 3) := by decide +kernel
theorem dX4_secondStep_48 : decode cX4_secondStep 48 = .ok (.aload_n 0, 1) := by decide +kernel
theorem dX4_secondStep_49 : decode cX4_secondStep 49 = .ok (.ldc 149, 2) := by decide +kernel
theorem dX4_secondStep_51 : decode cX4_secondStep 51 = .ok (.ldc 151, 2) := by decide +kernel
theorem dX4_secondStep_53 : decode cX4_secondStep 53 = .ok (.iconst 0, 1) := by decide +kernel
theorem dX4_secondStep_54 : decode cX4_secondStep 54 = .ok (.invokevirtual 102, 3) := by decide +kernel
theorem dX4_secondStep_57 : decode cX4_secondStep 57 = .ok (.ifCond .ne 183, 3) := by decide +kernel
theorem dX4_secondStep_60 : decode cX4_secondStep 60 = .ok (.aload_n 0, 1) := by decide +kernel
theorem dX4_secondStep_61 : decode cX4_secondStep 61 = .ok (.ldc 153, 2) := by decide +kernel
theorem dX4_secondStep_63 : decode cX4_secondStep 63 = .ok (.ldc 155, 2) := by decide +kernel
theorem dX4_secondStep_65 : decode cX4_secondStep 65 = .ok (.iconst 0, 1) := by decide +kernel
theorem dX4_secondStep_66 : decode cX4_secondStep 66 = .ok (.invokevirtual 102, 3) := by decide +kernel
theorem dX4_secondStep_69 : decode cX4_secondStep 69 = .ok (.ifCond .ne 171, 3) := by decide +kernel
theorem dX4_secondStep_72 : decode cX4_secondStep 72 = .ok (.aload_n 0, 1) := by decide +kernel
theorem dX4_secondStep_73 : decode cX4_secondStep 73 = .ok (.ldc 157, 2) := by decide +kernel
theorem dX4_secondStep_75 : decode cX4_secondStep 75 = .ok (.ldc 159, 2) := by decide +kernel
theorem dX4_secondStep_77 : decode cX4_secondStep 77 = .ok (.iconst 0, 1) := by decide +kernel
theorem dX4_secondStep_78 : decode cX4_secondStep 78 = .ok (.invokevirtual 102, 3) := by decide +kernel
theorem dX4_secondStep_81 : decode cX4_secondStep 81 = .ok (.ifCond .ne 159, 3) := by decide +kernel
theorem dX4_secondStep_84 : decode cX4_secondStep 84 = .ok (.aload_n 0, 1) := by decide +kernel
theorem dX4_secondStep_85 : decode cX4_secondStep 85 = .ok (.ldc 161, 2) := by decide +kernel
theorem dX4_secondStep_87 : decode cX4_secondStep 87 = .ok (.ldc 163, 2) := by decide +kernel
theorem dX4_secondStep_89 : decode cX4_secondStep 89 = .ok (.iconst 0, 1) := by decide +kernel
theorem dX4_secondStep_90 : decode cX4_secondStep 90 = .ok (.invokevirtual 102, 3) := by decide +kernel
theorem dX4_secondStep_93 : decode cX4_secondStep 93 = .ok (.ifCond .ne 147, 3) := by decide +kernel
theorem dX4_secondStep_96 : decode cX4_secondStep 96 = .ok (.aload_n 0, 1) := by decide +kernel
theorem dX4_secondStep_97 : decode cX4_secondStep 97 = .ok (.ldc 165, 2) := by decide +kernel
theorem dX4_secondStep_99 : decode cX4_secondStep 99 = .ok (.ldc 167, 2) := by decide +kernel
theorem dX4_secondStep_101 : decode cX4_secondStep 101 = .ok (.iconst 0, 1) := by decide +kernel
theorem dX4_secondStep_102 : decode cX4_secondStep 102 = .ok (.invokevirtual 102, 3) := by decide +kernel
theorem dX4_secondStep_105 : decode cX4_secondStep 105 = .ok (.ifCond .ne 135, 3) := by decide +kernel
theorem dX4_secondStep_108 : decode cX4_secondStep 108 = .ok (.aload_n 0, 1) := by decide +kernel
theorem dX4_secondStep_109 : decode cX4_secondStep 109 = .ok (.ldc 169, 2) := by decide +kernel
theorem dX4_secondStep_111 : decode cX4_secondStep 111 = .ok (.ldc 171, 2) := by decide +kernel
theorem dX4_secondStep_113 : decode cX4_secondStep 113 = .ok (.iconst 0, 1) := by decide +kernel
theorem dX4_secondStep_114 : decode cX4_secondStep 114 = .ok (.invokevirtual 102, 3) := by decide +kernel
theorem dX4_secondStep_117 : decode cX4_secondStep 117 = .ok (.ifCond .ne 123, 3) := by decide +kernel
theorem dX4_secondStep_120 : decode cX4_secondStep 120 = .ok (.aload_n 0, 1) := by decide +kernel
theorem dX4_secondStep_121 : decode cX4_secondStep 121 = .ok (.ldc 173, 2) := by decide +kernel
theorem dX4_secondStep_123 : decode cX4_secondStep 123 = .ok (.ldc 151, 2) := by decide +kernel
theorem dX4_secondStep_125 : decode cX4_secondStep 125 = .ok (.iconst 0, 1) := by decide +kernel
theorem dX4_secondStep_126 : decode cX4_secondStep 126 = .ok (.invokevirtual 102, 3) := by decide +kernel
theorem dX4_secondStep_129 : decode cX4_secondStep 129 = .ok (.ifCond .ne 111, 3) := by decide +kernel
theorem dX4_secondStep_132 : decode cX4_secondStep 132 = .ok (.aload_n 0, 1) := by decide +kernel
theorem dX4_secondStep_133 : decode cX4_secondStep 133 = .ok (.ldc 175, 2) := by decide +kernel
theorem dX4_secondStep_135 : decode cX4_secondStep 135 = .ok (.ldc 135, 2) := by decide +kernel
theorem dX4_secondStep_137 : decode cX4_secondStep 137 = .ok (.iconst 0, 1) := by decide +kernel
theorem dX4_secondStep_138 : decode cX4_secondStep 138 = .ok (.invokevirtual 102, 3) := by decide +kernel
theorem dX4_secondStep_141 : decode cX4_secondStep 141 = .ok (.ifCond .ne 99, 3) := by decide +kernel
theorem dX4_secondStep_144 : decode cX4_secondStep 144 = .ok (.aload_n 0, 1) := by decide +kernel
theorem dX4_secondStep_145 : decode cX4_secondStep 145 = .ok (.ldc 177, 2) := by decide +kernel
theorem dX4_secondStep_147 : decode cX4_secondStep 147 = .ok (.ldc 135, 2) := by decide +kernel
theorem dX4_secondStep_149 : decode cX4_secondStep 149 = .ok (.iconst 0, 1) := by decide +kernel
theorem dX4_secondStep_150 : decode cX4_secondStep 150 = .ok (.invokevirtual 102, 3) := by decide +kernel
theorem dX4_secondStep_153 : decode cX4_secondStep 153 = .ok (.ifCond .ne 87, 3) := by decide +kernel
theorem dX4_secondStep_156 : decode cX4_secondStep 156 = .ok (.aload_n 0, 1) := by decide +kernel
theorem dX4_secondStep_157 : decode cX4_secondStep 157 = .ok (.ldc 179, 2) := by decide +kernel
theorem dX4_secondStep_159 : decode cX4_secondStep 159 = .ok (.ldc 159, 2) := by decide +kernel
theorem dX4_secondStep_161 : decode cX4_secondStep 161 = .ok (.iconst 0, 1) := by decide +kernel
theorem dX4_secondStep_162 : decode cX4_secondStep 162 = .ok (.invokevirtual 102, 3) := by decide +kernel
theorem dX4_secondStep_165 : decode cX4_secondStep 165 = .ok (.ifCond .ne 75, 3) := by decide +kernel
theorem dX4_secondStep_168 : decode cX4_secondStep 168 = .ok (.aload_n 0, 1) := by decide +kernel
theorem dX4_secondStep_169 : decode cX4_secondStep 169 = .ok (.ldc 181, 2) := by decide +kernel
theorem dX4_secondStep_171 : decode cX4_secondStep 171 = .ok (.ldc 183, 2) := by decide +kernel
theorem dX4_secondStep_173 : decode cX4_secondStep 173 = .ok (.iconst 0, 1) := by decide +kernel
theorem dX4_secondStep_174 : decode cX4_secondStep 174 = .ok (.invokevirtual 102, 3) := by decide +kernel
theorem dX4_secondStep_177 : decode cX4_secondStep 177 = .ok (.ifCond .ne 63, 3) := by decide +kernel
theorem dX4_secondStep_180 : decode cX4_secondStep 180 = .ok (.aload_n 0, 1) := by decide +kernel
theorem dX4_secondStep_181 : decode cX4_secondStep 181 = .ok (.ldc 185, 2) := by decide +kernel
theorem dX4_secondStep_183 : decode cX4_secondStep 183 = .ok (.ldc 187, 2) := by decide +kernel
theorem dX4_secondStep_185 : decode cX4_secondStep 185 = .ok (.iconst 0, 1) := by decide +kernel
theorem dX4_secondStep_186 : decode cX4_secondStep 186 = .ok (.invokevirtual 102, 3) := by decide +kernel
theorem dX4_secondStep_189 : decode cX4_secondStep 189 = .ok (.ifCond .ne 51, 3) := by decide +kernel
theorem dX4_secondStep_192 : decode cX4_secondStep 192 = .ok (.aload_n 0, 1) := by decide +kernel
theorem dX4_secondStep_193 : decode cX4_secondStep 193 = .ok (.ldc 189, 2) := by decide +kernel
theorem dX4_secondStep_195 : decode cX4_secondStep 195 = .ok (.ldc 171, 2) := by decide +kernel
theorem dX4_secondStep_197 : decode cX4_secondStep 197 = .ok (.iconst 0, 1) := by decide +kernel
theorem dX4_secondStep_198 : decode cX4_secondStep 198 = .ok (.invokevirtual 102, 3) := by decide +kernel
theorem dX4_secondStep_201 : decode cX4_secondStep 201 = .ok (.ifCond .ne 39, 3) := by decide +kernel
theorem dX4_secondStep_204 : decode cX4_secondStep 204 = .ok (.aload_n 0, 1) := by decide +kernel
theorem dX4_secondStep_205 : decode cX4_secondStep 205 = .ok (.ldc 191, 2) := by decide +kernel
theorem dX4_secondStep_207 : decode cX4_secondStep 207 = .ok (.ldc 159, 2) := by decide +kernel
theorem dX4_secondStep_209 : decode cX4_secondStep 209 = .ok (.iconst 0, 1) := by decide +kernel
theorem dX4_secondStep_210 : decode cX4_secondStep 210 = .ok (.invokevirtual 102, 3) := by decide +kernel
theorem dX4_secondStep_213 : decode cX4_secondStep 213 = .ok (.ifCond .ne 27, 3) := by decide +kernel
theorem dX4_secondStep_216 : decode cX4_secondStep 216 = .ok (.aload_n 0, 1) := by decide +kernel
theorem dX4_secondStep_217 : decode cX4_secondStep 217 = .ok (.ldc 193, 2) := by decide +kernel
theorem dX4_secondStep_219 : decode cX4_secondStep 219 = .ok (.ldc 183, 2) := by decide +kernel
theorem dX4_secondStep_221 : decode cX4_secondStep 221 = .ok (.iconst 0, 1) := by decide +kernel
theorem dX4_secondStep_222 : decode cX4_secondStep 222 = .ok (.invokevirtual 102, 3) := by decide +kernel
theorem dX4_secondStep_225 : decode cX4_secondStep 225 = .ok (.ifCond .ne 15, 3) := by decide +kernel
theorem dX4_secondStep_228 : decode cX4_secondStep 228 = .ok (.aload_n 0, 1) := by decide +kernel
theorem dX4_secondStep_229 : decode cX4_secondStep 229 = .ok (.ldc 195, 2) := by decide +kernel
theorem dX4_secondStep_231 : decode cX4_secondStep 231 = .ok (.ldc 197, 2) := by decide +kernel
theorem dX4_secondStep_233 : decode cX4_secondStep 233 = .ok (.iconst 0, 1) := by decide +kernel
theorem dX4_secondStep_234 : decode cX4_secondStep 234 = .ok (.invokevirtual 102, 3) := by decide +kernel
theorem dX4_secondStep_237 : decode cX4_secondStep 237 = .ok (.ifCond .eq 7, 3) := by decide +kernel
theorem dX4_secondStep_240 : decode cX4_secondStep 240 = .ok (.iconst 1, 1) := by decide +kernel
theorem dX4_secondStep_241 : decode cX4_secondStep 241 = .ok (.goto 4, 3) := by decide +kernel
theorem dX4_secondStep_244 : decode cX4_secondStep 244 = .ok (.iconst 0, 1) := by decide +kernel
theorem dX4_secondStep_245 : decode cX4_secondStep 245 = .ok (.ireturn, 1) := by decide +kernel
set_option maxRecDepth 20000 in
theorem ggX4_thirdStep_X4_tries : GoodIn wsX4_thirdStep wsX4_tries := goodIn_r _ [5, 6, 7, 8, 9, 4, 10, 11, 12, 13, 14, 15, 16, 17, 18, 19, 20, 21, 22, 23, 24, 25, 26, 27, 28, 29, 30, 31, 32, 33, 34, 35, 36, 37, 38, 39, 40, 41, 42, 43, 44, 45, 46, 47, 48, 49, 50, 51, 52, 53, 54, 55, 56, 57, 58, 59, 60, 61, 62, 63, 64, 65, 66, 67, 68, 69, 70, 71, 72, 73, 74, 75, 76, 77, 78, 79, 80, 81, 82, 83, 84, 85, 86, 87] (by decide +kernel) (by decide +kernel)
set_option maxRecDepth 20000 in
theorem gX4_thirdStep_X4_tries : GoodIn wsX4_thirdStep (wsV RX4 102 RX4 yX4_tries wsX4_tries) := goodIn_app (goodIn_of _ (by decide +kernel)) ggX4_thirdStep_X4_tries
theorem dX4_thirdStep_0 : decode cX4_thirdStep 0 = .ok (.aload_n 0, 1) := by decide +kernel
theorem dX4_thirdStep_1 : decode cX4_thirdStep 1 = .ok (.ldc 199, 2) := by decide +kernel
theorem dX4_thirdStep_3 : decode cX4_thirdStep 3 = .ok (.ldc 201, 2) := by decide +kernel
theorem dX4_thirdStep_5 : decode cX4_thirdStep 5 = .ok (.iconst 0, 1) := by decide +kernel
theorem dX4_thirdStep_6 : decode cX4_thirdStep 6 = .ok (.invokevirtual 102, 3) := by decide +kernel
theorem dX4_thirdStep_9 : decode cX4_thirdStep 9 = .ok (.ifCond .ne 75, 3) := by decide +kernel
theorem dX4_thirdStep_12 : decode cX4_thirdStep 12 = .ok (.aload_n 0, 1) := by decide +kernel
theorem dX4_thirdStep_13 : decode cX4_thirdStep 13 = .ok (.ldc 203, 2) := by decide +kernel
theorem dX4_thirdStep_15 : decode cX4_thirdStep 15 = .ok (.ldc 201, 2) := by decide +kernel
theorem dX4_thirdStep_17 : decode cX4_thirdStep 17 = .ok (.iconst 0, 1) := by decide +kernel
theorem dX4_thirdStep_18 : decode cX4_thirdStep 18 = .ok (.invokevirtual 102, 3) := by decide +kernel
theorem dX4_thirdStep_21 : decode cX4_thirdStep 21 = .ok (.ifCond .ne 63, 3) := by decide +kernel
theorem dX4_thirdStep_24 : decode cX4_thirdStep 24 = .ok (.aload_n 0, 1) := by decide +kernel
theorem dX4_thirdStep_25 : decode cX4_thirdStep 25 = .ok (.ldc 205, 2) := by decide +kernel
theorem dX4_thirdStep_27 : decode cX4_thirdStep 27 = .ok (.ldc 201, 2) := by decide +kernel
theorem dX4_thirdStep_29 : decode cX4_thirdStep 29 = .ok (.iconst 0, 1) := by decide +kernel
theorem dX4_thirdStep_30 : decode cX4_thirdStep 30 = .ok (.invokevirtual 102, 3) := by decide +kernel
theorem dX4_thirdStep_33 : decode cX4_thirdStep 33 = .ok (.ifCond .ne 51, 3) := by decide +kernel
theorem dX4_thirdStep_36 : decode cX4_thirdStep 36 = .ok (.aload_n 0, 1) := by decide +kernel
theorem dX4_thirdStep_37 : decode cX4_thirdStep 37 = .ok (.ldc 207, 2) := by decide +kernel
theorem dX4_thirdStep_39 : decode cX4_thirdStep 39 = .ok (.ldc 92, 2) := by decide +kernel
theorem dX4_thirdStep_41 : decode cX4_thirdStep 41 = .ok (.iconst 0, 1) := by decide +kernel
theorem dX4_thirdStep_42 : decode cX4_thirdStep 42 = .ok (.invokevirtual 102, 3) := by decide +kernel
theorem dX4_thirdStep_45 : decode cX4_thirdStep 45 = .ok (.ifCond .ne 39, 3) := by decide +kernel
theorem dX4_thirdStep_48 : decode cX4_thirdStep 48 = .ok (.aload_n 0, 1) := by decide +kernel
theorem dX4_thirdStep_49 : decode cX4_thirdStep 49 = .ok (.ldc 187, 2) := by decide +kernel
theorem dX4_thirdStep_51 : decode cX4_thirdStep 51 = .ok (.ldc 92, 2) := by decide +kernel
theorem dX4_thirdStep_53 : decode cX4_thirdStep 53 = .ok (.iconst 0, 1) := by decide +kernel
theorem dX4_thirdStep_54 : decode cX4_thirdStep 54 = .ok (.invokevirtual 102, 3) := by decide +kernel
theorem dX4_thirdStep_57 : decode cX4_thirdStep 57 = .ok (.ifCond .ne 27, 3) := by decide +kernel
theorem dX4_thirdStep_60 : decode cX4_thirdStep 60 = .ok (.aload_n 0, 1) := by decide +kernel
theorem dX4_thirdStep_61 : decode cX4_thirdStep 61 = .ok (.ldc 209, 2) := by decide +kernel
theorem dX4_thirdStep_63 : decode cX4_thirdStep 63 = .ok (.ldc 92, 2) := by decide +kernel
theorem dX4_thirdStep_65 : decode cX4_thirdStep 65 = .ok (.iconst 0, 1) := by decide +kernel
theorem dX4_thirdStep_66 : decode cX4_thirdStep 66 = .ok (.invokevirtual 102, 3) := by decide +kernel
theorem dX4_thirdStep_69 : decode cX4_thirdStep 69 = .ok (.ifCond .ne 15, 3) := by decide +kernel
theorem dX4_thirdStep_72 : decode cX4_thirdStep 72 = .ok (.aload_n 0, 1) := by decide +kernel
theorem dX4_thirdStep_73 : decode cX4_thirdStep 73 = .ok (.ldc 211, 2) := by decide +kernel
theorem dX4_thirdStep_75 : decode cX4_thirdStep 75 = .ok (.ldc 159, 2) := by decide +kernel
theorem dX4_thirdStep_77 : decode cX4_thirdStep 77 = .ok (.iconst 0, 1) := by decide +kernel
theorem dX4_thirdStep_78 : decode cX4_thirdStep 78 = .ok (.invokevirtual 102, 3) := by decide +kernel
theorem dX4_thirdStep_81 : decode cX4_thirdStep 81 = .ok (.ifCond .eq 7, 3) := by decide +kernel
theorem dX4_thirdStep_84 : decode cX4_thirdStep 84 = .ok (.iconst 1, 1) := by decide +kernel
theorem dX4_thirdStep_85 : decode cX4_thirdStep 85 = .ok (.goto 4, 3) := by decide +kernel
theorem dX4_thirdStep_88 : decode cX4_thirdStep 88 = .ok (.iconst 0, 1) := by decide +kernel
theorem dX4_thirdStep_89 : decode cX4_thirdStep 89 = .ok (.ireturn, 1) := by decide +kernel
set_option maxRecDepth 20000 in
theorem ggX4_fourthStep_X4_ends : GoodIn wsX4_fourthStep wsX4_ends := goodIn_r _ [6, 1, 7, 8, 9, 10, 11, 12, 13, 14, 15, 16, 17, 18, 19, 20, 21, 22, 23, 24, 25, 26, 27, 28, 29, 30, 31, 32, 33, 34, 35, 36, 37, 38, 39, 40, 41, 42, 43, 44, 45, 46, 47, 48, 49, 50, 51, 52, 53, 54, 55, 56, 89, 90, 91] (by decide +kernel) (by decide +kernel)
set_option maxRecDepth 20000 in
theorem gX4_fourthStep_X4_ends : GoodIn wsX4_fourthStep (wsV RX4 76 RX4 yX4_ends wsX4_ends) := goodIn_app (goodIn_of _ (by decide +kernel)) ggX4_fourthStep_X4_ends
set_option maxRecDepth 20000 in
theorem ggX4_fourthStep_X4_isLetter : GoodIn wsX4_fourthStep wsX4_isLetter := goodIn_r _ [60, 1, 7, 89, 90, 91] (by decide +kernel) (by decide +kernel)
set_option maxRecDepth 20000 in
theorem gX4_fourthStep_X4_isLetter : GoodIn wsX4_fourthStep (wsV RX4 72 RX4 yX4_isLetter wsX4_isLetter) := goodIn_app (goodIn_of _ (by decide +kernel)) ggX4_fourthStep_X4_isLetter
set_option maxRecDepth 20000 in
theorem ggX4_fourthStep_X4_tries : GoodIn wsX4_fourthStep wsX4_tries := goodIn_r _ [64, 1, 2, 3, 4, 5, 6, 7, 8, 9, 10, 11, 12, 13, 14, 15, 16, 17, 18, 19, 20, 21, 22, 23, 24, 25, 26, 27, 28, 29, 30, 31, 32, 33, 34, 35, 36, 37, 38, 39, 40, 41, 42, 43, 44, 45, 46, 47, 48, 49, 50, 51, 52, 53, 54, 55, 56, 65, 66, 67, 68, 69, 70, 71, 72, 73, 74, 75, 76, 77, 78, 79, 80, 81, 82, 83, 84, 85, 86, 87, 88, 89, 90, 91] (by decide +kernel) (by decide +kernel)
set_option maxRecDepth 20000 in
theorem gX4_fourthStep_X4_tries : GoodIn wsX4_fourthStep (wsV RX4 102 RX4 yX4_tries wsX4_tries) := goodIn_app (goodIn_of _ (by decide +kernel)) ggX4_fourthStep_X4_tries
theorem dX4_fourthStep_0 : decode cX4_fourthStep 0 = .ok (.aload_n 0, 1) := by decide +kernel
theorem dX4_fourthStep_1 : decode cX4_fourthStep 1 = .ok (.ldc 213, 2) := by decide +kernel
theorem dX4_fourthStep_3 : decode cX4_fourthStep 3 = .ok (.invokevirtual 76, 3) := by decide +kernel
theorem dX4_fourthStep_6 : decode cX4_fourthStep 6 = .ok (.ifCond .eq 35, 3) := by decide +kernel
theorem dX4_fourthStep_9 : decode cX4_fourthStep 9 = .ok (.aload_n 0, 1) := by decide +kernel
theorem dX4_fourthStep_10 : decode cX4_fourthStep 10 = .ok (.aload_n 0, 1) := by decide +kernel
theorem dX4_fourthStep_11 : decode cX4_fourthStep 11 = .ok (.getfield 19, 3) := by decide +kernel
theorem dX4_fourthStep_14 : decode cX4_fourthStep 14 = .ok (.iconst 4, 1) := by decide +kernel
theorem dX4_fourthStep_15 : decode cX4_fourthStep 15 = .ok (.isub, 1) := by decide +kernel
theorem dX4_fourthStep_16 : decode cX4_fourthStep 16 = .ok (.bipush 115, 2) := by decide +kernel
theorem dX4_fourthStep_18 : decode cX4_fourthStep 18 = .ok (.invokevirtual 72, 3) := by decide +kernel
theorem dX4_fourthStep_21 : decode cX4_fourthStep 21 = .ok (.ifCond .ne 20, 3) := by decide +kernel
theorem dX4_fourthStep_24 : decode cX4_fourthStep 24 = .ok (.aload_n 0, 1) := by decide +kernel
theorem dX4_fourthStep_25 : decode cX4_fourthStep 25 = .ok (.aload_n 0, 1) := by decide +kernel
theorem dX4_fourthStep_26 : decode cX4_fourthStep 26 = .ok (.getfield 19, 3) := by decide +kernel
theorem dX4_fourthStep_29 : decode cX4_fourthStep 29 = .ok (.iconst 4, 1) := by decide +kernel
theorem dX4_fourthStep_30 : decode cX4_fourthStep 30 = .ok (.isub, 1) := by decide +kernel
theorem dX4_fourthStep_31 : decode cX4_fourthStep 31 = .ok (.bipush 116, 2) := by decide +kernel
theorem dX4_fourthStep_33 : decode cX4_fourthStep 33 = .ok (.invokevirtual 72, 3) := by decide +kernel
theorem dX4_fourthStep_36 : decode cX4_fourthStep 36 = .ok (.ifCond .ne 5, 3) := by decide +kernel
theorem dX4_fourthStep_39 : decode cX4_fourthStep 39 = .ok (.iconst 1, 1) := by decide +kernel
theorem dX4_fourthStep_40 : decode cX4_fourthStep 40 = .ok (.ireturn, 1) := by decide +kernel
theorem dX4_fourthStep_41 : decode cX4_fourthStep 41 = .ok (.aload_n 0, 1) := by decide +kernel
theorem dX4_fourthStep_42 : decode cX4_fourthStep 42 = .ok (.ldc 213, 2) := by decide +kernel
theorem dX4_fourthStep_44 : decode cX4_fourthStep 44 = .ok (.ldc 92, 2) := by decide +kernel
theorem dX4_fourthStep_46 : decode cX4_fourthStep 46 = .ok (.iconst 1, 1) := by decide +kernel
theorem dX4_fourthStep_47 : decode cX4_fourthStep 47 = .ok (.invokevirtual 102, 3) := by decide +kernel
theorem dX4_fourthStep_50 : decode cX4_fourthStep 50 = .ok (.ifCond .ne 219, 3) := by decide +kernel
theorem dX4_fourthStep_53 : decode cX4_fourthStep 53 = .ok (.aload_n 0, 1) := by decide +kernel
theorem dX4_fourthStep_54 : decode cX4_fourthStep 54 = .ok (.ldc 159, 2) := by decide +kernel
theorem dX4_fourthStep_56 : decode cX4_fourthStep 56 = .ok (.ldc 92, 2) := by decide +kernel
theorem dX4_fourthStep_58 : decode cX4_fourthStep 58 = .ok (.iconst 1, 1) := by decide +kernel
theorem dX4_fourthStep_59 : decode cX4_fourthStep 59 = .ok (.invokevirtual 102, 3) := by decide +kernel
theorem dX4_fourthStep_62 : decode cX4_fourthStep 62 = .ok (.ifCond .ne 207, 3) := by decide +kernel
theorem dX4_fourthStep_65 : decode cX4_fourthStep 65 = .ok (.aload_n 0, 1) := by decide +kernel
theorem dX4_fourthStep_66 : decode cX4_fourthStep 66 = .ok (.ldc 147, 2) := by decide +kernel
theorem dX4_fourthStep_68 : decode cX4_fourthStep 68 = .ok (.ldc 92, 2) := by decide +kernel
theorem dX4_fourthStep_70 : decode cX4_fourthStep 70 = .ok (.iconst 1, 1) := by decide +kernel
theorem dX4_fourthStep_71 : decode cX4_fourthStep 71 = .ok (.invokevirtual 102, 3) := by decide +kernel
theorem dX4_fourthStep_74 : decode cX4_fourthStep 74 = .ok (.ifCond .ne 195, 3) := by decide +kernel
theorem dX4_fourthStep_77 : decode cX4_fourthStep 77 = .ok (.aload_n 0, 1) := by decide +kernel
theorem dX4_fourthStep_78 : decode cX4_fourthStep 78 = .ok (.ldc 143, 2) := by decide +kernel
theorem dX4_fourthStep_80 : decode cX4_fourthStep 80 = .ok (.ldc 92, 2) := by decide +kernel
theorem dX4_fourthStep_82 : decode cX4_fourthStep 82 = .ok (.iconst 1, 1) := by decide +kernel
theorem dX4_fourthStep_83 : decode cX4_fourthStep 83 = .ok (.invokevirtual 102, 3) := by decide +kernel
theorem dX4_fourthStep_86 : decode cX4_fourthStep 86 = .ok (.ifCond .ne 183, 3) := by decide +kernel
theorem dX4_fourthStep_89 : decode cX4_fourthStep 89 = .ok (.aload_n 0, 1) := by decide +kernel
theorem dX4_fourthStep_90 : decode cX4_fourthStep 90 = .ok (.ldc 215, 2) := by decide +kernel
theorem dX4_fourthStep_92 : decode cX4_fourthStep 92 = .ok (.ldc 92, 2) := by decide +kernel
theorem dX4_fourthStep_94 : decode cX4_fourthStep 94 = .ok (.iconst 1, 1) := by decide +kernel
theorem dX4_fourthStep_95 : decode cX4_fourthStep 95 = .ok (.invokevirtual 102, 3) := by decide +kernel
theorem dX4_fourthStep_98 : decode cX4_fourthStep 98 = .ok (.ifCond .ne 171, 3) := by decide +kernel
theorem dX4_fourthStep_101 : decode cX4_fourthStep 101 = .ok (.aload_n 0, 1) := by decide +kernel
theorem dX4_fourthStep_102 : decode cX4_fourthStep 102 = .ok (.ldc 201, 2) := by decide +kernel
theorem dX4_fourthStep_104 : decode cX4_fourthStep 104 = .ok (.ldc 92, 2) := by decide +kernel
theorem dX4_fourthStep_106 : decode cX4_fourthStep 106 = .ok (.iconst 1, 1) := by decide +kernel
theorem dX4_fourthStep_107 : decode cX4_fourthStep 107 = .ok (.invokevirtual 102, 3) := by decide +kernel
theorem dX4_fourthStep_110 : decode cX4_fourthStep 110 = .ok (.ifCond .ne 159, 3) := by decide +kernel
theorem dX4_fourthStep_113 : decode cX4_fourthStep 113 = .ok (.aload_n 0, 1) := by decide +kernel
theorem dX4_fourthStep_114 : decode cX4_fourthStep 114 = .ok (.ldc 155, 2) := by decide +kernel
theorem dX4_fourthStep_116 : decode cX4_fourthStep 116 = .ok (.ldc 92, 2) := by decide +kernel
theorem dX4_fourthStep_118 : decode cX4_fourthStep 118 = .ok (.iconst 1, 1) := by decide +kernel
theorem dX4_fourthStep_119 : decode cX4_fourthStep 119 = .ok (.invokevirtual 102, 3) := by decide +kernel
theorem dX4_fourthStep_122 : decode cX4_fourthStep 122 = .ok (.ifCond .ne 147, 3) := by decide +kernel
theorem dX4_fourthStep_125 : decode cX4_fourthStep 125 = .ok (.aload_n 0, 1) := by decide +kernel
theorem dX4_fourthStep_126 : decode cX4_fourthStep 126 = .ok (.ldc 217, 2) := by decide +kernel
theorem dX4_fourthStep_128 : decode cX4_fourthStep 128 = .ok (.ldc 92, 2) := by decide +kernel
theorem dX4_fourthStep_130 : decode cX4_fourthStep 130 = .ok (.iconst 1, 1) := by decide +kernel
theorem dX4_fourthStep_131 : decode cX4_fourthStep 131 = .ok (.invokevirtual 102, 3) := by decide +kernel
theorem dX4_fourthStep_134 : decode cX4_fourthStep 134 = .ok (.ifCond .ne 135, 3) := by decide +kernel
theorem dX4_fourthStep_137 : decode cX4_fourthStep 137 = .ok (.aload_n 0, 1) := by decide +kernel
theorem dX4_fourthStep_138 : decode cX4_fourthStep 138 = .ok (.ldc 219, 2) := by decide +kernel
theorem dX4_fourthStep_140 : decode cX4_fourthStep 140 = .ok (.ldc 92, 2) := by decide +kernel
theorem dX4_fourthStep_142 : decode cX4_fourthStep 142 = .ok (.iconst 1, 1) := by decide +kernel
theorem dX4_fourthStep_143 : decode cX4_fourthStep 143 = .ok (.invokevirtual 102, 3) := by decide +kernel
theorem dX4_fourthStep_146 : decode cX4_fourthStep 146 = .ok (.ifCond .ne 123, 3) := by decide +kernel
theorem dX4_fourthStep_149 : decode cX4_fourthStep 149 = .ok (.aload_n 0, 1) := by decide +kernel
theorem dX4_fourthStep_150 : decode cX4_fourthStep 150 = .ok (.ldc 221, 2) := by decide +kernel
theorem dX4_fourthStep_152 : decode cX4_fourthStep 152 = .ok (.ldc 92, 2) := by decide +kernel
theorem dX4_fourthStep_154 : decode cX4_fourthStep 154 = .ok (.iconst 1, 1) := by decide +kernel
theorem dX4_fourthStep_155 : decode cX4_fourthStep 155 = .ok (.invokevirtual 102, 3) := by decide +kernel
theorem dX4_fourthStep_158 : decode cX4_fourthStep 158 = .ok (.ifCond .ne 111, 3) := by decide +kernel
theorem dX4_fourthStep_161 : decode cX4_fourthStep 161 = .ok (.aload_n 0, 1) := by decide +kernel
theorem dX4_fourthStep_162 : decode cX4_fourthStep 162 = .ok (.ldc 223, 2) := by decide +kernel
theorem dX4_fourthStep_164 : decode cX4_fourthStep 164 = .ok (.ldc 92, 2) := by decide +kernel
theorem dX4_fourthStep_166 : decode cX4_fourthStep 166 = .ok (.iconst 1, 1) := by decide +kernel
theorem dX4_fourthStep_167 : decode cX4_fourthStep 167 = .ok (.invokevirtual 102, 3) := by decide +kernel
theorem dX4_fourthStep_170 : decode cX4_fourthStep 170 = .ok (.ifCond .ne 99, 3) := by decide +kernel
theorem dX4_fourthStep_173 : decode cX4_fourthStep 173 = .ok (.aload_n 0, 1) := by decide +kernel
theorem dX4_fourthStep_174 : decode cX4_fourthStep 174 = .ok (.ldc 163, 2) := by decide +kernel
theorem dX4_fourthStep_176 : decode cX4_fourthStep 176 = .ok (.ldc 92, 2) := by decide +kernel
theorem dX4_fourthStep_178 : decode cX4_fourthStep 178 = .ok (.iconst 1, 1) := by decide +kernel
theorem dX4_fourthStep_179 : decode cX4_fourthStep 179 = .ok (.invokevirtual 102, 3) := by decide +kernel
theorem dX4_fourthStep_182 : decode cX4_fourthStep 182 = .ok (.ifCond .ne 87, 3) := by decide +kernel
theorem dX4_fourthStep_185 : decode cX4_fourthStep 185 = .ok (.aload_n 0, 1) := by decide +kernel
theorem dX4_fourthStep_186 : decode cX4_fourthStep 186 = .ok (.ldc 225, 2) := by decide +kernel
theorem dX4_fourthStep_188 : decode cX4_fourthStep 188 = .ok (.ldc 92, 2) := by decide +kernel
theorem dX4_fourthStep_190 : decode cX4_fourthStep 190 = .ok (.iconst 1, 1) := by decide +kernel
theorem dX4_fourthStep_191 : decode cX4_fourthStep 191 = .ok (.invokevirtual 102, 3) := by decide +kernel
theorem dX4_fourthStep_194 : decode cX4_fourthStep 194 = .ok (.ifCond .ne 75, 3) := by decide +kernel
theorem dX4_fourthStep_197 : decode cX4_fourthStep 197 = .ok (.aload_n 0, 1) := by decide +kernel
theorem dX4_fourthStep_198 : decode cX4_fourthStep 198 = .ok (.ldc 227, 2) := by decide +kernel
theorem dX4_fourthStep_200 : decode cX4_fourthStep 200 = .ok (.ldc 92, 2) := by decide +kernel
theorem dX4_fourthStep_202 : decode cX4_fourthStep 202 = .ok (.iconst 1, 1) := by decide +kernel
theorem dX4_fourthStep_203 : decode cX4_fourthStep 203 = .ok (.invokevirtual 102, 3) := by decide +kernel
theorem dX4_fourthStep_206 : decode cX4_fourthStep 206 = .ok (.ifCond .ne 63, 3) := by decide +kernel
theorem dX4_fourthStep_209 : decode cX4_fourthStep 209 = .ok (.aload_n 0, 1) := by decide +kernel
theorem dX4_fourthStep_210 : decode cX4_fourthStep 210 = .ok (.ldc 135, 2) := by decide +kernel
theorem dX4_fourthStep_212 : decode cX4_fourthStep 212 = .ok (.ldc 92, 2) := by decide +kernel
theorem dX4_fourthStep_214 : decode cX4_fourthStep 214 = .ok (.iconst 1, 1) := by decide +kernel
theorem dX4_fourthStep_215 : decode cX4_fourthStep 215 = .ok (.invokevirtual 102, 3) := by decide +kernel
theorem dX4_fourthStep_218 : decode cX4_fourthStep 218 = .ok (.ifCond .ne 51, 3) := by decide +kernel
theorem dX4_fourthStep_221 : decode cX4_fourthStep 221 = .ok (.aload_n 0, 1) := by decide +kernel
theorem dX4_fourthStep_222 : decode cX4_fourthStep 222 = .ok (.ldc 229, 2) := by decide +kernel
theorem dX4_fourthStep_224 : decode cX4_fourthStep 224 = .ok (.ldc 92, 2) := by decide +kernel
theorem dX4_fourthStep_226 : decode cX4_fourthStep 226 = .ok (.iconst 1, 1) := by decide +kernel
theorem dX4_fourthStep_227 : decode cX4_fourthStep 227 = .ok (.invokevirtual 102, 3) := by decide +kernel
theorem dX4_fourthStep_230 : decode cX4_fourthStep 230 = .ok (.ifCond .ne 39, 3) := by decide +kernel
theorem dX4_fourthStep_233 : decode cX4_fourthStep 233 = .ok (.aload_n 0, 1) := by decide +kernel
theorem dX4_fourthStep_234 : decode cX4_fourthStep 234 = .ok (.ldc 171, 2) := by decide +kernel
theorem dX4_fourthStep_236 : decode cX4_fourthStep 236 = .ok (.ldc 92, 2) := by decide +kernel
theorem dX4_fourthStep_238 : decode cX4_fourthStep 238 = .ok (.iconst 1, 1) := by decide +kernel
theorem dX4_fourthStep_239 : decode cX4_fourthStep 239 = .ok (.invokevirtual 102, 3) := by decide +kernel
theorem dX4_fourthStep_242 : decode cX4_fourthStep 242 = .ok (.ifCond .ne 27, 3) := by decide +kernel
theorem dX4_fourthStep_245 : decode cX4_fourthStep 245 = .ok (.aload_n 0, 1) := by decide +kernel
theorem dX4_fourthStep_246 : decode cX4_fourthStep 246 = .ok (.ldc 183, 2) := by decide +kernel
theorem dX4_fourthStep_248 : decode cX4_fourthStep 248 = .ok (.ldc 92, 2) := by decide +kernel
theorem dX4_fourthStep_250 : decode cX4_fourthStep 250 = .ok (.iconst 1, 1) := by decide +kernel
theorem dX4_fourthStep_251 : decode cX4_fourthStep 251 = .ok (.invokevirtual 102, 3) := by decide +kernel
theorem dX4_fourthStep_254 : decode cX4_fourthStep 254 = .ok (.ifCond .ne 15, 3) := by decide +kernel
theorem dX4_fourthStep_257 : decode cX4_fourthStep 257 = .ok (.aload_n 0, 1) := by decide +kernel
theorem dX4_fourthStep_258 : decode cX4_fourthStep 258 = .ok (.ldc 151, 2) := by decide +kernel
theorem dX4_fourthStep_260 : decode cX4_fourthStep 260 = .ok (.ldc 92, 2) := by decide +kernel
theorem dX4_fourthStep_262 : decode cX4_fourthStep 262 = .ok (.iconst 1, 1) := by decide +kernel
theorem dX4_fourthStep_263 : decode cX4_fourthStep 263 = .ok (.invokevirtual 102, 3) := by decide +kernel
theorem dX4_fourthStep_266 : decode cX4_fourthStep 266 = .ok (.ifCond .eq 7, 3) := by decide +kernel
theorem dX4_fourthStep_269 : decode cX4_fourthStep 269 = .ok (.iconst 1, 1) := by decide +kernel
theorem dX4_fourthStep_270 : decode cX4_fourthStep 270 = .ok (.goto 4, 3) := by decide +kernel
theorem dX4_fourthStep_273 : decode cX4_fourthStep 273 = .ok (.iconst 0, 1) := by decide +kernel
theorem dX4_fourthStep_274 : decode cX4_fourthStep 274 = .ok (.ireturn, 1) := by decide +kernel
set_option maxRecDepth 20000 in
theorem ggX4_fifthStep_X4_ends : GoodIn wsX4_fifthStep wsX4_ends := goodIn_r _ [6, 1, 7, 8, 9, 10, 11, 12, 13, 14, 15, 16, 17, 18, 19, 20, 21, 22, 23, 24, 25, 26, 27, 28, 29, 30, 31, 32, 33, 34, 35, 36, 37, 38, 39, 40, 41, 42, 43, 44, 45, 46, 47, 48, 49, 50, 51, 52, 53, 54, 55, 56, 89, 90, 91] (by decide +kernel) (by decide +kernel)
set_option maxRecDepth 20000 in
theorem gX4_fifthStep_X4_ends : GoodIn wsX4_fifthStep (wsV RX4 76 RX4 yX4_ends wsX4_ends) := goodIn_app (goodIn_of _ (by decide +kernel)) ggX4_fifthStep_X4_ends
set_option maxRecDepth 20000 in
theorem ggX4_fifthStep_X4_measure : GoodIn wsX4_fifthStep wsX4_measure := goodIn_r _ [60, 61, 62, 63, 5, 64, 1, 65, 89, 90, 91] (by decide +kernel) (by decide +kernel)
set_option maxRecDepth 20000 in
theorem gX4_fifthStep_X4_measure : GoodIn wsX4_fifthStep (wsV RX4 80 RX4 yX4_measure wsX4_measure) := goodIn_app (goodIn_of _ (by decide +kernel)) ggX4_fifthStep_X4_measure
set_option maxRecDepth 20000 in
theorem ggX4_fifthStep_X4_isCvc : GoodIn wsX4_fifthStep wsX4_isCvc := goodIn_r _ [69, 61, 62, 63, 5, 64, 1, 65, 70, 71, 72, 73, 7, 89, 90, 91] (by decide +kernel) (by decide +kernel)
set_option maxRecDepth 20000 in
theorem gX4_fifthStep_X4_isCvc : GoodIn wsX4_fifthStep (wsV RX4 126 RX4 yX4_isCvc wsX4_isCvc) := goodIn_app (goodIn_of _ (by decide +kernel)) ggX4_fifthStep_X4_isCvc
set_option maxRecDepth 20000 in
theorem ggX4_fifthStep_X4_become : GoodIn wsX4_fifthStep wsX4_become := goodIn_r _ [77, 1, 78, 79, 80, 81, 82, 83, 84, 8, 9, 10, 11, 12, 13, 14, 15, 16, 17, 18, 19, 20, 21, 22, 23, 24, 25, 26, 27, 28, 29, 30, 31, 32, 33, 34, 35, 36, 37, 38, 39, 40, 41, 42, 43, 44, 45, 46, 47, 48, 49, 50, 51, 52, 53, 54, 55, 56, 85, 86, 87, 5, 88, 7, 65, 89, 90, 91] (by decide +kernel) (by decide +kernel)
set_option maxRecDepth 20000 in
theorem gX4_fifthStep_X4_become : GoodIn wsX4_fifthStep (wsV RX4 84 RX4 yX4_become wsX4_become) := goodIn_app (goodIn_of _ (by decide +kernel)) ggX4_fifthStep_X4_become
theorem dX4_fifthStep_0 : decode cX4_fifthStep 0 = .ok (.aload_n 0, 1) := by decide +kernel
theorem dX4_fifthStep_1 : decode cX4_fifthStep 1 = .ok (.getfield 19, 3) := by decide +kernel
theorem dX4_fifthStep_4 : decode cX4_fifthStep 4 = .ok (.iconst 1, 1) := by decide +kernel
theorem dX4_fifthStep_5 : decode cX4_fifthStep 5 = .ok (.isub, 1) := by decide +kernel
theorem dX4_fifthStep_6 : decode cX4_fifthStep 6 = .ok (.istore_n 1, 1) := by decide +kernel
theorem dX4_fifthStep_7 : decode cX4_fifthStep 7 = .ok (.aload_n 0, 1) := by decide +kernel
theorem dX4_fifthStep_8 : decode cX4_fifthStep 8 = .ok (.ldc 167, 2) := by decide +kernel
theorem dX4_fifthStep_10 : decode cX4_fifthStep 10 = .ok (.invokevirtual 76, 3) := by decide +kernel
theorem dX4_fifthStep_13 : decode cX4_fifthStep 13 = .ok (.ifCond .eq 36, 3) := by decide +kernel
theorem dX4_fifthStep_16 : decode cX4_fifthStep 16 = .ok (.aload_n 0, 1) := by decide +kernel
theorem dX4_fifthStep_17 : decode cX4_fifthStep 17 = .ok (.iload_n 1, 1) := by decide +kernel
theorem dX4_fifthStep_18 : decode cX4_fifthStep 18 = .ok (.invokevirtual 80, 3) := by decide +kernel
theorem dX4_fifthStep_21 : decode cX4_fifthStep 21 = .ok (.iconst 1, 1) := by decide +kernel
theorem dX4_fifthStep_22 : decode cX4_fifthStep 22 = .ok (.if_icmp .gt 20, 3) := by decide +kernel
theorem dX4_fifthStep_25 : decode cX4_fifthStep 25 = .ok (.aload_n 0, 1) := by decide +kernel
theorem dX4_fifthStep_26 : decode cX4_fifthStep 26 = .ok (.iload_n 1, 1) := by decide +kernel
theorem dX4_fifthStep_27 : decode cX4_fifthStep 27 = .ok (.invokevirtual 80, 3) := by decide +kernel
theorem dX4_fifthStep_30 : decode cX4_fifthStep 30 = .ok (.iconst 1, 1) := by decide +kernel
theorem dX4_fifthStep_31 : decode cX4_fifthStep 31 = .ok (.if_icmp .ne 18, 3) := by decide +kernel
theorem dX4_fifthStep_34 : decode cX4_fifthStep 34 = .ok (.aload_n 0, 1) := by decide +kernel
theorem dX4_fifthStep_35 : decode cX4_fifthStep 35 = .ok (.iload_n 1, 1) := by decide +kernel
theorem dX4_fifthStep_36 : decode cX4_fifthStep 36 = .ok (.invokevirtual 126, 3) := by decide +kernel
theorem dX4_fifthStep_39 : decode cX4_fifthStep 39 = .ok (.ifCond .ne 10, 3) := by decide +kernel
theorem dX4_fifthStep_42 : decode cX4_fifthStep 42 = .ok (.aload_n 0, 1) := by decide +kernel
theorem dX4_fifthStep_43 : decode cX4_fifthStep 43 = .ok (.iload_n 1, 1) := by decide +kernel
theorem dX4_fifthStep_44 : decode cX4_fifthStep 44 = .ok (.ldc 92, 2) := by decide +kernel
theorem dX4_fifthStep_46 : decode cX4_fifthStep 46 = .ok (.invokevirtual 84, 3) := by decide +kernel
theorem dX4_fifthStep_49 : decode cX4_fifthStep 49 = .ok (.aload_n 0, 1) := by decide +kernel
theorem dX4_fifthStep_50 : decode cX4_fifthStep 50 = .ok (.ldc 231, 2) := by decide +kernel
theorem dX4_fifthStep_52 : decode cX4_fifthStep 52 = .ok (.invokevirtual 76, 3) := by decide +kernel
theorem dX4_fifthStep_55 : decode cX4_fifthStep 55 = .ok (.ifCond .eq 29, 3) := by decide +kernel
theorem dX4_fifthStep_58 : decode cX4_fifthStep 58 = .ok (.aload_n 0, 1) := by decide +kernel
theorem dX4_fifthStep_59 : decode cX4_fifthStep 59 = .ok (.aload_n 0, 1) := by decide +kernel
theorem dX4_fifthStep_60 : decode cX4_fifthStep 60 = .ok (.getfield 19, 3) := by decide +kernel
theorem dX4_fifthStep_63 : decode cX4_fifthStep 63 = .ok (.iconst 1, 1) := by decide +kernel
theorem dX4_fifthStep_64 : decode cX4_fifthStep 64 = .ok (.isub, 1) := by decide +kernel
theorem dX4_fifthStep_65 : decode cX4_fifthStep 65 = .ok (.invokevirtual 80, 3) := by decide +kernel
theorem dX4_fifthStep_68 : decode cX4_fifthStep 68 = .ok (.iconst 1, 1) := by decide +kernel
theorem dX4_fifthStep_69 : decode cX4_fifthStep 69 = .ok (.if_icmp .le 15, 3) := by decide +kernel
theorem dX4_fifthStep_72 : decode cX4_fifthStep 72 = .ok (.aload_n 0, 1) := by decide +kernel
theorem dX4_fifthStep_73 : decode cX4_fifthStep 73 = .ok (.aload_n 0, 1) := by decide +kernel
theorem dX4_fifthStep_74 : decode cX4_fifthStep 74 = .ok (.getfield 19, 3) := by decide +kernel
theorem dX4_fifthStep_77 : decode cX4_fifthStep 77 = .ok (.iconst 1, 1) := by decide +kernel
theorem dX4_fifthStep_78 : decode cX4_fifthStep 78 = .ok (.isub, 1) := by decide +kernel
theorem dX4_fifthStep_79 : decode cX4_fifthStep 79 = .ok (.ldc 92, 2) := by decide +kernel
theorem dX4_fifthStep_81 : decode cX4_fifthStep 81 = .ok (.invokevirtual 84, 3) := by decide +kernel
theorem dX4_fifthStep_84 : decode cX4_fifthStep 84 = .ok (.return_, 1) := by decide +kernel
theorem dX5_init_0 : decode cX5_init 0 = .ok (.aload_n 0, 1) := by decide +kernel
theorem dX5_init_1 : decode cX5_init 1 = .ok (.invokespecial 3, 3) := by decide +kernel
theorem dX5_init_4 : decode cX5_init 4 = .ok (.aload_n 0, 1) := by decide +kernel
theorem dX5_init_5 : decode cX5_init 5 = .ok (.sipush 1500, 3) := by decide +kernel
theorem dX5_init_8 : decode cX5_init 8 = .ok (.newarray .int, 2) := by decide +kernel
theorem dX5_init_10 : decode cX5_init 10 = .ok (.putfield 9, 3) := by decide +kernel
theorem dX5_init_13 : decode cX5_init 13 = .ok (.return_, 1) := by decide +kernel
theorem dX5_size_0 : decode cX5_size 0 = .ok (.aload_n 0, 1) := by decide +kernel
theorem dX5_size_1 : decode cX5_size 1 = .ok (.getfield 15, 3) := by decide +kernel
theorem dX5_size_4 : decode cX5_size 4 = .ok (.ireturn, 1) := by decide +kernel
theorem dX5_get_0 : decode cX5_get 0 = .ok (.iload_n 1, 1) := by decide +kernel
theorem dX5_get_1 : decode cX5_get 1 = .ok (.ifCond .lt 20, 3) := by decide +kernel
theorem dX5_get_4 : decode cX5_get 4 = .ok (.iload_n 1, 1) := by decide +kernel
theorem dX5_get_5 : decode cX5_get 5 = .ok (.aload_n 0, 1) := by decide +kernel
theorem dX5_get_6 : decode cX5_get 6 = .ok (.getfield 15, 3) := by decide +kernel
theorem dX5_get_9 : decode cX5_get 9 = .ok (.if_icmp .ge 12, 3) := by decide +kernel
theorem dX5_get_12 : decode cX5_get 12 = .ok (.aload_n 0, 1) := by decide +kernel
theorem dX5_get_13 : decode cX5_get 13 = .ok (.getfield 9, 3) := by decide +kernel
theorem dX5_get_16 : decode cX5_get 16 = .ok (.iload_n 1, 1) := by decide +kernel
theorem dX5_get_17 : decode cX5_get 17 = .ok (.iaload, 1) := by decide +kernel
theorem dX5_get_18 : decode cX5_get 18 = .ok (.goto 4, 3) := by decide +kernel
theorem dX5_get_21 : decode cX5_get 21 = .ok (.iconst (-1), 1) := by decide +kernel
theorem dX5_get_22 : decode cX5_get 22 = .ok (.ireturn, 1) := by decide +kernel
theorem dX5_add_0 : decode cX5_add 0 = .ok (.aload_n 0, 1) := by decide +kernel
theorem dX5_add_1 : decode cX5_add 1 = .ok (.getfield 15, 3) := by decide +kernel
theorem dX5_add_4 : decode cX5_add 4 = .ok (.aload_n 0, 1) := by decide +kernel
theorem dX5_add_5 : decode cX5_add 5 = .ok (.getfield 9, 3) := by decide +kernel
theorem dX5_add_8 : decode cX5_add 8 = .ok (.arraylength, 1) := by decide +kernel
theorem dX5_add_9 : decode cX5_add 9 = .ok (.if_icmp .ge 23, 3) := by decide +kernel
theorem dX5_add_12 : decode cX5_add 12 = .ok (.aload_n 0, 1) := by decide +kernel
theorem dX5_add_13 : decode cX5_add 13 = .ok (.getfield 9, 3) := by decide +kernel
theorem dX5_add_16 : decode cX5_add 16 = .ok (.aload_n 0, 1) := by decide +kernel
theorem dX5_add_17 : decode cX5_add 17 = .ok (.getfield 15, 3) := by decide +kernel
theorem dX5_add_20 : decode cX5_add 20 = .ok (.iload_n 1, 1) := by decide +kernel
theorem dX5_add_21 : decode cX5_add 21 = .ok (.iastore, 1) := by decide +kernel
theorem dX5_add_22 : decode cX5_add 22 = .ok (.aload_n 0, 1) := by decide +kernel
theorem dX5_add_23 : decode cX5_add 23 = .ok (.dup, 1) := by decide +kernel
theorem dX5_add_24 : decode cX5_add 24 = .ok (.getfield 15, 3) := by decide +kernel
theorem dX5_add_27 : decode cX5_add 27 = .ok (.iconst 1, 1) := by decide +kernel
theorem dX5_add_28 : decode cX5_add 28 = .ok (.iadd, 1) := by decide +kernel
theorem dX5_add_29 : decode cX5_add 29 = .ok (.putfield 15, 3) := by decide +kernel
theorem dX5_add_32 : decode cX5_add 32 = .ok (.return_, 1) := by decide +kernel
theorem dX5_set_0 : decode cX5_set 0 = .ok (.iload_n 1, 1) := by decide +kernel
theorem dX5_set_1 : decode cX5_set 1 = .ok (.ifCond .lt 18, 3) := by decide +kernel
theorem dX5_set_4 : decode cX5_set 4 = .ok (.iload_n 1, 1) := by decide +kernel
theorem dX5_set_5 : decode cX5_set 5 = .ok (.aload_n 0, 1) := by decide +kernel
theorem dX5_set_6 : decode cX5_set 6 = .ok (.getfield 15, 3) := by decide +kernel
theorem dX5_set_9 : decode cX5_set 9 = .ok (.if_icmp .ge 10, 3) := by decide +kernel
theorem dX5_set_12 : decode cX5_set 12 = .ok (.aload_n 0, 1) := by decide +kernel
theorem dX5_set_13 : decode cX5_set 13 = .ok (.getfield 9, 3) := by decide +kernel
theorem dX5_set_16 : decode cX5_set 16 = .ok (.iload_n 1, 1) := by decide +kernel
theorem dX5_set_17 : decode cX5_set 17 = .ok (.iload_n 2, 1) := by decide +kernel
theorem dX5_set_18 : decode cX5_set 18 = .ok (.iastore, 1) := by decide +kernel
theorem dX5_set_19 : decode cX5_set 19 = .ok (.return_, 1) := by decide +kernel
theorem dX5_shorten_0 : decode cX5_shorten 0 = .ok (.iload_n 1, 1) := by decide +kernel
theorem dX5_shorten_1 : decode cX5_shorten 1 = .ok (.ifCond .lt 16, 3) := by decide +kernel
theorem dX5_shorten_4 : decode cX5_shorten 4 = .ok (.iload_n 1, 1) := by decide +kernel
theorem dX5_shorten_5 : decode cX5_shorten 5 = .ok (.aload_n 0, 1) := by decide +kernel
theorem dX5_shorten_6 : decode cX5_shorten 6 = .ok (.getfield 15, 3) := by decide +kernel
theorem dX5_shorten_9 : decode cX5_shorten 9 = .ok (.if_icmp .ge 8, 3) := by decide +kernel
theorem dX5_shorten_12 : decode cX5_shorten 12 = .ok (.aload_n 0, 1) := by decide +kernel
theorem dX5_shorten_13 : decode cX5_shorten 13 = .ok (.iload_n 1, 1) := by decide +kernel
theorem dX5_shorten_14 : decode cX5_shorten 14 = .ok (.putfield 15, 3) := by decide +kernel
theorem dX5_shorten_17 : decode cX5_shorten 17 = .ok (.return_, 1) := by decide +kernel
set_option maxRecDepth 20000 in
theorem ggX5_holds_J0_length_8abf5 : GoodIn wsX5_holds wsJ0_length_8abf5 := goodIn_r _ [5, 6, 7, 8, 9, 4, 10, 11, 12] (by decide +kernel) (by decide +kernel)
set_option maxRecDepth 20000 in
theorem gX5_holds_J0_length_8abf5 : GoodIn wsX5_holds (wsV RX5 19 RJ0 yJ0_length_8abf5 wsJ0_length_8abf5) := goodIn_app (goodIn_of _ (by decide +kernel)) ggX5_holds_J0_length_8abf5
set_option maxRecDepth 20000 in
theorem ggX5_holds_X5_get : GoodIn wsX5_holds wsX5_get := goodIn_r _ [17, 18, 19, 57, 58] (by decide +kernel) (by decide +kernel)
set_option maxRecDepth 20000 in
theorem gX5_holds_X5_get : GoodIn wsX5_holds (wsV RX5 25 RX5 yX5_get wsX5_get) := goodIn_app (goodIn_of _ (by decide +kernel)) ggX5_holds_X5_get
set_option maxRecDepth 20000 in
theorem ggX5_holds_J0_charAt_5068e : GoodIn wsX5_holds wsJ0_charAt_5068e := goodIn_r _ [23, 6, 24, 25, 26, 4, 27, 11, 12, 28, 29, 30, 31, 32, 33, 34, 35, 36, 37, 38, 39, 40, 41, 42, 43, 44, 45, 46, 47, 48, 49, 50, 51, 52, 53, 54, 55, 56] (by decide +kernel) (by decide +kernel)
set_option maxRecDepth 20000 in
theorem gX5_holds_J0_charAt_5068e : GoodIn wsX5_holds (wsV RX5 29 RJ0 yJ0_charAt_5068e wsJ0_charAt_5068e) := goodIn_app (goodIn_of _ (by decide +kernel)) ggX5_holds_J0_charAt_5068e
theorem dX5_holds_0 : decode cX5_holds 0 = .ok (.iconst 0, 1) := by decide +kernel
theorem dX5_holds_1 : decode cX5_holds 1 = .ok (.istore_n 3, 1) := by decide +kernel
theorem dX5_holds_2 : decode cX5_holds 2 = .ok (.iload_n 3, 1) := by decide +kernel
theorem dX5_holds_3 : decode cX5_holds 3 = .ok (.aload_n 2, 1) := by decide +kernel
theorem dX5_holds_4 : decode cX5_holds 4 = .ok (.invokevirtual 19, 3) := by decide +kernel
theorem dX5_holds_7 : decode cX5_holds 7 = .ok (.if_icmp .ge 26, 3) := by decide +kernel
theorem dX5_holds_10 : decode cX5_holds 10 = .ok (.aload_n 0, 1) := by decide +kernel
theorem dX5_holds_11 : decode cX5_holds 11 = .ok (.iload_n 1, 1) := by decide +kernel
theorem dX5_holds_12 : decode cX5_holds 12 = .ok (.iload_n 3, 1) := by decide +kernel
theorem dX5_holds_13 : decode cX5_holds 13 = .ok (.iadd, 1) := by decide +kernel
theorem dX5_holds_14 : decode cX5_holds 14 = .ok (.invokevirtual 25, 3) := by decide +kernel
theorem dX5_holds_17 : decode cX5_holds 17 = .ok (.aload_n 2, 1) := by decide +kernel
theorem dX5_holds_18 : decode cX5_holds 18 = .ok (.iload_n 3, 1) := by decide +kernel
theorem dX5_holds_19 : decode cX5_holds 19 = .ok (.invokevirtual 29, 3) := by decide +kernel
theorem dX5_holds_22 : decode cX5_holds 22 = .ok (.if_icmp .eq 5, 3) := by decide +kernel
theorem dX5_holds_25 : decode cX5_holds 25 = .ok (.iconst 0, 1) := by decide +kernel
theorem dX5_holds_26 : decode cX5_holds 26 = .ok (.ireturn, 1) := by decide +kernel
theorem dX5_holds_27 : decode cX5_holds 27 = .ok (.iinc 3 1, 3) := by decide +kernel
theorem dX5_holds_30 : decode cX5_holds 30 = .ok (.goto (-28), 3) := by decide +kernel
theorem dX5_holds_33 : decode cX5_holds 33 = .ok (.iconst 1, 1) := by decide +kernel
theorem dX5_holds_34 : decode cX5_holds 34 = .ok (.ireturn, 1) := by decide +kernel
set_option maxRecDepth 20000 in
theorem ggX5_holdsInAnyCase_J0_length_8abf5 : GoodIn wsX5_holdsInAnyCase wsJ0_length_8abf5 := goodIn_r _ [5, 6, 7, 8, 9, 4, 10, 11, 12] (by decide +kernel) (by decide +kernel)
set_option maxRecDepth 20000 in
theorem gX5_holdsInAnyCase_J0_length_8abf5 : GoodIn wsX5_holdsInAnyCase (wsV RX5 19 RJ0 yJ0_length_8abf5 wsJ0_length_8abf5) := goodIn_app (goodIn_of _ (by decide +kernel)) ggX5_holdsInAnyCase_J0_length_8abf5
set_option maxRecDepth 20000 in
theorem ggX5_holdsInAnyCase_X5_get : GoodIn wsX5_holdsInAnyCase wsX5_get := goodIn_r _ [17, 18, 19, 57, 58] (by decide +kernel) (by decide +kernel)
set_option maxRecDepth 20000 in
theorem gX5_holdsInAnyCase_X5_get : GoodIn wsX5_holdsInAnyCase (wsV RX5 25 RX5 yX5_get wsX5_get) := goodIn_app (goodIn_of _ (by decide +kernel)) ggX5_holdsInAnyCase_X5_get
set_option maxRecDepth 20000 in
theorem ggX5_holdsInAnyCase_J0_charAt_5068e : GoodIn wsX5_holdsInAnyCase wsJ0_charAt_5068e := goodIn_r _ [23, 6, 24, 25, 26, 4, 27, 11, 12, 28, 29, 30, 31, 32, 33, 34, 35, 36, 37, 38, 39, 40, 41, 42, 43, 44, 45, 46, 47, 48, 49, 50, 51, 52, 53, 54, 55, 56] (by decide +kernel) (by decide +kernel)
set_option maxRecDepth 20000 in
theorem gX5_holdsInAnyCase_J0_charAt_5068e : GoodIn wsX5_holdsInAnyCase (wsV RX5 29 RJ0 yJ0_charAt_5068e wsJ0_charAt_5068e) := goodIn_app (goodIn_of _ (by decide +kernel)) ggX5_holdsInAnyCase_J0_charAt_5068e
theorem dX5_holdsInAnyCase_0 : decode cX5_holdsInAnyCase 0 = .ok (.iconst 0, 1) := by decide +kernel
theorem dX5_holdsInAnyCase_1 : decode cX5_holdsInAnyCase 1 = .ok (.istore_n 3, 1) := by decide +kernel
theorem dX5_holdsInAnyCase_2 : decode cX5_holdsInAnyCase 2 = .ok (.iload_n 3, 1) := by decide +kernel
theorem dX5_holdsInAnyCase_3 : decode cX5_holdsInAnyCase 3 = .ok (.aload_n 2, 1) := by decide +kernel
theorem dX5_holdsInAnyCase_4 : decode cX5_holdsInAnyCase 4 = .ok (.invokevirtual 19, 3) := by decide +kernel
theorem dX5_holdsInAnyCase_7 : decode cX5_holdsInAnyCase 7 = .ok (.if_icmp .ge 52, 3) := by decide +kernel
theorem dX5_holdsInAnyCase_10 : decode cX5_holdsInAnyCase 10 = .ok (.aload_n 0, 1) := by decide +kernel
theorem dX5_holdsInAnyCase_11 : decode cX5_holdsInAnyCase 11 = .ok (.iload_n 1, 1) := by decide +kernel
theorem dX5_holdsInAnyCase_12 : decode cX5_holdsInAnyCase 12 = .ok (.iload_n 3, 1) := by decide +kernel
theorem dX5_holdsInAnyCase_13 : decode cX5_holdsInAnyCase 13 = .ok (.iadd, 1) := by decide +kernel
theorem dX5_holdsInAnyCase_14 : decode cX5_holdsInAnyCase 14 = .ok (.invokevirtual 25, 3) := by decide +kernel
theorem dX5_holdsInAnyCase_17 : decode cX5_holdsInAnyCase 17 = .ok (.istore 4, 2) := by decide +kernel
theorem dX5_holdsInAnyCase_19 : decode cX5_holdsInAnyCase 19 = .ok (.iload 4, 2) := by decide +kernel
theorem dX5_holdsInAnyCase_21 : decode cX5_holdsInAnyCase 21 = .ok (.bipush 65, 2) := by decide +kernel
theorem dX5_holdsInAnyCase_23 : decode cX5_holdsInAnyCase 23 = .ok (.if_icmp .lt 18, 3) := by decide +kernel
theorem dX5_holdsInAnyCase_26 : decode cX5_holdsInAnyCase 26 = .ok (.iload 4, 2) := by decide +kernel
theorem dX5_holdsInAnyCase_28 : decode cX5_holdsInAnyCase 28 = .ok (.bipush 90, 2) := by decide +kernel
theorem dX5_holdsInAnyCase_30 : decode cX5_holdsInAnyCase 30 = .ok (.if_icmp .gt 11, 3) := by decide +kernel
theorem dX5_holdsInAnyCase_33 : decode cX5_holdsInAnyCase 33 = .ok (.iload 4, 2) := by decide +kernel
theorem dX5_holdsInAnyCase_35 : decode cX5_holdsInAnyCase 35 = .ok (.bipush 32, 2) := by decide +kernel
theorem dX5_holdsInAnyCase_37 : decode cX5_holdsInAnyCase 37 = .ok (.iadd, 1) := by decide +kernel
theorem dX5_holdsInAnyCase_38 : decode cX5_holdsInAnyCase 38 = .ok (.goto 5, 3) := by decide +kernel
theorem dX5_holdsInAnyCase_41 : decode cX5_holdsInAnyCase 41 = .ok (.iload 4, 2) := by decide +kernel
theorem dX5_holdsInAnyCase_43 : decode cX5_holdsInAnyCase 43 = .ok (.aload_n 2, 1) := by decide +kernel
theorem dX5_holdsInAnyCase_44 : decode cX5_holdsInAnyCase 44 = .ok (.iload_n 3, 1) := by decide +kernel
theorem dX5_holdsInAnyCase_45 : decode cX5_holdsInAnyCase 45 = .ok (.invokevirtual 29, 3) := by decide +kernel
theorem dX5_holdsInAnyCase_48 : decode cX5_holdsInAnyCase 48 = .ok (.if_icmp .eq 5, 3) := by decide +kernel
theorem dX5_holdsInAnyCase_51 : decode cX5_holdsInAnyCase 51 = .ok (.iconst 0, 1) := by decide +kernel
theorem dX5_holdsInAnyCase_52 : decode cX5_holdsInAnyCase 52 = .ok (.ireturn, 1) := by decide +kernel
theorem dX5_holdsInAnyCase_53 : decode cX5_holdsInAnyCase 53 = .ok (.iinc 3 1, 3) := by decide +kernel
theorem dX5_holdsInAnyCase_56 : decode cX5_holdsInAnyCase 56 = .ok (.goto (-54), 3) := by decide +kernel
theorem dX5_holdsInAnyCase_59 : decode cX5_holdsInAnyCase 59 = .ok (.iconst 1, 1) := by decide +kernel
theorem dX5_holdsInAnyCase_60 : decode cX5_holdsInAnyCase 60 = .ok (.ireturn, 1) := by decide +kernel
