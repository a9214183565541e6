theorem dX8_lookAtLines_95 : decode cX8_lookAtLines 95 = .ok (.goto 14, 3) := by decide +kernel
theorem dX8_lookAtLines_98 : decode cX8_lookAtLines 98 = .ok (.aload_n 0, 1) := by decide +kernel
theorem dX8_lookAtLines_99 : decode cX8_lookAtLines 99 = .ok (.iload_n 1, 1) := by decide +kernel
theorem dX8_lookAtLines_100 : decode cX8_lookAtLines 100 = .ok (.iload_n 3, 1) := by decide +kernel
theorem dX8_lookAtLines_101 : decode cX8_lookAtLines 101 = .ok (.invokevirtual 255, 3) := by decide +kernel
theorem dX8_lookAtLines_104 : decode cX8_lookAtLines 104 = .ok (.ifCond .eq 5, 3) := by decide +kernel
theorem dX8_lookAtLines_107 : decode cX8_lookAtLines 107 = .ok (.iconst 1, 1) := by decide +kernel
theorem dX8_lookAtLines_108 : decode cX8_lookAtLines 108 = .ok (.istore_n 2, 1) := by decide +kernel
theorem dX8_lookAtLines_109 : decode cX8_lookAtLines 109 = .ok (.aload_n 0, 1) := by decide +kernel
theorem dX8_lookAtLines_110 : decode cX8_lookAtLines 110 = .ok (.getfield 25, 3) := by decide +kernel
theorem dX8_lookAtLines_113 : decode cX8_lookAtLines 113 = .ok (.aload_n 0, 1) := by decide +kernel
theorem dX8_lookAtLines_114 : decode cX8_lookAtLines 114 = .ok (.getfield 249, 3) := by decide +kernel
theorem dX8_lookAtLines_117 : decode cX8_lookAtLines 117 = .ok (.iload_n 2, 1) := by decide +kernel
theorem dX8_lookAtLines_118 : decode cX8_lookAtLines 118 = .ok (.bastore, 1) := by decide +kernel
theorem dX8_lookAtLines_119 : decode cX8_lookAtLines 119 = .ok (.aload_n 0, 1) := by decide +kernel
theorem dX8_lookAtLines_120 : decode cX8_lookAtLines 120 = .ok (.dup, 1) := by decide +kernel
theorem dX8_lookAtLines_121 : decode cX8_lookAtLines 121 = .ok (.getfield 249, 3) := by decide +kernel
theorem dX8_lookAtLines_124 : decode cX8_lookAtLines 124 = .ok (.iconst 1, 1) := by decide +kernel
theorem dX8_lookAtLines_125 : decode cX8_lookAtLines 125 = .ok (.iadd, 1) := by decide +kernel
theorem dX8_lookAtLines_126 : decode cX8_lookAtLines 126 = .ok (.putfield 249, 3) := by decide +kernel
theorem dX8_lookAtLines_129 : decode cX8_lookAtLines 129 = .ok (.iload_n 3, 1) := by decide +kernel
theorem dX8_lookAtLines_130 : decode cX8_lookAtLines 130 = .ok (.iconst 1, 1) := by decide +kernel
theorem dX8_lookAtLines_131 : decode cX8_lookAtLines 131 = .ok (.iadd, 1) := by decide +kernel
theorem dX8_lookAtLines_132 : decode cX8_lookAtLines 132 = .ok (.istore_n 1, 1) := by decide +kernel
theorem dX8_lookAtLines_133 : decode cX8_lookAtLines 133 = .ok (.goto (-124), 3) := by decide +kernel
theorem dX8_lookAtLines_136 : decode cX8_lookAtLines 136 = .ok (.iconst 0, 1) := by decide +kernel
theorem dX8_lookAtLines_137 : decode cX8_lookAtLines 137 = .ok (.istore_n 3, 1) := by decide +kernel
theorem dX8_lookAtLines_138 : decode cX8_lookAtLines 138 = .ok (.iload_n 3, 1) := by decide +kernel
theorem dX8_lookAtLines_139 : decode cX8_lookAtLines 139 = .ok (.aload_n 0, 1) := by decide +kernel
theorem dX8_lookAtLines_140 : decode cX8_lookAtLines 140 = .ok (.getfield 249, 3) := by decide +kernel
theorem dX8_lookAtLines_143 : decode cX8_lookAtLines 143 = .ok (.if_icmp .ge 67, 3) := by decide +kernel
theorem dX8_lookAtLines_146 : decode cX8_lookAtLines 146 = .ok (.aload_n 0, 1) := by decide +kernel
theorem dX8_lookAtLines_147 : decode cX8_lookAtLines 147 = .ok (.getfield 29, 3) := by decide +kernel
theorem dX8_lookAtLines_150 : decode cX8_lookAtLines 150 = .ok (.iload_n 3, 1) := by decide +kernel
theorem dX8_lookAtLines_151 : decode cX8_lookAtLines 151 = .ok (.iload_n 3, 1) := by decide +kernel
theorem dX8_lookAtLines_152 : decode cX8_lookAtLines 152 = .ok (.iconst 1, 1) := by decide +kernel
theorem dX8_lookAtLines_153 : decode cX8_lookAtLines 153 = .ok (.iadd, 1) := by decide +kernel
theorem dX8_lookAtLines_154 : decode cX8_lookAtLines 154 = .ok (.aload_n 0, 1) := by decide +kernel
theorem dX8_lookAtLines_155 : decode cX8_lookAtLines 155 = .ok (.getfield 249, 3) := by decide +kernel
theorem dX8_lookAtLines_158 : decode cX8_lookAtLines 158 = .ok (.if_icmp .ge 44, 3) := by decide +kernel
theorem dX8_lookAtLines_161 : decode cX8_lookAtLines 161 = .ok (.aload_n 0, 1) := by decide +kernel
theorem dX8_lookAtLines_162 : decode cX8_lookAtLines 162 = .ok (.getfield 22, 3) := by decide +kernel
theorem dX8_lookAtLines_165 : decode cX8_lookAtLines 165 = .ok (.iload_n 3, 1) := by decide +kernel
theorem dX8_lookAtLines_166 : decode cX8_lookAtLines 166 = .ok (.iconst 1, 1) := by decide +kernel
theorem dX8_lookAtLines_167 : decode cX8_lookAtLines 167 = .ok (.iadd, 1) := by decide +kernel
theorem dX8_lookAtLines_168 : decode cX8_lookAtLines 168 = .ok (.iaload, 1) := by decide +kernel
theorem dX8_lookAtLines_169 : decode cX8_lookAtLines 169 = .ok (.ifCond .le 33, 3) := by decide +kernel
theorem dX8_lookAtLines_172 : decode cX8_lookAtLines 172 = .ok (.aload_n 0, 1) := by decide +kernel
theorem dX8_lookAtLines_173 : decode cX8_lookAtLines 173 = .ok (.aload_n 0, 1) := by decide +kernel
theorem dX8_lookAtLines_174 : decode cX8_lookAtLines 174 = .ok (.getfield 16, 3) := by decide +kernel
theorem dX8_lookAtLines_177 : decode cX8_lookAtLines 177 = .ok (.iload_n 3, 1) := by decide +kernel
theorem dX8_lookAtLines_178 : decode cX8_lookAtLines 178 = .ok (.iaload, 1) := by decide +kernel
theorem dX8_lookAtLines_179 : decode cX8_lookAtLines 179 = .ok (.aload_n 0, 1) := by decide +kernel
theorem dX8_lookAtLines_180 : decode cX8_lookAtLines 180 = .ok (.getfield 16, 3) := by decide +kernel
theorem dX8_lookAtLines_183 : decode cX8_lookAtLines 183 = .ok (.iload_n 3, 1) := by decide +kernel
theorem dX8_lookAtLines_184 : decode cX8_lookAtLines 184 = .ok (.iaload, 1) := by decide +kernel
theorem dX8_lookAtLines_185 : decode cX8_lookAtLines 185 = .ok (.aload_n 0, 1) := by decide +kernel
theorem dX8_lookAtLines_186 : decode cX8_lookAtLines 186 = .ok (.getfield 19, 3) := by decide +kernel
theorem dX8_lookAtLines_189 : decode cX8_lookAtLines 189 = .ok (.iload_n 3, 1) := by decide +kernel
theorem dX8_lookAtLines_190 : decode cX8_lookAtLines 190 = .ok (.iaload, 1) := by decide +kernel
theorem dX8_lookAtLines_191 : decode cX8_lookAtLines 191 = .ok (.iadd, 1) := by decide +kernel
theorem dX8_lookAtLines_192 : decode cX8_lookAtLines 192 = .ok (.invokevirtual 259, 3) := by decide +kernel
theorem dX8_lookAtLines_195 : decode cX8_lookAtLines 195 = .ok (.ifCond .eq 7, 3) := by decide +kernel
theorem dX8_lookAtLines_198 : decode cX8_lookAtLines 198 = .ok (.iconst 1, 1) := by decide +kernel
theorem dX8_lookAtLines_199 : decode cX8_lookAtLines 199 = .ok (.goto 4, 3) := by decide +kernel
theorem dX8_lookAtLines_202 : decode cX8_lookAtLines 202 = .ok (.iconst 0, 1) := by decide +kernel
theorem dX8_lookAtLines_203 : decode cX8_lookAtLines 203 = .ok (.bastore, 1) := by decide +kernel
theorem dX8_lookAtLines_204 : decode cX8_lookAtLines 204 = .ok (.iinc 3 1, 3) := by decide +kernel
theorem dX8_lookAtLines_207 : decode cX8_lookAtLines 207 = .ok (.goto (-69), 3) := by decide +kernel
theorem dX8_lookAtLines_210 : decode cX8_lookAtLines 210 = .ok (.return_, 1) := by decide +kernel
set_option maxRecDepth 20000 in
theorem ggX8_lines_X8_lookAtLines : GoodIn wsX8_lines wsX8_lookAtLines := goodIn_r _ [14, 2, 15, 16, 7, 8, 4, 5, 6, 17, 18, 19, 13, 20, 21, 22, 23, 24, 25, 26, 27, 28, 29, 30, 31, 32, 33, 34, 35, 36, 37, 38, 39, 40, 41, 42, 43, 44, 45, 46, 47, 48, 49, 50, 51, 52, 53, 54, 55, 56, 57, 58, 59, 60, 61, 62, 63, 64, 65, 66, 67, 68, 69, 70, 71, 72, 73, 74, 75, 76, 77, 78, 79, 80, 81, 82, 83, 84, 85, 86, 87, 88, 89, 90] (by decide +kernel) (by decide +kernel)
set_option maxRecDepth 20000 in
theorem gX8_lines_X8_lookAtLines : GoodIn wsX8_lines (wsV RX8 262 RX8 yX8_lookAtLines wsX8_lookAtLines) := goodIn_app (goodIn_of _ (by decide +kernel)) ggX8_lines_X8_lookAtLines
theorem dX8_lines_0 : decode cX8_lines 0 = .ok (.aload_n 0, 1) := by decide +kernel
theorem dX8_lines_1 : decode cX8_lines 1 = .ok (.iconst 0, 1) := by decide +kernel
theorem dX8_lines_2 : decode cX8_lines 2 = .ok (.putfield 60, 3) := by decide +kernel
theorem dX8_lines_5 : decode cX8_lines 5 = .ok (.aload_n 0, 1) := by decide +kernel
theorem dX8_lines_6 : decode cX8_lines 6 = .ok (.invokevirtual 262, 3) := by decide +kernel
theorem dX8_lines_9 : decode cX8_lines 9 = .ok (.iconst 0, 1) := by decide +kernel
theorem dX8_lines_10 : decode cX8_lines 10 = .ok (.istore_n 1, 1) := by decide +kernel
theorem dX8_lines_11 : decode cX8_lines 11 = .ok (.iload_n 1, 1) := by decide +kernel
theorem dX8_lines_12 : decode cX8_lines 12 = .ok (.aload_n 0, 1) := by decide +kernel
theorem dX8_lines_13 : decode cX8_lines 13 = .ok (.getfield 249, 3) := by decide +kernel
theorem dX8_lines_16 : decode cX8_lines 16 = .ok (.if_icmp .ge 103, 3) := by decide +kernel
theorem dX8_lines_19 : decode cX8_lines 19 = .ok (.aload_n 0, 1) := by decide +kernel
theorem dX8_lines_20 : decode cX8_lines 20 = .ok (.getfield 32, 3) := by decide +kernel
theorem dX8_lines_23 : decode cX8_lines 23 = .ok (.iconst 5, 1) := by decide +kernel
theorem dX8_lines_24 : decode cX8_lines 24 = .ok (.iload_n 1, 1) := by decide +kernel
theorem dX8_lines_25 : decode cX8_lines 25 = .ok (.imul, 1) := by decide +kernel
theorem dX8_lines_26 : decode cX8_lines 26 = .ok (.aload_n 0, 1) := by decide +kernel
theorem dX8_lines_27 : decode cX8_lines 27 = .ok (.getfield 22, 3) := by decide +kernel
theorem dX8_lines_30 : decode cX8_lines 30 = .ok (.iload_n 1, 1) := by decide +kernel
theorem dX8_lines_31 : decode cX8_lines 31 = .ok (.iaload, 1) := by decide +kernel
theorem dX8_lines_32 : decode cX8_lines 32 = .ok (.iastore, 1) := by decide +kernel
theorem dX8_lines_33 : decode cX8_lines 33 = .ok (.aload_n 0, 1) := by decide +kernel
theorem dX8_lines_34 : decode cX8_lines 34 = .ok (.getfield 32, 3) := by decide +kernel
theorem dX8_lines_37 : decode cX8_lines 37 = .ok (.iconst 5, 1) := by decide +kernel
theorem dX8_lines_38 : decode cX8_lines 38 = .ok (.iload_n 1, 1) := by decide +kernel
theorem dX8_lines_39 : decode cX8_lines 39 = .ok (.imul, 1) := by decide +kernel
theorem dX8_lines_40 : decode cX8_lines 40 = .ok (.iconst 1, 1) := by decide +kernel
theorem dX8_lines_41 : decode cX8_lines 41 = .ok (.iadd, 1) := by decide +kernel
theorem dX8_lines_42 : decode cX8_lines 42 = .ok (.aload_n 0, 1) := by decide +kernel
theorem dX8_lines_43 : decode cX8_lines 43 = .ok (.getfield 25, 3) := by decide +kernel
theorem dX8_lines_46 : decode cX8_lines 46 = .ok (.iload_n 1, 1) := by decide +kernel
theorem dX8_lines_47 : decode cX8_lines 47 = .ok (.baload, 1) := by decide +kernel
theorem dX8_lines_48 : decode cX8_lines 48 = .ok (.ifCond .eq 7, 3) := by decide +kernel
theorem dX8_lines_51 : decode cX8_lines 51 = .ok (.iconst 1, 1) := by decide +kernel
theorem dX8_lines_52 : decode cX8_lines 52 = .ok (.goto 4, 3) := by decide +kernel
theorem dX8_lines_55 : decode cX8_lines 55 = .ok (.iconst 0, 1) := by decide +kernel
theorem dX8_lines_56 : decode cX8_lines 56 = .ok (.iastore, 1) := by decide +kernel
theorem dX8_lines_57 : decode cX8_lines 57 = .ok (.aload_n 0, 1) := by decide +kernel
theorem dX8_lines_58 : decode cX8_lines 58 = .ok (.getfield 32, 3) := by decide +kernel
theorem dX8_lines_61 : decode cX8_lines 61 = .ok (.iconst 5, 1) := by decide +kernel
theorem dX8_lines_62 : decode cX8_lines 62 = .ok (.iload_n 1, 1) := by decide +kernel
theorem dX8_lines_63 : decode cX8_lines 63 = .ok (.imul, 1) := by decide +kernel
theorem dX8_lines_64 : decode cX8_lines 64 = .ok (.iconst 2, 1) := by decide +kernel
theorem dX8_lines_65 : decode cX8_lines 65 = .ok (.iadd, 1) := by decide +kernel
theorem dX8_lines_66 : decode cX8_lines 66 = .ok (.aload_n 0, 1) := by decide +kernel
theorem dX8_lines_67 : decode cX8_lines 67 = .ok (.getfield 29, 3) := by decide +kernel
theorem dX8_lines_70 : decode cX8_lines 70 = .ok (.iload_n 1, 1) := by decide +kernel
theorem dX8_lines_71 : decode cX8_lines 71 = .ok (.baload, 1) := by decide +kernel
theorem dX8_lines_72 : decode cX8_lines 72 = .ok (.ifCond .eq 7, 3) := by decide +kernel
theorem dX8_lines_75 : decode cX8_lines 75 = .ok (.iconst 1, 1) := by decide +kernel
theorem dX8_lines_76 : decode cX8_lines 76 = .ok (.goto 4, 3) := by decide +kernel
theorem dX8_lines_79 : decode cX8_lines 79 = .ok (.iconst 0, 1) := by decide +kernel
theorem dX8_lines_80 : decode cX8_lines 80 = .ok (.iastore, 1) := by decide +kernel
theorem dX8_lines_81 : decode cX8_lines 81 = .ok (.aload_n 0, 1) := by decide +kernel
theorem dX8_lines_82 : decode cX8_lines 82 = .ok (.getfield 32, 3) := by decide +kernel
theorem dX8_lines_85 : decode cX8_lines 85 = .ok (.iconst 5, 1) := by decide +kernel
theorem dX8_lines_86 : decode cX8_lines 86 = .ok (.iload_n 1, 1) := by decide +kernel
theorem dX8_lines_87 : decode cX8_lines 87 = .ok (.imul, 1) := by decide +kernel
theorem dX8_lines_88 : decode cX8_lines 88 = .ok (.iconst 3, 1) := by decide +kernel
theorem dX8_lines_89 : decode cX8_lines 89 = .ok (.iadd, 1) := by decide +kernel
theorem dX8_lines_90 : decode cX8_lines 90 = .ok (.aload_n 0, 1) := by decide +kernel
theorem dX8_lines_91 : decode cX8_lines 91 = .ok (.getfield 16, 3) := by decide +kernel
theorem dX8_lines_94 : decode cX8_lines 94 = .ok (.iload_n 1, 1) := by decide +kernel
theorem dX8_lines_95 : decode cX8_lines 95 = .ok (.iaload, 1) := by decide +kernel
theorem dX8_lines_96 : decode cX8_lines 96 = .ok (.iastore, 1) := by decide +kernel
theorem dX8_lines_97 : decode cX8_lines 97 = .ok (.aload_n 0, 1) := by decide +kernel
theorem dX8_lines_98 : decode cX8_lines 98 = .ok (.getfield 32, 3) := by decide +kernel
theorem dX8_lines_101 : decode cX8_lines 101 = .ok (.iconst 5, 1) := by decide +kernel
theorem dX8_lines_102 : decode cX8_lines 102 = .ok (.iload_n 1, 1) := by decide +kernel
theorem dX8_lines_103 : decode cX8_lines 103 = .ok (.imul, 1) := by decide +kernel
theorem dX8_lines_104 : decode cX8_lines 104 = .ok (.iconst 4, 1) := by decide +kernel
theorem dX8_lines_105 : decode cX8_lines 105 = .ok (.iadd, 1) := by decide +kernel
theorem dX8_lines_106 : decode cX8_lines 106 = .ok (.aload_n 0, 1) := by decide +kernel
theorem dX8_lines_107 : decode cX8_lines 107 = .ok (.getfield 19, 3) := by decide +kernel
theorem dX8_lines_110 : decode cX8_lines 110 = .ok (.iload_n 1, 1) := by decide +kernel
theorem dX8_lines_111 : decode cX8_lines 111 = .ok (.iaload, 1) := by decide +kernel
theorem dX8_lines_112 : decode cX8_lines 112 = .ok (.iastore, 1) := by decide +kernel
theorem dX8_lines_113 : decode cX8_lines 113 = .ok (.iinc 1 1, 3) := by decide +kernel
theorem dX8_lines_116 : decode cX8_lines 116 = .ok (.goto (-105), 3) := by decide +kernel
theorem dX8_lines_119 : decode cX8_lines 119 = .ok (.aload_n 0, 1) := by decide +kernel
theorem dX8_lines_120 : decode cX8_lines 120 = .ok (.aload_n 0, 1) := by decide +kernel
theorem dX8_lines_121 : decode cX8_lines 121 = .ok (.getfield 249, 3) := by decide +kernel
theorem dX8_lines_124 : decode cX8_lines 124 = .ok (.putfield 265, 3) := by decide +kernel
theorem dX8_lines_127 : decode cX8_lines 127 = .ok (.aload_n 0, 1) := by decide +kernel
theorem dX8_lines_128 : decode cX8_lines 128 = .ok (.getfield 249, 3) := by decide +kernel
theorem dX8_lines_131 : decode cX8_lines 131 = .ok (.ireturn, 1) := by decide +kernel
theorem dX8_line_0 : decode cX8_line 0 = .ok (.aload_n 0, 1) := by decide +kernel
theorem dX8_line_1 : decode cX8_line 1 = .ok (.iconst 0, 1) := by decide +kernel
theorem dX8_line_2 : decode cX8_line 2 = .ok (.putfield 60, 3) := by decide +kernel
theorem dX8_line_5 : decode cX8_line 5 = .ok (.iload_n 1, 1) := by decide +kernel
theorem dX8_line_6 : decode cX8_line 6 = .ok (.ifCond .lt 20, 3) := by decide +kernel
theorem dX8_line_9 : decode cX8_line 9 = .ok (.iload_n 1, 1) := by decide +kernel
theorem dX8_line_10 : decode cX8_line 10 = .ok (.aload_n 0, 1) := by decide +kernel
theorem dX8_line_11 : decode cX8_line 11 = .ok (.getfield 265, 3) := by decide +kernel
theorem dX8_line_14 : decode cX8_line 14 = .ok (.if_icmp .ge 12, 3) := by decide +kernel
theorem dX8_line_17 : decode cX8_line 17 = .ok (.iload_n 2, 1) := by decide +kernel
theorem dX8_line_18 : decode cX8_line 18 = .ok (.ifCond .lt 8, 3) := by decide +kernel
theorem dX8_line_21 : decode cX8_line 21 = .ok (.iload_n 2, 1) := by decide +kernel
theorem dX8_line_22 : decode cX8_line 22 = .ok (.iconst 4, 1) := by decide +kernel
theorem dX8_line_23 : decode cX8_line 23 = .ok (.if_icmp .le 7, 3) := by decide +kernel
theorem dX8_line_26 : decode cX8_line 26 = .ok (.iconst (-1), 1) := by decide +kernel
theorem dX8_line_27 : decode cX8_line 27 = .ok (.goto 13, 3) := by decide +kernel
theorem dX8_line_30 : decode cX8_line 30 = .ok (.aload_n 0, 1) := by decide +kernel
theorem dX8_line_31 : decode cX8_line 31 = .ok (.getfield 32, 3) := by decide +kernel
theorem dX8_line_34 : decode cX8_line 34 = .ok (.iconst 5, 1) := by decide +kernel
theorem dX8_line_35 : decode cX8_line 35 = .ok (.iload_n 1, 1) := by decide +kernel
theorem dX8_line_36 : decode cX8_line 36 = .ok (.imul, 1) := by decide +kernel
theorem dX8_line_37 : decode cX8_line 37 = .ok (.iload_n 2, 1) := by decide +kernel
theorem dX8_line_38 : decode cX8_line 38 = .ok (.iadd, 1) := by decide +kernel
theorem dX8_line_39 : decode cX8_line 39 = .ok (.iaload, 1) := by decide +kernel
theorem dX8_line_40 : decode cX8_line 40 = .ok (.ireturn, 1) := by decide +kernel
theorem dX8_isSign_0 : decode cX8_isSign 0 = .ok (.iload_n 0, 1) := by decide +kernel
theorem dX8_isSign_1 : decode cX8_isSign 1 = .ok (.bipush 39, 2) := by decide +kernel
theorem dX8_isSign_3 : decode cX8_isSign 3 = .ok (.if_icmp .eq 27, 3) := by decide +kernel
theorem dX8_isSign_6 : decode cX8_isSign 6 = .ok (.iload_n 0, 1) := by decide +kernel
theorem dX8_isSign_7 : decode cX8_isSign 7 = .ok (.bipush 46, 2) := by decide +kernel
theorem dX8_isSign_9 : decode cX8_isSign 9 = .ok (.if_icmp .eq 21, 3) := by decide +kernel
theorem dX8_isSign_12 : decode cX8_isSign 12 = .ok (.iload_n 0, 1) := by decide +kernel
theorem dX8_isSign_13 : decode cX8_isSign 13 = .ok (.bipush 95, 2) := by decide +kernel
theorem dX8_isSign_15 : decode cX8_isSign 15 = .ok (.if_icmp .eq 15, 3) := by decide +kernel
theorem dX8_isSign_18 : decode cX8_isSign 18 = .ok (.iload_n 0, 1) := by decide +kernel
theorem dX8_isSign_19 : decode cX8_isSign 19 = .ok (.bipush 45, 2) := by decide +kernel
theorem dX8_isSign_21 : decode cX8_isSign 21 = .ok (.if_icmp .eq 9, 3) := by decide +kernel
theorem dX8_isSign_24 : decode cX8_isSign 24 = .ok (.iload_n 0, 1) := by decide +kernel
theorem dX8_isSign_25 : decode cX8_isSign 25 = .ok (.bipush 64, 2) := by decide +kernel
theorem dX8_isSign_27 : decode cX8_isSign 27 = .ok (.if_icmp .ne 7, 3) := by decide +kernel
theorem dX8_isSign_30 : decode cX8_isSign 30 = .ok (.iconst 1, 1) := by decide +kernel
theorem dX8_isSign_31 : decode cX8_isSign 31 = .ok (.goto 4, 3) := by decide +kernel
theorem dX8_isSign_34 : decode cX8_isSign 34 = .ok (.iconst 0, 1) := by decide +kernel
theorem dX8_isSign_35 : decode cX8_isSign 35 = .ok (.ireturn, 1) := by decide +kernel
set_option maxRecDepth 20000 in
theorem ggX8_addToken_X8_small : GoodIn wsX8_addToken wsX8_small := goodIn_r _ [13, 14, 15, 12, 16] (by decide +kernel) (by decide +kernel)
set_option maxRecDepth 20000 in
theorem gX8_addToken_X8_small : GoodIn wsX8_addToken (va_wsS RX8 110 yX8_small wsX8_small) := goodIn_app (goodIn_of _ (by decide +kernel)) ggX8_addToken_X8_small
set_option maxRecDepth 20000 in
theorem ggX8_addToken_X8_stem : GoodIn wsX8_addToken wsX8_stem := goodIn_r _ [20, 7, 21, 22, 2, 4, 9, 23, 24, 25, 12, 26, 27, 28, 29, 30, 31, 32, 33, 34, 35, 36, 37, 38, 39, 40, 41, 42, 43, 44, 45, 46, 47, 48, 49, 50, 51, 52, 53, 54, 55, 56, 57, 58, 59, 60, 61, 62, 63, 64, 65, 66, 67, 68, 69, 70, 71, 72, 73, 74, 75, 76, 77, 78, 79, 80, 81, 82, 83, 84, 85, 86, 87, 88, 89, 90, 91, 92, 93, 94, 95, 96, 97, 98, 99, 100, 101, 102, 103, 104, 105, 106, 107, 108, 109, 110, 111, 112, 113, 114, 115, 116, 117, 118, 119, 120, 121, 122, 123, 124, 125, 126, 127, 128, 129, 130, 131, 132, 133, 134, 135, 136, 137, 138, 139, 140, 141, 142, 143, 144, 145, 146, 147, 148, 149, 150, 151, 152, 153, 154, 155, 156, 157, 158, 159, 160, 161, 162, 163, 164, 165, 166, 167, 168, 169] (by decide +kernel) (by decide +kernel)
set_option maxRecDepth 20000 in
theorem gX8_addToken_X8_stem : GoodIn wsX8_addToken (wsV RX8 271 RX8 yX8_stem wsX8_stem) := goodIn_app (goodIn_of _ (by decide +kernel)) ggX8_addToken_X8_stem
theorem dX8_addToken_0 : decode cX8_addToken 0 = .ok (.iconst 0, 1) := by decide +kernel
theorem dX8_addToken_1 : decode cX8_addToken 1 = .ok (.istore 5, 2) := by decide +kernel
theorem dX8_addToken_3 : decode cX8_addToken 3 = .ok (.iload 4, 2) := by decide +kernel
theorem dX8_addToken_5 : decode cX8_addToken 5 = .ok (.ifCond .ne 7, 3) := by decide +kernel
theorem dX8_addToken_8 : decode cX8_addToken 8 = .ok (.iconst 1, 1) := by decide +kernel
theorem dX8_addToken_9 : decode cX8_addToken 9 = .ok (.goto 4, 3) := by decide +kernel
theorem dX8_addToken_12 : decode cX8_addToken 12 = .ok (.iconst 0, 1) := by decide +kernel
theorem dX8_addToken_13 : decode cX8_addToken 13 = .ok (.istore 6, 2) := by decide +kernel
theorem dX8_addToken_15 : decode cX8_addToken 15 = .ok (.iload_n 1, 1) := by decide +kernel
theorem dX8_addToken_16 : decode cX8_addToken 16 = .ok (.istore 7, 2) := by decide +kernel
theorem dX8_addToken_18 : decode cX8_addToken 18 = .ok (.iload 7, 2) := by decide +kernel
theorem dX8_addToken_20 : decode cX8_addToken 20 = .ok (.iload_n 2, 1) := by decide +kernel
theorem dX8_addToken_21 : decode cX8_addToken 21 = .ok (.if_icmp .ge 82, 3) := by decide +kernel
theorem dX8_addToken_24 : decode cX8_addToken 24 = .ok (.iload 5, 2) := by decide +kernel
theorem dX8_addToken_26 : decode cX8_addToken 26 = .ok (.bipush 30, 2) := by decide +kernel
theorem dX8_addToken_28 : decode cX8_addToken 28 = .ok (.if_icmp .ge 75, 3) := by decide +kernel
theorem dX8_addToken_31 : decode cX8_addToken 31 = .ok (.aload_n 0, 1) := by decide +kernel
theorem dX8_addToken_32 : decode cX8_addToken 32 = .ok (.getfield 7, 3) := by decide +kernel
theorem dX8_addToken_35 : decode cX8_addToken 35 = .ok (.iload 7, 2) := by decide +kernel
theorem dX8_addToken_37 : decode cX8_addToken 37 = .ok (.iaload, 1) := by decide +kernel
theorem dX8_addToken_38 : decode cX8_addToken 38 = .ok (.invokestatic 110, 3) := by decide +kernel
theorem dX8_addToken_41 : decode cX8_addToken 41 = .ok (.istore 8, 2) := by decide +kernel
theorem dX8_addToken_43 : decode cX8_addToken 43 = .ok (.aload_n 0, 1) := by decide +kernel
theorem dX8_addToken_44 : decode cX8_addToken 44 = .ok (.getfield 51, 3) := by decide +kernel
theorem dX8_addToken_47 : decode cX8_addToken 47 = .ok (.bipush 30, 2) := by decide +kernel
theorem dX8_addToken_49 : decode cX8_addToken 49 = .ok (.aload_n 0, 1) := by decide +kernel
theorem dX8_addToken_50 : decode cX8_addToken 50 = .ok (.getfield 268, 3) := by decide +kernel
theorem dX8_addToken_53 : decode cX8_addToken 53 = .ok (.imul, 1) := by decide +kernel
theorem dX8_addToken_54 : decode cX8_addToken 54 = .ok (.iload 5, 2) := by decide +kernel
theorem dX8_addToken_56 : decode cX8_addToken 56 = .ok (.iadd, 1) := by decide +kernel
theorem dX8_addToken_57 : decode cX8_addToken 57 = .ok (.iload 8, 2) := by decide +kernel
theorem dX8_addToken_59 : decode cX8_addToken 59 = .ok (.iastore, 1) := by decide +kernel
theorem dX8_addToken_60 : decode cX8_addToken 60 = .ok (.aload_n 0, 1) := by decide +kernel
theorem dX8_addToken_61 : decode cX8_addToken 61 = .ok (.getfield 54, 3) := by decide +kernel
theorem dX8_addToken_64 : decode cX8_addToken 64 = .ok (.bipush 30, 2) := by decide +kernel
theorem dX8_addToken_66 : decode cX8_addToken 66 = .ok (.aload_n 0, 1) := by decide +kernel
theorem dX8_addToken_67 : decode cX8_addToken 67 = .ok (.getfield 268, 3) := by decide +kernel
theorem dX8_addToken_70 : decode cX8_addToken 70 = .ok (.imul, 1) := by decide +kernel
theorem dX8_addToken_71 : decode cX8_addToken 71 = .ok (.iload 5, 2) := by decide +kernel
theorem dX8_addToken_73 : decode cX8_addToken 73 = .ok (.iadd, 1) := by decide +kernel
theorem dX8_addToken_74 : decode cX8_addToken 74 = .ok (.iload 8, 2) := by decide +kernel
theorem dX8_addToken_76 : decode cX8_addToken 76 = .ok (.iastore, 1) := by decide +kernel
theorem dX8_addToken_77 : decode cX8_addToken 77 = .ok (.iload 8, 2) := by decide +kernel
theorem dX8_addToken_79 : decode cX8_addToken 79 = .ok (.bipush 97, 2) := by decide +kernel
theorem dX8_addToken_81 : decode cX8_addToken 81 = .ok (.if_icmp .lt 10, 3) := by decide +kernel
theorem dX8_addToken_84 : decode cX8_addToken 84 = .ok (.iload 8, 2) := by decide +kernel
theorem dX8_addToken_86 : decode cX8_addToken 86 = .ok (.bipush 122, 2) := by decide +kernel
theorem dX8_addToken_88 : decode cX8_addToken 88 = .ok (.if_icmp .le 6, 3) := by decide +kernel
theorem dX8_addToken_91 : decode cX8_addToken 91 = .ok (.iconst 0, 1) := by decide +kernel
theorem dX8_addToken_92 : decode cX8_addToken 92 = .ok (.istore 6, 2) := by decide +kernel
theorem dX8_addToken_94 : decode cX8_addToken 94 = .ok (.iinc 5 1, 3) := by decide +kernel
theorem dX8_addToken_97 : decode cX8_addToken 97 = .ok (.iinc 7 1, 3) := by decide +kernel
theorem dX8_addToken_100 : decode cX8_addToken 100 = .ok (.goto (-82), 3) := by decide +kernel
theorem dX8_addToken_103 : decode cX8_addToken 103 = .ok (.aload_n 0, 1) := by decide +kernel
theorem dX8_addToken_104 : decode cX8_addToken 104 = .ok (.getfield 35, 3) := by decide +kernel
theorem dX8_addToken_107 : decode cX8_addToken 107 = .ok (.aload_n 0, 1) := by decide +kernel
theorem dX8_addToken_108 : decode cX8_addToken 108 = .ok (.getfield 268, 3) := by decide +kernel
theorem dX8_addToken_111 : decode cX8_addToken 111 = .ok (.iload_n 3, 1) := by decide +kernel
theorem dX8_addToken_112 : decode cX8_addToken 112 = .ok (.iastore, 1) := by decide +kernel
theorem dX8_addToken_113 : decode cX8_addToken 113 = .ok (.aload_n 0, 1) := by decide +kernel
theorem dX8_addToken_114 : decode cX8_addToken 114 = .ok (.getfield 38, 3) := by decide +kernel
theorem dX8_addToken_117 : decode cX8_addToken 117 = .ok (.aload_n 0, 1) := by decide +kernel
theorem dX8_addToken_118 : decode cX8_addToken 118 = .ok (.getfield 268, 3) := by decide +kernel
theorem dX8_addToken_121 : decode cX8_addToken 121 = .ok (.iload_n 1, 1) := by decide +kernel
theorem dX8_addToken_122 : decode cX8_addToken 122 = .ok (.iastore, 1) := by decide +kernel
theorem dX8_addToken_123 : decode cX8_addToken 123 = .ok (.aload_n 0, 1) := by decide +kernel
theorem dX8_addToken_124 : decode cX8_addToken 124 = .ok (.getfield 41, 3) := by decide +kernel
theorem dX8_addToken_127 : decode cX8_addToken 127 = .ok (.aload_n 0, 1) := by decide +kernel
theorem dX8_addToken_128 : decode cX8_addToken 128 = .ok (.getfield 268, 3) := by decide +kernel
theorem dX8_addToken_131 : decode cX8_addToken 131 = .ok (.iload 5, 2) := by decide +kernel
theorem dX8_addToken_133 : decode cX8_addToken 133 = .ok (.iastore, 1) := by decide +kernel
theorem dX8_addToken_134 : decode cX8_addToken 134 = .ok (.aload_n 0, 1) := by decide +kernel
theorem dX8_addToken_135 : decode cX8_addToken 135 = .ok (.getfield 47, 3) := by decide +kernel
theorem dX8_addToken_138 : decode cX8_addToken 138 = .ok (.aload_n 0, 1) := by decide +kernel
theorem dX8_addToken_139 : decode cX8_addToken 139 = .ok (.getfield 268, 3) := by decide +kernel
theorem dX8_addToken_142 : decode cX8_addToken 142 = .ok (.iload 4, 2) := by decide +kernel
theorem dX8_addToken_144 : decode cX8_addToken 144 = .ok (.bastore, 1) := by decide +kernel
theorem dX8_addToken_145 : decode cX8_addToken 145 = .ok (.aload_n 0, 1) := by decide +kernel
theorem dX8_addToken_146 : decode cX8_addToken 146 = .ok (.getfield 44, 3) := by decide +kernel
theorem dX8_addToken_149 : decode cX8_addToken 149 = .ok (.aload_n 0, 1) := by decide +kernel
theorem dX8_addToken_150 : decode cX8_addToken 150 = .ok (.getfield 268, 3) := by decide +kernel
theorem dX8_addToken_153 : decode cX8_addToken 153 = .ok (.iload 5, 2) := by decide +kernel
theorem dX8_addToken_155 : decode cX8_addToken 155 = .ok (.iastore, 1) := by decide +kernel
theorem dX8_addToken_156 : decode cX8_addToken 156 = .ok (.iload 6, 2) := by decide +kernel
theorem dX8_addToken_158 : decode cX8_addToken 158 = .ok (.ifCond .eq 17, 3) := by decide +kernel
theorem dX8_addToken_161 : decode cX8_addToken 161 = .ok (.iload 5, 2) := by decide +kernel
theorem dX8_addToken_163 : decode cX8_addToken 163 = .ok (.iconst 3, 1) := by decide +kernel
theorem dX8_addToken_164 : decode cX8_addToken 164 = .ok (.if_icmp .lt 11, 3) := by decide +kernel
theorem dX8_addToken_167 : decode cX8_addToken 167 = .ok (.aload_n 0, 1) := by decide +kernel
theorem dX8_addToken_168 : decode cX8_addToken 168 = .ok (.aload_n 0, 1) := by decide +kernel
theorem dX8_addToken_169 : decode cX8_addToken 169 = .ok (.getfield 268, 3) := by decide +kernel
theorem dX8_addToken_172 : decode cX8_addToken 172 = .ok (.invokevirtual 271, 3) := by decide +kernel
theorem dX8_addToken_175 : decode cX8_addToken 175 = .ok (.aload_n 0, 1) := by decide +kernel
theorem dX8_addToken_176 : decode cX8_addToken 176 = .ok (.dup, 1) := by decide +kernel
theorem dX8_addToken_177 : decode cX8_addToken 177 = .ok (.getfield 268, 3) := by decide +kernel
theorem dX8_addToken_180 : decode cX8_addToken 180 = .ok (.iconst 1, 1) := by decide +kernel
theorem dX8_addToken_181 : decode cX8_addToken 181 = .ok (.iadd, 1) := by decide +kernel
theorem dX8_addToken_182 : decode cX8_addToken 182 = .ok (.putfield 268, 3) := by decide +kernel
theorem dX8_addToken_185 : decode cX8_addToken 185 = .ok (.return_, 1) := by decide +kernel
set_option maxRecDepth 20000 in
theorem ggX8_pieceEnd_X8_isWord : GoodIn wsX8_pieceEnd wsX8_isWord := goodIn_r _ [5, 6, 7, 4, 8, 9, 10, 11, 12, 13, 14] (by decide +kernel) (by decide +kernel)
set_option maxRecDepth 20000 in
theorem gX8_pieceEnd_X8_isWord : GoodIn wsX8_pieceEnd (va_wsS RX8 184 yX8_isWord wsX8_isWord) := goodIn_app (goodIn_of _ (by decide +kernel)) ggX8_pieceEnd_X8_isWord
theorem dX8_pieceEnd_0 : decode cX8_pieceEnd 0 = .ok (.iload_n 1, 1) := by decide +kernel
theorem dX8_pieceEnd_1 : decode cX8_pieceEnd 1 = .ok (.istore_n 3, 1) := by decide +kernel
theorem dX8_pieceEnd_2 : decode cX8_pieceEnd 2 = .ok (.iload_n 3, 1) := by decide +kernel
theorem dX8_pieceEnd_3 : decode cX8_pieceEnd 3 = .ok (.iload_n 2, 1) := by decide +kernel
theorem dX8_pieceEnd_4 : decode cX8_pieceEnd 4 = .ok (.if_icmp .ge 21, 3) := by decide +kernel
theorem dX8_pieceEnd_7 : decode cX8_pieceEnd 7 = .ok (.aload_n 0, 1) := by decide +kernel
theorem dX8_pieceEnd_8 : decode cX8_pieceEnd 8 = .ok (.getfield 7, 3) := by decide +kernel
theorem dX8_pieceEnd_11 : decode cX8_pieceEnd 11 = .ok (.iload_n 3, 1) := by decide +kernel
theorem dX8_pieceEnd_12 : decode cX8_pieceEnd 12 = .ok (.iaload, 1) := by decide +kernel
theorem dX8_pieceEnd_13 : decode cX8_pieceEnd 13 = .ok (.invokestatic 184, 3) := by decide +kernel
theorem dX8_pieceEnd_16 : decode cX8_pieceEnd 16 = .ok (.ifCond .eq 9, 3) := by decide +kernel
theorem dX8_pieceEnd_19 : decode cX8_pieceEnd 19 = .ok (.iinc 3 1, 3) := by decide +kernel
theorem dX8_pieceEnd_22 : decode cX8_pieceEnd 22 = .ok (.goto (-20), 3) := by decide +kernel
theorem dX8_pieceEnd_25 : decode cX8_pieceEnd 25 = .ok (.iload_n 3, 1) := by decide +kernel
theorem dX8_pieceEnd_26 : decode cX8_pieceEnd 26 = .ok (.ireturn, 1) := by decide +kernel
set_option maxRecDepth 20000 in
theorem ggX8_isAddress_X8_isLetter : GoodIn wsX8_isAddress wsX8_isLetter := goodIn_r _ [5, 6, 7, 4, 8] (by decide +kernel) (by decide +kernel)
set_option maxRecDepth 20000 in
theorem gX8_isAddress_X8_isLetter : GoodIn wsX8_isAddress (va_wsS RX8 76 yX8_isLetter wsX8_isLetter) := goodIn_app (goodIn_of _ (by decide +kernel)) ggX8_isAddress_X8_isLetter
theorem dX8_isAddress_0 : decode cX8_isAddress 0 = .ok (.iload_n 1, 1) := by decide +kernel
theorem dX8_isAddress_1 : decode cX8_isAddress 1 = .ok (.istore_n 3, 1) := by decide +kernel
theorem dX8_isAddress_2 : decode cX8_isAddress 2 = .ok (.iload_n 3, 1) := by decide +kernel
theorem dX8_isAddress_3 : decode cX8_isAddress 3 = .ok (.iload_n 2, 1) := by decide +kernel
theorem dX8_isAddress_4 : decode cX8_isAddress 4 = .ok (.if_icmp .ge 61, 3) := by decide +kernel
theorem dX8_isAddress_7 : decode cX8_isAddress 7 = .ok (.aload_n 0, 1) := by decide +kernel
theorem dX8_isAddress_8 : decode cX8_isAddress 8 = .ok (.getfield 7, 3) := by decide +kernel
theorem dX8_isAddress_11 : decode cX8_isAddress 11 = .ok (.iload_n 3, 1) := by decide +kernel
theorem dX8_isAddress_12 : decode cX8_isAddress 12 = .ok (.iaload, 1) := by decide +kernel
theorem dX8_isAddress_13 : decode cX8_isAddress 13 = .ok (.bipush 64, 2) := by decide +kernel
theorem dX8_isAddress_15 : decode cX8_isAddress 15 = .ok (.if_icmp .eq 42, 3) := by decide +kernel
theorem dX8_isAddress_18 : decode cX8_isAddress 18 = .ok (.aload_n 0, 1) := by decide +kernel
theorem dX8_isAddress_19 : decode cX8_isAddress 19 = .ok (.getfield 7, 3) := by decide +kernel
theorem dX8_isAddress_22 : decode cX8_isAddress 22 = .ok (.iload_n 3, 1) := by decide +kernel
theorem dX8_isAddress_23 : decode cX8_isAddress 23 = .ok (.iaload, 1) := by decide +kernel
theorem dX8_isAddress_24 : decode cX8_isAddress 24 = .ok (.bipush 46, 2) := by decide +kernel
theorem dX8_isAddress_26 : decode cX8_isAddress 26 = .ok (.if_icmp .ne 33, 3) := by decide +kernel
theorem dX8_isAddress_29 : decode cX8_isAddress 29 = .ok (.aload_n 0, 1) := by decide +kernel
theorem dX8_isAddress_30 : decode cX8_isAddress 30 = .ok (.getfield 7, 3) := by decide +kernel
theorem dX8_isAddress_33 : decode cX8_isAddress 33 = .ok (.iload_n 3, 1) := by decide +kernel
theorem dX8_isAddress_34 : decode cX8_isAddress 34 = .ok (.iconst 1, 1) := by decide +kernel
theorem dX8_isAddress_35 : decode cX8_isAddress 35 = .ok (.isub, 1) := by decide +kernel
theorem dX8_isAddress_36 : decode cX8_isAddress 36 = .ok (.iaload, 1) := by decide +kernel
theorem dX8_isAddress_37 : decode cX8_isAddress 37 = .ok (.invokestatic 76, 3) := by decide +kernel
theorem dX8_isAddress_40 : decode cX8_isAddress 40 = .ok (.ifCond .eq 19, 3) := by decide +kernel
theorem dX8_isAddress_43 : decode cX8_isAddress 43 = .ok (.aload_n 0, 1) := by decide +kernel
theorem dX8_isAddress_44 : decode cX8_isAddress 44 = .ok (.getfield 7, 3) := by decide +kernel
theorem dX8_isAddress_47 : decode cX8_isAddress 47 = .ok (.iload_n 3, 1) := by decide +kernel
theorem dX8_isAddress_48 : decode cX8_isAddress 48 = .ok (.iconst 1, 1) := by decide +kernel
theorem dX8_isAddress_49 : decode cX8_isAddress 49 = .ok (.iadd, 1) := by decide +kernel
theorem dX8_isAddress_50 : decode cX8_isAddress 50 = .ok (.iaload, 1) := by decide +kernel
theorem dX8_isAddress_51 : decode cX8_isAddress 51 = .ok (.invokestatic 76, 3) := by decide +kernel
theorem dX8_isAddress_54 : decode cX8_isAddress 54 = .ok (.ifCond .eq 5, 3) := by decide +kernel
theorem dX8_isAddress_57 : decode cX8_isAddress 57 = .ok (.iconst 1, 1) := by decide +kernel
theorem dX8_isAddress_58 : decode cX8_isAddress 58 = .ok (.ireturn, 1) := by decide +kernel
theorem dX8_isAddress_59 : decode cX8_isAddress 59 = .ok (.iinc 3 1, 3) := by decide +kernel
theorem dX8_isAddress_62 : decode cX8_isAddress 62 = .ok (.goto (-60), 3) := by decide +kernel
theorem dX8_isAddress_65 : decode cX8_isAddress 65 = .ok (.iconst 0, 1) := by decide +kernel
theorem dX8_isAddress_66 : decode cX8_isAddress 66 = .ok (.ireturn, 1) := by decide +kernel
set_option maxRecDepth 20000 in
theorem ggX8_rowEnd_X8_pieceEnd : GoodIn wsX8_rowEnd wsX8_pieceEnd := goodIn_r _ [6, 1, 7, 8, 5, 9, 10, 11, 12, 13, 14, 15, 16, 17, 18, 22, 23, 24, 25, 26, 27, 28, 29, 30, 31, 32, 33, 34, 35, 36, 37, 38, 39, 40, 41, 42, 43, 44, 45, 46, 47] (by decide +kernel) (by decide +kernel)
set_option maxRecDepth 20000 in
theorem gX8_rowEnd_X8_pieceEnd : GoodIn wsX8_rowEnd (wsV RX8 274 RX8 yX8_pieceEnd wsX8_pieceEnd) := goodIn_app (goodIn_of _ (by decide +kernel)) ggX8_rowEnd_X8_pieceEnd
set_option maxRecDepth 20000 in
theorem ggX8_rowEnd_X8_isSign : GoodIn wsX8_rowEnd wsX8_isSign := goodIn_r _ [21] (by decide +kernel) (by decide +kernel)
set_option maxRecDepth 20000 in
theorem gX8_rowEnd_X8_isSign : GoodIn wsX8_rowEnd (va_wsS RX8 277 yX8_isSign wsX8_isSign) := goodIn_app (goodIn_of _ (by decide +kernel)) ggX8_rowEnd_X8_isSign
set_option maxRecDepth 20000 in
theorem ggX8_rowEnd_X8_isWord : GoodIn wsX8_rowEnd wsX8_isWord := goodIn_r _ [9, 10, 11, 5, 12, 13, 14, 15, 16, 17, 18] (by decide +kernel) (by decide +kernel)
set_option maxRecDepth 20000 in
theorem gX8_rowEnd_X8_isWord : GoodIn wsX8_rowEnd (va_wsS RX8 184 yX8_isWord wsX8_isWord) := goodIn_app (goodIn_of _ (by decide +kernel)) ggX8_rowEnd_X8_isWord
theorem dX8_rowEnd_0 : decode cX8_rowEnd 0 = .ok (.aload_n 0, 1) := by decide +kernel
theorem dX8_rowEnd_1 : decode cX8_rowEnd 1 = .ok (.iload_n 1, 1) := by decide +kernel
theorem dX8_rowEnd_2 : decode cX8_rowEnd 2 = .ok (.iload_n 2, 1) := by decide +kernel
theorem dX8_rowEnd_3 : decode cX8_rowEnd 3 = .ok (.invokevirtual 274, 3) := by decide +kernel
theorem dX8_rowEnd_6 : decode cX8_rowEnd 6 = .ok (.istore_n 3, 1) := by decide +kernel
theorem dX8_rowEnd_7 : decode cX8_rowEnd 7 = .ok (.iload_n 3, 1) := by decide +kernel
theorem dX8_rowEnd_8 : decode cX8_rowEnd 8 = .ok (.iconst 1, 1) := by decide +kernel
theorem dX8_rowEnd_9 : decode cX8_rowEnd 9 = .ok (.iadd, 1) := by decide +kernel
theorem dX8_rowEnd_10 : decode cX8_rowEnd 10 = .ok (.iload_n 2, 1) := by decide +kernel
theorem dX8_rowEnd_11 : decode cX8_rowEnd 11 = .ok (.if_icmp .ge 41, 3) := by decide +kernel
theorem dX8_rowEnd_14 : decode cX8_rowEnd 14 = .ok (.aload_n 0, 1) := by decide +kernel
theorem dX8_rowEnd_15 : decode cX8_rowEnd 15 = .ok (.getfield 7, 3) := by decide +kernel
theorem dX8_rowEnd_18 : decode cX8_rowEnd 18 = .ok (.iload_n 3, 1) := by decide +kernel
theorem dX8_rowEnd_19 : decode cX8_rowEnd 19 = .ok (.iaload, 1) := by decide +kernel
theorem dX8_rowEnd_20 : decode cX8_rowEnd 20 = .ok (.invokestatic 277, 3) := by decide +kernel
theorem dX8_rowEnd_23 : decode cX8_rowEnd 23 = .ok (.ifCond .eq 29, 3) := by decide +kernel
theorem dX8_rowEnd_26 : decode cX8_rowEnd 26 = .ok (.aload_n 0, 1) := by decide +kernel
theorem dX8_rowEnd_27 : decode cX8_rowEnd 27 = .ok (.getfield 7, 3) := by decide +kernel
theorem dX8_rowEnd_30 : decode cX8_rowEnd 30 = .ok (.iload_n 3, 1) := by decide +kernel
theorem dX8_rowEnd_31 : decode cX8_rowEnd 31 = .ok (.iconst 1, 1) := by decide +kernel
theorem dX8_rowEnd_32 : decode cX8_rowEnd 32 = .ok (.iadd, 1) := by decide +kernel
theorem dX8_rowEnd_33 : decode cX8_rowEnd 33 = .ok (.iaload, 1) := by decide +kernel
theorem dX8_rowEnd_34 : decode cX8_rowEnd 34 = .ok (.invokestatic 184, 3) := by decide +kernel
theorem dX8_rowEnd_37 : decode cX8_rowEnd 37 = .ok (.ifCond .eq 15, 3) := by decide +kernel
theorem dX8_rowEnd_40 : decode cX8_rowEnd 40 = .ok (.aload_n 0, 1) := by decide +kernel
theorem dX8_rowEnd_41 : decode cX8_rowEnd 41 = .ok (.iload_n 3, 1) := by decide +kernel
theorem dX8_rowEnd_42 : decode cX8_rowEnd 42 = .ok (.iconst 1, 1) := by decide +kernel
theorem dX8_rowEnd_43 : decode cX8_rowEnd 43 = .ok (.iadd, 1) := by decide +kernel
theorem dX8_rowEnd_44 : decode cX8_rowEnd 44 = .ok (.iload_n 2, 1) := by decide +kernel
theorem dX8_rowEnd_45 : decode cX8_rowEnd 45 = .ok (.invokevirtual 274, 3) := by decide +kernel
theorem dX8_rowEnd_48 : decode cX8_rowEnd 48 = .ok (.istore_n 3, 1) := by decide +kernel
theorem dX8_rowEnd_49 : decode cX8_rowEnd 49 = .ok (.goto (-42), 3) := by decide +kernel
theorem dX8_rowEnd_52 : decode cX8_rowEnd 52 = .ok (.iload_n 3, 1) := by decide +kernel
theorem dX8_rowEnd_53 : decode cX8_rowEnd 53 = .ok (.ireturn, 1) := by decide +kernel
set_option maxRecDepth 20000 in
theorem ggX8_cutRow_X8_pieceEnd : GoodIn wsX8_cutRow wsX8_pieceEnd := goodIn_r _ [6, 7, 8, 9, 5, 10, 11, 12, 13, 14, 15, 16, 17, 18, 19, 169, 170, 171, 172, 173, 174, 175, 176, 177, 178, 179, 180, 181, 182, 183, 184, 185, 186, 187, 188, 189, 190, 191, 192, 193, 194] (by decide +kernel) (by decide +kernel)
set_option maxRecDepth 20000 in
theorem gX8_cutRow_X8_pieceEnd : GoodIn wsX8_cutRow (wsV RX8 274 RX8 yX8_pieceEnd wsX8_pieceEnd) := goodIn_app (goodIn_of _ (by decide +kernel)) ggX8_cutRow_X8_pieceEnd
