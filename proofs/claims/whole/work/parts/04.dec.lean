theorem dX3_init_0 : decode cX3_init 0 = .ok (.aload_n 0, 1) := by decide +kernel
theorem dX3_init_1 : decode cX3_init 1 = .ok (.invokespecial 3, 3) := by decide +kernel
theorem dX3_init_4 : decode cX3_init 4 = .ok (.aload_n 0, 1) := by decide +kernel
theorem dX3_init_5 : decode cX3_init 5 = .ok (.aload_n 1, 1) := by decide +kernel
theorem dX3_init_6 : decode cX3_init 6 = .ok (.putfield 9, 3) := by decide +kernel
theorem dX3_init_9 : decode cX3_init 9 = .ok (.return_, 1) := by decide +kernel
set_option maxRecDepth 20000 in
theorem ggX3_read_X5_size : GoodIn wsX3_read wsX5_size := goodIn_r _ [12, 13, 186, 187] (by decide +kernel) (by decide +kernel)
set_option maxRecDepth 20000 in
theorem gX3_read_X5_size : GoodIn wsX3_read (wsV RX3 23 RX5 yX5_size wsX5_size) := goodIn_app (goodIn_of _ (by decide +kernel)) ggX3_read_X5_size
set_option maxRecDepth 20000 in
theorem ggX3_read_X5_get : GoodIn wsX3_read wsX5_get := goodIn_r _ [17, 13, 18, 186, 187] (by decide +kernel) (by decide +kernel)
set_option maxRecDepth 20000 in
theorem gX3_read_X5_get : GoodIn wsX3_read (wsV RX3 29 RX5 yX5_get wsX5_get) := goodIn_app (goodIn_of _ (by decide +kernel)) ggX3_read_X5_get
set_option maxRecDepth 20000 in
theorem ggX3_read_X0_isLatin : GoodIn wsX3_read wsX0_isLatin := goodIn_r _ [22] (by decide +kernel) (by decide +kernel)
set_option maxRecDepth 20000 in
theorem gX3_read_X0_isLatin : GoodIn wsX3_read (va_wsS RX3 33 yX0_isLatin wsX0_isLatin) := goodIn_app (goodIn_of _ (by decide +kernel)) ggX3_read_X0_isLatin
set_option maxRecDepth 20000 in
theorem ggX3_read_X3_readTag : GoodIn wsX3_read wsX3_readTag := goodIn_r _ [27, 2, 28, 29, 30, 26, 31, 3, 8, 9, 10, 11, 12, 13, 14, 15, 16, 17, 18, 19, 20, 21, 22, 32, 33, 34, 35, 36, 37, 38, 39, 40, 41, 42, 43, 44, 45, 46, 47, 48, 49, 50, 51, 52, 53, 54, 55, 56, 57, 58, 59, 60, 61, 62, 63, 64, 65, 66, 67, 68, 69, 70, 71, 72, 73, 74, 75, 76, 77, 78, 79, 80, 81, 82, 83, 84, 85, 86, 87, 88, 89, 90, 91, 92, 93, 94, 95, 96, 97, 98, 99, 100, 101, 102, 103, 104, 1, 105, 106, 107, 108, 109, 110, 111, 112, 113, 114, 115, 116, 117, 118, 119, 120, 121, 122, 123, 124, 125, 126, 127, 128, 129, 130, 131, 132, 133, 134, 135, 136, 137, 138, 139, 140, 141, 142, 143, 183, 184, 185, 186, 187] (by decide +kernel) (by decide +kernel)
set_option maxRecDepth 20000 in
theorem gX3_read_X3_readTag : GoodIn wsX3_read (wsV RX3 39 RX3 yX3_readTag wsX3_readTag) := goodIn_app (goodIn_of _ (by decide +kernel)) ggX3_read_X3_readTag
set_option maxRecDepth 20000 in
theorem ggX3_read_X5_holds : GoodIn wsX3_read wsX5_holds := goodIn_r _ [147, 62, 47, 48, 49, 50, 51, 52, 53, 54, 55, 56, 57, 63, 15, 16, 11, 17, 13, 18, 64, 65, 66, 67, 68, 69, 70, 71, 72, 73, 74, 75, 76, 77, 78, 79, 80, 81, 82, 83, 84, 85, 86, 87, 88, 89, 90, 91, 92, 93, 94, 95, 96, 97, 98, 99, 100, 186, 187] (by decide +kernel) (by decide +kernel)
set_option maxRecDepth 20000 in
theorem gX3_read_X5_holds : GoodIn wsX3_read (wsV RX3 45 RX5 yX5_holds wsX5_holds) := goodIn_app (goodIn_of _ (by decide +kernel)) ggX3_read_X5_holds
set_option maxRecDepth 20000 in
theorem ggX3_read_X3_readMark : GoodIn wsX3_read wsX3_readMark := goodIn_r _ [151, 3, 144, 145, 146, 11, 147, 62, 47, 48, 49, 50, 51, 52, 53, 54, 55, 56, 57, 63, 15, 16, 17, 13, 18, 64, 65, 66, 67, 68, 69, 70, 71, 72, 73, 74, 75, 76, 77, 78, 79, 80, 81, 82, 83, 84, 85, 86, 87, 88, 89, 90, 91, 92, 93, 94, 95, 96, 97, 98, 99, 100, 152, 153, 154, 26, 155, 8, 9, 10, 12, 46, 14, 113, 114, 115, 116, 1, 117, 118, 119, 120, 183, 184, 185, 186, 187] (by decide +kernel) (by decide +kernel)
set_option maxRecDepth 20000 in
theorem gX3_read_X3_readMark : GoodIn wsX3_read (wsV RX3 49 RX3 yX3_readMark wsX3_readMark) := goodIn_app (goodIn_of _ (by decide +kernel)) ggX3_read_X3_readMark
set_option maxRecDepth 20000 in
theorem ggX3_read_X3_readNumber : GoodIn wsX3_read wsX3_readNumber := goodIn_r _ [159, 3, 160, 161, 162, 163, 14, 15, 16, 11, 17, 13, 18, 8, 9, 10, 12, 164, 165, 26, 166, 32, 33, 21, 34, 113, 114, 115, 116, 1, 117, 118, 119, 120, 183, 184, 185, 186, 187] (by decide +kernel) (by decide +kernel)
set_option maxRecDepth 20000 in
theorem gX3_read_X3_readNumber : GoodIn wsX3_read (wsV RX3 52 RX3 yX3_readNumber wsX3_readNumber) := goodIn_app (goodIn_of _ (by decide +kernel)) ggX3_read_X3_readNumber
set_option maxRecDepth 20000 in
theorem ggX3_read_X3_readName : GoodIn wsX3_read wsX3_readName := goodIn_r _ [170, 3, 8, 9, 10, 11, 12, 13, 14, 15, 16, 17, 18, 137, 138, 21, 139, 140, 33, 34, 141, 142, 143, 171, 172, 173, 26, 174, 144, 145, 146, 147, 62, 47, 48, 49, 50, 51, 52, 53, 54, 55, 56, 57, 63, 64, 65, 66, 67, 68, 69, 70, 71, 72, 73, 74, 75, 76, 77, 78, 79, 80, 81, 82, 83, 84, 85, 86, 87, 88, 89, 90, 91, 92, 93, 94, 95, 96, 97, 98, 99, 100, 175, 176, 177, 178, 113, 114, 115, 116, 1, 117, 118, 119, 120, 183, 184, 185, 186, 187] (by decide +kernel) (by decide +kernel)
set_option maxRecDepth 20000 in
theorem gX3_read_X3_readName : GoodIn wsX3_read (wsV RX3 55 RX3 yX3_readName wsX3_readName) := goodIn_app (goodIn_of _ (by decide +kernel)) ggX3_read_X3_readName
set_option maxRecDepth 20000 in
theorem ggX3_read_X0_isBlank : GoodIn wsX3_read wsX0_isBlank := goodIn_r _ [41] (by decide +kernel) (by decide +kernel)
set_option maxRecDepth 20000 in
theorem gX3_read_X0_isBlank : GoodIn wsX3_read (va_wsS RX3 58 yX0_isBlank wsX0_isBlank) := goodIn_app (goodIn_of _ (by decide +kernel)) ggX3_read_X0_isBlank
set_option maxRecDepth 20000 in
theorem ggX3_read_X3_writeBlank : GoodIn wsX3_read wsX3_writeBlank := goodIn_r _ [128, 2, 1, 113, 114, 115, 26, 116, 3, 117, 118, 119, 11, 120, 13, 18, 109, 110, 111, 112, 14, 15, 16, 17, 183, 184, 185, 186, 187] (by decide +kernel) (by decide +kernel)
set_option maxRecDepth 20000 in
theorem gX3_read_X3_writeBlank : GoodIn wsX3_read (wsV RX3 61 RX3 yX3_writeBlank wsX3_writeBlank) := goodIn_app (goodIn_of _ (by decide +kernel)) ggX3_read_X3_writeBlank
set_option maxRecDepth 20000 in
theorem ggX3_read_X3_write : GoodIn wsX3_read wsX3_write := goodIn_r _ [116, 3, 1, 117, 118, 119, 11, 120, 13, 18, 183, 184, 185, 186, 187] (by decide +kernel) (by decide +kernel)
set_option maxRecDepth 20000 in
theorem gX3_read_X3_write : GoodIn wsX3_read (wsV RX3 65 RX3 yX3_write wsX3_write) := goodIn_app (goodIn_of _ (by decide +kernel)) ggX3_read_X3_write
set_option maxRecDepth 20000 in
theorem ggX3_read_X3_dropSpaces : GoodIn wsX3_read wsX3_dropSpaces := goodIn_r _ [108, 2, 1, 109, 110, 111, 26, 112, 3, 14, 15, 16, 11, 17, 13, 18, 183, 184, 185, 186, 187] (by decide +kernel) (by decide +kernel)
set_option maxRecDepth 20000 in
theorem gX3_read_X3_dropSpaces : GoodIn wsX3_read (wsV RX3 74 RX3 yX3_dropSpaces wsX3_dropSpaces) := goodIn_app (goodIn_of _ (by decide +kernel)) ggX3_read_X3_dropSpaces
set_option maxRecDepth 20000 in
theorem ggX3_read_X5_shorten : GoodIn wsX3_read wsX5_shorten := goodIn_r _ [182, 13, 186, 187] (by decide +kernel) (by decide +kernel)
set_option maxRecDepth 20000 in
theorem gX3_read_X5_shorten : GoodIn wsX3_read (wsV RX3 77 RX5 yX5_shorten wsX5_shorten) := goodIn_app (goodIn_of _ (by decide +kernel)) ggX3_read_X5_shorten
theorem dX3_read_0 : decode cX3_read 0 = .ok (.aload_n 0, 1) := by decide +kernel
theorem dX3_read_1 : decode cX3_read 1 = .ok (.iconst 0, 1) := by decide +kernel
theorem dX3_read_2 : decode cX3_read 2 = .ok (.putfield 15, 3) := by decide +kernel
theorem dX3_read_5 : decode cX3_read 5 = .ok (.aload_n 0, 1) := by decide +kernel
theorem dX3_read_6 : decode cX3_read 6 = .ok (.iconst 0, 1) := by decide +kernel
theorem dX3_read_7 : decode cX3_read 7 = .ok (.putfield 19, 3) := by decide +kernel
theorem dX3_read_10 : decode cX3_read 10 = .ok (.iconst 0, 1) := by decide +kernel
theorem dX3_read_11 : decode cX3_read 11 = .ok (.istore_n 1, 1) := by decide +kernel
theorem dX3_read_12 : decode cX3_read 12 = .ok (.iload_n 1, 1) := by decide +kernel
theorem dX3_read_13 : decode cX3_read 13 = .ok (.aload_n 0, 1) := by decide +kernel
theorem dX3_read_14 : decode cX3_read 14 = .ok (.getfield 9, 3) := by decide +kernel
theorem dX3_read_17 : decode cX3_read 17 = .ok (.invokevirtual 23, 3) := by decide +kernel
theorem dX3_read_20 : decode cX3_read 20 = .ok (.if_icmp .ge 175, 3) := by decide +kernel
theorem dX3_read_23 : decode cX3_read 23 = .ok (.aload_n 0, 1) := by decide +kernel
theorem dX3_read_24 : decode cX3_read 24 = .ok (.getfield 9, 3) := by decide +kernel
theorem dX3_read_27 : decode cX3_read 27 = .ok (.iload_n 1, 1) := by decide +kernel
theorem dX3_read_28 : decode cX3_read 28 = .ok (.invokevirtual 29, 3) := by decide +kernel
theorem dX3_read_31 : decode cX3_read 31 = .ok (.istore_n 2, 1) := by decide +kernel
theorem dX3_read_32 : decode cX3_read 32 = .ok (.iload_n 1, 1) := by decide +kernel
theorem dX3_read_33 : decode cX3_read 33 = .ok (.iconst 1, 1) := by decide +kernel
theorem dX3_read_34 : decode cX3_read 34 = .ok (.iadd, 1) := by decide +kernel
theorem dX3_read_35 : decode cX3_read 35 = .ok (.istore_n 3, 1) := by decide +kernel
theorem dX3_read_36 : decode cX3_read 36 = .ok (.iload_n 2, 1) := by decide +kernel
theorem dX3_read_37 : decode cX3_read 37 = .ok (.bipush 60, 2) := by decide +kernel
theorem dX3_read_39 : decode cX3_read 39 = .ok (.if_icmp .ne 31, 3) := by decide +kernel
theorem dX3_read_42 : decode cX3_read 42 = .ok (.aload_n 0, 1) := by decide +kernel
theorem dX3_read_43 : decode cX3_read 43 = .ok (.getfield 9, 3) := by decide +kernel
theorem dX3_read_46 : decode cX3_read 46 = .ok (.iload_n 1, 1) := by decide +kernel
theorem dX3_read_47 : decode cX3_read 47 = .ok (.iconst 1, 1) := by decide +kernel
theorem dX3_read_48 : decode cX3_read 48 = .ok (.iadd, 1) := by decide +kernel
theorem dX3_read_49 : decode cX3_read 49 = .ok (.invokevirtual 29, 3) := by decide +kernel
theorem dX3_read_52 : decode cX3_read 52 = .ok (.invokestatic 33, 3) := by decide +kernel
theorem dX3_read_55 : decode cX3_read 55 = .ok (.ifCond .eq 15, 3) := by decide +kernel
theorem dX3_read_58 : decode cX3_read 58 = .ok (.aload_n 0, 1) := by decide +kernel
theorem dX3_read_59 : decode cX3_read 59 = .ok (.iload_n 1, 1) := by decide +kernel
theorem dX3_read_60 : decode cX3_read 60 = .ok (.iconst 1, 1) := by decide +kernel
theorem dX3_read_61 : decode cX3_read 61 = .ok (.iadd, 1) := by decide +kernel
theorem dX3_read_62 : decode cX3_read 62 = .ok (.iconst 0, 1) := by decide +kernel
theorem dX3_read_63 : decode cX3_read 63 = .ok (.invokevirtual 39, 3) := by decide +kernel
theorem dX3_read_66 : decode cX3_read 66 = .ok (.istore_n 3, 1) := by decide +kernel
theorem dX3_read_67 : decode cX3_read 67 = .ok (.goto 117, 3) := by decide +kernel
theorem dX3_read_70 : decode cX3_read 70 = .ok (.aload_n 0, 1) := by decide +kernel
theorem dX3_read_71 : decode cX3_read 71 = .ok (.getfield 9, 3) := by decide +kernel
theorem dX3_read_74 : decode cX3_read 74 = .ok (.iload_n 1, 1) := by decide +kernel
theorem dX3_read_75 : decode cX3_read 75 = .ok (.ldc 43, 2) := by decide +kernel
theorem dX3_read_77 : decode cX3_read 77 = .ok (.invokevirtual 45, 3) := by decide +kernel
theorem dX3_read_80 : decode cX3_read 80 = .ok (.ifCond .eq 31, 3) := by decide +kernel
theorem dX3_read_83 : decode cX3_read 83 = .ok (.aload_n 0, 1) := by decide +kernel
theorem dX3_read_84 : decode cX3_read 84 = .ok (.getfield 9, 3) := by decide +kernel
theorem dX3_read_87 : decode cX3_read 87 = .ok (.iload_n 1, 1) := by decide +kernel
theorem dX3_read_88 : decode cX3_read 88 = .ok (.iconst 2, 1) := by decide +kernel
theorem dX3_read_89 : decode cX3_read 89 = .ok (.iadd, 1) := by decide +kernel
theorem dX3_read_90 : decode cX3_read 90 = .ok (.invokevirtual 29, 3) := by decide +kernel
theorem dX3_read_93 : decode cX3_read 93 = .ok (.invokestatic 33, 3) := by decide +kernel
theorem dX3_read_96 : decode cX3_read 96 = .ok (.ifCond .eq 15, 3) := by decide +kernel
theorem dX3_read_99 : decode cX3_read 99 = .ok (.aload_n 0, 1) := by decide +kernel
theorem dX3_read_100 : decode cX3_read 100 = .ok (.iload_n 1, 1) := by decide +kernel
theorem dX3_read_101 : decode cX3_read 101 = .ok (.iconst 2, 1) := by decide +kernel
theorem dX3_read_102 : decode cX3_read 102 = .ok (.iadd, 1) := by decide +kernel
theorem dX3_read_103 : decode cX3_read 103 = .ok (.iconst 1, 1) := by decide +kernel
theorem dX3_read_104 : decode cX3_read 104 = .ok (.invokevirtual 39, 3) := by decide +kernel
theorem dX3_read_107 : decode cX3_read 107 = .ok (.istore_n 3, 1) := by decide +kernel
theorem dX3_read_108 : decode cX3_read 108 = .ok (.goto 76, 3) := by decide +kernel
theorem dX3_read_111 : decode cX3_read 111 = .ok (.iload_n 2, 1) := by decide +kernel
theorem dX3_read_112 : decode cX3_read 112 = .ok (.bipush 60, 2) := by decide +kernel
theorem dX3_read_114 : decode cX3_read 114 = .ok (.if_icmp .ne 12, 3) := by decide +kernel
theorem dX3_read_117 : decode cX3_read 117 = .ok (.aload_n 0, 1) := by decide +kernel
theorem dX3_read_118 : decode cX3_read 118 = .ok (.iload_n 1, 1) := by decide +kernel
theorem dX3_read_119 : decode cX3_read 119 = .ok (.invokevirtual 49, 3) := by decide +kernel
theorem dX3_read_122 : decode cX3_read 122 = .ok (.istore_n 3, 1) := by decide +kernel
theorem dX3_read_123 : decode cX3_read 123 = .ok (.goto 61, 3) := by decide +kernel
theorem dX3_read_126 : decode cX3_read 126 = .ok (.iload_n 2, 1) := by decide +kernel
theorem dX3_read_127 : decode cX3_read 127 = .ok (.bipush 38, 2) := by decide +kernel
theorem dX3_read_129 : decode cX3_read 129 = .ok (.if_icmp .ne 35, 3) := by decide +kernel
theorem dX3_read_132 : decode cX3_read 132 = .ok (.aload_n 0, 1) := by decide +kernel
theorem dX3_read_133 : decode cX3_read 133 = .ok (.getfield 9, 3) := by decide +kernel
theorem dX3_read_136 : decode cX3_read 136 = .ok (.iload_n 1, 1) := by decide +kernel
theorem dX3_read_137 : decode cX3_read 137 = .ok (.iconst 1, 1) := by decide +kernel
theorem dX3_read_138 : decode cX3_read 138 = .ok (.iadd, 1) := by decide +kernel
theorem dX3_read_139 : decode cX3_read 139 = .ok (.invokevirtual 29, 3) := by decide +kernel
theorem dX3_read_142 : decode cX3_read 142 = .ok (.bipush 35, 2) := by decide +kernel
theorem dX3_read_144 : decode cX3_read 144 = .ok (.if_icmp .ne 11, 3) := by decide +kernel
theorem dX3_read_147 : decode cX3_read 147 = .ok (.aload_n 0, 1) := by decide +kernel
theorem dX3_read_148 : decode cX3_read 148 = .ok (.iload_n 1, 1) := by decide +kernel
theorem dX3_read_149 : decode cX3_read 149 = .ok (.invokevirtual 52, 3) := by decide +kernel
theorem dX3_read_152 : decode cX3_read 152 = .ok (.goto 8, 3) := by decide +kernel
theorem dX3_read_155 : decode cX3_read 155 = .ok (.aload_n 0, 1) := by decide +kernel
theorem dX3_read_156 : decode cX3_read 156 = .ok (.iload_n 1, 1) := by decide +kernel
theorem dX3_read_157 : decode cX3_read 157 = .ok (.invokevirtual 55, 3) := by decide +kernel
theorem dX3_read_160 : decode cX3_read 160 = .ok (.istore_n 3, 1) := by decide +kernel
theorem dX3_read_161 : decode cX3_read 161 = .ok (.goto 23, 3) := by decide +kernel
theorem dX3_read_164 : decode cX3_read 164 = .ok (.iload_n 2, 1) := by decide +kernel
theorem dX3_read_165 : decode cX3_read 165 = .ok (.invokestatic 58, 3) := by decide +kernel
theorem dX3_read_168 : decode cX3_read 168 = .ok (.ifCond .eq 11, 3) := by decide +kernel
theorem dX3_read_171 : decode cX3_read 171 = .ok (.aload_n 0, 1) := by decide +kernel
theorem dX3_read_172 : decode cX3_read 172 = .ok (.iload_n 2, 1) := by decide +kernel
theorem dX3_read_173 : decode cX3_read 173 = .ok (.invokevirtual 61, 3) := by decide +kernel
theorem dX3_read_176 : decode cX3_read 176 = .ok (.goto 8, 3) := by decide +kernel
theorem dX3_read_179 : decode cX3_read 179 = .ok (.aload_n 0, 1) := by decide +kernel
theorem dX3_read_180 : decode cX3_read 180 = .ok (.iload_n 2, 1) := by decide +kernel
theorem dX3_read_181 : decode cX3_read 181 = .ok (.invokevirtual 65, 3) := by decide +kernel
theorem dX3_read_184 : decode cX3_read 184 = .ok (.iload_n 1, 1) := by decide +kernel
theorem dX3_read_185 : decode cX3_read 185 = .ok (.iconst 1, 1) := by decide +kernel
theorem dX3_read_186 : decode cX3_read 186 = .ok (.iadd, 1) := by decide +kernel
theorem dX3_read_187 : decode cX3_read 187 = .ok (.iload_n 3, 1) := by decide +kernel
theorem dX3_read_188 : decode cX3_read 188 = .ok (.invokestatic 68, 3) := by decide +kernel
theorem dX3_read_191 : decode cX3_read 191 = .ok (.istore_n 1, 1) := by decide +kernel
theorem dX3_read_192 : decode cX3_read 192 = .ok (.goto (-180), 3) := by decide +kernel
theorem dX3_read_195 : decode cX3_read 195 = .ok (.aload_n 0, 1) := by decide +kernel
theorem dX3_read_196 : decode cX3_read 196 = .ok (.invokevirtual 74, 3) := by decide +kernel
theorem dX3_read_199 : decode cX3_read 199 = .ok (.aload_n 0, 1) := by decide +kernel
theorem dX3_read_200 : decode cX3_read 200 = .ok (.getfield 9, 3) := by decide +kernel
theorem dX3_read_203 : decode cX3_read 203 = .ok (.aload_n 0, 1) := by decide +kernel
theorem dX3_read_204 : decode cX3_read 204 = .ok (.getfield 15, 3) := by decide +kernel
theorem dX3_read_207 : decode cX3_read 207 = .ok (.invokevirtual 77, 3) := by decide +kernel
theorem dX3_read_210 : decode cX3_read 210 = .ok (.return_, 1) := by decide +kernel
set_option maxRecDepth 20000 in
theorem ggX3_readMark_X5_holds : GoodIn wsX3_readMark wsX5_holds := goodIn_r _ [6, 7, 8, 9, 10, 11, 12, 13, 14, 15, 16, 17, 18, 19, 20, 21, 5, 22, 23, 24, 25, 26, 27, 28, 29, 30, 31, 32, 33, 34, 35, 36, 37, 38, 39, 40, 41, 42, 43, 44, 45, 46, 47, 48, 49, 50, 51, 52, 53, 54, 55, 56, 57, 58, 59, 60, 61, 85, 86] (by decide +kernel) (by decide +kernel)
set_option maxRecDepth 20000 in
theorem gX3_readMark_X5_holds : GoodIn wsX3_readMark (wsV RX3 45 RX5 yX5_holds wsX5_holds) := goodIn_app (goodIn_of _ (by decide +kernel)) ggX3_readMark_X5_holds
set_option maxRecDepth 20000 in
theorem ggX3_readMark_X3_behindNext : GoodIn wsX3_readMark wsX3_behindNext := goodIn_r _ [66, 1, 67, 68, 69, 5, 70, 23, 2, 3, 4, 6, 7, 8, 9, 10, 11, 12, 13, 14, 15, 16, 17, 18, 19, 20, 21, 22, 24, 25, 26, 27, 28, 29, 30, 31, 32, 33, 34, 35, 36, 37, 38, 39, 40, 41, 42, 43, 44, 45, 46, 47, 48, 49, 50, 51, 52, 53, 54, 55, 56, 57, 58, 59, 60, 61, 71, 82, 83, 84, 85, 86] (by decide +kernel) (by decide +kernel)
set_option maxRecDepth 20000 in
theorem gX3_readMark_X3_behindNext : GoodIn wsX3_readMark (wsV RX3 84 RX3 yX3_behindNext wsX3_behindNext) := goodIn_app (goodIn_of _ (by decide +kernel)) ggX3_readMark_X3_behindNext
set_option maxRecDepth 20000 in
theorem ggX3_readMark_X5_get : GoodIn wsX3_readMark wsX5_get := goodIn_r _ [22, 23, 24, 85, 86] (by decide +kernel) (by decide +kernel)
set_option maxRecDepth 20000 in
theorem gX3_readMark_X5_get : GoodIn wsX3_readMark (wsV RX3 29 RX5 yX5_get wsX5_get) := goodIn_app (goodIn_of _ (by decide +kernel)) ggX3_readMark_X5_get
set_option maxRecDepth 20000 in
theorem ggX3_readMark_X3_write : GoodIn wsX3_readMark wsX3_write := goodIn_r _ [76, 1, 77, 78, 79, 80, 5, 81, 23, 24, 82, 83, 84, 85, 86] (by decide +kernel) (by decide +kernel)
set_option maxRecDepth 20000 in
theorem gX3_readMark_X3_write : GoodIn wsX3_readMark (wsV RX3 65 RX3 yX3_write wsX3_write) := goodIn_app (goodIn_of _ (by decide +kernel)) ggX3_readMark_X3_write
theorem dX3_readMark_0 : decode cX3_readMark 0 = .ok (.aload_n 0, 1) := by decide +kernel
theorem dX3_readMark_1 : decode cX3_readMark 1 = .ok (.getfield 9, 3) := by decide +kernel
theorem dX3_readMark_4 : decode cX3_readMark 4 = .ok (.iload_n 1, 1) := by decide +kernel
theorem dX3_readMark_5 : decode cX3_readMark 5 = .ok (.ldc 80, 2) := by decide +kernel
theorem dX3_readMark_7 : decode cX3_readMark 7 = .ok (.invokevirtual 45, 3) := by decide +kernel
theorem dX3_readMark_10 : decode cX3_readMark 10 = .ok (.ifCond .eq 13, 3) := by decide +kernel
theorem dX3_readMark_13 : decode cX3_readMark 13 = .ok (.aload_n 0, 1) := by decide +kernel
theorem dX3_readMark_14 : decode cX3_readMark 14 = .ok (.ldc 82, 2) := by decide +kernel
theorem dX3_readMark_16 : decode cX3_readMark 16 = .ok (.iload_n 1, 1) := by decide +kernel
theorem dX3_readMark_17 : decode cX3_readMark 17 = .ok (.iconst 4, 1) := by decide +kernel
theorem dX3_readMark_18 : decode cX3_readMark 18 = .ok (.iadd, 1) := by decide +kernel
theorem dX3_readMark_19 : decode cX3_readMark 19 = .ok (.invokevirtual 84, 3) := by decide +kernel
theorem dX3_readMark_22 : decode cX3_readMark 22 = .ok (.ireturn, 1) := by decide +kernel
theorem dX3_readMark_23 : decode cX3_readMark 23 = .ok (.aload_n 0, 1) := by decide +kernel
theorem dX3_readMark_24 : decode cX3_readMark 24 = .ok (.getfield 9, 3) := by decide +kernel
theorem dX3_readMark_27 : decode cX3_readMark 27 = .ok (.iload_n 1, 1) := by decide +kernel
theorem dX3_readMark_28 : decode cX3_readMark 28 = .ok (.iconst 1, 1) := by decide +kernel
theorem dX3_readMark_29 : decode cX3_readMark 29 = .ok (.iadd, 1) := by decide +kernel
theorem dX3_readMark_30 : decode cX3_readMark 30 = .ok (.invokevirtual 29, 3) := by decide +kernel
theorem dX3_readMark_33 : decode cX3_readMark 33 = .ok (.bipush 33, 2) := by decide +kernel
theorem dX3_readMark_35 : decode cX3_readMark 35 = .ok (.if_icmp .eq 18, 3) := by decide +kernel
theorem dX3_readMark_38 : decode cX3_readMark 38 = .ok (.aload_n 0, 1) := by decide +kernel
theorem dX3_readMark_39 : decode cX3_readMark 39 = .ok (.getfield 9, 3) := by decide +kernel
theorem dX3_readMark_42 : decode cX3_readMark 42 = .ok (.iload_n 1, 1) := by decide +kernel
theorem dX3_readMark_43 : decode cX3_readMark 43 = .ok (.iconst 1, 1) := by decide +kernel
theorem dX3_readMark_44 : decode cX3_readMark 44 = .ok (.iadd, 1) := by decide +kernel
theorem dX3_readMark_45 : decode cX3_readMark 45 = .ok (.invokevirtual 29, 3) := by decide +kernel
theorem dX3_readMark_48 : decode cX3_readMark 48 = .ok (.bipush 63, 2) := by decide +kernel
theorem dX3_readMark_50 : decode cX3_readMark 50 = .ok (.if_icmp .ne 13, 3) := by decide +kernel
theorem dX3_readMark_53 : decode cX3_readMark 53 = .ok (.aload_n 0, 1) := by decide +kernel
theorem dX3_readMark_54 : decode cX3_readMark 54 = .ok (.ldc 88, 2) := by decide +kernel
theorem dX3_readMark_56 : decode cX3_readMark 56 = .ok (.iload_n 1, 1) := by decide +kernel
theorem dX3_readMark_57 : decode cX3_readMark 57 = .ok (.iconst 2, 1) := by decide +kernel
theorem dX3_readMark_58 : decode cX3_readMark 58 = .ok (.iadd, 1) := by decide +kernel
theorem dX3_readMark_59 : decode cX3_readMark 59 = .ok (.invokevirtual 84, 3) := by decide +kernel
theorem dX3_readMark_62 : decode cX3_readMark 62 = .ok (.ireturn, 1) := by decide +kernel
theorem dX3_readMark_63 : decode cX3_readMark 63 = .ok (.aload_n 0, 1) := by decide +kernel
theorem dX3_readMark_64 : decode cX3_readMark 64 = .ok (.bipush 60, 2) := by decide +kernel
theorem dX3_readMark_66 : decode cX3_readMark 66 = .ok (.invokevirtual 65, 3) := by decide +kernel
theorem dX3_readMark_69 : decode cX3_readMark 69 = .ok (.iload_n 1, 1) := by decide +kernel
theorem dX3_readMark_70 : decode cX3_readMark 70 = .ok (.iconst 1, 1) := by decide +kernel
theorem dX3_readMark_71 : decode cX3_readMark 71 = .ok (.iadd, 1) := by decide +kernel
theorem dX3_readMark_72 : decode cX3_readMark 72 = .ok (.ireturn, 1) := by decide +kernel
set_option maxRecDepth 20000 in
theorem ggX3_behindNext_X5_size : GoodIn wsX3_behindNext wsX5_size := goodIn_r _ [6, 7, 70, 71] (by decide +kernel) (by decide +kernel)
set_option maxRecDepth 20000 in
theorem gX3_behindNext_X5_size : GoodIn wsX3_behindNext (wsV RX3 23 RX5 yX5_size wsX5_size) := goodIn_app (goodIn_of _ (by decide +kernel)) ggX3_behindNext_X5_size
set_option maxRecDepth 20000 in
theorem ggX3_behindNext_X5_holds : GoodIn wsX3_behindNext wsX5_holds := goodIn_r _ [11, 12, 13, 14, 15, 16, 17, 18, 19, 20, 21, 22, 23, 24, 25, 26, 5, 27, 7, 28, 29, 30, 31, 32, 33, 34, 35, 36, 37, 38, 39, 40, 41, 42, 43, 44, 45, 46, 47, 48, 49, 50, 51, 52, 53, 54, 55, 56, 57, 58, 59, 60, 61, 62, 63, 64, 65, 70, 71] (by decide +kernel) (by decide +kernel)
set_option maxRecDepth 20000 in
theorem gX3_behindNext_X5_holds : GoodIn wsX3_behindNext (wsV RX3 45 RX5 yX5_holds wsX5_holds) := goodIn_app (goodIn_of _ (by decide +kernel)) ggX3_behindNext_X5_holds
set_option maxRecDepth 20000 in
theorem ggX3_behindNext_J0_length_8abf5 : GoodIn wsX3_behindNext wsJ0_length_8abf5 := goodIn_r _ [16, 17, 18, 19, 20, 15, 21, 22, 23] (by decide +kernel) (by decide +kernel)
set_option maxRecDepth 20000 in
theorem gX3_behindNext_J0_length_8abf5 : GoodIn wsX3_behindNext (wsV RX3 90 RJ0 yJ0_length_8abf5 wsJ0_length_8abf5) := goodIn_app (goodIn_of _ (by decide +kernel)) ggX3_behindNext_J0_length_8abf5
theorem dX3_behindNext_0 : decode cX3_behindNext 0 = .ok (.iload_n 2, 1) := by decide +kernel
theorem dX3_behindNext_1 : decode cX3_behindNext 1 = .ok (.istore_n 3, 1) := by decide +kernel
theorem dX3_behindNext_2 : decode cX3_behindNext 2 = .ok (.iload_n 3, 1) := by decide +kernel
theorem dX3_behindNext_3 : decode cX3_behindNext 3 = .ok (.aload_n 0, 1) := by decide +kernel
theorem dX3_behindNext_4 : decode cX3_behindNext 4 = .ok (.getfield 9, 3) := by decide +kernel
theorem dX3_behindNext_7 : decode cX3_behindNext 7 = .ok (.invokevirtual 23, 3) := by decide +kernel
theorem dX3_behindNext_10 : decode cX3_behindNext 10 = .ok (.if_icmp .ge 28, 3) := by decide +kernel
theorem dX3_behindNext_13 : decode cX3_behindNext 13 = .ok (.aload_n 0, 1) := by decide +kernel
theorem dX3_behindNext_14 : decode cX3_behindNext 14 = .ok (.getfield 9, 3) := by decide +kernel
theorem dX3_behindNext_17 : decode cX3_behindNext 17 = .ok (.iload_n 3, 1) := by decide +kernel
theorem dX3_behindNext_18 : decode cX3_behindNext 18 = .ok (.aload_n 1, 1) := by decide +kernel
theorem dX3_behindNext_19 : decode cX3_behindNext 19 = .ok (.invokevirtual 45, 3) := by decide +kernel
theorem dX3_behindNext_22 : decode cX3_behindNext 22 = .ok (.ifCond .eq 10, 3) := by decide +kernel
theorem dX3_behindNext_25 : decode cX3_behindNext 25 = .ok (.iload_n 3, 1) := by decide +kernel
theorem dX3_behindNext_26 : decode cX3_behindNext 26 = .ok (.aload_n 1, 1) := by decide +kernel
theorem dX3_behindNext_27 : decode cX3_behindNext 27 = .ok (.invokevirtual 90, 3) := by decide +kernel
theorem dX3_behindNext_30 : decode cX3_behindNext 30 = .ok (.iadd, 1) := by decide +kernel
theorem dX3_behindNext_31 : decode cX3_behindNext 31 = .ok (.ireturn, 1) := by decide +kernel
theorem dX3_behindNext_32 : decode cX3_behindNext 32 = .ok (.iinc 3 1, 3) := by decide +kernel
theorem dX3_behindNext_35 : decode cX3_behindNext 35 = .ok (.goto (-33), 3) := by decide +kernel
theorem dX3_behindNext_38 : decode cX3_behindNext 38 = .ok (.aload_n 0, 1) := by decide +kernel
theorem dX3_behindNext_39 : decode cX3_behindNext 39 = .ok (.getfield 9, 3) := by decide +kernel
theorem dX3_behindNext_42 : decode cX3_behindNext 42 = .ok (.invokevirtual 23, 3) := by decide +kernel
theorem dX3_behindNext_45 : decode cX3_behindNext 45 = .ok (.ireturn, 1) := by decide +kernel
set_option maxRecDepth 20000 in
theorem ggX3_readTag_X3_behindName : GoodIn wsX3_readTag wsX3_behindName := goodIn_r _ [6, 7, 8, 9, 10, 11, 12, 13, 14, 15, 16, 17, 18, 19, 20, 21, 22, 23, 24, 25, 136, 137, 138, 139, 140] (by decide +kernel) (by decide +kernel)
set_option maxRecDepth 20000 in
theorem gX3_readTag_X3_behindName : GoodIn wsX3_readTag (wsV RX3 95 RX3 yX3_behindName wsX3_behindName) := goodIn_app (goodIn_of _ (by decide +kernel)) ggX3_readTag_X3_behindName
set_option maxRecDepth 20000 in
theorem ggX3_readTag_X3_behindTag : GoodIn wsX3_readTag wsX3_behindTag := goodIn_r _ [29, 7, 8, 9, 10, 11, 12, 13, 14, 15, 16, 17, 18, 30, 31, 21, 32, 136, 137, 138, 139, 140] (by decide +kernel) (by decide +kernel)
set_option maxRecDepth 20000 in
theorem gX3_readTag_X3_behindTag : GoodIn wsX3_readTag (wsV RX3 98 RX3 yX3_behindTag wsX3_behindTag) := goodIn_app (goodIn_of _ (by decide +kernel)) ggX3_readTag_X3_behindTag
set_option maxRecDepth 20000 in
theorem ggX3_readTag_X3_isNamed : GoodIn wsX3_readTag wsX3_isNamed := goodIn_r _ [36, 7, 37, 38, 39, 40, 41, 42, 43, 44, 45, 46, 47, 48, 49, 50, 51, 11, 52, 53, 54, 15, 16, 17, 13, 18, 55, 56, 57, 58, 59, 60, 61, 62, 63, 64, 65, 66, 67, 68, 69, 70, 71, 72, 73, 74, 75, 76, 77, 78, 79, 80, 81, 82, 83, 84, 85, 86, 87, 88, 89, 90, 91, 136, 137, 138, 139, 140] (by decide +kernel) (by decide +kernel)
set_option maxRecDepth 20000 in
theorem gX3_readTag_X3_isNamed : GoodIn wsX3_readTag (wsV RX3 103 RX3 yX3_isNamed wsX3_isNamed) := goodIn_app (goodIn_of _ (by decide +kernel)) ggX3_readTag_X3_isNamed
set_option maxRecDepth 20000 in
theorem ggX3_readTag_X3_writeBreak : GoodIn wsX3_readTag wsX3_writeBreak := goodIn_r _ [95, 96, 97, 98, 99, 5, 100, 1, 101, 102, 103, 104, 7, 14, 15, 16, 11, 17, 13, 18, 105, 106, 107, 108, 109, 110, 111, 112, 136, 137, 138, 139, 140] (by decide +kernel) (by decide +kernel)
set_option maxRecDepth 20000 in
theorem gX3_readTag_X3_writeBreak : GoodIn wsX3_readTag (wsV RX3 107 RX3 yX3_writeBreak wsX3_writeBreak) := goodIn_app (goodIn_of _ (by decide +kernel)) ggX3_readTag_X3_writeBreak
set_option maxRecDepth 20000 in
theorem ggX3_readTag_X3_isBreak : GoodIn wsX3_readTag wsX3_isBreak := goodIn_r _ [116, 7, 14, 15, 16, 11, 17, 13, 18, 49, 50, 51, 52, 53, 38, 39, 40, 41, 42, 43, 44, 45, 46, 47, 48, 54, 55, 56, 57, 58, 59, 60, 61, 62, 63, 64, 65, 66, 67, 68, 69, 70, 71, 72, 73, 74, 75, 76, 77, 78, 79, 80, 81, 82, 83, 84, 85, 86, 87, 88, 89, 90, 91, 33, 34, 35, 5, 36, 37, 136, 137, 138, 139, 140] (by decide +kernel) (by decide +kernel)
set_option maxRecDepth 20000 in
theorem gX3_readTag_X3_isBreak : GoodIn wsX3_readTag (wsV RX3 110 RX3 yX3_isBreak wsX3_isBreak) := goodIn_app (goodIn_of _ (by decide +kernel)) ggX3_readTag_X3_isBreak
set_option maxRecDepth 20000 in
theorem ggX3_readTag_X3_writeBlank : GoodIn wsX3_readTag wsX3_writeBlank := goodIn_r _ [120, 1, 96, 105, 106, 107, 5, 108, 7, 109, 110, 111, 11, 112, 13, 18, 101, 102, 103, 104, 14, 15, 16, 17, 136, 137, 138, 139, 140] (by decide +kernel) (by decide +kernel)
set_option maxRecDepth 20000 in
theorem gX3_readTag_X3_writeBlank : GoodIn wsX3_readTag (wsV RX3 61 RX3 yX3_writeBlank wsX3_writeBlank) := goodIn_app (goodIn_of _ (by decide +kernel)) ggX3_readTag_X3_writeBlank
set_option maxRecDepth 20000 in
theorem ggX3_readTag_X3_behindHidden : GoodIn wsX3_readTag wsX3_behindHidden := goodIn_r _ [124, 33, 34, 35, 5, 36, 7, 37, 38, 39, 40, 41, 42, 43, 44, 45, 46, 47, 48, 49, 50, 51, 11, 52, 53, 54, 15, 16, 17, 13, 18, 55, 56, 57, 58, 59, 60, 61, 62, 63, 64, 65, 66, 67, 68, 69, 70, 71, 72, 73, 74, 75, 76, 77, 78, 79, 80, 81, 82, 83, 84, 85, 86, 87, 88, 89, 90, 91, 125, 126, 127, 128, 8, 9, 10, 12, 14, 129, 130, 21, 131, 132, 24, 25, 133, 134, 135, 136, 137, 138, 139, 140] (by decide +kernel) (by decide +kernel)
set_option maxRecDepth 20000 in
theorem gX3_readTag_X3_behindHidden : GoodIn wsX3_readTag (wsV RX3 118 RX3 yX3_behindHidden wsX3_behindHidden) := goodIn_app (goodIn_of _ (by decide +kernel)) ggX3_readTag_X3_behindHidden
theorem dX3_readTag_0 : decode cX3_readTag 0 = .ok (.aload_n 0, 1) := by decide +kernel
theorem dX3_readTag_1 : decode cX3_readTag 1 = .ok (.iload_n 1, 1) := by decide +kernel
theorem dX3_readTag_2 : decode cX3_readTag 2 = .ok (.invokevirtual 95, 3) := by decide +kernel
theorem dX3_readTag_5 : decode cX3_readTag 5 = .ok (.istore_n 3, 1) := by decide +kernel
theorem dX3_readTag_6 : decode cX3_readTag 6 = .ok (.aload_n 0, 1) := by decide +kernel
theorem dX3_readTag_7 : decode cX3_readTag 7 = .ok (.iload_n 3, 1) := by decide +kernel
theorem dX3_readTag_8 : decode cX3_readTag 8 = .ok (.invokevirtual 98, 3) := by decide +kernel
theorem dX3_readTag_11 : decode cX3_readTag 11 = .ok (.istore 4, 2) := by decide +kernel
theorem dX3_readTag_13 : decode cX3_readTag 13 = .ok (.aload_n 0, 1) := by decide +kernel
theorem dX3_readTag_14 : decode cX3_readTag 14 = .ok (.iload_n 1, 1) := by decide +kernel
theorem dX3_readTag_15 : decode cX3_readTag 15 = .ok (.iload_n 3, 1) := by decide +kernel
theorem dX3_readTag_16 : decode cX3_readTag 16 = .ok (.ldc 101, 2) := by decide +kernel
theorem dX3_readTag_18 : decode cX3_readTag 18 = .ok (.invokevirtual 103, 3) := by decide +kernel
theorem dX3_readTag_21 : decode cX3_readTag 21 = .ok (.ifCond .eq 43, 3) := by decide +kernel
theorem dX3_readTag_24 : decode cX3_readTag 24 = .ok (.aload_n 0, 1) := by decide +kernel
theorem dX3_readTag_25 : decode cX3_readTag 25 = .ok (.aload_n 0, 1) := by decide +kernel
theorem dX3_readTag_26 : decode cX3_readTag 26 = .ok (.getfield 19, 3) := by decide +kernel
theorem dX3_readTag_29 : decode cX3_readTag 29 = .ok (.ifCond .eq 11, 3) := by decide +kernel
theorem dX3_readTag_32 : decode cX3_readTag 32 = .ok (.iload_n 2, 1) := by decide +kernel
theorem dX3_readTag_33 : decode cX3_readTag 33 = .ok (.ifCond .ne 7, 3) := by decide +kernel
theorem dX3_readTag_36 : decode cX3_readTag 36 = .ok (.iconst 1, 1) := by decide +kernel
theorem dX3_readTag_37 : decode cX3_readTag 37 = .ok (.goto 4, 3) := by decide +kernel
theorem dX3_readTag_40 : decode cX3_readTag 40 = .ok (.iconst 0, 1) := by decide +kernel
theorem dX3_readTag_41 : decode cX3_readTag 41 = .ok (.putfield 19, 3) := by decide +kernel
theorem dX3_readTag_44 : decode cX3_readTag 44 = .ok (.aload_n 0, 1) := by decide +kernel
theorem dX3_readTag_45 : decode cX3_readTag 45 = .ok (.invokevirtual 107, 3) := by decide +kernel
theorem dX3_readTag_48 : decode cX3_readTag 48 = .ok (.aload_n 0, 1) := by decide +kernel
theorem dX3_readTag_49 : decode cX3_readTag 49 = .ok (.iload_n 2, 1) := by decide +kernel
theorem dX3_readTag_50 : decode cX3_readTag 50 = .ok (.ifCond .ne 7, 3) := by decide +kernel
theorem dX3_readTag_53 : decode cX3_readTag 53 = .ok (.iconst 1, 1) := by decide +kernel
theorem dX3_readTag_54 : decode cX3_readTag 54 = .ok (.goto 4, 3) := by decide +kernel
theorem dX3_readTag_57 : decode cX3_readTag 57 = .ok (.iconst 0, 1) := by decide +kernel
theorem dX3_readTag_58 : decode cX3_readTag 58 = .ok (.putfield 19, 3) := by decide +kernel
theorem dX3_readTag_61 : decode cX3_readTag 61 = .ok (.goto 63, 3) := by decide +kernel
theorem dX3_readTag_64 : decode cX3_readTag 64 = .ok (.aload_n 0, 1) := by decide +kernel
theorem dX3_readTag_65 : decode cX3_readTag 65 = .ok (.iload_n 1, 1) := by decide +kernel
theorem dX3_readTag_66 : decode cX3_readTag 66 = .ok (.iload_n 3, 1) := by decide +kernel
theorem dX3_readTag_67 : decode cX3_readTag 67 = .ok (.invokevirtual 110, 3) := by decide +kernel
theorem dX3_readTag_70 : decode cX3_readTag 70 = .ok (.ifCond .eq 10, 3) := by decide +kernel
theorem dX3_readTag_73 : decode cX3_readTag 73 = .ok (.aload_n 0, 1) := by decide +kernel
theorem dX3_readTag_74 : decode cX3_readTag 74 = .ok (.invokevirtual 107, 3) := by decide +kernel
theorem dX3_readTag_77 : decode cX3_readTag 77 = .ok (.goto 47, 3) := by decide +kernel
theorem dX3_readTag_80 : decode cX3_readTag 80 = .ok (.aload_n 0, 1) := by decide +kernel
theorem dX3_readTag_81 : decode cX3_readTag 81 = .ok (.iload_n 1, 1) := by decide +kernel
theorem dX3_readTag_82 : decode cX3_readTag 82 = .ok (.iload_n 3, 1) := by decide +kernel
theorem dX3_readTag_83 : decode cX3_readTag 83 = .ok (.ldc 114, 2) := by decide +kernel
theorem dX3_readTag_85 : decode cX3_readTag 85 = .ok (.invokevirtual 103, 3) := by decide +kernel
theorem dX3_readTag_88 : decode cX3_readTag 88 = .ok (.ifCond .ne 14, 3) := by decide +kernel
theorem dX3_readTag_91 : decode cX3_readTag 91 = .ok (.aload_n 0, 1) := by decide +kernel
theorem dX3_readTag_92 : decode cX3_readTag 92 = .ok (.iload_n 1, 1) := by decide +kernel
theorem dX3_readTag_93 : decode cX3_readTag 93 = .ok (.iload_n 3, 1) := by decide +kernel
theorem dX3_readTag_94 : decode cX3_readTag 94 = .ok (.ldc 116, 2) := by decide +kernel
theorem dX3_readTag_96 : decode cX3_readTag 96 = .ok (.invokevirtual 103, 3) := by decide +kernel
theorem dX3_readTag_99 : decode cX3_readTag 99 = .ok (.ifCond .eq 12, 3) := by decide +kernel
theorem dX3_readTag_102 : decode cX3_readTag 102 = .ok (.aload_n 0, 1) := by decide +kernel
theorem dX3_readTag_103 : decode cX3_readTag 103 = .ok (.bipush 32, 2) := by decide +kernel
theorem dX3_readTag_105 : decode cX3_readTag 105 = .ok (.invokevirtual 61, 3) := by decide +kernel
theorem dX3_readTag_108 : decode cX3_readTag 108 = .ok (.goto 16, 3) := by decide +kernel
theorem dX3_readTag_111 : decode cX3_readTag 111 = .ok (.iload_n 2, 1) := by decide +kernel
theorem dX3_readTag_112 : decode cX3_readTag 112 = .ok (.ifCond .ne 12, 3) := by decide +kernel
theorem dX3_readTag_115 : decode cX3_readTag 115 = .ok (.aload_n 0, 1) := by decide +kernel
theorem dX3_readTag_116 : decode cX3_readTag 116 = .ok (.iload_n 1, 1) := by decide +kernel
theorem dX3_readTag_117 : decode cX3_readTag 117 = .ok (.iload_n 3, 1) := by decide +kernel
theorem dX3_readTag_118 : decode cX3_readTag 118 = .ok (.iload 4, 2) := by decide +kernel
theorem dX3_readTag_120 : decode cX3_readTag 120 = .ok (.invokevirtual 118, 3) := by decide +kernel
theorem dX3_readTag_123 : decode cX3_readTag 123 = .ok (.ireturn, 1) := by decide +kernel
theorem dX3_readTag_124 : decode cX3_readTag 124 = .ok (.iload 4, 2) := by decide +kernel
theorem dX3_readTag_126 : decode cX3_readTag 126 = .ok (.ireturn, 1) := by decide +kernel
set_option maxRecDepth 20000 in
theorem ggX3_behindName_X5_size : GoodIn wsX3_behindName wsX5_size := goodIn_r _ [6, 7, 23, 24] (by decide +kernel) (by decide +kernel)
set_option maxRecDepth 20000 in
theorem gX3_behindName_X5_size : GoodIn wsX3_behindName (wsV RX3 23 RX5 yX5_size wsX5_size) := goodIn_app (goodIn_of _ (by decide +kernel)) ggX3_behindName_X5_size
set_option maxRecDepth 20000 in
theorem ggX3_behindName_X5_get : GoodIn wsX3_behindName wsX5_get := goodIn_r _ [11, 7, 12, 23, 24] (by decide +kernel) (by decide +kernel)
set_option maxRecDepth 20000 in
theorem gX3_behindName_X5_get : GoodIn wsX3_behindName (wsV RX3 29 RX5 yX5_get wsX5_get) := goodIn_app (goodIn_of _ (by decide +kernel)) ggX3_behindName_X5_get
set_option maxRecDepth 20000 in
theorem ggX3_behindName_X0_isLatin : GoodIn wsX3_behindName wsX0_isLatin := goodIn_r _ [16] (by decide +kernel) (by decide +kernel)
set_option maxRecDepth 20000 in
theorem gX3_behindName_X0_isLatin : GoodIn wsX3_behindName (va_wsS RX3 33 yX0_isLatin wsX0_isLatin) := goodIn_app (goodIn_of _ (by decide +kernel)) ggX3_behindName_X0_isLatin
set_option maxRecDepth 20000 in
theorem ggX3_behindName_X0_isDigit : GoodIn wsX3_behindName wsX0_isDigit := goodIn_r _ [19] (by decide +kernel) (by decide +kernel)
set_option maxRecDepth 20000 in
theorem gX3_behindName_X0_isDigit : GoodIn wsX3_behindName (va_wsS RX3 122 yX0_isDigit wsX0_isDigit) := goodIn_app (goodIn_of _ (by decide +kernel)) ggX3_behindName_X0_isDigit
theorem dX3_behindName_0 : decode cX3_behindName 0 = .ok (.iload_n 1, 1) := by decide +kernel
theorem dX3_behindName_1 : decode cX3_behindName 1 = .ok (.istore_n 2, 1) := by decide +kernel
theorem dX3_behindName_2 : decode cX3_behindName 2 = .ok (.iload_n 2, 1) := by decide +kernel
theorem dX3_behindName_3 : decode cX3_behindName 3 = .ok (.aload_n 0, 1) := by decide +kernel
theorem dX3_behindName_4 : decode cX3_behindName 4 = .ok (.getfield 9, 3) := by decide +kernel
theorem dX3_behindName_7 : decode cX3_behindName 7 = .ok (.invokevirtual 23, 3) := by decide +kernel
theorem dX3_behindName_10 : decode cX3_behindName 10 = .ok (.if_icmp .ge 37, 3) := by decide +kernel
theorem dX3_behindName_13 : decode cX3_behindName 13 = .ok (.aload_n 0, 1) := by decide +kernel
theorem dX3_behindName_14 : decode cX3_behindName 14 = .ok (.getfield 9, 3) := by decide +kernel
theorem dX3_behindName_17 : decode cX3_behindName 17 = .ok (.iload_n 2, 1) := by decide +kernel
theorem dX3_behindName_18 : decode cX3_behindName 18 = .ok (.invokevirtual 29, 3) := by decide +kernel
theorem dX3_behindName_21 : decode cX3_behindName 21 = .ok (.invokestatic 33, 3) := by decide +kernel
theorem dX3_behindName_24 : decode cX3_behindName 24 = .ok (.ifCond .ne 17, 3) := by decide +kernel
theorem dX3_behindName_27 : decode cX3_behindName 27 = .ok (.aload_n 0, 1) := by decide +kernel
theorem dX3_behindName_28 : decode cX3_behindName 28 = .ok (.getfield 9, 3) := by decide +kernel
theorem dX3_behindName_31 : decode cX3_behindName 31 = .ok (.iload_n 2, 1) := by decide +kernel
theorem dX3_behindName_32 : decode cX3_behindName 32 = .ok (.invokevirtual 29, 3) := by decide +kernel
theorem dX3_behindName_35 : decode cX3_behindName 35 = .ok (.invokestatic 122, 3) := by decide +kernel
theorem dX3_behindName_38 : decode cX3_behindName 38 = .ok (.ifCond .eq 9, 3) := by decide +kernel
theorem dX3_behindName_41 : decode cX3_behindName 41 = .ok (.iinc 2 1, 3) := by decide +kernel
theorem dX3_behindName_44 : decode cX3_behindName 44 = .ok (.goto (-42), 3) := by decide +kernel
theorem dX3_behindName_47 : decode cX3_behindName 47 = .ok (.iload_n 2, 1) := by decide +kernel
theorem dX3_behindName_48 : decode cX3_behindName 48 = .ok (.ireturn, 1) := by decide +kernel
set_option maxRecDepth 20000 in
theorem ggX3_behindTag_X5_size : GoodIn wsX3_behindTag wsX5_size := goodIn_r _ [6, 7, 20, 21] (by decide +kernel) (by decide +kernel)
set_option maxRecDepth 20000 in
theorem gX3_behindTag_X5_size : GoodIn wsX3_behindTag (wsV RX3 23 RX5 yX5_size wsX5_size) := goodIn_app (goodIn_of _ (by decide +kernel)) ggX3_behindTag_X5_size
set_option maxRecDepth 20000 in
theorem ggX3_behindTag_X5_get : GoodIn wsX3_behindTag wsX5_get := goodIn_r _ [11, 7, 12, 20, 21] (by decide +kernel) (by decide +kernel)
set_option maxRecDepth 20000 in
theorem gX3_behindTag_X5_get : GoodIn wsX3_behindTag (wsV RX3 29 RX5 yX5_get wsX5_get) := goodIn_app (goodIn_of _ (by decide +kernel)) ggX3_behindTag_X5_get
set_option maxRecDepth 20000 in
theorem ggX3_behindTag_X0_isBlank : GoodIn wsX3_behindTag wsX0_isBlank := goodIn_r _ [16] (by decide +kernel) (by decide +kernel)
set_option maxRecDepth 20000 in
theorem gX3_behindTag_X0_isBlank : GoodIn wsX3_behindTag (va_wsS RX3 58 yX0_isBlank wsX0_isBlank) := goodIn_app (goodIn_of _ (by decide +kernel)) ggX3_behindTag_X0_isBlank
theorem dX3_behindTag_0 : decode cX3_behindTag 0 = .ok (.iconst (-1), 1) := by decide +kernel
theorem dX3_behindTag_1 : decode cX3_behindTag 1 = .ok (.istore_n 2, 1) := by decide +kernel
theorem dX3_behindTag_2 : decode cX3_behindTag 2 = .ok (.iconst 0, 1) := by decide +kernel
theorem dX3_behindTag_3 : decode cX3_behindTag 3 = .ok (.istore_n 3, 1) := by decide +kernel
theorem dX3_behindTag_4 : decode cX3_behindTag 4 = .ok (.iload_n 1, 1) := by decide +kernel
theorem dX3_behindTag_5 : decode cX3_behindTag 5 = .ok (.istore 4, 2) := by decide +kernel
theorem dX3_behindTag_7 : decode cX3_behindTag 7 = .ok (.iload 4, 2) := by decide +kernel
theorem dX3_behindTag_9 : decode cX3_behindTag 9 = .ok (.aload_n 0, 1) := by decide +kernel
theorem dX3_behindTag_10 : decode cX3_behindTag 10 = .ok (.getfield 9, 3) := by decide +kernel
theorem dX3_behindTag_13 : decode cX3_behindTag 13 = .ok (.invokevirtual 23, 3) := by decide +kernel
theorem dX3_behindTag_16 : decode cX3_behindTag 16 = .ok (.if_icmp .ge 103, 3) := by decide +kernel
theorem dX3_behindTag_19 : decode cX3_behindTag 19 = .ok (.aload_n 0, 1) := by decide +kernel
theorem dX3_behindTag_20 : decode cX3_behindTag 20 = .ok (.getfield 9, 3) := by decide +kernel
theorem dX3_behindTag_23 : decode cX3_behindTag 23 = .ok (.iload 4, 2) := by decide +kernel
theorem dX3_behindTag_25 : decode cX3_behindTag 25 = .ok (.invokevirtual 29, 3) := by decide +kernel
theorem dX3_behindTag_28 : decode cX3_behindTag 28 = .ok (.istore 5, 2) := by decide +kernel
theorem dX3_behindTag_30 : decode cX3_behindTag 30 = .ok (.iload_n 2, 1) := by decide +kernel
theorem dX3_behindTag_31 : decode cX3_behindTag 31 = .ok (.iconst (-1), 1) := by decide +kernel
theorem dX3_behindTag_32 : decode cX3_behindTag 32 = .ok (.if_icmp .eq 18, 3) := by decide +kernel
theorem dX3_behindTag_35 : decode cX3_behindTag 35 = .ok (.iload 5, 2) := by decide +kernel
theorem dX3_behindTag_37 : decode cX3_behindTag 37 = .ok (.iload_n 2, 1) := by decide +kernel
theorem dX3_behindTag_38 : decode cX3_behindTag 38 = .ok (.if_icmp .ne 7, 3) := by decide +kernel
theorem dX3_behindTag_41 : decode cX3_behindTag 41 = .ok (.iconst (-1), 1) := by decide +kernel
theorem dX3_behindTag_42 : decode cX3_behindTag 42 = .ok (.goto 4, 3) := by decide +kernel
theorem dX3_behindTag_45 : decode cX3_behindTag 45 = .ok (.iload_n 2, 1) := by decide +kernel
theorem dX3_behindTag_46 : decode cX3_behindTag 46 = .ok (.istore_n 2, 1) := by decide +kernel
theorem dX3_behindTag_47 : decode cX3_behindTag 47 = .ok (.goto 66, 3) := by decide +kernel
theorem dX3_behindTag_50 : decode cX3_behindTag 50 = .ok (.iload 5, 2) := by decide +kernel
theorem dX3_behindTag_52 : decode cX3_behindTag 52 = .ok (.bipush 62, 2) := by decide +kernel
theorem dX3_behindTag_54 : decode cX3_behindTag 54 = .ok (.if_icmp .ne 8, 3) := by decide +kernel
theorem dX3_behindTag_57 : decode cX3_behindTag 57 = .ok (.iload 4, 2) := by decide +kernel
theorem dX3_behindTag_59 : decode cX3_behindTag 59 = .ok (.iconst 1, 1) := by decide +kernel
theorem dX3_behindTag_60 : decode cX3_behindTag 60 = .ok (.iadd, 1) := by decide +kernel
theorem dX3_behindTag_61 : decode cX3_behindTag 61 = .ok (.ireturn, 1) := by decide +kernel
theorem dX3_behindTag_62 : decode cX3_behindTag 62 = .ok (.iload_n 3, 1) := by decide +kernel
theorem dX3_behindTag_63 : decode cX3_behindTag 63 = .ok (.ifCond .eq 25, 3) := by decide +kernel
theorem dX3_behindTag_66 : decode cX3_behindTag 66 = .ok (.iload 5, 2) := by decide +kernel
theorem dX3_behindTag_68 : decode cX3_behindTag 68 = .ok (.bipush 34, 2) := by decide +kernel
theorem dX3_behindTag_70 : decode cX3_behindTag 70 = .ok (.if_icmp .eq 10, 3) := by decide +kernel
theorem dX3_behindTag_73 : decode cX3_behindTag 73 = .ok (.iload 5, 2) := by decide +kernel
theorem dX3_behindTag_75 : decode cX3_behindTag 75 = .ok (.bipush 39, 2) := by decide +kernel
theorem dX3_behindTag_77 : decode cX3_behindTag 77 = .ok (.if_icmp .ne 11, 3) := by decide +kernel
theorem dX3_behindTag_80 : decode cX3_behindTag 80 = .ok (.iload 5, 2) := by decide +kernel
theorem dX3_behindTag_82 : decode cX3_behindTag 82 = .ok (.istore_n 2, 1) := by decide +kernel
theorem dX3_behindTag_83 : decode cX3_behindTag 83 = .ok (.iconst 0, 1) := by decide +kernel
theorem dX3_behindTag_84 : decode cX3_behindTag 84 = .ok (.istore_n 3, 1) := by decide +kernel
theorem dX3_behindTag_85 : decode cX3_behindTag 85 = .ok (.goto 28, 3) := by decide +kernel
theorem dX3_behindTag_88 : decode cX3_behindTag 88 = .ok (.iload 5, 2) := by decide +kernel
theorem dX3_behindTag_90 : decode cX3_behindTag 90 = .ok (.bipush 61, 2) := by decide +kernel
theorem dX3_behindTag_92 : decode cX3_behindTag 92 = .ok (.if_icmp .eq 15, 3) := by decide +kernel
theorem dX3_behindTag_95 : decode cX3_behindTag 95 = .ok (.iload_n 3, 1) := by decide +kernel
theorem dX3_behindTag_96 : decode cX3_behindTag 96 = .ok (.ifCond .eq 15, 3) := by decide +kernel
theorem dX3_behindTag_99 : decode cX3_behindTag 99 = .ok (.iload 5, 2) := by decide +kernel
theorem dX3_behindTag_101 : decode cX3_behindTag 101 = .ok (.invokestatic 58, 3) := by decide +kernel
theorem dX3_behindTag_104 : decode cX3_behindTag 104 = .ok (.ifCond .eq 7, 3) := by decide +kernel
theorem dX3_behindTag_107 : decode cX3_behindTag 107 = .ok (.iconst 1, 1) := by decide +kernel
theorem dX3_behindTag_108 : decode cX3_behindTag 108 = .ok (.goto 4, 3) := by decide +kernel
theorem dX3_behindTag_111 : decode cX3_behindTag 111 = .ok (.iconst 0, 1) := by decide +kernel
theorem dX3_behindTag_112 : decode cX3_behindTag 112 = .ok (.istore_n 3, 1) := by decide +kernel
theorem dX3_behindTag_113 : decode cX3_behindTag 113 = .ok (.iinc 4 1, 3) := by decide +kernel
theorem dX3_behindTag_116 : decode cX3_behindTag 116 = .ok (.goto (-109), 3) := by decide +kernel
theorem dX3_behindTag_119 : decode cX3_behindTag 119 = .ok (.aload_n 0, 1) := by decide +kernel
theorem dX3_behindTag_120 : decode cX3_behindTag 120 = .ok (.getfield 9, 3) := by decide +kernel
theorem dX3_behindTag_123 : decode cX3_behindTag 123 = .ok (.invokevirtual 23, 3) := by decide +kernel
theorem dX3_behindTag_126 : decode cX3_behindTag 126 = .ok (.ireturn, 1) := by decide +kernel
set_option maxRecDepth 20000 in
theorem ggX3_isNamed_J0_length_8abf5 : GoodIn wsX3_isNamed wsJ0_length_8abf5 := goodIn_r _ [6, 7, 8, 9, 10, 5, 11, 12, 13] (by decide +kernel) (by decide +kernel)
set_option maxRecDepth 20000 in
theorem gX3_isNamed_J0_length_8abf5 : GoodIn wsX3_isNamed (wsV RX3 90 RJ0 yJ0_length_8abf5 wsJ0_length_8abf5) := goodIn_app (goodIn_of _ (by decide +kernel)) ggX3_isNamed_J0_length_8abf5
set_option maxRecDepth 20000 in
theorem ggX3_isNamed_X5_holdsInAnyCase : GoodIn wsX3_isNamed wsX5_holdsInAnyCase := goodIn_r _ [18, 19, 3, 4, 5, 6, 7, 8, 9, 10, 11, 12, 13, 20, 21, 22, 17, 23, 24, 25, 26, 27, 28, 29, 30, 31, 32, 33, 34, 35, 36, 37, 38, 39, 40, 41, 42, 43, 44, 45, 46, 47, 48, 49, 50, 51, 52, 53, 54, 55, 56, 57, 58, 59, 60, 61, 62, 66, 67] (by decide +kernel) (by decide +kernel)
set_option maxRecDepth 20000 in
theorem gX3_isNamed_X5_holdsInAnyCase : GoodIn wsX3_isNamed (wsV RX3 125 RX5 yX5_holdsInAnyCase wsX5_holdsInAnyCase) := goodIn_app (goodIn_of _ (by decide +kernel)) ggX3_isNamed_X5_holdsInAnyCase
theorem dX3_isNamed_0 : decode cX3_isNamed 0 = .ok (.iload_n 2, 1) := by decide +kernel
theorem dX3_isNamed_1 : decode cX3_isNamed 1 = .ok (.iload_n 1, 1) := by decide +kernel
theorem dX3_isNamed_2 : decode cX3_isNamed 2 = .ok (.isub, 1) := by decide +kernel
theorem dX3_isNamed_3 : decode cX3_isNamed 3 = .ok (.aload_n 3, 1) := by decide +kernel
theorem dX3_isNamed_4 : decode cX3_isNamed 4 = .ok (.invokevirtual 90, 3) := by decide +kernel
theorem dX3_isNamed_7 : decode cX3_isNamed 7 = .ok (.if_icmp .ne 19, 3) := by decide +kernel
theorem dX3_isNamed_10 : decode cX3_isNamed 10 = .ok (.aload_n 0, 1) := by decide +kernel
theorem dX3_isNamed_11 : decode cX3_isNamed 11 = .ok (.getfield 9, 3) := by decide +kernel
theorem dX3_isNamed_14 : decode cX3_isNamed 14 = .ok (.iload_n 1, 1) := by decide +kernel
theorem dX3_isNamed_15 : decode cX3_isNamed 15 = .ok (.aload_n 3, 1) := by decide +kernel
theorem dX3_isNamed_16 : decode cX3_isNamed 16 = .ok (.invokevirtual 125, 3) := by decide +kernel
theorem dX3_isNamed_19 : decode cX3_isNamed 19 = .ok (.ifCond .eq 7, 3) := by decide +kernel
theorem dX3_isNamed_22 : decode cX3_isNamed 22 = .ok (.iconst 1, 1) := by decide +kernel
theorem dX3_isNamed_23 : decode cX3_isNamed 23 = .ok (.goto 4, 3) := by decide +kernel
theorem dX3_isNamed_26 : decode cX3_isNamed 26 = .ok (.iconst 0, 1) := by decide +kernel
theorem dX3_isNamed_27 : decode cX3_isNamed 27 = .ok (.ireturn, 1) := by decide +kernel
set_option maxRecDepth 20000 in
theorem ggX3_isBreak_X5_get : GoodIn wsX3_isBreak wsX5_get := goodIn_r _ [6, 7, 8, 72, 73] (by decide +kernel) (by decide +kernel)
set_option maxRecDepth 20000 in
theorem gX3_isBreak_X5_get : GoodIn wsX3_isBreak (wsV RX3 29 RX5 yX5_get wsX5_get) := goodIn_app (goodIn_of _ (by decide +kernel)) ggX3_isBreak_X5_get
set_option maxRecDepth 20000 in
theorem ggX3_isBreak_X5_holdsInAnyCase : GoodIn wsX3_isBreak wsX5_holdsInAnyCase := goodIn_r _ [12, 13, 14, 15, 16, 17, 18, 19, 20, 21, 22, 23, 24, 25, 3, 4, 5, 6, 7, 8, 26, 27, 28, 29, 30, 31, 32, 33, 34, 35, 36, 37, 38, 39, 40, 41, 42, 43, 44, 45, 46, 47, 48, 49, 50, 51, 52, 53, 54, 55, 56, 57, 58, 59, 60, 61, 62, 72, 73] (by decide +kernel) (by decide +kernel)
set_option maxRecDepth 20000 in
theorem gX3_isBreak_X5_holdsInAnyCase : GoodIn wsX3_isBreak (wsV RX3 125 RX5 yX5_holdsInAnyCase wsX5_holdsInAnyCase) := goodIn_app (goodIn_of _ (by decide +kernel)) ggX3_isBreak_X5_holdsInAnyCase
set_option maxRecDepth 20000 in
theorem ggX3_isBreak_X3_isNamed : GoodIn wsX3_isBreak wsX3_isNamed := goodIn_r _ [67, 1, 68, 14, 15, 16, 17, 18, 19, 20, 21, 22, 23, 24, 9, 10, 11, 5, 12, 13, 25, 3, 4, 6, 7, 8, 26, 27, 28, 29, 30, 31, 32, 33, 34, 35, 36, 37, 38, 39, 40, 41, 42, 43, 44, 45, 46, 47, 48, 49, 50, 51, 52, 53, 54, 55, 56, 57, 58, 59, 60, 61, 62, 69, 70, 71, 72, 73] (by decide +kernel) (by decide +kernel)
set_option maxRecDepth 20000 in
theorem gX3_isBreak_X3_isNamed : GoodIn wsX3_isBreak (wsV RX3 103 RX3 yX3_isNamed wsX3_isNamed) := goodIn_app (goodIn_of _ (by decide +kernel)) ggX3_isBreak_X3_isNamed
theorem dX3_isBreak_0 : decode cX3_isBreak 0 = .ok (.aload_n 0, 1) := by decide +kernel
theorem dX3_isBreak_1 : decode cX3_isBreak 1 = .ok (.getfield 9, 3) := by decide +kernel
theorem dX3_isBreak_4 : decode cX3_isBreak 4 = .ok (.iload_n 1, 1) := by decide +kernel
theorem dX3_isBreak_5 : decode cX3_isBreak 5 = .ok (.iconst 1, 1) := by decide +kernel
theorem dX3_isBreak_6 : decode cX3_isBreak 6 = .ok (.iadd, 1) := by decide +kernel
theorem dX3_isBreak_7 : decode cX3_isBreak 7 = .ok (.invokevirtual 29, 3) := by decide +kernel
theorem dX3_isBreak_10 : decode cX3_isBreak 10 = .ok (.istore_n 3, 1) := by decide +kernel
theorem dX3_isBreak_11 : decode cX3_isBreak 11 = .ok (.iload_n 2, 1) := by decide +kernel
theorem dX3_isBreak_12 : decode cX3_isBreak 12 = .ok (.iload_n 1, 1) := by decide +kernel
theorem dX3_isBreak_13 : decode cX3_isBreak 13 = .ok (.isub, 1) := by decide +kernel
theorem dX3_isBreak_14 : decode cX3_isBreak 14 = .ok (.iconst 2, 1) := by decide +kernel
theorem dX3_isBreak_15 : decode cX3_isBreak 15 = .ok (.if_icmp .ne 32, 3) := by decide +kernel
theorem dX3_isBreak_18 : decode cX3_isBreak 18 = .ok (.aload_n 0, 1) := by decide +kernel
theorem dX3_isBreak_19 : decode cX3_isBreak 19 = .ok (.getfield 9, 3) := by decide +kernel
theorem dX3_isBreak_22 : decode cX3_isBreak 22 = .ok (.iload_n 1, 1) := by decide +kernel
theorem dX3_isBreak_23 : decode cX3_isBreak 23 = .ok (.ldc 128, 2) := by decide +kernel
theorem dX3_isBreak_25 : decode cX3_isBreak 25 = .ok (.invokevirtual 125, 3) := by decide +kernel
theorem dX3_isBreak_28 : decode cX3_isBreak 28 = .ok (.ifCond .eq 19, 3) := by decide +kernel
theorem dX3_isBreak_31 : decode cX3_isBreak 31 = .ok (.iload_n 3, 1) := by decide +kernel
theorem dX3_isBreak_32 : decode cX3_isBreak 32 = .ok (.bipush 49, 2) := by decide +kernel
theorem dX3_isBreak_34 : decode cX3_isBreak 34 = .ok (.if_icmp .lt 13, 3) := by decide +kernel
theorem dX3_isBreak_37 : decode cX3_isBreak 37 = .ok (.iload_n 3, 1) := by decide +kernel
theorem dX3_isBreak_38 : decode cX3_isBreak 38 = .ok (.bipush 54, 2) := by decide +kernel
theorem dX3_isBreak_40 : decode cX3_isBreak 40 = .ok (.if_icmp .gt 7, 3) := by decide +kernel
theorem dX3_isBreak_43 : decode cX3_isBreak 43 = .ok (.iconst 1, 1) := by decide +kernel
theorem dX3_isBreak_44 : decode cX3_isBreak 44 = .ok (.goto 4, 3) := by decide +kernel
theorem dX3_isBreak_47 : decode cX3_isBreak 47 = .ok (.iconst 0, 1) := by decide +kernel
theorem dX3_isBreak_48 : decode cX3_isBreak 48 = .ok (.istore 4, 2) := by decide +kernel
theorem dX3_isBreak_50 : decode cX3_isBreak 50 = .ok (.iload 4, 2) := by decide +kernel
theorem dX3_isBreak_52 : decode cX3_isBreak 52 = .ok (.ifCond .ne 113, 3) := by decide +kernel
theorem dX3_isBreak_55 : decode cX3_isBreak 55 = .ok (.aload_n 0, 1) := by decide +kernel
theorem dX3_isBreak_56 : decode cX3_isBreak 56 = .ok (.iload_n 1, 1) := by decide +kernel
theorem dX3_isBreak_57 : decode cX3_isBreak 57 = .ok (.iload_n 2, 1) := by decide +kernel
theorem dX3_isBreak_58 : decode cX3_isBreak 58 = .ok (.ldc 130, 2) := by decide +kernel
theorem dX3_isBreak_60 : decode cX3_isBreak 60 = .ok (.invokevirtual 103, 3) := by decide +kernel
theorem dX3_isBreak_63 : decode cX3_isBreak 63 = .ok (.ifCond .ne 102, 3) := by decide +kernel
theorem dX3_isBreak_66 : decode cX3_isBreak 66 = .ok (.aload_n 0, 1) := by decide +kernel
theorem dX3_isBreak_67 : decode cX3_isBreak 67 = .ok (.iload_n 1, 1) := by decide +kernel
theorem dX3_isBreak_68 : decode cX3_isBreak 68 = .ok (.iload_n 2, 1) := by decide +kernel
theorem dX3_isBreak_69 : decode cX3_isBreak 69 = .ok (.ldc 132, 2) := by decide +kernel
theorem dX3_isBreak_71 : decode cX3_isBreak 71 = .ok (.invokevirtual 103, 3) := by decide +kernel
theorem dX3_isBreak_74 : decode cX3_isBreak 74 = .ok (.ifCond .ne 91, 3) := by decide +kernel
theorem dX3_isBreak_77 : decode cX3_isBreak 77 = .ok (.aload_n 0, 1) := by decide +kernel
theorem dX3_isBreak_78 : decode cX3_isBreak 78 = .ok (.iload_n 1, 1) := by decide +kernel
theorem dX3_isBreak_79 : decode cX3_isBreak 79 = .ok (.iload_n 2, 1) := by decide +kernel
theorem dX3_isBreak_80 : decode cX3_isBreak 80 = .ok (.ldc 134, 2) := by decide +kernel
theorem dX3_isBreak_82 : decode cX3_isBreak 82 = .ok (.invokevirtual 103, 3) := by decide +kernel
theorem dX3_isBreak_85 : decode cX3_isBreak 85 = .ok (.ifCond .ne 80, 3) := by decide +kernel
theorem dX3_isBreak_88 : decode cX3_isBreak 88 = .ok (.aload_n 0, 1) := by decide +kernel
theorem dX3_isBreak_89 : decode cX3_isBreak 89 = .ok (.iload_n 1, 1) := by decide +kernel
theorem dX3_isBreak_90 : decode cX3_isBreak 90 = .ok (.iload_n 2, 1) := by decide +kernel
theorem dX3_isBreak_91 : decode cX3_isBreak 91 = .ok (.ldc 136, 2) := by decide +kernel
theorem dX3_isBreak_93 : decode cX3_isBreak 93 = .ok (.invokevirtual 103, 3) := by decide +kernel
theorem dX3_isBreak_96 : decode cX3_isBreak 96 = .ok (.ifCond .ne 69, 3) := by decide +kernel
theorem dX3_isBreak_99 : decode cX3_isBreak 99 = .ok (.aload_n 0, 1) := by decide +kernel
theorem dX3_isBreak_100 : decode cX3_isBreak 100 = .ok (.iload_n 1, 1) := by decide +kernel
theorem dX3_isBreak_101 : decode cX3_isBreak 101 = .ok (.iload_n 2, 1) := by decide +kernel
theorem dX3_isBreak_102 : decode cX3_isBreak 102 = .ok (.ldc 138, 2) := by decide +kernel
theorem dX3_isBreak_104 : decode cX3_isBreak 104 = .ok (.invokevirtual 103, 3) := by decide +kernel
theorem dX3_isBreak_107 : decode cX3_isBreak 107 = .ok (.ifCond .ne 58, 3) := by decide +kernel
theorem dX3_isBreak_110 : decode cX3_isBreak 110 = .ok (.aload_n 0, 1) := by decide +kernel
theorem dX3_isBreak_111 : decode cX3_isBreak 111 = .ok (.iload_n 1, 1) := by decide +kernel
theorem dX3_isBreak_112 : decode cX3_isBreak 112 = .ok (.iload_n 2, 1) := by decide +kernel
theorem dX3_isBreak_113 : decode cX3_isBreak 113 = .ok (.ldc 140, 2) := by decide +kernel
theorem dX3_isBreak_115 : decode cX3_isBreak 115 = .ok (.invokevirtual 103, 3) := by decide +kernel
theorem dX3_isBreak_118 : decode cX3_isBreak 118 = .ok (.ifCond .ne 47, 3) := by decide +kernel
theorem dX3_isBreak_121 : decode cX3_isBreak 121 = .ok (.aload_n 0, 1) := by decide +kernel
theorem dX3_isBreak_122 : decode cX3_isBreak 122 = .ok (.iload_n 1, 1) := by decide +kernel
theorem dX3_isBreak_123 : decode cX3_isBreak 123 = .ok (.iload_n 2, 1) := by decide +kernel
theorem dX3_isBreak_124 : decode cX3_isBreak 124 = .ok (.ldc 142, 2) := by decide +kernel
theorem dX3_isBreak_126 : decode cX3_isBreak 126 = .ok (.invokevirtual 103, 3) := by decide +kernel
theorem dX3_isBreak_129 : decode cX3_isBreak 129 = .ok (.ifCond .ne 36, 3) := by decide +kernel
theorem dX3_isBreak_132 : decode cX3_isBreak 132 = .ok (.aload_n 0, 1) := by decide +kernel
theorem dX3_isBreak_133 : decode cX3_isBreak 133 = .ok (.iload_n 1, 1) := by decide +kernel
theorem dX3_isBreak_134 : decode cX3_isBreak 134 = .ok (.iload_n 2, 1) := by decide +kernel
theorem dX3_isBreak_135 : decode cX3_isBreak 135 = .ok (.ldc 144, 2) := by decide +kernel
theorem dX3_isBreak_137 : decode cX3_isBreak 137 = .ok (.invokevirtual 103, 3) := by decide +kernel
theorem dX3_isBreak_140 : decode cX3_isBreak 140 = .ok (.ifCond .ne 25, 3) := by decide +kernel
theorem dX3_isBreak_143 : decode cX3_isBreak 143 = .ok (.aload_n 0, 1) := by decide +kernel
theorem dX3_isBreak_144 : decode cX3_isBreak 144 = .ok (.iload_n 1, 1) := by decide +kernel
theorem dX3_isBreak_145 : decode cX3_isBreak 145 = .ok (.iload_n 2, 1) := by decide +kernel
theorem dX3_isBreak_146 : decode cX3_isBreak 146 = .ok (.ldc 146, 2) := by decide +kernel
theorem dX3_isBreak_148 : decode cX3_isBreak 148 = .ok (.invokevirtual 103, 3) := by decide +kernel
theorem dX3_isBreak_151 : decode cX3_isBreak 151 = .ok (.ifCond .ne 14, 3) := by decide +kernel
theorem dX3_isBreak_154 : decode cX3_isBreak 154 = .ok (.aload_n 0, 1) := by decide +kernel
theorem dX3_isBreak_155 : decode cX3_isBreak 155 = .ok (.iload_n 1, 1) := by decide +kernel
theorem dX3_isBreak_156 : decode cX3_isBreak 156 = .ok (.iload_n 2, 1) := by decide +kernel
theorem dX3_isBreak_157 : decode cX3_isBreak 157 = .ok (.ldc 148, 2) := by decide +kernel
theorem dX3_isBreak_159 : decode cX3_isBreak 159 = .ok (.invokevirtual 103, 3) := by decide +kernel
theorem dX3_isBreak_162 : decode cX3_isBreak 162 = .ok (.ifCond .eq 7, 3) := by decide +kernel
theorem dX3_isBreak_165 : decode cX3_isBreak 165 = .ok (.iconst 1, 1) := by decide +kernel
theorem dX3_isBreak_166 : decode cX3_isBreak 166 = .ok (.goto 4, 3) := by decide +kernel
theorem dX3_isBreak_169 : decode cX3_isBreak 169 = .ok (.iconst 0, 1) := by decide +kernel
theorem dX3_isBreak_170 : decode cX3_isBreak 170 = .ok (.ireturn, 1) := by decide +kernel
set_option maxRecDepth 20000 in
theorem ggX3_behindHidden_X3_isNamed : GoodIn wsX3_behindHidden wsX3_isNamed := goodIn_r _ [5, 6, 7, 8, 9, 10, 11, 12, 13, 14, 15, 16, 17, 18, 19, 20, 21, 22, 23, 24, 25, 26, 27, 28, 29, 30, 31, 32, 33, 34, 35, 36, 37, 38, 39, 40, 41, 42, 43, 44, 45, 46, 47, 48, 49, 50, 51, 52, 53, 54, 55, 56, 57, 58, 59, 60, 61, 62, 63, 64, 65, 66, 67, 87, 88, 89, 90, 91] (by decide +kernel) (by decide +kernel)
set_option maxRecDepth 20000 in
theorem gX3_behindHidden_X3_isNamed : GoodIn wsX3_behindHidden (wsV RX3 103 RX3 yX3_isNamed wsX3_isNamed) := goodIn_app (goodIn_of _ (by decide +kernel)) ggX3_behindHidden_X3_isNamed
set_option maxRecDepth 20000 in
theorem ggX3_behindHidden_X3_endingTag : GoodIn wsX3_behindHidden wsX3_endingTag := goodIn_r _ [71, 6, 72, 73, 74, 22, 75, 29, 76, 26, 27, 28, 30, 19, 20, 21, 23, 24, 8, 9, 10, 11, 12, 13, 14, 15, 16, 17, 18, 25, 31, 32, 33, 34, 35, 36, 37, 38, 39, 40, 41, 42, 43, 44, 45, 46, 47, 48, 49, 50, 51, 52, 53, 54, 55, 56, 57, 58, 59, 60, 61, 62, 63, 64, 65, 66, 67, 7, 77, 78, 79, 80, 81, 82, 83, 84, 85, 86, 87, 88, 89, 90, 91] (by decide +kernel) (by decide +kernel)
set_option maxRecDepth 20000 in
theorem gX3_behindHidden_X3_endingTag : GoodIn wsX3_behindHidden (wsV RX3 152 RX3 yX3_endingTag wsX3_endingTag) := goodIn_app (goodIn_of _ (by decide +kernel)) ggX3_behindHidden_X3_endingTag
theorem dX3_behindHidden_0 : decode cX3_behindHidden 0 = .ok (.aload_n 0, 1) := by decide +kernel
theorem dX3_behindHidden_1 : decode cX3_behindHidden 1 = .ok (.iload_n 1, 1) := by decide +kernel
theorem dX3_behindHidden_2 : decode cX3_behindHidden 2 = .ok (.iload_n 2, 1) := by decide +kernel
theorem dX3_behindHidden_3 : decode cX3_behindHidden 3 = .ok (.ldc 150, 2) := by decide +kernel
theorem dX3_behindHidden_5 : decode cX3_behindHidden 5 = .ok (.invokevirtual 103, 3) := by decide +kernel
theorem dX3_behindHidden_8 : decode cX3_behindHidden 8 = .ok (.ifCond .eq 11, 3) := by decide +kernel
theorem dX3_behindHidden_11 : decode cX3_behindHidden 11 = .ok (.aload_n 0, 1) := by decide +kernel
theorem dX3_behindHidden_12 : decode cX3_behindHidden 12 = .ok (.ldc 150, 2) := by decide +kernel
theorem dX3_behindHidden_14 : decode cX3_behindHidden 14 = .ok (.iload_n 3, 1) := by decide +kernel
theorem dX3_behindHidden_15 : decode cX3_behindHidden 15 = .ok (.invokevirtual 152, 3) := by decide +kernel
theorem dX3_behindHidden_18 : decode cX3_behindHidden 18 = .ok (.ireturn, 1) := by decide +kernel
theorem dX3_behindHidden_19 : decode cX3_behindHidden 19 = .ok (.aload_n 0, 1) := by decide +kernel
theorem dX3_behindHidden_20 : decode cX3_behindHidden 20 = .ok (.iload_n 1, 1) := by decide +kernel
theorem dX3_behindHidden_21 : decode cX3_behindHidden 21 = .ok (.iload_n 2, 1) := by decide +kernel
theorem dX3_behindHidden_22 : decode cX3_behindHidden 22 = .ok (.ldc 155, 2) := by decide +kernel
theorem dX3_behindHidden_24 : decode cX3_behindHidden 24 = .ok (.invokevirtual 103, 3) := by decide +kernel
theorem dX3_behindHidden_27 : decode cX3_behindHidden 27 = .ok (.ifCond .eq 11, 3) := by decide +kernel
theorem dX3_behindHidden_30 : decode cX3_behindHidden 30 = .ok (.aload_n 0, 1) := by decide +kernel
theorem dX3_behindHidden_31 : decode cX3_behindHidden 31 = .ok (.ldc 155, 2) := by decide +kernel
theorem dX3_behindHidden_33 : decode cX3_behindHidden 33 = .ok (.iload_n 3, 1) := by decide +kernel
theorem dX3_behindHidden_34 : decode cX3_behindHidden 34 = .ok (.invokevirtual 152, 3) := by decide +kernel
theorem dX3_behindHidden_37 : decode cX3_behindHidden 37 = .ok (.ireturn, 1) := by decide +kernel
theorem dX3_behindHidden_38 : decode cX3_behindHidden 38 = .ok (.aload_n 0, 1) := by decide +kernel
theorem dX3_behindHidden_39 : decode cX3_behindHidden 39 = .ok (.iload_n 1, 1) := by decide +kernel
theorem dX3_behindHidden_40 : decode cX3_behindHidden 40 = .ok (.iload_n 2, 1) := by decide +kernel
theorem dX3_behindHidden_41 : decode cX3_behindHidden 41 = .ok (.ldc 157, 2) := by decide +kernel
theorem dX3_behindHidden_43 : decode cX3_behindHidden 43 = .ok (.invokevirtual 103, 3) := by decide +kernel
theorem dX3_behindHidden_46 : decode cX3_behindHidden 46 = .ok (.ifCond .eq 13, 3) := by decide +kernel
theorem dX3_behindHidden_49 : decode cX3_behindHidden 49 = .ok (.aload_n 0, 1) := by decide +kernel
theorem dX3_behindHidden_50 : decode cX3_behindHidden 50 = .ok (.ldc 157, 2) := by decide +kernel
theorem dX3_behindHidden_52 : decode cX3_behindHidden 52 = .ok (.iload_n 3, 1) := by decide +kernel
theorem dX3_behindHidden_53 : decode cX3_behindHidden 53 = .ok (.invokevirtual 152, 3) := by decide +kernel
theorem dX3_behindHidden_56 : decode cX3_behindHidden 56 = .ok (.goto 4, 3) := by decide +kernel
theorem dX3_behindHidden_59 : decode cX3_behindHidden 59 = .ok (.iload_n 3, 1) := by decide +kernel
theorem dX3_behindHidden_60 : decode cX3_behindHidden 60 = .ok (.ireturn, 1) := by decide +kernel
set_option maxRecDepth 20000 in
theorem ggX3_endingTag_X5_size : GoodIn wsX3_endingTag wsX5_size := goodIn_r _ [6, 7, 81, 82] (by decide +kernel) (by decide +kernel)
set_option maxRecDepth 20000 in
theorem gX3_endingTag_X5_size : GoodIn wsX3_endingTag (wsV RX3 23 RX5 yX5_size wsX5_size) := goodIn_app (goodIn_of _ (by decide +kernel)) ggX3_endingTag_X5_size
set_option maxRecDepth 20000 in
theorem ggX3_endingTag_X5_get : GoodIn wsX3_endingTag wsX5_get := goodIn_r _ [11, 7, 12, 81, 82] (by decide +kernel) (by decide +kernel)
set_option maxRecDepth 20000 in
theorem gX3_endingTag_X5_get : GoodIn wsX3_endingTag (wsV RX3 29 RX5 yX5_get wsX5_get) := goodIn_app (goodIn_of _ (by decide +kernel)) ggX3_endingTag_X5_get
set_option maxRecDepth 20000 in
theorem ggX3_endingTag_X5_holdsInAnyCase : GoodIn wsX3_endingTag wsX5_holdsInAnyCase := goodIn_r _ [16, 17, 18, 19, 20, 21, 22, 23, 24, 25, 26, 27, 28, 29, 9, 10, 5, 11, 7, 12, 30, 31, 32, 33, 34, 35, 36, 37, 38, 39, 40, 41, 42, 43, 44, 45, 46, 47, 48, 49, 50, 51, 52, 53, 54, 55, 56, 57, 58, 59, 60, 61, 62, 63, 64, 65, 66, 81, 82] (by decide +kernel) (by decide +kernel)
set_option maxRecDepth 20000 in
theorem gX3_endingTag_X5_holdsInAnyCase : GoodIn wsX3_endingTag (wsV RX3 125 RX5 yX5_holdsInAnyCase wsX5_holdsInAnyCase) := goodIn_app (goodIn_of _ (by decide +kernel)) ggX3_endingTag_X5_holdsInAnyCase
set_option maxRecDepth 20000 in
theorem ggX3_endingTag_J0_length_8abf5 : GoodIn wsX3_endingTag wsJ0_length_8abf5 := goodIn_r _ [21, 22, 23, 24, 25, 20, 26, 27, 28] (by decide +kernel) (by decide +kernel)
set_option maxRecDepth 20000 in
theorem gX3_endingTag_J0_length_8abf5 : GoodIn wsX3_endingTag (wsV RX3 90 RJ0 yJ0_length_8abf5 wsJ0_length_8abf5) := goodIn_app (goodIn_of _ (by decide +kernel)) ggX3_endingTag_J0_length_8abf5
set_option maxRecDepth 20000 in
theorem ggX3_endingTag_X0_isLetterOrDigit : GoodIn wsX3_endingTag wsX0_isLetterOrDigit := goodIn_r _ [71, 72, 73, 70, 74, 75, 76, 77] (by decide +kernel) (by decide +kernel)
set_option maxRecDepth 20000 in
theorem gX3_endingTag_X0_isLetterOrDigit : GoodIn wsX3_endingTag (va_wsS RX3 159 yX0_isLetterOrDigit wsX0_isLetterOrDigit) := goodIn_app (goodIn_of _ (by decide +kernel)) ggX3_endingTag_X0_isLetterOrDigit
theorem dX3_endingTag_0 : decode cX3_endingTag 0 = .ok (.iload_n 2, 1) := by decide +kernel
theorem dX3_endingTag_1 : decode cX3_endingTag 1 = .ok (.istore_n 3, 1) := by decide +kernel
theorem dX3_endingTag_2 : decode cX3_endingTag 2 = .ok (.iload_n 3, 1) := by decide +kernel
theorem dX3_endingTag_3 : decode cX3_endingTag 3 = .ok (.aload_n 0, 1) := by decide +kernel
theorem dX3_endingTag_4 : decode cX3_endingTag 4 = .ok (.getfield 9, 3) := by decide +kernel
theorem dX3_endingTag_7 : decode cX3_endingTag 7 = .ok (.invokevirtual 23, 3) := by decide +kernel
theorem dX3_endingTag_10 : decode cX3_endingTag 10 = .ok (.if_icmp .ge 74, 3) := by decide +kernel
theorem dX3_endingTag_13 : decode cX3_endingTag 13 = .ok (.aload_n 0, 1) := by decide +kernel
theorem dX3_endingTag_14 : decode cX3_endingTag 14 = .ok (.getfield 9, 3) := by decide +kernel
theorem dX3_endingTag_17 : decode cX3_endingTag 17 = .ok (.iload_n 3, 1) := by decide +kernel
theorem dX3_endingTag_18 : decode cX3_endingTag 18 = .ok (.invokevirtual 29, 3) := by decide +kernel
theorem dX3_endingTag_21 : decode cX3_endingTag 21 = .ok (.bipush 60, 2) := by decide +kernel
theorem dX3_endingTag_23 : decode cX3_endingTag 23 = .ok (.if_icmp .ne 55, 3) := by decide +kernel
theorem dX3_endingTag_26 : decode cX3_endingTag 26 = .ok (.aload_n 0, 1) := by decide +kernel
theorem dX3_endingTag_27 : decode cX3_endingTag 27 = .ok (.getfield 9, 3) := by decide +kernel
theorem dX3_endingTag_30 : decode cX3_endingTag 30 = .ok (.iload_n 3, 1) := by decide +kernel
theorem dX3_endingTag_31 : decode cX3_endingTag 31 = .ok (.iconst 1, 1) := by decide +kernel
theorem dX3_endingTag_32 : decode cX3_endingTag 32 = .ok (.iadd, 1) := by decide +kernel
theorem dX3_endingTag_33 : decode cX3_endingTag 33 = .ok (.invokevirtual 29, 3) := by decide +kernel
theorem dX3_endingTag_36 : decode cX3_endingTag 36 = .ok (.bipush 47, 2) := by decide +kernel
theorem dX3_endingTag_38 : decode cX3_endingTag 38 = .ok (.if_icmp .ne 40, 3) := by decide +kernel
theorem dX3_endingTag_41 : decode cX3_endingTag 41 = .ok (.aload_n 0, 1) := by decide +kernel
theorem dX3_endingTag_42 : decode cX3_endingTag 42 = .ok (.getfield 9, 3) := by decide +kernel
theorem dX3_endingTag_45 : decode cX3_endingTag 45 = .ok (.iload_n 3, 1) := by decide +kernel
theorem dX3_endingTag_46 : decode cX3_endingTag 46 = .ok (.iconst 2, 1) := by decide +kernel
theorem dX3_endingTag_47 : decode cX3_endingTag 47 = .ok (.iadd, 1) := by decide +kernel
theorem dX3_endingTag_48 : decode cX3_endingTag 48 = .ok (.aload_n 1, 1) := by decide +kernel
theorem dX3_endingTag_49 : decode cX3_endingTag 49 = .ok (.invokevirtual 125, 3) := by decide +kernel
theorem dX3_endingTag_52 : decode cX3_endingTag 52 = .ok (.ifCond .eq 26, 3) := by decide +kernel
theorem dX3_endingTag_55 : decode cX3_endingTag 55 = .ok (.aload_n 0, 1) := by decide +kernel
theorem dX3_endingTag_56 : decode cX3_endingTag 56 = .ok (.getfield 9, 3) := by decide +kernel
theorem dX3_endingTag_59 : decode cX3_endingTag 59 = .ok (.iload_n 3, 1) := by decide +kernel
theorem dX3_endingTag_60 : decode cX3_endingTag 60 = .ok (.iconst 2, 1) := by decide +kernel
theorem dX3_endingTag_61 : decode cX3_endingTag 61 = .ok (.iadd, 1) := by decide +kernel
theorem dX3_endingTag_62 : decode cX3_endingTag 62 = .ok (.aload_n 1, 1) := by decide +kernel
theorem dX3_endingTag_63 : decode cX3_endingTag 63 = .ok (.invokevirtual 90, 3) := by decide +kernel
theorem dX3_endingTag_66 : decode cX3_endingTag 66 = .ok (.iadd, 1) := by decide +kernel
theorem dX3_endingTag_67 : decode cX3_endingTag 67 = .ok (.invokevirtual 29, 3) := by decide +kernel
theorem dX3_endingTag_70 : decode cX3_endingTag 70 = .ok (.invokestatic 159, 3) := by decide +kernel
theorem dX3_endingTag_73 : decode cX3_endingTag 73 = .ok (.ifCond .ne 5, 3) := by decide +kernel
theorem dX3_endingTag_76 : decode cX3_endingTag 76 = .ok (.iload_n 3, 1) := by decide +kernel
theorem dX3_endingTag_77 : decode cX3_endingTag 77 = .ok (.ireturn, 1) := by decide +kernel
theorem dX3_endingTag_78 : decode cX3_endingTag 78 = .ok (.iinc 3 1, 3) := by decide +kernel
theorem dX3_endingTag_81 : decode cX3_endingTag 81 = .ok (.goto (-79), 3) := by decide +kernel
theorem dX3_endingTag_84 : decode cX3_endingTag 84 = .ok (.aload_n 0, 1) := by decide +kernel
theorem dX3_endingTag_85 : decode cX3_endingTag 85 = .ok (.getfield 9, 3) := by decide +kernel
theorem dX3_endingTag_88 : decode cX3_endingTag 88 = .ok (.invokevirtual 23, 3) := by decide +kernel
theorem dX3_endingTag_91 : decode cX3_endingTag 91 = .ok (.ireturn, 1) := by decide +kernel
set_option maxRecDepth 20000 in
theorem ggX3_readNumber_X5_get : GoodIn wsX3_readNumber wsX5_get := goodIn_r _ [10, 11, 12, 37, 38] (by decide +kernel) (by decide +kernel)
set_option maxRecDepth 20000 in
theorem gX3_readNumber_X5_get : GoodIn wsX3_readNumber (wsV RX3 29 RX5 yX5_get wsX5_get) := goodIn_app (goodIn_of _ (by decide +kernel)) ggX3_readNumber_X5_get
set_option maxRecDepth 20000 in
theorem ggX3_readNumber_X5_size : GoodIn wsX3_readNumber wsX5_size := goodIn_r _ [16, 11, 37, 38] (by decide +kernel) (by decide +kernel)
set_option maxRecDepth 20000 in
theorem gX3_readNumber_X5_size : GoodIn wsX3_readNumber (wsV RX3 23 RX5 yX5_size wsX5_size) := goodIn_app (goodIn_of _ (by decide +kernel)) ggX3_readNumber_X5_size
set_option maxRecDepth 20000 in
theorem ggX3_readNumber_X3_worth : GoodIn wsX3_readNumber wsX3_worth := goodIn_r _ [20, 21, 22, 23, 24] (by decide +kernel) (by decide +kernel)
set_option maxRecDepth 20000 in
theorem gX3_readNumber_X3_worth : GoodIn wsX3_readNumber (va_wsS RX3 162 yX3_worth wsX3_worth) := goodIn_app (goodIn_of _ (by decide +kernel)) ggX3_readNumber_X3_worth
set_option maxRecDepth 20000 in
theorem ggX3_readNumber_X3_write : GoodIn wsX3_readNumber wsX3_write := goodIn_r _ [28, 1, 29, 30, 31, 32, 9, 33, 11, 12, 34, 35, 36, 37, 38] (by decide +kernel) (by decide +kernel)
set_option maxRecDepth 20000 in
theorem gX3_readNumber_X3_write : GoodIn wsX3_readNumber (wsV RX3 65 RX3 yX3_write wsX3_write) := goodIn_app (goodIn_of _ (by decide +kernel)) ggX3_readNumber_X3_write
theorem dX3_readNumber_0 : decode cX3_readNumber 0 = .ok (.aload_n 0, 1) := by decide +kernel
theorem dX3_readNumber_1 : decode cX3_readNumber 1 = .ok (.getfield 9, 3) := by decide +kernel
theorem dX3_readNumber_4 : decode cX3_readNumber 4 = .ok (.iload_n 1, 1) := by decide +kernel
theorem dX3_readNumber_5 : decode cX3_readNumber 5 = .ok (.iconst 2, 1) := by decide +kernel
theorem dX3_readNumber_6 : decode cX3_readNumber 6 = .ok (.iadd, 1) := by decide +kernel
theorem dX3_readNumber_7 : decode cX3_readNumber 7 = .ok (.invokevirtual 29, 3) := by decide +kernel
theorem dX3_readNumber_10 : decode cX3_readNumber 10 = .ok (.bipush 120, 2) := by decide +kernel
theorem dX3_readNumber_12 : decode cX3_readNumber 12 = .ok (.if_icmp .ne 7, 3) := by decide +kernel
theorem dX3_readNumber_15 : decode cX3_readNumber 15 = .ok (.iconst 1, 1) := by decide +kernel
theorem dX3_readNumber_16 : decode cX3_readNumber 16 = .ok (.goto 4, 3) := by decide +kernel
theorem dX3_readNumber_19 : decode cX3_readNumber 19 = .ok (.iconst 0, 1) := by decide +kernel
theorem dX3_readNumber_20 : decode cX3_readNumber 20 = .ok (.istore_n 2, 1) := by decide +kernel
theorem dX3_readNumber_21 : decode cX3_readNumber 21 = .ok (.iload_n 2, 1) := by decide +kernel
theorem dX3_readNumber_22 : decode cX3_readNumber 22 = .ok (.ifCond .eq 9, 3) := by decide +kernel
theorem dX3_readNumber_25 : decode cX3_readNumber 25 = .ok (.iload_n 1, 1) := by decide +kernel
theorem dX3_readNumber_26 : decode cX3_readNumber 26 = .ok (.iconst 3, 1) := by decide +kernel
theorem dX3_readNumber_27 : decode cX3_readNumber 27 = .ok (.iadd, 1) := by decide +kernel
theorem dX3_readNumber_28 : decode cX3_readNumber 28 = .ok (.goto 6, 3) := by decide +kernel
theorem dX3_readNumber_31 : decode cX3_readNumber 31 = .ok (.iload_n 1, 1) := by decide +kernel
theorem dX3_readNumber_32 : decode cX3_readNumber 32 = .ok (.iconst 2, 1) := by decide +kernel
theorem dX3_readNumber_33 : decode cX3_readNumber 33 = .ok (.iadd, 1) := by decide +kernel
theorem dX3_readNumber_34 : decode cX3_readNumber 34 = .ok (.istore_n 3, 1) := by decide +kernel
theorem dX3_readNumber_35 : decode cX3_readNumber 35 = .ok (.iload_n 2, 1) := by decide +kernel
theorem dX3_readNumber_36 : decode cX3_readNumber 36 = .ok (.ifCond .eq 8, 3) := by decide +kernel
theorem dX3_readNumber_39 : decode cX3_readNumber 39 = .ok (.bipush 16, 2) := by decide +kernel
theorem dX3_readNumber_41 : decode cX3_readNumber 41 = .ok (.goto 5, 3) := by decide +kernel
theorem dX3_readNumber_44 : decode cX3_readNumber 44 = .ok (.bipush 10, 2) := by decide +kernel
theorem dX3_readNumber_46 : decode cX3_readNumber 46 = .ok (.istore 4, 2) := by decide +kernel
theorem dX3_readNumber_48 : decode cX3_readNumber 48 = .ok (.iload_n 2, 1) := by decide +kernel
theorem dX3_readNumber_49 : decode cX3_readNumber 49 = .ok (.ifCond .eq 8, 3) := by decide +kernel
theorem dX3_readNumber_52 : decode cX3_readNumber 52 = .ok (.bipush 6, 2) := by decide +kernel
theorem dX3_readNumber_54 : decode cX3_readNumber 54 = .ok (.goto 5, 3) := by decide +kernel
theorem dX3_readNumber_57 : decode cX3_readNumber 57 = .ok (.bipush 7, 2) := by decide +kernel
theorem dX3_readNumber_59 : decode cX3_readNumber 59 = .ok (.istore 5, 2) := by decide +kernel
theorem dX3_readNumber_61 : decode cX3_readNumber 61 = .ok (.iconst 0, 1) := by decide +kernel
theorem dX3_readNumber_62 : decode cX3_readNumber 62 = .ok (.istore 6, 2) := by decide +kernel
theorem dX3_readNumber_64 : decode cX3_readNumber 64 = .ok (.iload_n 3, 1) := by decide +kernel
theorem dX3_readNumber_65 : decode cX3_readNumber 65 = .ok (.istore 7, 2) := by decide +kernel
theorem dX3_readNumber_67 : decode cX3_readNumber 67 = .ok (.iload 7, 2) := by decide +kernel
theorem dX3_readNumber_69 : decode cX3_readNumber 69 = .ok (.aload_n 0, 1) := by decide +kernel
theorem dX3_readNumber_70 : decode cX3_readNumber 70 = .ok (.getfield 9, 3) := by decide +kernel
theorem dX3_readNumber_73 : decode cX3_readNumber 73 = .ok (.invokevirtual 23, 3) := by decide +kernel
theorem dX3_readNumber_76 : decode cX3_readNumber 76 = .ok (.if_icmp .ge 63, 3) := by decide +kernel
theorem dX3_readNumber_79 : decode cX3_readNumber 79 = .ok (.aload_n 0, 1) := by decide +kernel
theorem dX3_readNumber_80 : decode cX3_readNumber 80 = .ok (.getfield 9, 3) := by decide +kernel
theorem dX3_readNumber_83 : decode cX3_readNumber 83 = .ok (.iload 7, 2) := by decide +kernel
theorem dX3_readNumber_85 : decode cX3_readNumber 85 = .ok (.invokevirtual 29, 3) := by decide +kernel
theorem dX3_readNumber_88 : decode cX3_readNumber 88 = .ok (.iload 4, 2) := by decide +kernel
theorem dX3_readNumber_90 : decode cX3_readNumber 90 = .ok (.invokestatic 162, 3) := by decide +kernel
theorem dX3_readNumber_93 : decode cX3_readNumber 93 = .ok (.iconst (-1), 1) := by decide +kernel
theorem dX3_readNumber_94 : decode cX3_readNumber 94 = .ok (.if_icmp .eq 45, 3) := by decide +kernel
theorem dX3_readNumber_97 : decode cX3_readNumber 97 = .ok (.iload 7, 2) := by decide +kernel
theorem dX3_readNumber_99 : decode cX3_readNumber 99 = .ok (.iload_n 3, 1) := by decide +kernel
theorem dX3_readNumber_100 : decode cX3_readNumber 100 = .ok (.isub, 1) := by decide +kernel
theorem dX3_readNumber_101 : decode cX3_readNumber 101 = .ok (.iload 5, 2) := by decide +kernel
theorem dX3_readNumber_103 : decode cX3_readNumber 103 = .ok (.if_icmp .ge 26, 3) := by decide +kernel
theorem dX3_readNumber_106 : decode cX3_readNumber 106 = .ok (.iload 6, 2) := by decide +kernel
theorem dX3_readNumber_108 : decode cX3_readNumber 108 = .ok (.iload 4, 2) := by decide +kernel
theorem dX3_readNumber_110 : decode cX3_readNumber 110 = .ok (.imul, 1) := by decide +kernel
theorem dX3_readNumber_111 : decode cX3_readNumber 111 = .ok (.aload_n 0, 1) := by decide +kernel
theorem dX3_readNumber_112 : decode cX3_readNumber 112 = .ok (.getfield 9, 3) := by decide +kernel
theorem dX3_readNumber_115 : decode cX3_readNumber 115 = .ok (.iload 7, 2) := by decide +kernel
theorem dX3_readNumber_117 : decode cX3_readNumber 117 = .ok (.invokevirtual 29, 3) := by decide +kernel
theorem dX3_readNumber_120 : decode cX3_readNumber 120 = .ok (.iload 4, 2) := by decide +kernel
theorem dX3_readNumber_122 : decode cX3_readNumber 122 = .ok (.invokestatic 162, 3) := by decide +kernel
theorem dX3_readNumber_125 : decode cX3_readNumber 125 = .ok (.iadd, 1) := by decide +kernel
theorem dX3_readNumber_126 : decode cX3_readNumber 126 = .ok (.goto 5, 3) := by decide +kernel
theorem dX3_readNumber_129 : decode cX3_readNumber 129 = .ok (.iload 6, 2) := by decide +kernel
theorem dX3_readNumber_131 : decode cX3_readNumber 131 = .ok (.istore 6, 2) := by decide +kernel
theorem dX3_readNumber_133 : decode cX3_readNumber 133 = .ok (.iinc 7 1, 3) := by decide +kernel
theorem dX3_readNumber_136 : decode cX3_readNumber 136 = .ok (.goto (-69), 3) := by decide +kernel
theorem dX3_readNumber_139 : decode cX3_readNumber 139 = .ok (.iload 7, 2) := by decide +kernel
theorem dX3_readNumber_141 : decode cX3_readNumber 141 = .ok (.iload_n 3, 1) := by decide +kernel
theorem dX3_readNumber_142 : decode cX3_readNumber 142 = .ok (.if_icmp .eq 12, 3) := by decide +kernel
theorem dX3_readNumber_145 : decode cX3_readNumber 145 = .ok (.iload 7, 2) := by decide +kernel
theorem dX3_readNumber_147 : decode cX3_readNumber 147 = .ok (.iload_n 3, 1) := by decide +kernel
theorem dX3_readNumber_148 : decode cX3_readNumber 148 = .ok (.isub, 1) := by decide +kernel
theorem dX3_readNumber_149 : decode cX3_readNumber 149 = .ok (.iload 5, 2) := by decide +kernel
theorem dX3_readNumber_151 : decode cX3_readNumber 151 = .ok (.if_icmp .le 13, 3) := by decide +kernel
theorem dX3_readNumber_154 : decode cX3_readNumber 154 = .ok (.aload_n 0, 1) := by decide +kernel
theorem dX3_readNumber_155 : decode cX3_readNumber 155 = .ok (.bipush 38, 2) := by decide +kernel
theorem dX3_readNumber_157 : decode cX3_readNumber 157 = .ok (.invokevirtual 65, 3) := by decide +kernel
theorem dX3_readNumber_160 : decode cX3_readNumber 160 = .ok (.iload_n 1, 1) := by decide +kernel
theorem dX3_readNumber_161 : decode cX3_readNumber 161 = .ok (.iconst 1, 1) := by decide +kernel
theorem dX3_readNumber_162 : decode cX3_readNumber 162 = .ok (.iadd, 1) := by decide +kernel
theorem dX3_readNumber_163 : decode cX3_readNumber 163 = .ok (.ireturn, 1) := by decide +kernel
theorem dX3_readNumber_164 : decode cX3_readNumber 164 = .ok (.iload 6, 2) := by decide +kernel
theorem dX3_readNumber_166 : decode cX3_readNumber 166 = .ok (.ifCond .eq 24, 3) := by decide +kernel
theorem dX3_readNumber_169 : decode cX3_readNumber 169 = .ok (.iload 6, 2) := by decide +kernel
theorem dX3_readNumber_171 : decode cX3_readNumber 171 = .ok (.ldc 165, 2) := by decide +kernel
theorem dX3_readNumber_173 : decode cX3_readNumber 173 = .ok (.if_icmp .gt 17, 3) := by decide +kernel
theorem dX3_readNumber_176 : decode cX3_readNumber 176 = .ok (.iload 6, 2) := by decide +kernel
theorem dX3_readNumber_178 : decode cX3_readNumber 178 = .ok (.ldc 166, 2) := by decide +kernel
theorem dX3_readNumber_180 : decode cX3_readNumber 180 = .ok (.if_icmp .lt 14, 3) := by decide +kernel
theorem dX3_readNumber_183 : decode cX3_readNumber 183 = .ok (.iload 6, 2) := by decide +kernel
theorem dX3_readNumber_185 : decode cX3_readNumber 185 = .ok (.ldc 167, 2) := by decide +kernel
theorem dX3_readNumber_187 : decode cX3_readNumber 187 = .ok (.if_icmp .gt 7, 3) := by decide +kernel
theorem dX3_readNumber_190 : decode cX3_readNumber 190 = .ok (.iconst 1, 1) := by decide +kernel
theorem dX3_readNumber_191 : decode cX3_readNumber 191 = .ok (.goto 4, 3) := by decide +kernel
theorem dX3_readNumber_194 : decode cX3_readNumber 194 = .ok (.iconst 0, 1) := by decide +kernel
theorem dX3_readNumber_195 : decode cX3_readNumber 195 = .ok (.istore 8, 2) := by decide +kernel
theorem dX3_readNumber_197 : decode cX3_readNumber 197 = .ok (.aload_n 0, 1) := by decide +kernel
theorem dX3_readNumber_198 : decode cX3_readNumber 198 = .ok (.iload 8, 2) := by decide +kernel
theorem dX3_readNumber_200 : decode cX3_readNumber 200 = .ok (.ifCond .eq 8, 3) := by decide +kernel
theorem dX3_readNumber_203 : decode cX3_readNumber 203 = .ok (.ldc 168, 2) := by decide +kernel
theorem dX3_readNumber_205 : decode cX3_readNumber 205 = .ok (.goto 5, 3) := by decide +kernel
theorem dX3_readNumber_208 : decode cX3_readNumber 208 = .ok (.iload 6, 2) := by decide +kernel
theorem dX3_readNumber_210 : decode cX3_readNumber 210 = .ok (.invokevirtual 65, 3) := by decide +kernel
theorem dX3_readNumber_213 : decode cX3_readNumber 213 = .ok (.aload_n 0, 1) := by decide +kernel
theorem dX3_readNumber_214 : decode cX3_readNumber 214 = .ok (.getfield 9, 3) := by decide +kernel
theorem dX3_readNumber_217 : decode cX3_readNumber 217 = .ok (.iload 7, 2) := by decide +kernel
theorem dX3_readNumber_219 : decode cX3_readNumber 219 = .ok (.invokevirtual 29, 3) := by decide +kernel
theorem dX3_readNumber_222 : decode cX3_readNumber 222 = .ok (.bipush 59, 2) := by decide +kernel
theorem dX3_readNumber_224 : decode cX3_readNumber 224 = .ok (.if_icmp .ne 10, 3) := by decide +kernel
theorem dX3_readNumber_227 : decode cX3_readNumber 227 = .ok (.iload 7, 2) := by decide +kernel
theorem dX3_readNumber_229 : decode cX3_readNumber 229 = .ok (.iconst 1, 1) := by decide +kernel
theorem dX3_readNumber_230 : decode cX3_readNumber 230 = .ok (.iadd, 1) := by decide +kernel
theorem dX3_readNumber_231 : decode cX3_readNumber 231 = .ok (.goto 5, 3) := by decide +kernel
theorem dX3_readNumber_234 : decode cX3_readNumber 234 = .ok (.iload 7, 2) := by decide +kernel
theorem dX3_readNumber_236 : decode cX3_readNumber 236 = .ok (.ireturn, 1) := by decide +kernel
set_option maxRecDepth 20000 in
theorem ggX3_worth_X0_isDigit : GoodIn wsX3_worth wsX0_isDigit := goodIn_r _ [4] (by decide +kernel) (by decide +kernel)
set_option maxRecDepth 20000 in
theorem gX3_worth_X0_isDigit : GoodIn wsX3_worth (va_wsS RX3 122 yX0_isDigit wsX0_isDigit) := goodIn_app (goodIn_of _ (by decide +kernel)) ggX3_worth_X0_isDigit
theorem dX3_worth_0 : decode cX3_worth 0 = .ok (.iload_n 0, 1) := by decide +kernel
theorem dX3_worth_1 : decode cX3_worth 1 = .ok (.invokestatic 122, 3) := by decide +kernel
theorem dX3_worth_4 : decode cX3_worth 4 = .ok (.ifCond .eq 8, 3) := by decide +kernel
theorem dX3_worth_7 : decode cX3_worth 7 = .ok (.iload_n 0, 1) := by decide +kernel
theorem dX3_worth_8 : decode cX3_worth 8 = .ok (.bipush 48, 2) := by decide +kernel
theorem dX3_worth_10 : decode cX3_worth 10 = .ok (.isub, 1) := by decide +kernel
theorem dX3_worth_11 : decode cX3_worth 11 = .ok (.ireturn, 1) := by decide +kernel
theorem dX3_worth_12 : decode cX3_worth 12 = .ok (.iload_n 1, 1) := by decide +kernel
theorem dX3_worth_13 : decode cX3_worth 13 = .ok (.bipush 16, 2) := by decide +kernel
theorem dX3_worth_15 : decode cX3_worth 15 = .ok (.if_icmp .ne 23, 3) := by decide +kernel
theorem dX3_worth_18 : decode cX3_worth 18 = .ok (.iload_n 0, 1) := by decide +kernel
theorem dX3_worth_19 : decode cX3_worth 19 = .ok (.bipush 97, 2) := by decide +kernel
theorem dX3_worth_21 : decode cX3_worth 21 = .ok (.if_icmp .lt 17, 3) := by decide +kernel
theorem dX3_worth_24 : decode cX3_worth 24 = .ok (.iload_n 0, 1) := by decide +kernel
theorem dX3_worth_25 : decode cX3_worth 25 = .ok (.bipush 102, 2) := by decide +kernel
theorem dX3_worth_27 : decode cX3_worth 27 = .ok (.if_icmp .gt 11, 3) := by decide +kernel
theorem dX3_worth_30 : decode cX3_worth 30 = .ok (.iload_n 0, 1) := by decide +kernel
theorem dX3_worth_31 : decode cX3_worth 31 = .ok (.bipush 97, 2) := by decide +kernel
theorem dX3_worth_33 : decode cX3_worth 33 = .ok (.isub, 1) := by decide +kernel
theorem dX3_worth_34 : decode cX3_worth 34 = .ok (.bipush 10, 2) := by decide +kernel
theorem dX3_worth_36 : decode cX3_worth 36 = .ok (.iadd, 1) := by decide +kernel
theorem dX3_worth_37 : decode cX3_worth 37 = .ok (.ireturn, 1) := by decide +kernel
theorem dX3_worth_38 : decode cX3_worth 38 = .ok (.iload_n 1, 1) := by decide +kernel
theorem dX3_worth_39 : decode cX3_worth 39 = .ok (.bipush 16, 2) := by decide +kernel
theorem dX3_worth_41 : decode cX3_worth 41 = .ok (.if_icmp .ne 25, 3) := by decide +kernel
theorem dX3_worth_44 : decode cX3_worth 44 = .ok (.iload_n 0, 1) := by decide +kernel
theorem dX3_worth_45 : decode cX3_worth 45 = .ok (.bipush 65, 2) := by decide +kernel
theorem dX3_worth_47 : decode cX3_worth 47 = .ok (.if_icmp .lt 19, 3) := by decide +kernel
theorem dX3_worth_50 : decode cX3_worth 50 = .ok (.iload_n 0, 1) := by decide +kernel
theorem dX3_worth_51 : decode cX3_worth 51 = .ok (.bipush 70, 2) := by decide +kernel
theorem dX3_worth_53 : decode cX3_worth 53 = .ok (.if_icmp .gt 13, 3) := by decide +kernel
theorem dX3_worth_56 : decode cX3_worth 56 = .ok (.iload_n 0, 1) := by decide +kernel
theorem dX3_worth_57 : decode cX3_worth 57 = .ok (.bipush 65, 2) := by decide +kernel
theorem dX3_worth_59 : decode cX3_worth 59 = .ok (.isub, 1) := by decide +kernel
theorem dX3_worth_60 : decode cX3_worth 60 = .ok (.bipush 10, 2) := by decide +kernel
theorem dX3_worth_62 : decode cX3_worth 62 = .ok (.iadd, 1) := by decide +kernel
theorem dX3_worth_63 : decode cX3_worth 63 = .ok (.goto 4, 3) := by decide +kernel
theorem dX3_worth_66 : decode cX3_worth 66 = .ok (.iconst (-1), 1) := by decide +kernel
theorem dX3_worth_67 : decode cX3_worth 67 = .ok (.ireturn, 1) := by decide +kernel
set_option maxRecDepth 20000 in
theorem ggX3_readName_X5_size : GoodIn wsX3_readName wsX5_size := goodIn_r _ [6, 7, 98, 99] (by decide +kernel) (by decide +kernel)
set_option maxRecDepth 20000 in
theorem gX3_readName_X5_size : GoodIn wsX3_readName (wsV RX3 23 RX5 yX5_size wsX5_size) := goodIn_app (goodIn_of _ (by decide +kernel)) ggX3_readName_X5_size
set_option maxRecDepth 20000 in
theorem ggX3_readName_X5_get : GoodIn wsX3_readName wsX5_get := goodIn_r _ [11, 7, 12, 98, 99] (by decide +kernel) (by decide +kernel)
set_option maxRecDepth 20000 in
theorem gX3_readName_X5_get : GoodIn wsX3_readName (wsV RX3 29 RX5 yX5_get wsX5_get) := goodIn_app (goodIn_of _ (by decide +kernel)) ggX3_readName_X5_get
set_option maxRecDepth 20000 in
theorem ggX3_readName_X0_isLetterOrDigit : GoodIn wsX3_readName wsX0_isLetterOrDigit := goodIn_r _ [16, 17, 18, 15, 19, 20, 21, 22] (by decide +kernel) (by decide +kernel)
set_option maxRecDepth 20000 in
theorem gX3_readName_X0_isLetterOrDigit : GoodIn wsX3_readName (va_wsS RX3 159 yX0_isLetterOrDigit wsX0_isLetterOrDigit) := goodIn_app (goodIn_of _ (by decide +kernel)) ggX3_readName_X0_isLetterOrDigit
set_option maxRecDepth 20000 in
theorem ggX3_readName_X3_entity : GoodIn wsX3_readName wsX3_entity := goodIn_r _ [27, 1, 28, 29, 30, 5, 31, 32, 33, 34, 35, 36, 37, 38, 39, 40, 41, 42, 43, 44, 9, 10, 11, 7, 12, 45, 46, 47, 48, 49, 50, 51, 52, 53, 54, 55, 56, 57, 58, 59, 60, 61, 62, 63, 64, 65, 66, 67, 68, 69, 70, 71, 72, 73, 74, 75, 76, 77, 78, 79, 80, 81, 82, 83, 84, 26, 85, 95, 96, 97, 98, 99] (by decide +kernel) (by decide +kernel)
set_option maxRecDepth 20000 in
theorem gX3_readName_X3_entity : GoodIn wsX3_readName (wsV RX3 169 RX3 yX3_entity wsX3_entity) := goodIn_app (goodIn_of _ (by decide +kernel)) ggX3_readName_X3_entity
set_option maxRecDepth 20000 in
theorem ggX3_readName_X3_write : GoodIn wsX3_readName wsX3_write := goodIn_r _ [89, 1, 90, 91, 92, 93, 5, 94, 7, 12, 95, 96, 97, 98, 99] (by decide +kernel) (by decide +kernel)
set_option maxRecDepth 20000 in
theorem gX3_readName_X3_write : GoodIn wsX3_readName (wsV RX3 65 RX3 yX3_write wsX3_write) := goodIn_app (goodIn_of _ (by decide +kernel)) ggX3_readName_X3_write
theorem dX3_readName_0 : decode cX3_readName 0 = .ok (.iload_n 1, 1) := by decide +kernel
theorem dX3_readName_1 : decode cX3_readName 1 = .ok (.iconst 1, 1) := by decide +kernel
theorem dX3_readName_2 : decode cX3_readName 2 = .ok (.iadd, 1) := by decide +kernel
theorem dX3_readName_3 : decode cX3_readName 3 = .ok (.istore_n 2, 1) := by decide +kernel
theorem dX3_readName_4 : decode cX3_readName 4 = .ok (.iload_n 2, 1) := by decide +kernel
theorem dX3_readName_5 : decode cX3_readName 5 = .ok (.aload_n 0, 1) := by decide +kernel
theorem dX3_readName_6 : decode cX3_readName 6 = .ok (.getfield 9, 3) := by decide +kernel
theorem dX3_readName_9 : decode cX3_readName 9 = .ok (.invokevirtual 23, 3) := by decide +kernel
theorem dX3_readName_12 : decode cX3_readName 12 = .ok (.if_icmp .ge 23, 3) := by decide +kernel
theorem dX3_readName_15 : decode cX3_readName 15 = .ok (.aload_n 0, 1) := by decide +kernel
theorem dX3_readName_16 : decode cX3_readName 16 = .ok (.getfield 9, 3) := by decide +kernel
theorem dX3_readName_19 : decode cX3_readName 19 = .ok (.iload_n 2, 1) := by decide +kernel
theorem dX3_readName_20 : decode cX3_readName 20 = .ok (.invokevirtual 29, 3) := by decide +kernel
theorem dX3_readName_23 : decode cX3_readName 23 = .ok (.invokestatic 159, 3) := by decide +kernel
theorem dX3_readName_26 : decode cX3_readName 26 = .ok (.ifCond .eq 9, 3) := by decide +kernel
theorem dX3_readName_29 : decode cX3_readName 29 = .ok (.iinc 2 1, 3) := by decide +kernel
theorem dX3_readName_32 : decode cX3_readName 32 = .ok (.goto (-28), 3) := by decide +kernel
theorem dX3_readName_35 : decode cX3_readName 35 = .ok (.aload_n 0, 1) := by decide +kernel
theorem dX3_readName_36 : decode cX3_readName 36 = .ok (.iload_n 1, 1) := by decide +kernel
theorem dX3_readName_37 : decode cX3_readName 37 = .ok (.iconst 1, 1) := by decide +kernel
theorem dX3_readName_38 : decode cX3_readName 38 = .ok (.iadd, 1) := by decide +kernel
theorem dX3_readName_39 : decode cX3_readName 39 = .ok (.iload_n 2, 1) := by decide +kernel
theorem dX3_readName_40 : decode cX3_readName 40 = .ok (.invokevirtual 169, 3) := by decide +kernel
theorem dX3_readName_43 : decode cX3_readName 43 = .ok (.istore_n 3, 1) := by decide +kernel
theorem dX3_readName_44 : decode cX3_readName 44 = .ok (.iload_n 3, 1) := by decide +kernel
theorem dX3_readName_45 : decode cX3_readName 45 = .ok (.iconst (-1), 1) := by decide +kernel
theorem dX3_readName_46 : decode cX3_readName 46 = .ok (.if_icmp .ne 13, 3) := by decide +kernel
theorem dX3_readName_49 : decode cX3_readName 49 = .ok (.aload_n 0, 1) := by decide +kernel
theorem dX3_readName_50 : decode cX3_readName 50 = .ok (.bipush 38, 2) := by decide +kernel
theorem dX3_readName_52 : decode cX3_readName 52 = .ok (.invokevirtual 65, 3) := by decide +kernel
theorem dX3_readName_55 : decode cX3_readName 55 = .ok (.iload_n 1, 1) := by decide +kernel
theorem dX3_readName_56 : decode cX3_readName 56 = .ok (.iconst 1, 1) := by decide +kernel
theorem dX3_readName_57 : decode cX3_readName 57 = .ok (.iadd, 1) := by decide +kernel
theorem dX3_readName_58 : decode cX3_readName 58 = .ok (.ireturn, 1) := by decide +kernel
theorem dX3_readName_59 : decode cX3_readName 59 = .ok (.aload_n 0, 1) := by decide +kernel
theorem dX3_readName_60 : decode cX3_readName 60 = .ok (.iload_n 3, 1) := by decide +kernel
theorem dX3_readName_61 : decode cX3_readName 61 = .ok (.invokevirtual 65, 3) := by decide +kernel
theorem dX3_readName_64 : decode cX3_readName 64 = .ok (.aload_n 0, 1) := by decide +kernel
theorem dX3_readName_65 : decode cX3_readName 65 = .ok (.getfield 9, 3) := by decide +kernel
theorem dX3_readName_68 : decode cX3_readName 68 = .ok (.iload_n 2, 1) := by decide +kernel
theorem dX3_readName_69 : decode cX3_readName 69 = .ok (.invokevirtual 29, 3) := by decide +kernel
theorem dX3_readName_72 : decode cX3_readName 72 = .ok (.bipush 59, 2) := by decide +kernel
theorem dX3_readName_74 : decode cX3_readName 74 = .ok (.if_icmp .ne 9, 3) := by decide +kernel
theorem dX3_readName_77 : decode cX3_readName 77 = .ok (.iload_n 2, 1) := by decide +kernel
theorem dX3_readName_78 : decode cX3_readName 78 = .ok (.iconst 1, 1) := by decide +kernel
theorem dX3_readName_79 : decode cX3_readName 79 = .ok (.iadd, 1) := by decide +kernel
theorem dX3_readName_80 : decode cX3_readName 80 = .ok (.goto 4, 3) := by decide +kernel
theorem dX3_readName_83 : decode cX3_readName 83 = .ok (.iload_n 2, 1) := by decide +kernel
theorem dX3_readName_84 : decode cX3_readName 84 = .ok (.ireturn, 1) := by decide +kernel
set_option maxRecDepth 20000 in
theorem ggX3_entity_X5_holds : GoodIn wsX3_entity wsX5_holds := goodIn_r _ [6, 7, 8, 9, 10, 11, 12, 13, 14, 15, 16, 17, 18, 19, 20, 21, 5, 22, 23, 24, 25, 26, 27, 28, 29, 30, 31, 32, 33, 34, 35, 36, 37, 38, 39, 40, 41, 42, 43, 44, 45, 46, 47, 48, 49, 50, 51, 52, 53, 54, 55, 56, 57, 58, 59, 60, 61, 70, 71] (by decide +kernel) (by decide +kernel)
set_option maxRecDepth 20000 in
theorem gX3_entity_X5_holds : GoodIn wsX3_entity (wsV RX3 45 RX5 yX5_holds wsX5_holds) := goodIn_app (goodIn_of _ (by decide +kernel)) ggX3_entity_X5_holds
set_option maxRecDepth 20000 in
theorem ggX3_entity_X3_entityOfFour : GoodIn wsX3_entity wsX3_entityOfFour := goodIn_r _ [66, 1, 2, 3, 4, 5, 6, 7, 8, 9, 10, 11, 12, 13, 14, 15, 16, 17, 18, 19, 20, 21, 22, 23, 24, 25, 26, 27, 28, 29, 30, 31, 32, 33, 34, 35, 36, 37, 38, 39, 40, 41, 42, 43, 44, 45, 46, 47, 48, 49, 50, 51, 52, 53, 54, 55, 56, 57, 58, 59, 60, 61, 67, 68, 69, 70, 71] (by decide +kernel) (by decide +kernel)
set_option maxRecDepth 20000 in
theorem gX3_entity_X3_entityOfFour : GoodIn wsX3_entity (wsV RX3 178 RX3 yX3_entityOfFour wsX3_entityOfFour) := goodIn_app (goodIn_of _ (by decide +kernel)) ggX3_entity_X3_entityOfFour
theorem dX3_entity_0 : decode cX3_entity 0 = .ok (.iload_n 2, 1) := by decide +kernel
theorem dX3_entity_1 : decode cX3_entity 1 = .ok (.iload_n 1, 1) := by decide +kernel
theorem dX3_entity_2 : decode cX3_entity 2 = .ok (.isub, 1) := by decide +kernel
theorem dX3_entity_3 : decode cX3_entity 3 = .ok (.tableswitch 139 2 6 #[33, 71, 91, 97, 118], 33) := by decide +kernel
theorem dX3_entity_36 : decode cX3_entity 36 = .ok (.aload_n 0, 1) := by decide +kernel
theorem dX3_entity_37 : decode cX3_entity 37 = .ok (.getfield 9, 3) := by decide +kernel
theorem dX3_entity_40 : decode cX3_entity 40 = .ok (.iload_n 1, 1) := by decide +kernel
theorem dX3_entity_41 : decode cX3_entity 41 = .ok (.ldc 172, 2) := by decide +kernel
theorem dX3_entity_43 : decode cX3_entity 43 = .ok (.invokevirtual 45, 3) := by decide +kernel
theorem dX3_entity_46 : decode cX3_entity 46 = .ok (.ifCond .eq 8, 3) := by decide +kernel
theorem dX3_entity_49 : decode cX3_entity 49 = .ok (.bipush 60, 2) := by decide +kernel
theorem dX3_entity_51 : decode cX3_entity 51 = .ok (.goto 22, 3) := by decide +kernel
theorem dX3_entity_54 : decode cX3_entity 54 = .ok (.aload_n 0, 1) := by decide +kernel
theorem dX3_entity_55 : decode cX3_entity 55 = .ok (.getfield 9, 3) := by decide +kernel
theorem dX3_entity_58 : decode cX3_entity 58 = .ok (.iload_n 1, 1) := by decide +kernel
theorem dX3_entity_59 : decode cX3_entity 59 = .ok (.ldc 174, 2) := by decide +kernel
theorem dX3_entity_61 : decode cX3_entity 61 = .ok (.invokevirtual 45, 3) := by decide +kernel
theorem dX3_entity_64 : decode cX3_entity 64 = .ok (.ifCond .eq 8, 3) := by decide +kernel
theorem dX3_entity_67 : decode cX3_entity 67 = .ok (.bipush 62, 2) := by decide +kernel
theorem dX3_entity_69 : decode cX3_entity 69 = .ok (.goto 4, 3) := by decide +kernel
theorem dX3_entity_72 : decode cX3_entity 72 = .ok (.iconst (-1), 1) := by decide +kernel
theorem dX3_entity_73 : decode cX3_entity 73 = .ok (.ireturn, 1) := by decide +kernel
theorem dX3_entity_74 : decode cX3_entity 74 = .ok (.aload_n 0, 1) := by decide +kernel
theorem dX3_entity_75 : decode cX3_entity 75 = .ok (.getfield 9, 3) := by decide +kernel
theorem dX3_entity_78 : decode cX3_entity 78 = .ok (.iload_n 1, 1) := by decide +kernel
theorem dX3_entity_79 : decode cX3_entity 79 = .ok (.ldc 176, 2) := by decide +kernel
theorem dX3_entity_81 : decode cX3_entity 81 = .ok (.invokevirtual 45, 3) := by decide +kernel
theorem dX3_entity_84 : decode cX3_entity 84 = .ok (.ifCond .eq 8, 3) := by decide +kernel
theorem dX3_entity_87 : decode cX3_entity 87 = .ok (.bipush 38, 2) := by decide +kernel
theorem dX3_entity_89 : decode cX3_entity 89 = .ok (.goto 4, 3) := by decide +kernel
theorem dX3_entity_92 : decode cX3_entity 92 = .ok (.iconst (-1), 1) := by decide +kernel
theorem dX3_entity_93 : decode cX3_entity 93 = .ok (.ireturn, 1) := by decide +kernel
theorem dX3_entity_94 : decode cX3_entity 94 = .ok (.aload_n 0, 1) := by decide +kernel
theorem dX3_entity_95 : decode cX3_entity 95 = .ok (.iload_n 1, 1) := by decide +kernel
theorem dX3_entity_96 : decode cX3_entity 96 = .ok (.invokevirtual 178, 3) := by decide +kernel
theorem dX3_entity_99 : decode cX3_entity 99 = .ok (.ireturn, 1) := by decide +kernel
theorem dX3_entity_100 : decode cX3_entity 100 = .ok (.aload_n 0, 1) := by decide +kernel
theorem dX3_entity_101 : decode cX3_entity 101 = .ok (.getfield 9, 3) := by decide +kernel
theorem dX3_entity_104 : decode cX3_entity 104 = .ok (.iload_n 1, 1) := by decide +kernel
theorem dX3_entity_105 : decode cX3_entity 105 = .ok (.ldc 181, 2) := by decide +kernel
theorem dX3_entity_107 : decode cX3_entity 107 = .ok (.invokevirtual 45, 3) := by decide +kernel
theorem dX3_entity_110 : decode cX3_entity 110 = .ok (.ifCond .eq 9, 3) := by decide +kernel
theorem dX3_entity_113 : decode cX3_entity 113 = .ok (.sipush 223, 3) := by decide +kernel
theorem dX3_entity_116 : decode cX3_entity 116 = .ok (.goto 4, 3) := by decide +kernel
theorem dX3_entity_119 : decode cX3_entity 119 = .ok (.iconst (-1), 1) := by decide +kernel
theorem dX3_entity_120 : decode cX3_entity 120 = .ok (.ireturn, 1) := by decide +kernel
theorem dX3_entity_121 : decode cX3_entity 121 = .ok (.aload_n 0, 1) := by decide +kernel
theorem dX3_entity_122 : decode cX3_entity 122 = .ok (.getfield 9, 3) := by decide +kernel
theorem dX3_entity_125 : decode cX3_entity 125 = .ok (.iload_n 1, 1) := by decide +kernel
theorem dX3_entity_126 : decode cX3_entity 126 = .ok (.ldc 183, 2) := by decide +kernel
theorem dX3_entity_128 : decode cX3_entity 128 = .ok (.invokevirtual 45, 3) := by decide +kernel
theorem dX3_entity_131 : decode cX3_entity 131 = .ok (.ifCond .eq 9, 3) := by decide +kernel
theorem dX3_entity_134 : decode cX3_entity 134 = .ok (.sipush 233, 3) := by decide +kernel
theorem dX3_entity_137 : decode cX3_entity 137 = .ok (.goto 4, 3) := by decide +kernel
theorem dX3_entity_140 : decode cX3_entity 140 = .ok (.iconst (-1), 1) := by decide +kernel
theorem dX3_entity_141 : decode cX3_entity 141 = .ok (.ireturn, 1) := by decide +kernel
theorem dX3_entity_142 : decode cX3_entity 142 = .ok (.iconst (-1), 1) := by decide +kernel
theorem dX3_entity_143 : decode cX3_entity 143 = .ok (.ireturn, 1) := by decide +kernel
set_option maxRecDepth 20000 in
theorem ggX3_entityOfFour_X5_holds : GoodIn wsX3_entityOfFour wsX5_holds := goodIn_r _ [6, 7, 8, 9, 10, 11, 12, 13, 14, 15, 16, 17, 18, 19, 20, 21, 5, 22, 23, 24, 25, 26, 27, 28, 29, 30, 31, 32, 33, 34, 35, 36, 37, 38, 39, 40, 41, 42, 43, 44, 45, 46, 47, 48, 49, 50, 51, 52, 53, 54, 55, 56, 57, 58, 59, 60, 61, 65, 66] (by decide +kernel) (by decide +kernel)
set_option maxRecDepth 20000 in
theorem gX3_entityOfFour_X5_holds : GoodIn wsX3_entityOfFour (wsV RX3 45 RX5 yX5_holds wsX5_holds) := goodIn_app (goodIn_of _ (by decide +kernel)) ggX3_entityOfFour_X5_holds
theorem dX3_entityOfFour_0 : decode cX3_entityOfFour 0 = .ok (.aload_n 0, 1) := by decide +kernel
theorem dX3_entityOfFour_1 : decode cX3_entityOfFour 1 = .ok (.getfield 9, 3) := by decide +kernel
theorem dX3_entityOfFour_4 : decode cX3_entityOfFour 4 = .ok (.iload_n 1, 1) := by decide +kernel
theorem dX3_entityOfFour_5 : decode cX3_entityOfFour 5 = .ok (.ldc 185, 2) := by decide +kernel
theorem dX3_entityOfFour_7 : decode cX3_entityOfFour 7 = .ok (.invokevirtual 45, 3) := by decide +kernel
theorem dX3_entityOfFour_10 : decode cX3_entityOfFour 10 = .ok (.ifCond .eq 6, 3) := by decide +kernel
theorem dX3_entityOfFour_13 : decode cX3_entityOfFour 13 = .ok (.bipush 34, 2) := by decide +kernel
theorem dX3_entityOfFour_15 : decode cX3_entityOfFour 15 = .ok (.ireturn, 1) := by decide +kernel
theorem dX3_entityOfFour_16 : decode cX3_entityOfFour 16 = .ok (.aload_n 0, 1) := by decide +kernel
theorem dX3_entityOfFour_17 : decode cX3_entityOfFour 17 = .ok (.getfield 9, 3) := by decide +kernel
theorem dX3_entityOfFour_20 : decode cX3_entityOfFour 20 = .ok (.iload_n 1, 1) := by decide +kernel
theorem dX3_entityOfFour_21 : decode cX3_entityOfFour 21 = .ok (.ldc 187, 2) := by decide +kernel
theorem dX3_entityOfFour_23 : decode cX3_entityOfFour 23 = .ok (.invokevirtual 45, 3) := by decide +kernel
theorem dX3_entityOfFour_26 : decode cX3_entityOfFour 26 = .ok (.ifCond .eq 6, 3) := by decide +kernel
theorem dX3_entityOfFour_29 : decode cX3_entityOfFour 29 = .ok (.bipush 39, 2) := by decide +kernel
theorem dX3_entityOfFour_31 : decode cX3_entityOfFour 31 = .ok (.ireturn, 1) := by decide +kernel
theorem dX3_entityOfFour_32 : decode cX3_entityOfFour 32 = .ok (.aload_n 0, 1) := by decide +kernel
theorem dX3_entityOfFour_33 : decode cX3_entityOfFour 33 = .ok (.getfield 9, 3) := by decide +kernel
theorem dX3_entityOfFour_36 : decode cX3_entityOfFour 36 = .ok (.iload_n 1, 1) := by decide +kernel
theorem dX3_entityOfFour_37 : decode cX3_entityOfFour 37 = .ok (.ldc 189, 2) := by decide +kernel
theorem dX3_entityOfFour_39 : decode cX3_entityOfFour 39 = .ok (.invokevirtual 45, 3) := by decide +kernel
theorem dX3_entityOfFour_42 : decode cX3_entityOfFour 42 = .ok (.ifCond .eq 6, 3) := by decide +kernel
theorem dX3_entityOfFour_45 : decode cX3_entityOfFour 45 = .ok (.bipush 32, 2) := by decide +kernel
theorem dX3_entityOfFour_47 : decode cX3_entityOfFour 47 = .ok (.ireturn, 1) := by decide +kernel
theorem dX3_entityOfFour_48 : decode cX3_entityOfFour 48 = .ok (.aload_n 0, 1) := by decide +kernel
theorem dX3_entityOfFour_49 : decode cX3_entityOfFour 49 = .ok (.getfield 9, 3) := by decide +kernel
theorem dX3_entityOfFour_52 : decode cX3_entityOfFour 52 = .ok (.iload_n 1, 1) := by decide +kernel
theorem dX3_entityOfFour_53 : decode cX3_entityOfFour 53 = .ok (.ldc 191, 2) := by decide +kernel
theorem dX3_entityOfFour_55 : decode cX3_entityOfFour 55 = .ok (.invokevirtual 45, 3) := by decide +kernel
theorem dX3_entityOfFour_58 : decode cX3_entityOfFour 58 = .ok (.ifCond .eq 7, 3) := by decide +kernel
theorem dX3_entityOfFour_61 : decode cX3_entityOfFour 61 = .ok (.sipush 246, 3) := by decide +kernel
theorem dX3_entityOfFour_64 : decode cX3_entityOfFour 64 = .ok (.ireturn, 1) := by decide +kernel
theorem dX3_entityOfFour_65 : decode cX3_entityOfFour 65 = .ok (.aload_n 0, 1) := by decide +kernel
theorem dX3_entityOfFour_66 : decode cX3_entityOfFour 66 = .ok (.getfield 9, 3) := by decide +kernel
theorem dX3_entityOfFour_69 : decode cX3_entityOfFour 69 = .ok (.iload_n 1, 1) := by decide +kernel
theorem dX3_entityOfFour_70 : decode cX3_entityOfFour 70 = .ok (.ldc 193, 2) := by decide +kernel
theorem dX3_entityOfFour_72 : decode cX3_entityOfFour 72 = .ok (.invokevirtual 45, 3) := by decide +kernel
theorem dX3_entityOfFour_75 : decode cX3_entityOfFour 75 = .ok (.ifCond .eq 7, 3) := by decide +kernel
theorem dX3_entityOfFour_78 : decode cX3_entityOfFour 78 = .ok (.sipush 228, 3) := by decide +kernel
theorem dX3_entityOfFour_81 : decode cX3_entityOfFour 81 = .ok (.ireturn, 1) := by decide +kernel
theorem dX3_entityOfFour_82 : decode cX3_entityOfFour 82 = .ok (.aload_n 0, 1) := by decide +kernel
theorem dX3_entityOfFour_83 : decode cX3_entityOfFour 83 = .ok (.getfield 9, 3) := by decide +kernel
theorem dX3_entityOfFour_86 : decode cX3_entityOfFour 86 = .ok (.iload_n 1, 1) := by decide +kernel
theorem dX3_entityOfFour_87 : decode cX3_entityOfFour 87 = .ok (.ldc 195, 2) := by decide +kernel
theorem dX3_entityOfFour_89 : decode cX3_entityOfFour 89 = .ok (.invokevirtual 45, 3) := by decide +kernel
theorem dX3_entityOfFour_92 : decode cX3_entityOfFour 92 = .ok (.ifCond .eq 7, 3) := by decide +kernel
theorem dX3_entityOfFour_95 : decode cX3_entityOfFour 95 = .ok (.sipush 252, 3) := by decide +kernel
theorem dX3_entityOfFour_98 : decode cX3_entityOfFour 98 = .ok (.ireturn, 1) := by decide +kernel
theorem dX3_entityOfFour_99 : decode cX3_entityOfFour 99 = .ok (.aload_n 0, 1) := by decide +kernel
theorem dX3_entityOfFour_100 : decode cX3_entityOfFour 100 = .ok (.getfield 9, 3) := by decide +kernel
theorem dX3_entityOfFour_103 : decode cX3_entityOfFour 103 = .ok (.iload_n 1, 1) := by decide +kernel
theorem dX3_entityOfFour_104 : decode cX3_entityOfFour 104 = .ok (.ldc 197, 2) := by decide +kernel
theorem dX3_entityOfFour_106 : decode cX3_entityOfFour 106 = .ok (.invokevirtual 45, 3) := by decide +kernel
theorem dX3_entityOfFour_109 : decode cX3_entityOfFour 109 = .ok (.ifCond .eq 9, 3) := by decide +kernel
theorem dX3_entityOfFour_112 : decode cX3_entityOfFour 112 = .ok (.sipush 8364, 3) := by decide +kernel
theorem dX3_entityOfFour_115 : decode cX3_entityOfFour 115 = .ok (.goto 23, 3) := by decide +kernel
theorem dX3_entityOfFour_118 : decode cX3_entityOfFour 118 = .ok (.aload_n 0, 1) := by decide +kernel
theorem dX3_entityOfFour_119 : decode cX3_entityOfFour 119 = .ok (.getfield 9, 3) := by decide +kernel
theorem dX3_entityOfFour_122 : decode cX3_entityOfFour 122 = .ok (.iload_n 1, 1) := by decide +kernel
theorem dX3_entityOfFour_123 : decode cX3_entityOfFour 123 = .ok (.ldc 199, 2) := by decide +kernel
theorem dX3_entityOfFour_125 : decode cX3_entityOfFour 125 = .ok (.invokevirtual 45, 3) := by decide +kernel
theorem dX3_entityOfFour_128 : decode cX3_entityOfFour 128 = .ok (.ifCond .eq 9, 3) := by decide +kernel
theorem dX3_entityOfFour_131 : decode cX3_entityOfFour 131 = .ok (.sipush 169, 3) := by decide +kernel
theorem dX3_entityOfFour_134 : decode cX3_entityOfFour 134 = .ok (.goto 4, 3) := by decide +kernel
theorem dX3_entityOfFour_137 : decode cX3_entityOfFour 137 = .ok (.iconst (-1), 1) := by decide +kernel
theorem dX3_entityOfFour_138 : decode cX3_entityOfFour 138 = .ok (.ireturn, 1) := by decide +kernel
set_option maxRecDepth 20000 in
theorem ggX3_write_X5_set : GoodIn wsX3_write wsX5_set := goodIn_r _ [7, 8, 9, 13, 14] (by decide +kernel) (by decide +kernel)
set_option maxRecDepth 20000 in
theorem gX3_write_X5_set : GoodIn wsX3_write (wsV RX3 201 RX5 yX5_set wsX5_set) := goodIn_app (goodIn_of _ (by decide +kernel)) ggX3_write_X5_set
theorem dX3_write_0 : decode cX3_write 0 = .ok (.aload_n 0, 1) := by decide +kernel
theorem dX3_write_1 : decode cX3_write 1 = .ok (.getfield 9, 3) := by decide +kernel
theorem dX3_write_4 : decode cX3_write 4 = .ok (.aload_n 0, 1) := by decide +kernel
theorem dX3_write_5 : decode cX3_write 5 = .ok (.getfield 15, 3) := by decide +kernel
theorem dX3_write_8 : decode cX3_write 8 = .ok (.iload_n 1, 1) := by decide +kernel
theorem dX3_write_9 : decode cX3_write 9 = .ok (.invokevirtual 201, 3) := by decide +kernel
theorem dX3_write_12 : decode cX3_write 12 = .ok (.aload_n 0, 1) := by decide +kernel
theorem dX3_write_13 : decode cX3_write 13 = .ok (.dup, 1) := by decide +kernel
theorem dX3_write_14 : decode cX3_write 14 = .ok (.getfield 15, 3) := by decide +kernel
theorem dX3_write_17 : decode cX3_write 17 = .ok (.iconst 1, 1) := by decide +kernel
theorem dX3_write_18 : decode cX3_write 18 = .ok (.iadd, 1) := by decide +kernel
theorem dX3_write_19 : decode cX3_write 19 = .ok (.putfield 15, 3) := by decide +kernel
theorem dX3_write_22 : decode cX3_write 22 = .ok (.return_, 1) := by decide +kernel
set_option maxRecDepth 20000 in
theorem ggX3_writeBlank_X3_write : GoodIn wsX3_writeBlank wsX3_write := goodIn_r _ [7, 8, 2, 9, 10, 11, 12, 13, 14, 15, 24, 25, 26, 27, 28] (by decide +kernel) (by decide +kernel)
set_option maxRecDepth 20000 in
theorem gX3_writeBlank_X3_write : GoodIn wsX3_writeBlank (wsV RX3 65 RX3 yX3_write wsX3_write) := goodIn_app (goodIn_of _ (by decide +kernel)) ggX3_writeBlank_X3_write
set_option maxRecDepth 20000 in
theorem ggX3_writeBlank_X3_lastIs : GoodIn wsX3_writeBlank wsX3_lastIs := goodIn_r _ [19, 8, 2, 20, 21, 22, 12, 23, 14, 15, 24, 25, 26, 27, 28] (by decide +kernel) (by decide +kernel)
set_option maxRecDepth 20000 in
theorem gX3_writeBlank_X3_lastIs : GoodIn wsX3_writeBlank (wsV RX3 205 RX3 yX3_lastIs wsX3_lastIs) := goodIn_app (goodIn_of _ (by decide +kernel)) ggX3_writeBlank_X3_lastIs
theorem dX3_writeBlank_0 : decode cX3_writeBlank 0 = .ok (.aload_n 0, 1) := by decide +kernel
theorem dX3_writeBlank_1 : decode cX3_writeBlank 1 = .ok (.getfield 19, 3) := by decide +kernel
theorem dX3_writeBlank_4 : decode cX3_writeBlank 4 = .ok (.ifCond .eq 17, 3) := by decide +kernel
theorem dX3_writeBlank_7 : decode cX3_writeBlank 7 = .ok (.iload_n 1, 1) := by decide +kernel
theorem dX3_writeBlank_8 : decode cX3_writeBlank 8 = .ok (.bipush 13, 2) := by decide +kernel
theorem dX3_writeBlank_10 : decode cX3_writeBlank 10 = .ok (.if_icmp .eq 42, 3) := by decide +kernel
theorem dX3_writeBlank_13 : decode cX3_writeBlank 13 = .ok (.aload_n 0, 1) := by decide +kernel
theorem dX3_writeBlank_14 : decode cX3_writeBlank 14 = .ok (.iload_n 1, 1) := by decide +kernel
theorem dX3_writeBlank_15 : decode cX3_writeBlank 15 = .ok (.invokevirtual 65, 3) := by decide +kernel
theorem dX3_writeBlank_18 : decode cX3_writeBlank 18 = .ok (.goto 34, 3) := by decide +kernel
theorem dX3_writeBlank_21 : decode cX3_writeBlank 21 = .ok (.aload_n 0, 1) := by decide +kernel
theorem dX3_writeBlank_22 : decode cX3_writeBlank 22 = .ok (.getfield 15, 3) := by decide +kernel
theorem dX3_writeBlank_25 : decode cX3_writeBlank 25 = .ok (.ifCond .le 27, 3) := by decide +kernel
theorem dX3_writeBlank_28 : decode cX3_writeBlank 28 = .ok (.aload_n 0, 1) := by decide +kernel
theorem dX3_writeBlank_29 : decode cX3_writeBlank 29 = .ok (.bipush 32, 2) := by decide +kernel
theorem dX3_writeBlank_31 : decode cX3_writeBlank 31 = .ok (.invokevirtual 205, 3) := by decide +kernel
theorem dX3_writeBlank_34 : decode cX3_writeBlank 34 = .ok (.ifCond .ne 18, 3) := by decide +kernel
theorem dX3_writeBlank_37 : decode cX3_writeBlank 37 = .ok (.aload_n 0, 1) := by decide +kernel
theorem dX3_writeBlank_38 : decode cX3_writeBlank 38 = .ok (.bipush 10, 2) := by decide +kernel
theorem dX3_writeBlank_40 : decode cX3_writeBlank 40 = .ok (.invokevirtual 205, 3) := by decide +kernel
theorem dX3_writeBlank_43 : decode cX3_writeBlank 43 = .ok (.ifCond .ne 9, 3) := by decide +kernel
theorem dX3_writeBlank_46 : decode cX3_writeBlank 46 = .ok (.aload_n 0, 1) := by decide +kernel
theorem dX3_writeBlank_47 : decode cX3_writeBlank 47 = .ok (.bipush 32, 2) := by decide +kernel
theorem dX3_writeBlank_49 : decode cX3_writeBlank 49 = .ok (.invokevirtual 65, 3) := by decide +kernel
theorem dX3_writeBlank_52 : decode cX3_writeBlank 52 = .ok (.return_, 1) := by decide +kernel
set_option maxRecDepth 20000 in
theorem ggX3_writeBreak_X3_dropSpaces : GoodIn wsX3_writeBreak wsX3_dropSpaces := goodIn_r _ [6, 7, 1, 8, 9, 10, 5, 11, 12, 13, 14, 15, 16, 17, 18, 19, 28, 29, 30, 31, 32] (by decide +kernel) (by decide +kernel)
set_option maxRecDepth 20000 in
theorem gX3_writeBreak_X3_dropSpaces : GoodIn wsX3_writeBreak (wsV RX3 74 RX3 yX3_dropSpaces wsX3_dropSpaces) := goodIn_app (goodIn_of _ (by decide +kernel)) ggX3_writeBreak_X3_dropSpaces
set_option maxRecDepth 20000 in
theorem ggX3_writeBreak_X3_lastIs : GoodIn wsX3_writeBreak wsX3_lastIs := goodIn_r _ [11, 12, 1, 13, 14, 15, 16, 17, 18, 19, 28, 29, 30, 31, 32] (by decide +kernel) (by decide +kernel)
set_option maxRecDepth 20000 in
theorem gX3_writeBreak_X3_lastIs : GoodIn wsX3_writeBreak (wsV RX3 205 RX3 yX3_lastIs wsX3_lastIs) := goodIn_app (goodIn_of _ (by decide +kernel)) ggX3_writeBreak_X3_lastIs
set_option maxRecDepth 20000 in
theorem ggX3_writeBreak_X3_write : GoodIn wsX3_writeBreak wsX3_write := goodIn_r _ [23, 12, 1, 24, 25, 26, 16, 27, 18, 19, 28, 29, 30, 31, 32] (by decide +kernel) (by decide +kernel)
set_option maxRecDepth 20000 in
theorem gX3_writeBreak_X3_write : GoodIn wsX3_writeBreak (wsV RX3 65 RX3 yX3_write wsX3_write) := goodIn_app (goodIn_of _ (by decide +kernel)) ggX3_writeBreak_X3_write
theorem dX3_writeBreak_0 : decode cX3_writeBreak 0 = .ok (.aload_n 0, 1) := by decide +kernel
theorem dX3_writeBreak_1 : decode cX3_writeBreak 1 = .ok (.invokevirtual 74, 3) := by decide +kernel
theorem dX3_writeBreak_4 : decode cX3_writeBreak 4 = .ok (.aload_n 0, 1) := by decide +kernel
theorem dX3_writeBreak_5 : decode cX3_writeBreak 5 = .ok (.getfield 15, 3) := by decide +kernel
theorem dX3_writeBreak_8 : decode cX3_writeBreak 8 = .ok (.ifCond .le 18, 3) := by decide +kernel
theorem dX3_writeBreak_11 : decode cX3_writeBreak 11 = .ok (.aload_n 0, 1) := by decide +kernel
theorem dX3_writeBreak_12 : decode cX3_writeBreak 12 = .ok (.bipush 10, 2) := by decide +kernel
theorem dX3_writeBreak_14 : decode cX3_writeBreak 14 = .ok (.invokevirtual 205, 3) := by decide +kernel
theorem dX3_writeBreak_17 : decode cX3_writeBreak 17 = .ok (.ifCond .ne 9, 3) := by decide +kernel
theorem dX3_writeBreak_20 : decode cX3_writeBreak 20 = .ok (.aload_n 0, 1) := by decide +kernel
theorem dX3_writeBreak_21 : decode cX3_writeBreak 21 = .ok (.bipush 10, 2) := by decide +kernel
theorem dX3_writeBreak_23 : decode cX3_writeBreak 23 = .ok (.invokevirtual 65, 3) := by decide +kernel
theorem dX3_writeBreak_26 : decode cX3_writeBreak 26 = .ok (.return_, 1) := by decide +kernel
set_option maxRecDepth 20000 in
theorem ggX3_dropSpaces_X3_lastIs : GoodIn wsX3_dropSpaces wsX3_lastIs := goodIn_r _ [7, 8, 2, 9, 10, 11, 12, 13, 14, 15, 16, 17, 18, 19, 20] (by decide +kernel) (by decide +kernel)
set_option maxRecDepth 20000 in
theorem gX3_dropSpaces_X3_lastIs : GoodIn wsX3_dropSpaces (wsV RX3 205 RX3 yX3_lastIs wsX3_lastIs) := goodIn_app (goodIn_of _ (by decide +kernel)) ggX3_dropSpaces_X3_lastIs
theorem dX3_dropSpaces_0 : decode cX3_dropSpaces 0 = .ok (.aload_n 0, 1) := by decide +kernel
theorem dX3_dropSpaces_1 : decode cX3_dropSpaces 1 = .ok (.getfield 19, 3) := by decide +kernel
theorem dX3_dropSpaces_4 : decode cX3_dropSpaces 4 = .ok (.ifCond .ne 32, 3) := by decide +kernel
theorem dX3_dropSpaces_7 : decode cX3_dropSpaces 7 = .ok (.aload_n 0, 1) := by decide +kernel
theorem dX3_dropSpaces_8 : decode cX3_dropSpaces 8 = .ok (.getfield 15, 3) := by decide +kernel
theorem dX3_dropSpaces_11 : decode cX3_dropSpaces 11 = .ok (.ifCond .le 25, 3) := by decide +kernel
theorem dX3_dropSpaces_14 : decode cX3_dropSpaces 14 = .ok (.aload_n 0, 1) := by decide +kernel
theorem dX3_dropSpaces_15 : decode cX3_dropSpaces 15 = .ok (.bipush 32, 2) := by decide +kernel
theorem dX3_dropSpaces_17 : decode cX3_dropSpaces 17 = .ok (.invokevirtual 205, 3) := by decide +kernel
theorem dX3_dropSpaces_20 : decode cX3_dropSpaces 20 = .ok (.ifCond .eq 16, 3) := by decide +kernel
theorem dX3_dropSpaces_23 : decode cX3_dropSpaces 23 = .ok (.aload_n 0, 1) := by decide +kernel
theorem dX3_dropSpaces_24 : decode cX3_dropSpaces 24 = .ok (.dup, 1) := by decide +kernel
theorem dX3_dropSpaces_25 : decode cX3_dropSpaces 25 = .ok (.getfield 15, 3) := by decide +kernel
theorem dX3_dropSpaces_28 : decode cX3_dropSpaces 28 = .ok (.iconst 1, 1) := by decide +kernel
theorem dX3_dropSpaces_29 : decode cX3_dropSpaces 29 = .ok (.isub, 1) := by decide +kernel
theorem dX3_dropSpaces_30 : decode cX3_dropSpaces 30 = .ok (.putfield 15, 3) := by decide +kernel
theorem dX3_dropSpaces_33 : decode cX3_dropSpaces 33 = .ok (.goto (-33), 3) := by decide +kernel
theorem dX3_dropSpaces_36 : decode cX3_dropSpaces 36 = .ok (.return_, 1) := by decide +kernel
set_option maxRecDepth 20000 in
theorem ggX3_lastIs_X5_get : GoodIn wsX3_lastIs wsX5_get := goodIn_r _ [7, 8, 9, 13, 14] (by decide +kernel) (by decide +kernel)
set_option maxRecDepth 20000 in
theorem gX3_lastIs_X5_get : GoodIn wsX3_lastIs (wsV RX3 29 RX5 yX5_get wsX5_get) := goodIn_app (goodIn_of _ (by decide +kernel)) ggX3_lastIs_X5_get
theorem dX3_lastIs_0 : decode cX3_lastIs 0 = .ok (.aload_n 0, 1) := by decide +kernel
theorem dX3_lastIs_1 : decode cX3_lastIs 1 = .ok (.getfield 9, 3) := by decide +kernel
theorem dX3_lastIs_4 : decode cX3_lastIs 4 = .ok (.aload_n 0, 1) := by decide +kernel
theorem dX3_lastIs_5 : decode cX3_lastIs 5 = .ok (.getfield 15, 3) := by decide +kernel
theorem dX3_lastIs_8 : decode cX3_lastIs 8 = .ok (.iconst 1, 1) := by decide +kernel
theorem dX3_lastIs_9 : decode cX3_lastIs 9 = .ok (.isub, 1) := by decide +kernel
theorem dX3_lastIs_10 : decode cX3_lastIs 10 = .ok (.invokevirtual 29, 3) := by decide +kernel
theorem dX3_lastIs_13 : decode cX3_lastIs 13 = .ok (.iload_n 1, 1) := by decide +kernel
theorem dX3_lastIs_14 : decode cX3_lastIs 14 = .ok (.if_icmp .ne 7, 3) := by decide +kernel
theorem dX3_lastIs_17 : decode cX3_lastIs 17 = .ok (.iconst 1, 1) := by decide +kernel
theorem dX3_lastIs_18 : decode cX3_lastIs 18 = .ok (.goto 4, 3) := by decide +kernel
theorem dX3_lastIs_21 : decode cX3_lastIs 21 = .ok (.iconst 0, 1) := by decide +kernel
theorem dX3_lastIs_22 : decode cX3_lastIs 22 = .ok (.ireturn, 1) := by decide +kernel
