set_option maxRecDepth 20000 in
theorem ggX8_cutRow_X8_addToken_c1 : GoodIn wsX8_cutRow (.code yX8_addToken cX8_addToken 9 none :: wsX8_addToken_r1) := goodIn_r _ [23, 7, 24, 25, 26, 27, 28, 29, 30, 31, 32, 33, 5, 34, 35, 36, 37, 38, 39, 40, 41, 42, 43, 44, 45] (by decide +kernel) (by decide +kernel)
set_option maxRecDepth 20000 in
theorem ggX8_cutRow_X8_addToken_c2 : GoodIn wsX8_cutRow wsX8_addToken_r2 := goodIn_r _ [46, 47, 48, 49, 50, 51, 52, 53, 54, 55, 56, 57, 58, 59, 60, 61, 62, 63, 64, 65, 66, 67, 68, 69] (by decide +kernel) (by decide +kernel)
set_option maxRecDepth 20000 in
theorem ggX8_cutRow_X8_addToken_c3 : GoodIn wsX8_cutRow wsX8_addToken_r3 := goodIn_r _ [70, 71, 72, 73, 74, 75, 76, 77, 78, 79, 80, 81, 82, 83, 84, 85, 86, 87, 88, 89, 90, 91, 92, 93] (by decide +kernel) (by decide +kernel)
set_option maxRecDepth 20000 in
theorem ggX8_cutRow_X8_addToken_c4 : GoodIn wsX8_cutRow wsX8_addToken_r4 := goodIn_r _ [94, 95, 96, 97, 98, 99, 100, 101, 102, 103, 104, 105, 106, 107, 108, 109, 110, 111, 112, 113, 114, 115, 116, 117] (by decide +kernel) (by decide +kernel)
set_option maxRecDepth 20000 in
theorem ggX8_cutRow_X8_addToken_c5 : GoodIn wsX8_cutRow wsX8_addToken_r5 := goodIn_r _ [118, 119, 120, 121, 122, 123, 124, 125, 126, 127, 128, 129, 130, 131, 132, 133, 134, 135, 136, 137, 138, 139, 140, 141] (by decide +kernel) (by decide +kernel)
set_option maxRecDepth 20000 in
theorem ggX8_cutRow_X8_addToken_c6 : GoodIn wsX8_cutRow wsX8_addToken_r6 := goodIn_r _ [142, 143, 144, 145, 146, 147, 148, 149, 150, 151, 152, 153, 154, 155, 156, 157, 158, 159, 160, 161, 162, 163, 164] (by decide +kernel) (by decide +kernel)
set_option maxRecDepth 20000 in
theorem ggX8_cutRow_X8_addToken_c7 : GoodIn wsX8_cutRow wsX80 := goodIn_r _ [169, 170, 171, 172, 173, 174, 175, 176, 177, 178, 179, 180, 181, 182, 183, 184, 185, 186, 187, 188, 189, 190, 191, 192, 193, 194] (by decide +kernel) (by decide +kernel)
set_option maxRecDepth 20000 in
theorem ggX8_cutRow_X8_addToken : GoodIn wsX8_cutRow wsX8_addToken := (goodIn_ca (goodIn_ca ggX8_cutRow_X8_addToken_c1 (goodIn_app ggX8_cutRow_X8_addToken_c2 (goodIn_app ggX8_cutRow_X8_addToken_c3 (goodIn_app ggX8_cutRow_X8_addToken_c4 (goodIn_app ggX8_cutRow_X8_addToken_c5 ggX8_cutRow_X8_addToken_c6))))) ggX8_cutRow_X8_addToken_c7)
set_option maxRecDepth 20000 in
theorem gX8_cutRow_X8_addToken : GoodIn wsX8_cutRow (wsV RX8 283 RX8 yX8_addToken wsX8_addToken) := goodIn_app (goodIn_of _ (by decide +kernel)) ggX8_cutRow_X8_addToken
set_option maxRecDepth 20000 in
theorem ggX8_cutRow_X8_isAddress : GoodIn wsX8_cutRow wsX8_isAddress := goodIn_r _ [168, 7, 11, 12, 5, 13, 14, 15, 16, 169, 170, 171, 172, 173, 174, 175, 176, 177, 178, 179, 180, 181, 182, 183, 184, 185, 186, 187, 188, 189, 190, 191, 192, 193, 194] (by decide +kernel) (by decide +kernel)
set_option maxRecDepth 20000 in
theorem gX8_cutRow_X8_isAddress : GoodIn wsX8_cutRow (wsV RX8 287 RX8 yX8_isAddress wsX8_isAddress) := goodIn_app (goodIn_of _ (by decide +kernel)) ggX8_cutRow_X8_isAddress
theorem dX8_cutRow_0 : decode cX8_cutRow 0 = .ok (.iload_n 1, 1) := by decide +kernel
theorem dX8_cutRow_1 : decode cX8_cutRow 1 = .ok (.istore_n 3, 1) := by decide +kernel
theorem dX8_cutRow_2 : decode cX8_cutRow 2 = .ok (.iload_n 3, 1) := by decide +kernel
theorem dX8_cutRow_3 : decode cX8_cutRow 3 = .ok (.iload_n 2, 1) := by decide +kernel
theorem dX8_cutRow_4 : decode cX8_cutRow 4 = .ok (.if_icmp .ge 66, 3) := by decide +kernel
theorem dX8_cutRow_7 : decode cX8_cutRow 7 = .ok (.aload_n 0, 1) := by decide +kernel
theorem dX8_cutRow_8 : decode cX8_cutRow 8 = .ok (.iload_n 3, 1) := by decide +kernel
theorem dX8_cutRow_9 : decode cX8_cutRow 9 = .ok (.iload_n 2, 1) := by decide +kernel
theorem dX8_cutRow_10 : decode cX8_cutRow 10 = .ok (.invokevirtual 274, 3) := by decide +kernel
theorem dX8_cutRow_13 : decode cX8_cutRow 13 = .ok (.istore 4, 2) := by decide +kernel
theorem dX8_cutRow_15 : decode cX8_cutRow 15 = .ok (.aload_n 0, 1) := by decide +kernel
theorem dX8_cutRow_16 : decode cX8_cutRow 16 = .ok (.iload_n 3, 1) := by decide +kernel
theorem dX8_cutRow_17 : decode cX8_cutRow 17 = .ok (.iload 4, 2) := by decide +kernel
theorem dX8_cutRow_19 : decode cX8_cutRow 19 = .ok (.aload_n 0, 1) := by decide +kernel
theorem dX8_cutRow_20 : decode cX8_cutRow 20 = .ok (.getfield 280, 3) := by decide +kernel
theorem dX8_cutRow_23 : decode cX8_cutRow 23 = .ok (.iconst 0, 1) := by decide +kernel
theorem dX8_cutRow_24 : decode cX8_cutRow 24 = .ok (.invokevirtual 283, 3) := by decide +kernel
theorem dX8_cutRow_27 : decode cX8_cutRow 27 = .ok (.iload_n 3, 1) := by decide +kernel
theorem dX8_cutRow_28 : decode cX8_cutRow 28 = .ok (.iload_n 1, 1) := by decide +kernel
theorem dX8_cutRow_29 : decode cX8_cutRow 29 = .ok (.if_icmp .ne 23, 3) := by decide +kernel
theorem dX8_cutRow_32 : decode cX8_cutRow 32 = .ok (.aload_n 0, 1) := by decide +kernel
theorem dX8_cutRow_33 : decode cX8_cutRow 33 = .ok (.iload_n 1, 1) := by decide +kernel
theorem dX8_cutRow_34 : decode cX8_cutRow 34 = .ok (.iload_n 2, 1) := by decide +kernel
theorem dX8_cutRow_35 : decode cX8_cutRow 35 = .ok (.invokevirtual 287, 3) := by decide +kernel
theorem dX8_cutRow_38 : decode cX8_cutRow 38 = .ok (.ifCond .eq 14, 3) := by decide +kernel
theorem dX8_cutRow_41 : decode cX8_cutRow 41 = .ok (.aload_n 0, 1) := by decide +kernel
theorem dX8_cutRow_42 : decode cX8_cutRow 42 = .ok (.iload_n 1, 1) := by decide +kernel
theorem dX8_cutRow_43 : decode cX8_cutRow 43 = .ok (.iload_n 2, 1) := by decide +kernel
theorem dX8_cutRow_44 : decode cX8_cutRow 44 = .ok (.aload_n 0, 1) := by decide +kernel
theorem dX8_cutRow_45 : decode cX8_cutRow 45 = .ok (.getfield 280, 3) := by decide +kernel
theorem dX8_cutRow_48 : decode cX8_cutRow 48 = .ok (.iconst 1, 1) := by decide +kernel
theorem dX8_cutRow_49 : decode cX8_cutRow 49 = .ok (.invokevirtual 283, 3) := by decide +kernel
theorem dX8_cutRow_52 : decode cX8_cutRow 52 = .ok (.aload_n 0, 1) := by decide +kernel
theorem dX8_cutRow_53 : decode cX8_cutRow 53 = .ok (.dup, 1) := by decide +kernel
theorem dX8_cutRow_54 : decode cX8_cutRow 54 = .ok (.getfield 280, 3) := by decide +kernel
theorem dX8_cutRow_57 : decode cX8_cutRow 57 = .ok (.iconst 1, 1) := by decide +kernel
theorem dX8_cutRow_58 : decode cX8_cutRow 58 = .ok (.iadd, 1) := by decide +kernel
theorem dX8_cutRow_59 : decode cX8_cutRow 59 = .ok (.putfield 280, 3) := by decide +kernel
theorem dX8_cutRow_62 : decode cX8_cutRow 62 = .ok (.iload 4, 2) := by decide +kernel
theorem dX8_cutRow_64 : decode cX8_cutRow 64 = .ok (.iconst 1, 1) := by decide +kernel
theorem dX8_cutRow_65 : decode cX8_cutRow 65 = .ok (.iadd, 1) := by decide +kernel
theorem dX8_cutRow_66 : decode cX8_cutRow 66 = .ok (.istore_n 3, 1) := by decide +kernel
theorem dX8_cutRow_67 : decode cX8_cutRow 67 = .ok (.goto (-65), 3) := by decide +kernel
theorem dX8_cutRow_70 : decode cX8_cutRow 70 = .ok (.return_, 1) := by decide +kernel
set_option maxRecDepth 20000 in
theorem ggX8_cutLine_X8_isWord : GoodIn wsX8_cutLine wsX8_isWord := goodIn_r _ [6, 7, 8, 5, 9, 10, 11, 12, 13, 14, 15] (by decide +kernel) (by decide +kernel)
set_option maxRecDepth 20000 in
theorem gX8_cutLine_X8_isWord : GoodIn wsX8_cutLine (va_wsS RX8 184 yX8_isWord wsX8_isWord) := goodIn_app (goodIn_of _ (by decide +kernel)) ggX8_cutLine_X8_isWord
set_option maxRecDepth 20000 in
theorem ggX8_cutLine_X8_rowEnd : GoodIn wsX8_cutLine wsX8_rowEnd := goodIn_r _ [19, 1, 20, 21, 22, 5, 23, 3, 4, 6, 7, 8, 9, 10, 11, 12, 13, 14, 15, 24, 25, 26, 180, 181, 182, 183, 184, 185, 186, 187, 188, 189, 190, 191, 192, 193, 194, 195, 196, 197, 198, 199, 200, 201, 202, 203, 204, 205] (by decide +kernel) (by decide +kernel)
set_option maxRecDepth 20000 in
theorem gX8_cutLine_X8_rowEnd : GoodIn wsX8_cutLine (wsV RX8 290 RX8 yX8_rowEnd wsX8_rowEnd) := goodIn_app (goodIn_of _ (by decide +kernel)) ggX8_cutLine_X8_rowEnd
set_option maxRecDepth 20000 in
theorem ggX8_cutLine_X8_cutRow_c1 : GoodIn wsX8_cutLine (.code yX8_cutRow cX8_cutRow 5 none :: wsX8_cutRow_r1) := goodIn_r _ [30, 2, 20, 21, 22, 5, 23, 1, 3, 4, 6, 7, 8, 9, 10, 11, 12, 13, 14, 15, 31, 32, 33, 34, 35] (by decide +kernel) (by decide +kernel)
set_option maxRecDepth 20000 in
theorem ggX8_cutLine_X8_cutRow_c2 : GoodIn wsX8_cutLine wsX8_cutRow_r2 := goodIn_r _ [36, 37, 38, 39, 40, 41, 42, 43, 44, 45, 46, 47, 48, 49, 50, 51, 52, 53, 54, 55, 56, 57, 58, 59] (by decide +kernel) (by decide +kernel)
set_option maxRecDepth 20000 in
theorem ggX8_cutLine_X8_cutRow_c3 : GoodIn wsX8_cutLine wsX8_cutRow_r3 := goodIn_r _ [60, 61, 62, 63, 64, 65, 66, 67, 68, 69, 70, 71, 72, 73, 74, 75, 76, 77, 78, 79, 80, 81, 82, 83] (by decide +kernel) (by decide +kernel)
set_option maxRecDepth 20000 in
theorem ggX8_cutLine_X8_cutRow_c4 : GoodIn wsX8_cutLine wsX8_cutRow_r4 := goodIn_r _ [84, 85, 86, 87, 88, 89, 90, 91, 92, 93, 94, 95, 96, 97, 98, 99, 100, 101, 102, 103, 104, 105, 106, 107] (by decide +kernel) (by decide +kernel)
set_option maxRecDepth 20000 in
theorem ggX8_cutLine_X8_cutRow_c5 : GoodIn wsX8_cutLine wsX8_cutRow_r5 := goodIn_r _ [108, 109, 110, 111, 112, 113, 114, 115, 116, 117, 118, 119, 120, 121, 122, 123, 124, 125, 126, 127, 128, 129, 130, 131] (by decide +kernel) (by decide +kernel)
set_option maxRecDepth 20000 in
theorem ggX8_cutLine_X8_cutRow_c6 : GoodIn wsX8_cutLine wsX8_cutRow_r6 := goodIn_r _ [132, 133, 134, 135, 136, 137, 138, 139, 140, 141, 142, 143, 144, 145, 146, 147, 148, 149, 150, 151, 152, 153, 154, 155] (by decide +kernel) (by decide +kernel)
set_option maxRecDepth 20000 in
theorem ggX8_cutLine_X8_cutRow_c7 : GoodIn wsX8_cutLine wsX8_cutRow_r7 := goodIn_r _ [156, 157, 158, 159, 160, 161, 162, 163, 164, 165, 166, 167, 168, 169, 170, 171, 172, 173, 174, 175, 176, 177, 178, 179] (by decide +kernel) (by decide +kernel)
set_option maxRecDepth 20000 in
theorem ggX8_cutLine_X8_cutRow_c8 : GoodIn wsX8_cutLine wsX80 := goodIn_r _ [180, 181, 182, 183, 184, 185, 186, 187, 188, 189, 190, 191, 192, 193, 194, 195, 196, 197, 198, 199, 200, 201, 202, 203, 204, 205] (by decide +kernel) (by decide +kernel)
set_option maxRecDepth 20000 in
theorem ggX8_cutLine_X8_cutRow : GoodIn wsX8_cutLine wsX8_cutRow := (goodIn_ca (goodIn_ca ggX8_cutLine_X8_cutRow_c1 (goodIn_app ggX8_cutLine_X8_cutRow_c2 (goodIn_app ggX8_cutLine_X8_cutRow_c3 (goodIn_app ggX8_cutLine_X8_cutRow_c4 (goodIn_app ggX8_cutLine_X8_cutRow_c5 (goodIn_app ggX8_cutLine_X8_cutRow_c6 ggX8_cutLine_X8_cutRow_c7)))))) ggX8_cutLine_X8_cutRow_c8)
set_option maxRecDepth 20000 in
theorem gX8_cutLine_X8_cutRow : GoodIn wsX8_cutLine (wsV RX8 293 RX8 yX8_cutRow wsX8_cutRow) := goodIn_app (goodIn_of _ (by decide +kernel)) ggX8_cutLine_X8_cutRow
theorem dX8_cutLine_0 : decode cX8_cutLine 0 = .ok (.iload_n 1, 1) := by decide +kernel
theorem dX8_cutLine_1 : decode cX8_cutLine 1 = .ok (.istore_n 3, 1) := by decide +kernel
theorem dX8_cutLine_2 : decode cX8_cutLine 2 = .ok (.iload_n 3, 1) := by decide +kernel
theorem dX8_cutLine_3 : decode cX8_cutLine 3 = .ok (.iload_n 2, 1) := by decide +kernel
theorem dX8_cutLine_4 : decode cX8_cutLine 4 = .ok (.if_icmp .ge 53, 3) := by decide +kernel
theorem dX8_cutLine_7 : decode cX8_cutLine 7 = .ok (.aload_n 0, 1) := by decide +kernel
theorem dX8_cutLine_8 : decode cX8_cutLine 8 = .ok (.getfield 7, 3) := by decide +kernel
theorem dX8_cutLine_11 : decode cX8_cutLine 11 = .ok (.iload_n 3, 1) := by decide +kernel
theorem dX8_cutLine_12 : decode cX8_cutLine 12 = .ok (.iaload, 1) := by decide +kernel
theorem dX8_cutLine_13 : decode cX8_cutLine 13 = .ok (.invokestatic 184, 3) := by decide +kernel
theorem dX8_cutLine_16 : decode cX8_cutLine 16 = .ok (.ifCond .eq 35, 3) := by decide +kernel
theorem dX8_cutLine_19 : decode cX8_cutLine 19 = .ok (.aload_n 0, 1) := by decide +kernel
theorem dX8_cutLine_20 : decode cX8_cutLine 20 = .ok (.getfield 280, 3) := by decide +kernel
theorem dX8_cutLine_23 : decode cX8_cutLine 23 = .ok (.sipush 300, 3) := by decide +kernel
theorem dX8_cutLine_26 : decode cX8_cutLine 26 = .ok (.if_icmp .lt 4, 3) := by decide +kernel
theorem dX8_cutLine_29 : decode cX8_cutLine 29 = .ok (.return_, 1) := by decide +kernel
theorem dX8_cutLine_30 : decode cX8_cutLine 30 = .ok (.aload_n 0, 1) := by decide +kernel
theorem dX8_cutLine_31 : decode cX8_cutLine 31 = .ok (.iload_n 3, 1) := by decide +kernel
theorem dX8_cutLine_32 : decode cX8_cutLine 32 = .ok (.iload_n 2, 1) := by decide +kernel
theorem dX8_cutLine_33 : decode cX8_cutLine 33 = .ok (.invokevirtual 290, 3) := by decide +kernel
theorem dX8_cutLine_36 : decode cX8_cutLine 36 = .ok (.istore 4, 2) := by decide +kernel
theorem dX8_cutLine_38 : decode cX8_cutLine 38 = .ok (.aload_n 0, 1) := by decide +kernel
theorem dX8_cutLine_39 : decode cX8_cutLine 39 = .ok (.iload_n 3, 1) := by decide +kernel
theorem dX8_cutLine_40 : decode cX8_cutLine 40 = .ok (.iload 4, 2) := by decide +kernel
theorem dX8_cutLine_42 : decode cX8_cutLine 42 = .ok (.invokevirtual 293, 3) := by decide +kernel
theorem dX8_cutLine_45 : decode cX8_cutLine 45 = .ok (.iload 4, 2) := by decide +kernel
theorem dX8_cutLine_47 : decode cX8_cutLine 47 = .ok (.istore_n 3, 1) := by decide +kernel
theorem dX8_cutLine_48 : decode cX8_cutLine 48 = .ok (.goto (-46), 3) := by decide +kernel
theorem dX8_cutLine_51 : decode cX8_cutLine 51 = .ok (.iinc 3 1, 3) := by decide +kernel
theorem dX8_cutLine_54 : decode cX8_cutLine 54 = .ok (.goto (-52), 3) := by decide +kernel
theorem dX8_cutLine_57 : decode cX8_cutLine 57 = .ok (.return_, 1) := by decide +kernel
set_option maxRecDepth 20000 in
theorem ggX8_cut_X8_lookAtLines : GoodIn wsX8_cut wsX8_lookAtLines := goodIn_r _ [14, 4, 15, 16, 8, 9, 5, 6, 7, 17, 18, 19, 13, 20, 21, 22, 23, 24, 25, 26, 27, 28, 29, 30, 31, 32, 33, 34, 35, 36, 37, 38, 39, 40, 41, 42, 43, 44, 45, 46, 47, 48, 49, 50, 51, 52, 53, 54, 55, 56, 57, 58, 59, 60, 61, 62, 63, 64, 222, 223, 224, 225, 226, 227, 228, 229, 230, 231, 232, 233, 234, 235, 236, 237, 238, 239, 240, 241, 242, 243, 244, 245, 246, 247] (by decide +kernel) (by decide +kernel)
set_option maxRecDepth 20000 in
theorem gX8_cut_X8_lookAtLines : GoodIn wsX8_cut (wsV RX8 262 RX8 yX8_lookAtLines wsX8_lookAtLines) := goodIn_app (goodIn_of _ (by decide +kernel)) ggX8_cut_X8_lookAtLines
set_option maxRecDepth 20000 in
theorem ggX8_cut_X8_cutLine_c1 : GoodIn wsX8_cut (.code yX8_cutLine cX8_cutLine 5 none :: wsX8_cutLine_r1) := goodIn_r _ [68, 16, 3, 38, 39, 13, 40, 41, 42, 43, 44, 45, 46, 47, 48, 49, 69, 70, 71, 72, 73, 74, 75, 76, 77] (by decide +kernel) (by decide +kernel)
set_option maxRecDepth 20000 in
theorem ggX8_cut_X8_cutLine_c2 : GoodIn wsX8_cut wsX8_cutLine_r2 := goodIn_r _ [78, 79, 80, 81, 82, 83, 84, 85, 86, 87, 88, 2, 89, 90, 91, 92, 93, 94, 59, 60, 61, 62, 63, 64] (by decide +kernel) (by decide +kernel)
set_option maxRecDepth 20000 in
theorem ggX8_cut_X8_cutLine_c3 : GoodIn wsX8_cut wsX8_cutLine_r3 := goodIn_r _ [95, 96, 97, 98, 99, 100, 101, 102, 103, 104, 105, 106, 107, 108, 109, 110, 111, 112, 113, 114, 115, 116, 54, 35] (by decide +kernel) (by decide +kernel)
set_option maxRecDepth 20000 in
theorem ggX8_cut_X8_cutLine_c4 : GoodIn wsX8_cut wsX8_cutLine_r4 := goodIn_r _ [36, 37, 117, 118, 119, 120, 121, 122, 123, 124, 125, 126, 127, 128, 129, 130, 131, 132, 133, 134, 135, 136, 137, 138] (by decide +kernel) (by decide +kernel)
set_option maxRecDepth 20000 in
theorem ggX8_cut_X8_cutLine_c5 : GoodIn wsX8_cut wsX8_cutLine_r5 := goodIn_r _ [139, 140, 141, 142, 143, 144, 145, 146, 147, 148, 149, 150, 151, 152, 153, 154, 155, 156, 157, 158, 159, 160, 161, 162] (by decide +kernel) (by decide +kernel)
set_option maxRecDepth 20000 in
theorem ggX8_cut_X8_cutLine_c6 : GoodIn wsX8_cut wsX8_cutLine_r6 := goodIn_r _ [163, 164, 165, 166, 167, 168, 169, 170, 171, 172, 173, 174, 175, 176, 177, 178, 179, 180, 181, 182, 183, 184, 185, 186] (by decide +kernel) (by decide +kernel)
set_option maxRecDepth 20000 in
theorem ggX8_cut_X8_cutLine_c7 : GoodIn wsX8_cut wsX8_cutLine_r7 := goodIn_r _ [187, 188, 189, 190, 191, 192, 193, 194, 195, 196, 197, 198, 199, 200, 201, 202, 203, 204, 205, 206, 207, 208, 209, 210] (by decide +kernel) (by decide +kernel)
set_option maxRecDepth 20000 in
theorem ggX8_cut_X8_cutLine_c8 : GoodIn wsX8_cut wsX8_cutLine_r8 := goodIn_r _ [211, 212, 213, 214, 215, 216, 217, 218, 219, 220, 221] (by decide +kernel) (by decide +kernel)
set_option maxRecDepth 20000 in
theorem ggX8_cut_X8_cutLine_c9 : GoodIn wsX8_cut wsX80 := goodIn_r _ [222, 223, 224, 225, 226, 227, 228, 229, 230, 231, 232, 233, 234, 235, 236, 237, 238, 239, 240, 241, 242, 243, 244, 245, 246, 247] (by decide +kernel) (by decide +kernel)
set_option maxRecDepth 20000 in
theorem ggX8_cut_X8_cutLine : GoodIn wsX8_cut wsX8_cutLine := (goodIn_ca (goodIn_ca ggX8_cut_X8_cutLine_c1 (goodIn_app ggX8_cut_X8_cutLine_c2 (goodIn_app ggX8_cut_X8_cutLine_c3 (goodIn_app ggX8_cut_X8_cutLine_c4 (goodIn_app ggX8_cut_X8_cutLine_c5 (goodIn_app ggX8_cut_X8_cutLine_c6 (goodIn_app ggX8_cut_X8_cutLine_c7 ggX8_cut_X8_cutLine_c8))))))) ggX8_cut_X8_cutLine_c9)
set_option maxRecDepth 20000 in
theorem gX8_cut_X8_cutLine : GoodIn wsX8_cut (wsV RX8 297 RX8 yX8_cutLine wsX8_cutLine) := goodIn_app (goodIn_of _ (by decide +kernel)) ggX8_cut_X8_cutLine
