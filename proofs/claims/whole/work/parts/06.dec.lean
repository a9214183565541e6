set_option maxRecDepth 20000 in
theorem ggX6_init_X4_init : GoodIn wsX6_init wsX4_init := goodIn_r _ [22, 23, 2, 3, 8, 24, 13, 25, 26, 27, 28] (by decide +kernel) (by decide +kernel)
set_option maxRecDepth 20000 in
theorem gX6_init_X4_init_n11 : GoodIn wsX6_init (wsX4_init) := ggX6_init_X4_init
theorem dX6_init_0 : decode cX6_init 0 = .ok (.aload_n 0, 1) := by decide +kernel
theorem dX6_init_1 : decode cX6_init 1 = .ok (.invokespecial 3, 3) := by decide +kernel
theorem dX6_init_4 : decode cX6_init 4 = .ok (.aload_n 0, 1) := by decide +kernel
theorem dX6_init_5 : decode cX6_init 5 = .ok (.new 9, 3) := by decide +kernel
theorem dX6_init_8 : decode cX6_init 8 = .ok (.dup, 1) := by decide +kernel
theorem dX6_init_9 : decode cX6_init 9 = .ok (.invokespecial 11, 3) := by decide +kernel
theorem dX6_init_12 : decode cX6_init 12 = .ok (.putfield 12, 3) := by decide +kernel
theorem dX6_init_15 : decode cX6_init 15 = .ok (.aload_n 0, 1) := by decide +kernel
theorem dX6_init_16 : decode cX6_init 16 = .ok (.sipush 900, 3) := by decide +kernel
theorem dX6_init_19 : decode cX6_init 19 = .ok (.newarray .int, 2) := by decide +kernel
theorem dX6_init_21 : decode cX6_init 21 = .ok (.putfield 18, 3) := by decide +kernel
theorem dX6_init_24 : decode cX6_init 24 = .ok (.aload_n 0, 1) := by decide +kernel
theorem dX6_init_25 : decode cX6_init 25 = .ok (.sipush 900, 3) := by decide +kernel
theorem dX6_init_28 : decode cX6_init 28 = .ok (.newarray .int, 2) := by decide +kernel
theorem dX6_init_30 : decode cX6_init 30 = .ok (.putfield 22, 3) := by decide +kernel
theorem dX6_init_33 : decode cX6_init 33 = .ok (.aload_n 0, 1) := by decide +kernel
theorem dX6_init_34 : decode cX6_init 34 = .ok (.sipush 900, 3) := by decide +kernel
theorem dX6_init_37 : decode cX6_init 37 = .ok (.newarray .int, 2) := by decide +kernel
theorem dX6_init_39 : decode cX6_init 39 = .ok (.putfield 25, 3) := by decide +kernel
theorem dX6_init_42 : decode cX6_init 42 = .ok (.aload_n 0, 1) := by decide +kernel
theorem dX6_init_43 : decode cX6_init 43 = .ok (.sipush 900, 3) := by decide +kernel
theorem dX6_init_46 : decode cX6_init 46 = .ok (.newarray .int, 2) := by decide +kernel
theorem dX6_init_48 : decode cX6_init 48 = .ok (.putfield 28, 3) := by decide +kernel
theorem dX6_init_51 : decode cX6_init 51 = .ok (.aload_n 0, 1) := by decide +kernel
theorem dX6_init_52 : decode cX6_init 52 = .ok (.sipush 900, 3) := by decide +kernel
theorem dX6_init_55 : decode cX6_init 55 = .ok (.newarray .boolean, 2) := by decide +kernel
theorem dX6_init_57 : decode cX6_init 57 = .ok (.putfield 31, 3) := by decide +kernel
theorem dX6_init_60 : decode cX6_init 60 = .ok (.aload_n 0, 1) := by decide +kernel
theorem dX6_init_61 : decode cX6_init 61 = .ok (.sipush 1500, 3) := by decide +kernel
theorem dX6_init_64 : decode cX6_init 64 = .ok (.newarray .int, 2) := by decide +kernel
theorem dX6_init_66 : decode cX6_init 66 = .ok (.putfield 35, 3) := by decide +kernel
theorem dX6_init_69 : decode cX6_init 69 = .ok (.aload_n 0, 1) := by decide +kernel
theorem dX6_init_70 : decode cX6_init 70 = .ok (.sipush 1500, 3) := by decide +kernel
theorem dX6_init_73 : decode cX6_init 73 = .ok (.newarray .int, 2) := by decide +kernel
theorem dX6_init_75 : decode cX6_init 75 = .ok (.putfield 38, 3) := by decide +kernel
theorem dX6_init_78 : decode cX6_init 78 = .ok (.aload_n 0, 1) := by decide +kernel
theorem dX6_init_79 : decode cX6_init 79 = .ok (.sipush 128, 3) := by decide +kernel
theorem dX6_init_82 : decode cX6_init 82 = .ok (.newarray .int, 2) := by decide +kernel
theorem dX6_init_84 : decode cX6_init 84 = .ok (.putfield 41, 3) := by decide +kernel
theorem dX6_init_87 : decode cX6_init 87 = .ok (.aload_n 0, 1) := by decide +kernel
theorem dX6_init_88 : decode cX6_init 88 = .ok (.sipush 900, 3) := by decide +kernel
theorem dX6_init_91 : decode cX6_init 91 = .ok (.newarray .int, 2) := by decide +kernel
theorem dX6_init_93 : decode cX6_init 93 = .ok (.putfield 44, 3) := by decide +kernel
theorem dX6_init_96 : decode cX6_init 96 = .ok (.aload_n 0, 1) := by decide +kernel
theorem dX6_init_97 : decode cX6_init 97 = .ok (.aload_n 1, 1) := by decide +kernel
theorem dX6_init_98 : decode cX6_init 98 = .ok (.putfield 47, 3) := by decide +kernel
theorem dX6_init_101 : decode cX6_init 101 = .ok (.aload_n 0, 1) := by decide +kernel
theorem dX6_init_102 : decode cX6_init 102 = .ok (.aload_n 2, 1) := by decide +kernel
theorem dX6_init_103 : decode cX6_init 103 = .ok (.putfield 51, 3) := by decide +kernel
theorem dX6_init_106 : decode cX6_init 106 = .ok (.return_, 1) := by decide +kernel
set_option maxRecDepth 20000 in
theorem ggX6_fill_X5_size : GoodIn wsX6_fill wsX5_size := goodIn_r _ [10, 11, 195, 196] (by decide +kernel) (by decide +kernel)
set_option maxRecDepth 20000 in
theorem gX6_fill_X5_size : GoodIn wsX6_fill (wsV RX6 62 RX5 yX5_size wsX5_size) := goodIn_app (goodIn_of _ (by decide +kernel)) ggX6_fill_X5_size
set_option maxRecDepth 20000 in
theorem ggX6_fill_X5_get : GoodIn wsX6_fill wsX5_get := goodIn_r _ [15, 11, 16, 195, 196] (by decide +kernel) (by decide +kernel)
set_option maxRecDepth 20000 in
theorem gX6_fill_X5_get : GoodIn wsX6_fill (wsV RX6 68 RX5 yX5_get wsX5_get) := goodIn_app (goodIn_of _ (by decide +kernel)) ggX6_fill_X5_get
set_option maxRecDepth 20000 in
theorem ggX6_fill_X0_small : GoodIn wsX6_fill wsX0_small := goodIn_r _ [20, 21, 22, 19, 23, 24, 25, 26, 27, 28, 29] (by decide +kernel) (by decide +kernel)
set_option maxRecDepth 20000 in
theorem gX6_fill_X0_small : GoodIn wsX6_fill (va_wsS RX6 72 yX0_small wsX0_small) := goodIn_app (goodIn_of _ (by decide +kernel)) ggX6_fill_X0_small
set_option maxRecDepth 20000 in
theorem ggX6_fill_X6_cutRows : GoodIn wsX6_fill wsX6_cutRows := goodIn_r _ [34, 2, 35, 36, 37, 38, 39, 40, 41, 33, 42, 3, 12, 13, 14, 9, 15, 11, 16, 43, 44, 19, 45, 46, 47, 48, 49, 50, 51, 52, 53, 54, 55, 56, 57, 58, 59, 60, 61, 62, 63, 64, 65, 66, 67, 1, 68, 69, 70, 71, 72, 73, 74, 180, 181, 182, 183, 184, 185, 186, 187, 188, 189, 190, 191, 192, 193, 194, 195, 196] (by decide +kernel) (by decide +kernel)
set_option maxRecDepth 20000 in
theorem gX6_fill_X6_cutRows : GoodIn wsX6_fill (wsV RX6 77 RX6 yX6_cutRows wsX6_cutRows) := goodIn_app (goodIn_of _ (by decide +kernel)) ggX6_fill_X6_cutRows
set_option maxRecDepth 20000 in
theorem ggX6_fill_X2_start : GoodIn wsX6_fill wsX2_start := goodIn_r _ [79, 80, 81, 197, 198, 199, 200, 201, 202] (by decide +kernel) (by decide +kernel)
set_option maxRecDepth 20000 in
theorem gX6_fill_X2_start : GoodIn wsX6_fill (wsV RX6 81 RX2 yX2_start wsX2_start) := goodIn_app (goodIn_of _ (by decide +kernel)) ggX6_fill_X2_start
set_option maxRecDepth 20000 in
theorem ggX6_fill_X2_advance : GoodIn wsX6_fill wsX2_advance := goodIn_r _ [85, 80, 86, 87, 88, 81, 89, 90, 7, 8, 9, 10, 11, 91, 13, 14, 15, 16, 92, 93, 94, 78, 95, 96, 97, 98, 99, 100, 101, 102, 103, 104, 105, 106, 107, 108, 109, 110, 111, 112, 113, 114, 115, 116, 117, 118, 119, 120, 121, 122, 123, 124, 125, 126, 127, 128, 129, 130, 131, 132, 133, 134, 135, 136, 137, 138, 139, 140, 141, 142, 143, 144, 145, 146, 147, 148, 149, 150, 151, 152, 153, 154, 155, 156, 157, 158, 159, 160, 161, 162, 163, 164, 165, 166, 167, 44, 19, 45, 46, 47, 48, 49, 50, 51, 197, 198, 199, 200, 201, 202, 195, 196] (by decide +kernel) (by decide +kernel)
set_option maxRecDepth 20000 in
theorem gX6_fill_X2_advance : GoodIn wsX6_fill (wsV RX6 86 RX2 yX2_advance wsX2_advance) := goodIn_app (goodIn_of _ (by decide +kernel)) ggX6_fill_X2_advance
set_option maxRecDepth 20000 in
theorem ggX6_fill_X2_isPlain : GoodIn wsX6_fill wsX2_isPlain := goodIn_r _ [171, 88, 81, 89, 197, 198, 199, 200, 201, 202] (by decide +kernel) (by decide +kernel)
set_option maxRecDepth 20000 in
theorem gX6_fill_X2_isPlain : GoodIn wsX6_fill (wsV RX6 90 RX2 yX2_isPlain wsX2_isPlain) := goodIn_app (goodIn_of _ (by decide +kernel)) ggX6_fill_X2_isPlain
set_option maxRecDepth 20000 in
theorem ggX6_fill_X2_begin : GoodIn wsX6_fill wsX2_begin := goodIn_r _ [175, 87, 197, 198, 199, 200, 201, 202] (by decide +kernel) (by decide +kernel)
set_option maxRecDepth 20000 in
theorem gX6_fill_X2_begin : GoodIn wsX6_fill (wsV RX6 93 RX2 yX2_begin wsX2_begin) := goodIn_app (goodIn_of _ (by decide +kernel)) ggX6_fill_X2_begin
set_option maxRecDepth 20000 in
theorem ggX6_fill_X2_end : GoodIn wsX6_fill wsX2_end := goodIn_r _ [179, 80, 197, 198, 199, 200, 201, 202] (by decide +kernel) (by decide +kernel)
set_option maxRecDepth 20000 in
theorem gX6_fill_X2_end : GoodIn wsX6_fill (wsV RX6 96 RX2 yX2_end wsX2_end) := goodIn_app (goodIn_of _ (by decide +kernel)) ggX6_fill_X2_end
theorem dX6_fill_0 : decode cX6_fill 0 = .ok (.aload_n 0, 1) := by decide +kernel
theorem dX6_fill_1 : decode cX6_fill 1 = .ok (.iconst 0, 1) := by decide +kernel
theorem dX6_fill_2 : decode cX6_fill 2 = .ok (.putfield 55, 3) := by decide +kernel
theorem dX6_fill_5 : decode cX6_fill 5 = .ok (.aload_n 0, 1) := by decide +kernel
theorem dX6_fill_6 : decode cX6_fill 6 = .ok (.iconst 0, 1) := by decide +kernel
theorem dX6_fill_7 : decode cX6_fill 7 = .ok (.putfield 59, 3) := by decide +kernel
theorem dX6_fill_10 : decode cX6_fill 10 = .ok (.iconst 0, 1) := by decide +kernel
theorem dX6_fill_11 : decode cX6_fill 11 = .ok (.istore_n 2, 1) := by decide +kernel
theorem dX6_fill_12 : decode cX6_fill 12 = .ok (.iload_n 2, 1) := by decide +kernel
theorem dX6_fill_13 : decode cX6_fill 13 = .ok (.aload_n 0, 1) := by decide +kernel
theorem dX6_fill_14 : decode cX6_fill 14 = .ok (.getfield 47, 3) := by decide +kernel
theorem dX6_fill_17 : decode cX6_fill 17 = .ok (.invokevirtual 62, 3) := by decide +kernel
theorem dX6_fill_20 : decode cX6_fill 20 = .ok (.if_icmp .ge 35, 3) := by decide +kernel
theorem dX6_fill_23 : decode cX6_fill 23 = .ok (.iload_n 2, 1) := by decide +kernel
theorem dX6_fill_24 : decode cX6_fill 24 = .ok (.aload_n 0, 1) := by decide +kernel
theorem dX6_fill_25 : decode cX6_fill 25 = .ok (.getfield 35, 3) := by decide +kernel
theorem dX6_fill_28 : decode cX6_fill 28 = .ok (.arraylength, 1) := by decide +kernel
theorem dX6_fill_29 : decode cX6_fill 29 = .ok (.if_icmp .ge 26, 3) := by decide +kernel
theorem dX6_fill_32 : decode cX6_fill 32 = .ok (.aload_n 0, 1) := by decide +kernel
theorem dX6_fill_33 : decode cX6_fill 33 = .ok (.getfield 35, 3) := by decide +kernel
theorem dX6_fill_36 : decode cX6_fill 36 = .ok (.iload_n 2, 1) := by decide +kernel
theorem dX6_fill_37 : decode cX6_fill 37 = .ok (.aload_n 0, 1) := by decide +kernel
theorem dX6_fill_38 : decode cX6_fill 38 = .ok (.getfield 47, 3) := by decide +kernel
theorem dX6_fill_41 : decode cX6_fill 41 = .ok (.iload_n 2, 1) := by decide +kernel
theorem dX6_fill_42 : decode cX6_fill 42 = .ok (.invokevirtual 68, 3) := by decide +kernel
theorem dX6_fill_45 : decode cX6_fill 45 = .ok (.invokestatic 72, 3) := by decide +kernel
theorem dX6_fill_48 : decode cX6_fill 48 = .ok (.iastore, 1) := by decide +kernel
theorem dX6_fill_49 : decode cX6_fill 49 = .ok (.iinc 2 1, 3) := by decide +kernel
theorem dX6_fill_52 : decode cX6_fill 52 = .ok (.goto (-40), 3) := by decide +kernel
theorem dX6_fill_55 : decode cX6_fill 55 = .ok (.iload_n 1, 1) := by decide +kernel
theorem dX6_fill_56 : decode cX6_fill 56 = .ok (.ifCond .ne 16, 3) := by decide +kernel
theorem dX6_fill_59 : decode cX6_fill 59 = .ok (.aload_n 0, 1) := by decide +kernel
theorem dX6_fill_60 : decode cX6_fill 60 = .ok (.iconst 0, 1) := by decide +kernel
theorem dX6_fill_61 : decode cX6_fill 61 = .ok (.aload_n 0, 1) := by decide +kernel
theorem dX6_fill_62 : decode cX6_fill 62 = .ok (.getfield 47, 3) := by decide +kernel
theorem dX6_fill_65 : decode cX6_fill 65 = .ok (.invokevirtual 62, 3) := by decide +kernel
theorem dX6_fill_68 : decode cX6_fill 68 = .ok (.invokevirtual 77, 3) := by decide +kernel
theorem dX6_fill_71 : decode cX6_fill 71 = .ok (.return_, 1) := by decide +kernel
theorem dX6_fill_72 : decode cX6_fill 72 = .ok (.aload_n 0, 1) := by decide +kernel
theorem dX6_fill_73 : decode cX6_fill 73 = .ok (.getfield 51, 3) := by decide +kernel
theorem dX6_fill_76 : decode cX6_fill 76 = .ok (.invokevirtual 81, 3) := by decide +kernel
theorem dX6_fill_79 : decode cX6_fill 79 = .ok (.iconst 0, 1) := by decide +kernel
theorem dX6_fill_80 : decode cX6_fill 80 = .ok (.istore_n 2, 1) := by decide +kernel
theorem dX6_fill_81 : decode cX6_fill 81 = .ok (.iload_n 2, 1) := by decide +kernel
theorem dX6_fill_82 : decode cX6_fill 82 = .ok (.sipush 1500, 3) := by decide +kernel
theorem dX6_fill_85 : decode cX6_fill 85 = .ok (.if_icmp .ge 47, 3) := by decide +kernel
theorem dX6_fill_88 : decode cX6_fill 88 = .ok (.aload_n 0, 1) := by decide +kernel
theorem dX6_fill_89 : decode cX6_fill 89 = .ok (.getfield 51, 3) := by decide +kernel
theorem dX6_fill_92 : decode cX6_fill 92 = .ok (.invokevirtual 86, 3) := by decide +kernel
theorem dX6_fill_95 : decode cX6_fill 95 = .ok (.ifCond .eq 37, 3) := by decide +kernel
theorem dX6_fill_98 : decode cX6_fill 98 = .ok (.aload_n 0, 1) := by decide +kernel
theorem dX6_fill_99 : decode cX6_fill 99 = .ok (.getfield 51, 3) := by decide +kernel
theorem dX6_fill_102 : decode cX6_fill 102 = .ok (.invokevirtual 90, 3) := by decide +kernel
theorem dX6_fill_105 : decode cX6_fill 105 = .ok (.ifCond .eq 21, 3) := by decide +kernel
theorem dX6_fill_108 : decode cX6_fill 108 = .ok (.aload_n 0, 1) := by decide +kernel
theorem dX6_fill_109 : decode cX6_fill 109 = .ok (.aload_n 0, 1) := by decide +kernel
theorem dX6_fill_110 : decode cX6_fill 110 = .ok (.getfield 51, 3) := by decide +kernel
theorem dX6_fill_113 : decode cX6_fill 113 = .ok (.invokevirtual 93, 3) := by decide +kernel
theorem dX6_fill_116 : decode cX6_fill 116 = .ok (.aload_n 0, 1) := by decide +kernel
theorem dX6_fill_117 : decode cX6_fill 117 = .ok (.getfield 51, 3) := by decide +kernel
theorem dX6_fill_120 : decode cX6_fill 120 = .ok (.invokevirtual 96, 3) := by decide +kernel
theorem dX6_fill_123 : decode cX6_fill 123 = .ok (.invokevirtual 77, 3) := by decide +kernel
theorem dX6_fill_126 : decode cX6_fill 126 = .ok (.iinc 2 1, 3) := by decide +kernel
theorem dX6_fill_129 : decode cX6_fill 129 = .ok (.goto (-48), 3) := by decide +kernel
theorem dX6_fill_132 : decode cX6_fill 132 = .ok (.return_, 1) := by decide +kernel
set_option maxRecDepth 20000 in
theorem ggX6_findStems_X4_stem : GoodIn wsX6_findStems wsX4_stem := goodIn_r _ [15, 16, 17, 18, 19, 20, 14, 21, 22, 23, 24, 25, 26, 27, 28, 29, 30, 31, 32, 33, 34, 35, 36, 37, 38, 39, 40, 41, 42, 43, 44, 45, 46, 47, 48, 49, 50, 51, 52, 53, 54, 55, 56, 57, 58, 59, 60, 61, 62, 63, 64, 65, 66, 67, 68, 69, 70, 71, 72, 73, 74, 75, 76, 77, 78, 79, 80, 81, 82, 83, 84, 85, 86, 87, 88, 89, 90, 91, 92, 93, 94, 95, 96, 97, 98, 99, 100, 101, 102, 103, 104, 105, 106, 107, 108, 109, 110, 111, 112, 113, 114, 115, 116, 117, 118, 119, 120, 121, 122, 123, 124, 125, 126, 127, 128, 129, 130, 131, 132, 133, 134, 135, 136, 137, 138, 139, 140, 141, 142, 183, 184, 185] (by decide +kernel) (by decide +kernel)
set_option maxRecDepth 20000 in
theorem gX6_findStems_X4_stem : GoodIn wsX6_findStems (wsV RX6 102 RX4 yX4_stem wsX4_stem) := goodIn_app (goodIn_of _ (by decide +kernel)) ggX6_findStems_X4_stem
set_option maxRecDepth 20000 in
theorem ggX6_findStems_X6_enterStem : GoodIn wsX6_findStems wsX6_enterStem := goodIn_r _ [147, 2, 3, 148, 1, 149, 150, 151, 146, 152, 5, 153, 154, 155, 156, 4, 8, 9, 10, 157, 158, 159, 160, 161, 162, 163, 164, 165, 166, 167, 168, 169, 170, 171, 172, 173, 174, 175, 176, 177, 178, 179, 180, 181, 182] (by decide +kernel) (by decide +kernel)
set_option maxRecDepth 20000 in
theorem gX6_findStems_X6_enterStem : GoodIn wsX6_findStems (wsV RX6 106 RX6 yX6_enterStem wsX6_enterStem) := goodIn_app (goodIn_of _ (by decide +kernel)) ggX6_findStems_X6_enterStem
theorem dX6_findStems_0 : decode cX6_findStems 0 = .ok (.aload_n 0, 1) := by decide +kernel
theorem dX6_findStems_1 : decode cX6_findStems 1 = .ok (.iconst 0, 1) := by decide +kernel
theorem dX6_findStems_2 : decode cX6_findStems 2 = .ok (.putfield 99, 3) := by decide +kernel
theorem dX6_findStems_5 : decode cX6_findStems 5 = .ok (.iconst 0, 1) := by decide +kernel
theorem dX6_findStems_6 : decode cX6_findStems 6 = .ok (.istore_n 1, 1) := by decide +kernel
theorem dX6_findStems_7 : decode cX6_findStems 7 = .ok (.iload_n 1, 1) := by decide +kernel
theorem dX6_findStems_8 : decode cX6_findStems 8 = .ok (.sipush 128, 3) := by decide +kernel
theorem dX6_findStems_11 : decode cX6_findStems 11 = .ok (.if_icmp .ge 16, 3) := by decide +kernel
theorem dX6_findStems_14 : decode cX6_findStems 14 = .ok (.aload_n 0, 1) := by decide +kernel
theorem dX6_findStems_15 : decode cX6_findStems 15 = .ok (.getfield 41, 3) := by decide +kernel
theorem dX6_findStems_18 : decode cX6_findStems 18 = .ok (.iload_n 1, 1) := by decide +kernel
theorem dX6_findStems_19 : decode cX6_findStems 19 = .ok (.iconst (-1), 1) := by decide +kernel
theorem dX6_findStems_20 : decode cX6_findStems 20 = .ok (.iastore, 1) := by decide +kernel
theorem dX6_findStems_21 : decode cX6_findStems 21 = .ok (.iinc 1 1, 3) := by decide +kernel
theorem dX6_findStems_24 : decode cX6_findStems 24 = .ok (.goto (-17), 3) := by decide +kernel
theorem dX6_findStems_27 : decode cX6_findStems 27 = .ok (.iconst 0, 1) := by decide +kernel
theorem dX6_findStems_28 : decode cX6_findStems 28 = .ok (.istore_n 1, 1) := by decide +kernel
theorem dX6_findStems_29 : decode cX6_findStems 29 = .ok (.iload_n 1, 1) := by decide +kernel
theorem dX6_findStems_30 : decode cX6_findStems 30 = .ok (.aload_n 0, 1) := by decide +kernel
theorem dX6_findStems_31 : decode cX6_findStems 31 = .ok (.getfield 55, 3) := by decide +kernel
theorem dX6_findStems_34 : decode cX6_findStems 34 = .ok (.if_icmp .ge 71, 3) := by decide +kernel
theorem dX6_findStems_37 : decode cX6_findStems 37 = .ok (.aload_n 0, 1) := by decide +kernel
theorem dX6_findStems_38 : decode cX6_findStems 38 = .ok (.getfield 31, 3) := by decide +kernel
theorem dX6_findStems_41 : decode cX6_findStems 41 = .ok (.iload_n 1, 1) := by decide +kernel
theorem dX6_findStems_42 : decode cX6_findStems 42 = .ok (.baload, 1) := by decide +kernel
theorem dX6_findStems_43 : decode cX6_findStems 43 = .ok (.ifCond .eq 18, 3) := by decide +kernel
theorem dX6_findStems_46 : decode cX6_findStems 46 = .ok (.aload_n 0, 1) := by decide +kernel
theorem dX6_findStems_47 : decode cX6_findStems 47 = .ok (.getfield 25, 3) := by decide +kernel
theorem dX6_findStems_50 : decode cX6_findStems 50 = .ok (.iload_n 1, 1) := by decide +kernel
theorem dX6_findStems_51 : decode cX6_findStems 51 = .ok (.aload_n 0, 1) := by decide +kernel
theorem dX6_findStems_52 : decode cX6_findStems 52 = .ok (.getfield 22, 3) := by decide +kernel
theorem dX6_findStems_55 : decode cX6_findStems 55 = .ok (.iload_n 1, 1) := by decide +kernel
theorem dX6_findStems_56 : decode cX6_findStems 56 = .ok (.iaload, 1) := by decide +kernel
theorem dX6_findStems_57 : decode cX6_findStems 57 = .ok (.iastore, 1) := by decide +kernel
theorem dX6_findStems_58 : decode cX6_findStems 58 = .ok (.goto 41, 3) := by decide +kernel
theorem dX6_findStems_61 : decode cX6_findStems 61 = .ok (.aload_n 0, 1) := by decide +kernel
theorem dX6_findStems_62 : decode cX6_findStems 62 = .ok (.getfield 25, 3) := by decide +kernel
theorem dX6_findStems_65 : decode cX6_findStems 65 = .ok (.iload_n 1, 1) := by decide +kernel
theorem dX6_findStems_66 : decode cX6_findStems 66 = .ok (.aload_n 0, 1) := by decide +kernel
theorem dX6_findStems_67 : decode cX6_findStems 67 = .ok (.getfield 12, 3) := by decide +kernel
theorem dX6_findStems_70 : decode cX6_findStems 70 = .ok (.aload_n 0, 1) := by decide +kernel
theorem dX6_findStems_71 : decode cX6_findStems 71 = .ok (.getfield 35, 3) := by decide +kernel
theorem dX6_findStems_74 : decode cX6_findStems 74 = .ok (.aload_n 0, 1) := by decide +kernel
theorem dX6_findStems_75 : decode cX6_findStems 75 = .ok (.getfield 38, 3) := by decide +kernel
theorem dX6_findStems_78 : decode cX6_findStems 78 = .ok (.aload_n 0, 1) := by decide +kernel
theorem dX6_findStems_79 : decode cX6_findStems 79 = .ok (.getfield 18, 3) := by decide +kernel
theorem dX6_findStems_82 : decode cX6_findStems 82 = .ok (.iload_n 1, 1) := by decide +kernel
theorem dX6_findStems_83 : decode cX6_findStems 83 = .ok (.iaload, 1) := by decide +kernel
theorem dX6_findStems_84 : decode cX6_findStems 84 = .ok (.aload_n 0, 1) := by decide +kernel
theorem dX6_findStems_85 : decode cX6_findStems 85 = .ok (.getfield 22, 3) := by decide +kernel
theorem dX6_findStems_88 : decode cX6_findStems 88 = .ok (.iload_n 1, 1) := by decide +kernel
theorem dX6_findStems_89 : decode cX6_findStems 89 = .ok (.iaload, 1) := by decide +kernel
theorem dX6_findStems_90 : decode cX6_findStems 90 = .ok (.invokevirtual 102, 3) := by decide +kernel
theorem dX6_findStems_93 : decode cX6_findStems 93 = .ok (.iastore, 1) := by decide +kernel
theorem dX6_findStems_94 : decode cX6_findStems 94 = .ok (.aload_n 0, 1) := by decide +kernel
theorem dX6_findStems_95 : decode cX6_findStems 95 = .ok (.iload_n 1, 1) := by decide +kernel
theorem dX6_findStems_96 : decode cX6_findStems 96 = .ok (.invokevirtual 106, 3) := by decide +kernel
theorem dX6_findStems_99 : decode cX6_findStems 99 = .ok (.iinc 1 1, 3) := by decide +kernel
theorem dX6_findStems_102 : decode cX6_findStems 102 = .ok (.goto (-73), 3) := by decide +kernel
theorem dX6_findStems_105 : decode cX6_findStems 105 = .ok (.return_, 1) := by decide +kernel
theorem dX6_count_0 : decode cX6_count 0 = .ok (.aload_n 0, 1) := by decide +kernel
theorem dX6_count_1 : decode cX6_count 1 = .ok (.getfield 55, 3) := by decide +kernel
theorem dX6_count_4 : decode cX6_count 4 = .ok (.ireturn, 1) := by decide +kernel
set_option maxRecDepth 20000 in
theorem ggX6_tell_X6_exists : GoodIn wsX6_tell wsX6_exists := goodIn_r _ [10, 11, 12, 13, 14, 15, 16, 17, 18, 19, 20, 21, 22, 23, 24, 25, 26] (by decide +kernel) (by decide +kernel)
set_option maxRecDepth 20000 in
theorem gX6_tell_X6_exists : GoodIn wsX6_tell (wsV RX6 110 RX6 yX6_exists wsX6_exists) := goodIn_app (goodIn_of _ (by decide +kernel)) ggX6_tell_X6_exists
theorem dX6_tell_0 : decode cX6_tell 0 = .ok (.aload_n 0, 1) := by decide +kernel
theorem dX6_tell_1 : decode cX6_tell 1 = .ok (.iload_n 1, 1) := by decide +kernel
theorem dX6_tell_2 : decode cX6_tell 2 = .ok (.invokevirtual 110, 3) := by decide +kernel
theorem dX6_tell_5 : decode cX6_tell 5 = .ok (.ifCond .ne 5, 3) := by decide +kernel
theorem dX6_tell_8 : decode cX6_tell 8 = .ok (.iconst (-1), 1) := by decide +kernel
theorem dX6_tell_9 : decode cX6_tell 9 = .ok (.ireturn, 1) := by decide +kernel
theorem dX6_tell_10 : decode cX6_tell 10 = .ok (.iload_n 2, 1) := by decide +kernel
theorem dX6_tell_11 : decode cX6_tell 11 = .ok (.tableswitch 76 0 4 #[33, 40, 47, 54, 69], 33) := by decide +kernel
theorem dX6_tell_44 : decode cX6_tell 44 = .ok (.aload_n 0, 1) := by decide +kernel
theorem dX6_tell_45 : decode cX6_tell 45 = .ok (.getfield 28, 3) := by decide +kernel
theorem dX6_tell_48 : decode cX6_tell 48 = .ok (.iload_n 1, 1) := by decide +kernel
theorem dX6_tell_49 : decode cX6_tell 49 = .ok (.iaload, 1) := by decide +kernel
theorem dX6_tell_50 : decode cX6_tell 50 = .ok (.ireturn, 1) := by decide +kernel
theorem dX6_tell_51 : decode cX6_tell 51 = .ok (.aload_n 0, 1) := by decide +kernel
theorem dX6_tell_52 : decode cX6_tell 52 = .ok (.getfield 22, 3) := by decide +kernel
theorem dX6_tell_55 : decode cX6_tell 55 = .ok (.iload_n 1, 1) := by decide +kernel
theorem dX6_tell_56 : decode cX6_tell 56 = .ok (.iaload, 1) := by decide +kernel
theorem dX6_tell_57 : decode cX6_tell 57 = .ok (.ireturn, 1) := by decide +kernel
theorem dX6_tell_58 : decode cX6_tell 58 = .ok (.aload_n 0, 1) := by decide +kernel
theorem dX6_tell_59 : decode cX6_tell 59 = .ok (.getfield 25, 3) := by decide +kernel
theorem dX6_tell_62 : decode cX6_tell 62 = .ok (.iload_n 1, 1) := by decide +kernel
theorem dX6_tell_63 : decode cX6_tell 63 = .ok (.iaload, 1) := by decide +kernel
theorem dX6_tell_64 : decode cX6_tell 64 = .ok (.ireturn, 1) := by decide +kernel
theorem dX6_tell_65 : decode cX6_tell 65 = .ok (.aload_n 0, 1) := by decide +kernel
theorem dX6_tell_66 : decode cX6_tell 66 = .ok (.getfield 31, 3) := by decide +kernel
theorem dX6_tell_69 : decode cX6_tell 69 = .ok (.iload_n 1, 1) := by decide +kernel
theorem dX6_tell_70 : decode cX6_tell 70 = .ok (.baload, 1) := by decide +kernel
theorem dX6_tell_71 : decode cX6_tell 71 = .ok (.ifCond .eq 7, 3) := by decide +kernel
theorem dX6_tell_74 : decode cX6_tell 74 = .ok (.iconst 1, 1) := by decide +kernel
theorem dX6_tell_75 : decode cX6_tell 75 = .ok (.goto 4, 3) := by decide +kernel
theorem dX6_tell_78 : decode cX6_tell 78 = .ok (.iconst 0, 1) := by decide +kernel
theorem dX6_tell_79 : decode cX6_tell 79 = .ok (.ireturn, 1) := by decide +kernel
theorem dX6_tell_80 : decode cX6_tell 80 = .ok (.aload_n 0, 1) := by decide +kernel
theorem dX6_tell_81 : decode cX6_tell 81 = .ok (.getfield 18, 3) := by decide +kernel
theorem dX6_tell_84 : decode cX6_tell 84 = .ok (.iload_n 1, 1) := by decide +kernel
theorem dX6_tell_85 : decode cX6_tell 85 = .ok (.iaload, 1) := by decide +kernel
theorem dX6_tell_86 : decode cX6_tell 86 = .ok (.ireturn, 1) := by decide +kernel
theorem dX6_tell_87 : decode cX6_tell 87 = .ok (.iconst (-1), 1) := by decide +kernel
theorem dX6_tell_88 : decode cX6_tell 88 = .ok (.ireturn, 1) := by decide +kernel
set_option maxRecDepth 20000 in
theorem ggX6_character_X6_exists : GoodIn wsX6_character wsX6_exists := goodIn_r _ [9, 10, 20, 21, 22, 23, 24, 25, 26, 27, 28, 29, 30, 31, 32, 33, 34] (by decide +kernel) (by decide +kernel)
set_option maxRecDepth 20000 in
theorem gX6_character_X6_exists : GoodIn wsX6_character (wsV RX6 110 RX6 yX6_exists wsX6_exists) := goodIn_app (goodIn_of _ (by decide +kernel)) ggX6_character_X6_exists
set_option maxRecDepth 20000 in
theorem ggX6_character_X6_stemCharacter : GoodIn wsX6_character wsX6_stemCharacter := goodIn_r _ [14, 15, 3, 16, 4, 17, 18, 8, 19, 20, 21, 22, 23, 24, 25, 26, 27, 28, 29, 30, 31, 32, 33, 34] (by decide +kernel) (by decide +kernel)
set_option maxRecDepth 20000 in
theorem gX6_character_X6_stemCharacter : GoodIn wsX6_character (wsV RX6 114 RX6 yX6_stemCharacter wsX6_stemCharacter) := goodIn_app (goodIn_of _ (by decide +kernel)) ggX6_character_X6_stemCharacter
set_option maxRecDepth 20000 in
theorem ggX6_character_X6_characterOf : GoodIn wsX6_character wsX6_characterOf := goodIn_r _ [19] (by decide +kernel) (by decide +kernel)
set_option maxRecDepth 20000 in
theorem gX6_character_X6_characterOf : GoodIn wsX6_character (va_wsS RX6 118 yX6_characterOf wsX6_characterOf) := goodIn_app (goodIn_of _ (by decide +kernel)) ggX6_character_X6_characterOf
theorem dX6_character_0 : decode cX6_character 0 = .ok (.aload_n 0, 1) := by decide +kernel
theorem dX6_character_1 : decode cX6_character 1 = .ok (.iload_n 1, 1) := by decide +kernel
theorem dX6_character_2 : decode cX6_character 2 = .ok (.invokevirtual 110, 3) := by decide +kernel
theorem dX6_character_5 : decode cX6_character 5 = .ok (.ifCond .eq 30, 3) := by decide +kernel
theorem dX6_character_8 : decode cX6_character 8 = .ok (.iload_n 3, 1) := by decide +kernel
theorem dX6_character_9 : decode cX6_character 9 = .ok (.ifCond .lt 26, 3) := by decide +kernel
theorem dX6_character_12 : decode cX6_character 12 = .ok (.iload_n 3, 1) := by decide +kernel
theorem dX6_character_13 : decode cX6_character 13 = .ok (.iload_n 2, 1) := by decide +kernel
theorem dX6_character_14 : decode cX6_character 14 = .ok (.ifCond .eq 12, 3) := by decide +kernel
theorem dX6_character_17 : decode cX6_character 17 = .ok (.aload_n 0, 1) := by decide +kernel
theorem dX6_character_18 : decode cX6_character 18 = .ok (.getfield 25, 3) := by decide +kernel
theorem dX6_character_21 : decode cX6_character 21 = .ok (.iload_n 1, 1) := by decide +kernel
theorem dX6_character_22 : decode cX6_character 22 = .ok (.iaload, 1) := by decide +kernel
theorem dX6_character_23 : decode cX6_character 23 = .ok (.goto 9, 3) := by decide +kernel
theorem dX6_character_26 : decode cX6_character 26 = .ok (.aload_n 0, 1) := by decide +kernel
theorem dX6_character_27 : decode cX6_character 27 = .ok (.getfield 22, 3) := by decide +kernel
theorem dX6_character_30 : decode cX6_character 30 = .ok (.iload_n 1, 1) := by decide +kernel
theorem dX6_character_31 : decode cX6_character 31 = .ok (.iaload, 1) := by decide +kernel
theorem dX6_character_32 : decode cX6_character 32 = .ok (.if_icmp .lt 5, 3) := by decide +kernel
theorem dX6_character_35 : decode cX6_character 35 = .ok (.iconst (-1), 1) := by decide +kernel
theorem dX6_character_36 : decode cX6_character 36 = .ok (.ireturn, 1) := by decide +kernel
theorem dX6_character_37 : decode cX6_character 37 = .ok (.iload_n 2, 1) := by decide +kernel
theorem dX6_character_38 : decode cX6_character 38 = .ok (.ifCond .eq 12, 3) := by decide +kernel
theorem dX6_character_41 : decode cX6_character 41 = .ok (.aload_n 0, 1) := by decide +kernel
theorem dX6_character_42 : decode cX6_character 42 = .ok (.iload_n 1, 1) := by decide +kernel
theorem dX6_character_43 : decode cX6_character 43 = .ok (.iload_n 3, 1) := by decide +kernel
theorem dX6_character_44 : decode cX6_character 44 = .ok (.invokevirtual 114, 3) := by decide +kernel
theorem dX6_character_47 : decode cX6_character 47 = .ok (.goto 18, 3) := by decide +kernel
theorem dX6_character_50 : decode cX6_character 50 = .ok (.aload_n 0, 1) := by decide +kernel
theorem dX6_character_51 : decode cX6_character 51 = .ok (.getfield 35, 3) := by decide +kernel
theorem dX6_character_54 : decode cX6_character 54 = .ok (.aload_n 0, 1) := by decide +kernel
theorem dX6_character_55 : decode cX6_character 55 = .ok (.getfield 18, 3) := by decide +kernel
theorem dX6_character_58 : decode cX6_character 58 = .ok (.iload_n 1, 1) := by decide +kernel
theorem dX6_character_59 : decode cX6_character 59 = .ok (.iaload, 1) := by decide +kernel
theorem dX6_character_60 : decode cX6_character 60 = .ok (.iload_n 3, 1) := by decide +kernel
theorem dX6_character_61 : decode cX6_character 61 = .ok (.iadd, 1) := by decide +kernel
theorem dX6_character_62 : decode cX6_character 62 = .ok (.invokestatic 118, 3) := by decide +kernel
theorem dX6_character_65 : decode cX6_character 65 = .ok (.ireturn, 1) := by decide +kernel
theorem dX6_stemKinds_0 : decode cX6_stemKinds 0 = .ok (.aload_n 0, 1) := by decide +kernel
theorem dX6_stemKinds_1 : decode cX6_stemKinds 1 = .ok (.getfield 99, 3) := by decide +kernel
theorem dX6_stemKinds_4 : decode cX6_stemKinds 4 = .ok (.ireturn, 1) := by decide +kernel
set_option maxRecDepth 20000 in
theorem ggX6_timesOfStem_X6_exists : GoodIn wsX6_timesOfStem wsX6_exists := goodIn_r _ [7, 1, 23, 24, 25, 26, 27, 28, 29, 30, 31, 32, 33, 34, 35, 36, 37] (by decide +kernel) (by decide +kernel)
set_option maxRecDepth 20000 in
theorem gX6_timesOfStem_X6_exists : GoodIn wsX6_timesOfStem (wsV RX6 110 RX6 yX6_exists wsX6_exists) := goodIn_app (goodIn_of _ (by decide +kernel)) ggX6_timesOfStem_X6_exists
set_option maxRecDepth 20000 in
theorem ggX6_timesOfStem_X6_haveSameStem : GoodIn wsX6_timesOfStem wsX6_haveSameStem := goodIn_r _ [11, 12, 13, 14, 15, 6, 16, 2, 17, 18, 19, 20, 21, 22, 23, 24, 25, 26, 27, 28, 29, 30, 31, 32, 33, 34, 35, 36, 37] (by decide +kernel) (by decide +kernel)
set_option maxRecDepth 20000 in
theorem gX6_timesOfStem_X6_haveSameStem : GoodIn wsX6_timesOfStem (wsV RX6 122 RX6 yX6_haveSameStem wsX6_haveSameStem) := goodIn_app (goodIn_of _ (by decide +kernel)) ggX6_timesOfStem_X6_haveSameStem
theorem dX6_timesOfStem_0 : decode cX6_timesOfStem 0 = .ok (.aload_n 0, 1) := by decide +kernel
theorem dX6_timesOfStem_1 : decode cX6_timesOfStem 1 = .ok (.iload_n 1, 1) := by decide +kernel
theorem dX6_timesOfStem_2 : decode cX6_timesOfStem 2 = .ok (.invokevirtual 110, 3) := by decide +kernel
theorem dX6_timesOfStem_5 : decode cX6_timesOfStem 5 = .ok (.ifCond .ne 5, 3) := by decide +kernel
theorem dX6_timesOfStem_8 : decode cX6_timesOfStem 8 = .ok (.iconst 0, 1) := by decide +kernel
theorem dX6_timesOfStem_9 : decode cX6_timesOfStem 9 = .ok (.ireturn, 1) := by decide +kernel
theorem dX6_timesOfStem_10 : decode cX6_timesOfStem 10 = .ok (.iconst 0, 1) := by decide +kernel
theorem dX6_timesOfStem_11 : decode cX6_timesOfStem 11 = .ok (.istore_n 2, 1) := by decide +kernel
theorem dX6_timesOfStem_12 : decode cX6_timesOfStem 12 = .ok (.iconst 0, 1) := by decide +kernel
theorem dX6_timesOfStem_13 : decode cX6_timesOfStem 13 = .ok (.istore_n 3, 1) := by decide +kernel
theorem dX6_timesOfStem_14 : decode cX6_timesOfStem 14 = .ok (.iload_n 3, 1) := by decide +kernel
theorem dX6_timesOfStem_15 : decode cX6_timesOfStem 15 = .ok (.aload_n 0, 1) := by decide +kernel
theorem dX6_timesOfStem_16 : decode cX6_timesOfStem 16 = .ok (.getfield 55, 3) := by decide +kernel
theorem dX6_timesOfStem_19 : decode cX6_timesOfStem 19 = .ok (.if_icmp .ge 30, 3) := by decide +kernel
theorem dX6_timesOfStem_22 : decode cX6_timesOfStem 22 = .ok (.aload_n 0, 1) := by decide +kernel
theorem dX6_timesOfStem_23 : decode cX6_timesOfStem 23 = .ok (.getfield 31, 3) := by decide +kernel
theorem dX6_timesOfStem_26 : decode cX6_timesOfStem 26 = .ok (.iload_n 3, 1) := by decide +kernel
theorem dX6_timesOfStem_27 : decode cX6_timesOfStem 27 = .ok (.baload, 1) := by decide +kernel
theorem dX6_timesOfStem_28 : decode cX6_timesOfStem 28 = .ok (.ifCond .ne 15, 3) := by decide +kernel
theorem dX6_timesOfStem_31 : decode cX6_timesOfStem 31 = .ok (.aload_n 0, 1) := by decide +kernel
theorem dX6_timesOfStem_32 : decode cX6_timesOfStem 32 = .ok (.iload_n 1, 1) := by decide +kernel
theorem dX6_timesOfStem_33 : decode cX6_timesOfStem 33 = .ok (.iload_n 3, 1) := by decide +kernel
theorem dX6_timesOfStem_34 : decode cX6_timesOfStem 34 = .ok (.invokevirtual 122, 3) := by decide +kernel
theorem dX6_timesOfStem_37 : decode cX6_timesOfStem 37 = .ok (.ifCond .eq 6, 3) := by decide +kernel
theorem dX6_timesOfStem_40 : decode cX6_timesOfStem 40 = .ok (.iinc 2 1, 3) := by decide +kernel
theorem dX6_timesOfStem_43 : decode cX6_timesOfStem 43 = .ok (.iinc 3 1, 3) := by decide +kernel
theorem dX6_timesOfStem_46 : decode cX6_timesOfStem 46 = .ok (.goto (-32), 3) := by decide +kernel
theorem dX6_timesOfStem_49 : decode cX6_timesOfStem 49 = .ok (.iload_n 2, 1) := by decide +kernel
theorem dX6_timesOfStem_50 : decode cX6_timesOfStem 50 = .ok (.ireturn, 1) := by decide +kernel
theorem dX6_exists_0 : decode cX6_exists 0 = .ok (.iload_n 1, 1) := by decide +kernel
theorem dX6_exists_1 : decode cX6_exists 1 = .ok (.ifCond .lt 15, 3) := by decide +kernel
theorem dX6_exists_4 : decode cX6_exists 4 = .ok (.iload_n 1, 1) := by decide +kernel
theorem dX6_exists_5 : decode cX6_exists 5 = .ok (.aload_n 0, 1) := by decide +kernel
theorem dX6_exists_6 : decode cX6_exists 6 = .ok (.getfield 55, 3) := by decide +kernel
theorem dX6_exists_9 : decode cX6_exists 9 = .ok (.if_icmp .ge 7, 3) := by decide +kernel
theorem dX6_exists_12 : decode cX6_exists 12 = .ok (.iconst 1, 1) := by decide +kernel
theorem dX6_exists_13 : decode cX6_exists 13 = .ok (.goto 4, 3) := by decide +kernel
theorem dX6_exists_16 : decode cX6_exists 16 = .ok (.iconst 0, 1) := by decide +kernel
theorem dX6_exists_17 : decode cX6_exists 17 = .ok (.ireturn, 1) := by decide +kernel
set_option maxRecDepth 20000 in
theorem ggX6_stemCharacter_X6_characterOf : GoodIn wsX6_stemCharacter wsX6_characterOf := goodIn_r _ [8] (by decide +kernel) (by decide +kernel)
set_option maxRecDepth 20000 in
theorem gX6_stemCharacter_X6_characterOf : GoodIn wsX6_stemCharacter (va_wsS RX6 118 yX6_characterOf wsX6_characterOf) := goodIn_app (goodIn_of _ (by decide +kernel)) ggX6_stemCharacter_X6_characterOf
theorem dX6_stemCharacter_0 : decode cX6_stemCharacter 0 = .ok (.aload_n 0, 1) := by decide +kernel
theorem dX6_stemCharacter_1 : decode cX6_stemCharacter 1 = .ok (.getfield 31, 3) := by decide +kernel
theorem dX6_stemCharacter_4 : decode cX6_stemCharacter 4 = .ok (.iload_n 1, 1) := by decide +kernel
theorem dX6_stemCharacter_5 : decode cX6_stemCharacter 5 = .ok (.baload, 1) := by decide +kernel
theorem dX6_stemCharacter_6 : decode cX6_stemCharacter 6 = .ok (.ifCond .eq 10, 3) := by decide +kernel
theorem dX6_stemCharacter_9 : decode cX6_stemCharacter 9 = .ok (.aload_n 0, 1) := by decide +kernel
theorem dX6_stemCharacter_10 : decode cX6_stemCharacter 10 = .ok (.getfield 35, 3) := by decide +kernel
theorem dX6_stemCharacter_13 : decode cX6_stemCharacter 13 = .ok (.goto 7, 3) := by decide +kernel
theorem dX6_stemCharacter_16 : decode cX6_stemCharacter 16 = .ok (.aload_n 0, 1) := by decide +kernel
theorem dX6_stemCharacter_17 : decode cX6_stemCharacter 17 = .ok (.getfield 38, 3) := by decide +kernel
theorem dX6_stemCharacter_20 : decode cX6_stemCharacter 20 = .ok (.aload_n 0, 1) := by decide +kernel
theorem dX6_stemCharacter_21 : decode cX6_stemCharacter 21 = .ok (.getfield 18, 3) := by decide +kernel
theorem dX6_stemCharacter_24 : decode cX6_stemCharacter 24 = .ok (.iload_n 1, 1) := by decide +kernel
theorem dX6_stemCharacter_25 : decode cX6_stemCharacter 25 = .ok (.iaload, 1) := by decide +kernel
theorem dX6_stemCharacter_26 : decode cX6_stemCharacter 26 = .ok (.iload_n 2, 1) := by decide +kernel
theorem dX6_stemCharacter_27 : decode cX6_stemCharacter 27 = .ok (.iadd, 1) := by decide +kernel
theorem dX6_stemCharacter_28 : decode cX6_stemCharacter 28 = .ok (.invokestatic 118, 3) := by decide +kernel
theorem dX6_stemCharacter_31 : decode cX6_stemCharacter 31 = .ok (.ireturn, 1) := by decide +kernel
theorem dX6_characterOf_0 : decode cX6_characterOf 0 = .ok (.iload_n 1, 1) := by decide +kernel
theorem dX6_characterOf_1 : decode cX6_characterOf 1 = .ok (.ifCond .lt 15, 3) := by decide +kernel
theorem dX6_characterOf_4 : decode cX6_characterOf 4 = .ok (.iload_n 1, 1) := by decide +kernel
theorem dX6_characterOf_5 : decode cX6_characterOf 5 = .ok (.aload_n 0, 1) := by decide +kernel
theorem dX6_characterOf_6 : decode cX6_characterOf 6 = .ok (.arraylength, 1) := by decide +kernel
theorem dX6_characterOf_7 : decode cX6_characterOf 7 = .ok (.if_icmp .ge 9, 3) := by decide +kernel
theorem dX6_characterOf_10 : decode cX6_characterOf 10 = .ok (.aload_n 0, 1) := by decide +kernel
theorem dX6_characterOf_11 : decode cX6_characterOf 11 = .ok (.iload_n 1, 1) := by decide +kernel
theorem dX6_characterOf_12 : decode cX6_characterOf 12 = .ok (.iaload, 1) := by decide +kernel
theorem dX6_characterOf_13 : decode cX6_characterOf 13 = .ok (.goto 4, 3) := by decide +kernel
theorem dX6_characterOf_16 : decode cX6_characterOf 16 = .ok (.iconst (-1), 1) := by decide +kernel
theorem dX6_characterOf_17 : decode cX6_characterOf 17 = .ok (.ireturn, 1) := by decide +kernel
set_option maxRecDepth 20000 in
theorem ggX6_cutRows_X6_behindRow : GoodIn wsX6_cutRows wsX6_behindRow := goodIn_r _ [10, 11, 12, 13, 14, 15, 16, 17, 18, 19, 20, 21, 22, 23, 24, 25, 26, 27, 28, 29, 30, 31, 53, 54, 55, 56, 57, 58, 59, 60, 61, 62, 63, 64, 65, 66, 67, 68, 69] (by decide +kernel) (by decide +kernel)
set_option maxRecDepth 20000 in
theorem gX6_cutRows_X6_behindRow : GoodIn wsX6_cutRows (wsV RX6 126 RX6 yX6_behindRow wsX6_behindRow) := goodIn_app (goodIn_of _ (by decide +kernel)) ggX6_cutRows_X6_behindRow
set_option maxRecDepth 20000 in
theorem ggX6_cutRows_X6_addRow : GoodIn wsX6_cutRows wsX6_addRow := goodIn_r _ [35, 1, 11, 36, 37, 38, 9, 39, 12, 13, 14, 15, 16, 17, 18, 40, 27, 21, 28, 29, 30, 31, 41, 42, 43, 44, 45, 46, 47, 48, 49, 4, 50, 51, 52, 53, 54, 55, 56, 57, 58, 59, 60, 61, 62, 63, 64, 65, 66, 67, 68, 69] (by decide +kernel) (by decide +kernel)
set_option maxRecDepth 20000 in
theorem gX6_cutRows_X6_addRow : GoodIn wsX6_cutRows (wsV RX6 129 RX6 yX6_addRow wsX6_addRow) := goodIn_app (goodIn_of _ (by decide +kernel)) ggX6_cutRows_X6_addRow
theorem dX6_cutRows_0 : decode cX6_cutRows 0 = .ok (.iload_n 1, 1) := by decide +kernel
theorem dX6_cutRows_1 : decode cX6_cutRows 1 = .ok (.istore_n 3, 1) := by decide +kernel
theorem dX6_cutRows_2 : decode cX6_cutRows 2 = .ok (.iload_n 3, 1) := by decide +kernel
theorem dX6_cutRows_3 : decode cX6_cutRows 3 = .ok (.iload_n 2, 1) := by decide +kernel
theorem dX6_cutRows_4 : decode cX6_cutRows 4 = .ok (.if_icmp .ge 46, 3) := by decide +kernel
theorem dX6_cutRows_7 : decode cX6_cutRows 7 = .ok (.aload_n 0, 1) := by decide +kernel
theorem dX6_cutRows_8 : decode cX6_cutRows 8 = .ok (.getfield 59, 3) := by decide +kernel
theorem dX6_cutRows_11 : decode cX6_cutRows 11 = .ok (.sipush 300, 3) := by decide +kernel
theorem dX6_cutRows_14 : decode cX6_cutRows 14 = .ok (.if_icmp .ge 36, 3) := by decide +kernel
theorem dX6_cutRows_17 : decode cX6_cutRows 17 = .ok (.aload_n 0, 1) := by decide +kernel
theorem dX6_cutRows_18 : decode cX6_cutRows 18 = .ok (.iload_n 3, 1) := by decide +kernel
theorem dX6_cutRows_19 : decode cX6_cutRows 19 = .ok (.iload_n 2, 1) := by decide +kernel
theorem dX6_cutRows_20 : decode cX6_cutRows 20 = .ok (.invokevirtual 126, 3) := by decide +kernel
theorem dX6_cutRows_23 : decode cX6_cutRows 23 = .ok (.istore 4, 2) := by decide +kernel
theorem dX6_cutRows_25 : decode cX6_cutRows 25 = .ok (.iload 4, 2) := by decide +kernel
theorem dX6_cutRows_27 : decode cX6_cutRows 27 = .ok (.iload_n 3, 1) := by decide +kernel
theorem dX6_cutRows_28 : decode cX6_cutRows 28 = .ok (.if_icmp .le 10, 3) := by decide +kernel
theorem dX6_cutRows_31 : decode cX6_cutRows 31 = .ok (.aload_n 0, 1) := by decide +kernel
theorem dX6_cutRows_32 : decode cX6_cutRows 32 = .ok (.iload_n 3, 1) := by decide +kernel
theorem dX6_cutRows_33 : decode cX6_cutRows 33 = .ok (.iload 4, 2) := by decide +kernel
theorem dX6_cutRows_35 : decode cX6_cutRows 35 = .ok (.invokevirtual 129, 3) := by decide +kernel
theorem dX6_cutRows_38 : decode cX6_cutRows 38 = .ok (.iload_n 3, 1) := by decide +kernel
theorem dX6_cutRows_39 : decode cX6_cutRows 39 = .ok (.iconst 1, 1) := by decide +kernel
theorem dX6_cutRows_40 : decode cX6_cutRows 40 = .ok (.iadd, 1) := by decide +kernel
theorem dX6_cutRows_41 : decode cX6_cutRows 41 = .ok (.iload 4, 2) := by decide +kernel
theorem dX6_cutRows_43 : decode cX6_cutRows 43 = .ok (.invokestatic 132, 3) := by decide +kernel
theorem dX6_cutRows_46 : decode cX6_cutRows 46 = .ok (.istore_n 3, 1) := by decide +kernel
theorem dX6_cutRows_47 : decode cX6_cutRows 47 = .ok (.goto (-45), 3) := by decide +kernel
theorem dX6_cutRows_50 : decode cX6_cutRows 50 = .ok (.return_, 1) := by decide +kernel
set_option maxRecDepth 20000 in
theorem ggX6_behindRow_X5_get : GoodIn wsX6_behindRow wsX5_get := goodIn_r _ [6, 7, 8, 37, 38] (by decide +kernel) (by decide +kernel)
set_option maxRecDepth 20000 in
theorem gX6_behindRow_X5_get : GoodIn wsX6_behindRow (wsV RX6 68 RX5 yX5_get wsX5_get) := goodIn_app (goodIn_of _ (by decide +kernel)) ggX6_behindRow_X5_get
set_option maxRecDepth 20000 in
theorem ggX6_behindRow_X0_isLetterOrDigit : GoodIn wsX6_behindRow wsX0_isLetterOrDigit := goodIn_r _ [12, 13, 14, 11, 15, 16, 17, 18] (by decide +kernel) (by decide +kernel)
set_option maxRecDepth 20000 in
theorem gX6_behindRow_X0_isLetterOrDigit : GoodIn wsX6_behindRow (va_wsS RX6 137 yX0_isLetterOrDigit wsX0_isLetterOrDigit) := goodIn_app (goodIn_of _ (by decide +kernel)) ggX6_behindRow_X0_isLetterOrDigit
set_option maxRecDepth 20000 in
theorem ggX6_behindRow_X0_isJoin : GoodIn wsX6_behindRow wsX0_isJoin := goodIn_r _ [21] (by decide +kernel) (by decide +kernel)
set_option maxRecDepth 20000 in
theorem gX6_behindRow_X0_isJoin : GoodIn wsX6_behindRow (va_wsS RX6 140 yX0_isJoin wsX0_isJoin) := goodIn_app (goodIn_of _ (by decide +kernel)) ggX6_behindRow_X0_isJoin
theorem dX6_behindRow_0 : decode cX6_behindRow 0 = .ok (.iload_n 1, 1) := by decide +kernel
theorem dX6_behindRow_1 : decode cX6_behindRow 1 = .ok (.istore_n 3, 1) := by decide +kernel
theorem dX6_behindRow_2 : decode cX6_behindRow 2 = .ok (.iload_n 1, 1) := by decide +kernel
theorem dX6_behindRow_3 : decode cX6_behindRow 3 = .ok (.istore 4, 2) := by decide +kernel
theorem dX6_behindRow_5 : decode cX6_behindRow 5 = .ok (.iload 4, 2) := by decide +kernel
theorem dX6_behindRow_7 : decode cX6_behindRow 7 = .ok (.iload_n 2, 1) := by decide +kernel
theorem dX6_behindRow_8 : decode cX6_behindRow 8 = .ok (.if_icmp .ge 62, 3) := by decide +kernel
theorem dX6_behindRow_11 : decode cX6_behindRow 11 = .ok (.aload_n 0, 1) := by decide +kernel
theorem dX6_behindRow_12 : decode cX6_behindRow 12 = .ok (.getfield 47, 3) := by decide +kernel
theorem dX6_behindRow_15 : decode cX6_behindRow 15 = .ok (.iload 4, 2) := by decide +kernel
theorem dX6_behindRow_17 : decode cX6_behindRow 17 = .ok (.invokevirtual 68, 3) := by decide +kernel
theorem dX6_behindRow_20 : decode cX6_behindRow 20 = .ok (.invokestatic 137, 3) := by decide +kernel
theorem dX6_behindRow_23 : decode cX6_behindRow 23 = .ok (.ifCond .eq 11, 3) := by decide +kernel
theorem dX6_behindRow_26 : decode cX6_behindRow 26 = .ok (.iload 4, 2) := by decide +kernel
theorem dX6_behindRow_28 : decode cX6_behindRow 28 = .ok (.iconst 1, 1) := by decide +kernel
theorem dX6_behindRow_29 : decode cX6_behindRow 29 = .ok (.iadd, 1) := by decide +kernel
theorem dX6_behindRow_30 : decode cX6_behindRow 30 = .ok (.istore_n 3, 1) := by decide +kernel
theorem dX6_behindRow_31 : decode cX6_behindRow 31 = .ok (.goto 33, 3) := by decide +kernel
theorem dX6_behindRow_34 : decode cX6_behindRow 34 = .ok (.iload 4, 2) := by decide +kernel
theorem dX6_behindRow_36 : decode cX6_behindRow 36 = .ok (.iload_n 3, 1) := by decide +kernel
theorem dX6_behindRow_37 : decode cX6_behindRow 37 = .ok (.if_icmp .gt 33, 3) := by decide +kernel
theorem dX6_behindRow_40 : decode cX6_behindRow 40 = .ok (.iload 4, 2) := by decide +kernel
theorem dX6_behindRow_42 : decode cX6_behindRow 42 = .ok (.iload_n 1, 1) := by decide +kernel
theorem dX6_behindRow_43 : decode cX6_behindRow 43 = .ok (.if_icmp .eq 27, 3) := by decide +kernel
theorem dX6_behindRow_46 : decode cX6_behindRow 46 = .ok (.aload_n 0, 1) := by decide +kernel
theorem dX6_behindRow_47 : decode cX6_behindRow 47 = .ok (.getfield 47, 3) := by decide +kernel
theorem dX6_behindRow_50 : decode cX6_behindRow 50 = .ok (.iload 4, 2) := by decide +kernel
theorem dX6_behindRow_52 : decode cX6_behindRow 52 = .ok (.invokevirtual 68, 3) := by decide +kernel
theorem dX6_behindRow_55 : decode cX6_behindRow 55 = .ok (.invokestatic 140, 3) := by decide +kernel
theorem dX6_behindRow_58 : decode cX6_behindRow 58 = .ok (.ifCond .ne 6, 3) := by decide +kernel
theorem dX6_behindRow_61 : decode cX6_behindRow 61 = .ok (.goto 9, 3) := by decide +kernel
theorem dX6_behindRow_64 : decode cX6_behindRow 64 = .ok (.iinc 4 1, 3) := by decide +kernel
theorem dX6_behindRow_67 : decode cX6_behindRow 67 = .ok (.goto (-62), 3) := by decide +kernel
theorem dX6_behindRow_70 : decode cX6_behindRow 70 = .ok (.iload_n 3, 1) := by decide +kernel
theorem dX6_behindRow_71 : decode cX6_behindRow 71 = .ok (.ireturn, 1) := by decide +kernel
set_option maxRecDepth 20000 in
theorem ggX6_addRow_X6_isAddress : GoodIn wsX6_addRow wsX6_isAddress := goodIn_r _ [7, 2, 8, 9, 10, 11, 12, 13, 14, 15, 16, 17, 18, 35, 36, 37, 38, 39, 40, 41, 42, 43, 44, 45, 46, 47, 48, 49, 50, 51] (by decide +kernel) (by decide +kernel)
set_option maxRecDepth 20000 in
theorem gX6_addRow_X6_isAddress : GoodIn wsX6_addRow (wsV RX6 143 RX6 yX6_isAddress wsX6_isAddress) := goodIn_app (goodIn_of _ (by decide +kernel)) ggX6_addRow_X6_isAddress
set_option maxRecDepth 20000 in
theorem ggX6_addRow_X5_get : GoodIn wsX6_addRow wsX5_get := goodIn_r _ [12, 13, 14, 50, 51] (by decide +kernel) (by decide +kernel)
set_option maxRecDepth 20000 in
theorem gX6_addRow_X5_get : GoodIn wsX6_addRow (wsV RX6 68 RX5 yX5_get wsX5_get) := goodIn_app (goodIn_of _ (by decide +kernel)) ggX6_addRow_X5_get
set_option maxRecDepth 20000 in
theorem ggX6_addRow_X0_isJoin : GoodIn wsX6_addRow wsX0_isJoin := goodIn_r _ [21] (by decide +kernel) (by decide +kernel)
set_option maxRecDepth 20000 in
theorem gX6_addRow_X0_isJoin : GoodIn wsX6_addRow (va_wsS RX6 140 yX0_isJoin wsX0_isJoin) := goodIn_app (goodIn_of _ (by decide +kernel)) ggX6_addRow_X0_isJoin
set_option maxRecDepth 20000 in
theorem ggX6_addRow_X6_addToken : GoodIn wsX6_addRow wsX6_addToken := goodIn_r _ [25, 26, 27, 28, 29, 30, 31, 32, 33, 34, 35, 36, 37, 38, 39, 40, 41, 42, 43, 44, 45, 46, 47, 48, 49] (by decide +kernel) (by decide +kernel)
set_option maxRecDepth 20000 in
theorem gX6_addRow_X6_addToken : GoodIn wsX6_addRow (wsV RX6 146 RX6 yX6_addToken wsX6_addToken) := goodIn_app (goodIn_of _ (by decide +kernel)) ggX6_addRow_X6_addToken
theorem dX6_addRow_0 : decode cX6_addRow 0 = .ok (.aload_n 0, 1) := by decide +kernel
theorem dX6_addRow_1 : decode cX6_addRow 1 = .ok (.getfield 59, 3) := by decide +kernel
theorem dX6_addRow_4 : decode cX6_addRow 4 = .ok (.istore_n 3, 1) := by decide +kernel
theorem dX6_addRow_5 : decode cX6_addRow 5 = .ok (.iload_n 1, 1) := by decide +kernel
theorem dX6_addRow_6 : decode cX6_addRow 6 = .ok (.istore 4, 2) := by decide +kernel
theorem dX6_addRow_8 : decode cX6_addRow 8 = .ok (.aload_n 0, 1) := by decide +kernel
theorem dX6_addRow_9 : decode cX6_addRow 9 = .ok (.iload_n 1, 1) := by decide +kernel
theorem dX6_addRow_10 : decode cX6_addRow 10 = .ok (.iload_n 2, 1) := by decide +kernel
theorem dX6_addRow_11 : decode cX6_addRow 11 = .ok (.invokevirtual 143, 3) := by decide +kernel
theorem dX6_addRow_14 : decode cX6_addRow 14 = .ok (.istore 5, 2) := by decide +kernel
theorem dX6_addRow_16 : decode cX6_addRow 16 = .ok (.iload_n 1, 1) := by decide +kernel
theorem dX6_addRow_17 : decode cX6_addRow 17 = .ok (.istore 6, 2) := by decide +kernel
theorem dX6_addRow_19 : decode cX6_addRow 19 = .ok (.iload 6, 2) := by decide +kernel
theorem dX6_addRow_21 : decode cX6_addRow 21 = .ok (.iload_n 2, 1) := by decide +kernel
theorem dX6_addRow_22 : decode cX6_addRow 22 = .ok (.if_icmp .gt 78, 3) := by decide +kernel
theorem dX6_addRow_25 : decode cX6_addRow 25 = .ok (.iload 6, 2) := by decide +kernel
theorem dX6_addRow_27 : decode cX6_addRow 27 = .ok (.iload_n 2, 1) := by decide +kernel
theorem dX6_addRow_28 : decode cX6_addRow 28 = .ok (.if_icmp .eq 18, 3) := by decide +kernel
theorem dX6_addRow_31 : decode cX6_addRow 31 = .ok (.aload_n 0, 1) := by decide +kernel
theorem dX6_addRow_32 : decode cX6_addRow 32 = .ok (.getfield 47, 3) := by decide +kernel
theorem dX6_addRow_35 : decode cX6_addRow 35 = .ok (.iload 6, 2) := by decide +kernel
theorem dX6_addRow_37 : decode cX6_addRow 37 = .ok (.invokevirtual 68, 3) := by decide +kernel
theorem dX6_addRow_40 : decode cX6_addRow 40 = .ok (.invokestatic 140, 3) := by decide +kernel
theorem dX6_addRow_43 : decode cX6_addRow 43 = .ok (.ifCond .eq 51, 3) := by decide +kernel
theorem dX6_addRow_46 : decode cX6_addRow 46 = .ok (.aload_n 0, 1) := by decide +kernel
theorem dX6_addRow_47 : decode cX6_addRow 47 = .ok (.iload 4, 2) := by decide +kernel
theorem dX6_addRow_49 : decode cX6_addRow 49 = .ok (.iload 6, 2) := by decide +kernel
theorem dX6_addRow_51 : decode cX6_addRow 51 = .ok (.aload_n 0, 1) := by decide +kernel
theorem dX6_addRow_52 : decode cX6_addRow 52 = .ok (.getfield 59, 3) := by decide +kernel
theorem dX6_addRow_55 : decode cX6_addRow 55 = .ok (.iconst 0, 1) := by decide +kernel
theorem dX6_addRow_56 : decode cX6_addRow 56 = .ok (.invokevirtual 146, 3) := by decide +kernel
theorem dX6_addRow_59 : decode cX6_addRow 59 = .ok (.aload_n 0, 1) := by decide +kernel
theorem dX6_addRow_60 : decode cX6_addRow 60 = .ok (.dup, 1) := by decide +kernel
theorem dX6_addRow_61 : decode cX6_addRow 61 = .ok (.getfield 59, 3) := by decide +kernel
theorem dX6_addRow_64 : decode cX6_addRow 64 = .ok (.iconst 1, 1) := by decide +kernel
theorem dX6_addRow_65 : decode cX6_addRow 65 = .ok (.iadd, 1) := by decide +kernel
theorem dX6_addRow_66 : decode cX6_addRow 66 = .ok (.putfield 59, 3) := by decide +kernel
theorem dX6_addRow_69 : decode cX6_addRow 69 = .ok (.iload 5, 2) := by decide +kernel
theorem dX6_addRow_71 : decode cX6_addRow 71 = .ok (.ifCond .eq 17, 3) := by decide +kernel
theorem dX6_addRow_74 : decode cX6_addRow 74 = .ok (.iload 4, 2) := by decide +kernel
theorem dX6_addRow_76 : decode cX6_addRow 76 = .ok (.iload_n 1, 1) := by decide +kernel
theorem dX6_addRow_77 : decode cX6_addRow 77 = .ok (.if_icmp .ne 11, 3) := by decide +kernel
theorem dX6_addRow_80 : decode cX6_addRow 80 = .ok (.aload_n 0, 1) := by decide +kernel
theorem dX6_addRow_81 : decode cX6_addRow 81 = .ok (.iload_n 1, 1) := by decide +kernel
theorem dX6_addRow_82 : decode cX6_addRow 82 = .ok (.iload_n 2, 1) := by decide +kernel
theorem dX6_addRow_83 : decode cX6_addRow 83 = .ok (.iload_n 3, 1) := by decide +kernel
theorem dX6_addRow_84 : decode cX6_addRow 84 = .ok (.iconst 1, 1) := by decide +kernel
theorem dX6_addRow_85 : decode cX6_addRow 85 = .ok (.invokevirtual 146, 3) := by decide +kernel
theorem dX6_addRow_88 : decode cX6_addRow 88 = .ok (.iload 6, 2) := by decide +kernel
theorem dX6_addRow_90 : decode cX6_addRow 90 = .ok (.iconst 1, 1) := by decide +kernel
theorem dX6_addRow_91 : decode cX6_addRow 91 = .ok (.iadd, 1) := by decide +kernel
theorem dX6_addRow_92 : decode cX6_addRow 92 = .ok (.istore 4, 2) := by decide +kernel
theorem dX6_addRow_94 : decode cX6_addRow 94 = .ok (.iinc 6 1, 3) := by decide +kernel
theorem dX6_addRow_97 : decode cX6_addRow 97 = .ok (.goto (-78), 3) := by decide +kernel
theorem dX6_addRow_100 : decode cX6_addRow 100 = .ok (.return_, 1) := by decide +kernel
set_option maxRecDepth 20000 in
theorem ggX6_isAddress_X5_get : GoodIn wsX6_isAddress wsX5_get := goodIn_r _ [6, 7, 8, 28, 29] (by decide +kernel) (by decide +kernel)
set_option maxRecDepth 20000 in
theorem gX6_isAddress_X5_get : GoodIn wsX6_isAddress (wsV RX6 68 RX5 yX5_get wsX5_get) := goodIn_app (goodIn_of _ (by decide +kernel)) ggX6_isAddress_X5_get
set_option maxRecDepth 20000 in
theorem ggX6_isAddress_X0_isLetter : GoodIn wsX6_isAddress wsX0_isLetter := goodIn_r _ [12] (by decide +kernel) (by decide +kernel)
set_option maxRecDepth 20000 in
theorem gX6_isAddress_X0_isLetter : GoodIn wsX6_isAddress (va_wsS RX6 150 yX0_isLetter wsX0_isLetter) := goodIn_app (goodIn_of _ (by decide +kernel)) ggX6_isAddress_X0_isLetter
theorem dX6_isAddress_0 : decode cX6_isAddress 0 = .ok (.iload_n 1, 1) := by decide +kernel
theorem dX6_isAddress_1 : decode cX6_isAddress 1 = .ok (.istore_n 3, 1) := by decide +kernel
theorem dX6_isAddress_2 : decode cX6_isAddress 2 = .ok (.iload_n 3, 1) := by decide +kernel
theorem dX6_isAddress_3 : decode cX6_isAddress 3 = .ok (.iload_n 2, 1) := by decide +kernel
theorem dX6_isAddress_4 : decode cX6_isAddress 4 = .ok (.if_icmp .ge 67, 3) := by decide +kernel
theorem dX6_isAddress_7 : decode cX6_isAddress 7 = .ok (.aload_n 0, 1) := by decide +kernel
theorem dX6_isAddress_8 : decode cX6_isAddress 8 = .ok (.getfield 47, 3) := by decide +kernel
theorem dX6_isAddress_11 : decode cX6_isAddress 11 = .ok (.iload_n 3, 1) := by decide +kernel
theorem dX6_isAddress_12 : decode cX6_isAddress 12 = .ok (.invokevirtual 68, 3) := by decide +kernel
theorem dX6_isAddress_15 : decode cX6_isAddress 15 = .ok (.istore 4, 2) := by decide +kernel
theorem dX6_isAddress_17 : decode cX6_isAddress 17 = .ok (.iload 4, 2) := by decide +kernel
theorem dX6_isAddress_19 : decode cX6_isAddress 19 = .ok (.bipush 64, 2) := by decide +kernel
theorem dX6_isAddress_21 : decode cX6_isAddress 21 = .ok (.if_icmp .eq 42, 3) := by decide +kernel
theorem dX6_isAddress_24 : decode cX6_isAddress 24 = .ok (.iload 4, 2) := by decide +kernel
theorem dX6_isAddress_26 : decode cX6_isAddress 26 = .ok (.bipush 46, 2) := by decide +kernel
theorem dX6_isAddress_28 : decode cX6_isAddress 28 = .ok (.if_icmp .ne 37, 3) := by decide +kernel
theorem dX6_isAddress_31 : decode cX6_isAddress 31 = .ok (.aload_n 0, 1) := by decide +kernel
theorem dX6_isAddress_32 : decode cX6_isAddress 32 = .ok (.getfield 47, 3) := by decide +kernel
theorem dX6_isAddress_35 : decode cX6_isAddress 35 = .ok (.iload_n 3, 1) := by decide +kernel
theorem dX6_isAddress_36 : decode cX6_isAddress 36 = .ok (.iconst 1, 1) := by decide +kernel
theorem dX6_isAddress_37 : decode cX6_isAddress 37 = .ok (.isub, 1) := by decide +kernel
theorem dX6_isAddress_38 : decode cX6_isAddress 38 = .ok (.invokevirtual 68, 3) := by decide +kernel
theorem dX6_isAddress_41 : decode cX6_isAddress 41 = .ok (.invokestatic 150, 3) := by decide +kernel
theorem dX6_isAddress_44 : decode cX6_isAddress 44 = .ok (.ifCond .eq 21, 3) := by decide +kernel
theorem dX6_isAddress_47 : decode cX6_isAddress 47 = .ok (.aload_n 0, 1) := by decide +kernel
theorem dX6_isAddress_48 : decode cX6_isAddress 48 = .ok (.getfield 47, 3) := by decide +kernel
theorem dX6_isAddress_51 : decode cX6_isAddress 51 = .ok (.iload_n 3, 1) := by decide +kernel
theorem dX6_isAddress_52 : decode cX6_isAddress 52 = .ok (.iconst 1, 1) := by decide +kernel
theorem dX6_isAddress_53 : decode cX6_isAddress 53 = .ok (.iadd, 1) := by decide +kernel
theorem dX6_isAddress_54 : decode cX6_isAddress 54 = .ok (.invokevirtual 68, 3) := by decide +kernel
theorem dX6_isAddress_57 : decode cX6_isAddress 57 = .ok (.invokestatic 150, 3) := by decide +kernel
theorem dX6_isAddress_60 : decode cX6_isAddress 60 = .ok (.ifCond .eq 5, 3) := by decide +kernel
theorem dX6_isAddress_63 : decode cX6_isAddress 63 = .ok (.iconst 1, 1) := by decide +kernel
theorem dX6_isAddress_64 : decode cX6_isAddress 64 = .ok (.ireturn, 1) := by decide +kernel
theorem dX6_isAddress_65 : decode cX6_isAddress 65 = .ok (.iinc 3 1, 3) := by decide +kernel
theorem dX6_isAddress_68 : decode cX6_isAddress 68 = .ok (.goto (-66), 3) := by decide +kernel
theorem dX6_isAddress_71 : decode cX6_isAddress 71 = .ok (.iconst 0, 1) := by decide +kernel
theorem dX6_isAddress_72 : decode cX6_isAddress 72 = .ok (.ireturn, 1) := by decide +kernel
theorem dX6_addToken_0 : decode cX6_addToken 0 = .ok (.aload_n 0, 1) := by decide +kernel
theorem dX6_addToken_1 : decode cX6_addToken 1 = .ok (.getfield 55, 3) := by decide +kernel
theorem dX6_addToken_4 : decode cX6_addToken 4 = .ok (.sipush 900, 3) := by decide +kernel
theorem dX6_addToken_7 : decode cX6_addToken 7 = .ok (.if_icmp .ge 61, 3) := by decide +kernel
theorem dX6_addToken_10 : decode cX6_addToken 10 = .ok (.aload_n 0, 1) := by decide +kernel
theorem dX6_addToken_11 : decode cX6_addToken 11 = .ok (.getfield 18, 3) := by decide +kernel
theorem dX6_addToken_14 : decode cX6_addToken 14 = .ok (.aload_n 0, 1) := by decide +kernel
theorem dX6_addToken_15 : decode cX6_addToken 15 = .ok (.getfield 55, 3) := by decide +kernel
theorem dX6_addToken_18 : decode cX6_addToken 18 = .ok (.iload_n 1, 1) := by decide +kernel
theorem dX6_addToken_19 : decode cX6_addToken 19 = .ok (.iastore, 1) := by decide +kernel
theorem dX6_addToken_20 : decode cX6_addToken 20 = .ok (.aload_n 0, 1) := by decide +kernel
theorem dX6_addToken_21 : decode cX6_addToken 21 = .ok (.getfield 22, 3) := by decide +kernel
theorem dX6_addToken_24 : decode cX6_addToken 24 = .ok (.aload_n 0, 1) := by decide +kernel
theorem dX6_addToken_25 : decode cX6_addToken 25 = .ok (.getfield 55, 3) := by decide +kernel
theorem dX6_addToken_28 : decode cX6_addToken 28 = .ok (.iload_n 2, 1) := by decide +kernel
theorem dX6_addToken_29 : decode cX6_addToken 29 = .ok (.iload_n 1, 1) := by decide +kernel
theorem dX6_addToken_30 : decode cX6_addToken 30 = .ok (.isub, 1) := by decide +kernel
theorem dX6_addToken_31 : decode cX6_addToken 31 = .ok (.bipush 30, 2) := by decide +kernel
theorem dX6_addToken_33 : decode cX6_addToken 33 = .ok (.invokestatic 153, 3) := by decide +kernel
theorem dX6_addToken_36 : decode cX6_addToken 36 = .ok (.iastore, 1) := by decide +kernel
theorem dX6_addToken_37 : decode cX6_addToken 37 = .ok (.aload_n 0, 1) := by decide +kernel
theorem dX6_addToken_38 : decode cX6_addToken 38 = .ok (.getfield 28, 3) := by decide +kernel
theorem dX6_addToken_41 : decode cX6_addToken 41 = .ok (.aload_n 0, 1) := by decide +kernel
theorem dX6_addToken_42 : decode cX6_addToken 42 = .ok (.getfield 55, 3) := by decide +kernel
theorem dX6_addToken_45 : decode cX6_addToken 45 = .ok (.iload_n 3, 1) := by decide +kernel
theorem dX6_addToken_46 : decode cX6_addToken 46 = .ok (.iastore, 1) := by decide +kernel
theorem dX6_addToken_47 : decode cX6_addToken 47 = .ok (.aload_n 0, 1) := by decide +kernel
theorem dX6_addToken_48 : decode cX6_addToken 48 = .ok (.getfield 31, 3) := by decide +kernel
theorem dX6_addToken_51 : decode cX6_addToken 51 = .ok (.aload_n 0, 1) := by decide +kernel
theorem dX6_addToken_52 : decode cX6_addToken 52 = .ok (.getfield 55, 3) := by decide +kernel
theorem dX6_addToken_55 : decode cX6_addToken 55 = .ok (.iload 4, 2) := by decide +kernel
theorem dX6_addToken_57 : decode cX6_addToken 57 = .ok (.bastore, 1) := by decide +kernel
theorem dX6_addToken_58 : decode cX6_addToken 58 = .ok (.aload_n 0, 1) := by decide +kernel
theorem dX6_addToken_59 : decode cX6_addToken 59 = .ok (.dup, 1) := by decide +kernel
theorem dX6_addToken_60 : decode cX6_addToken 60 = .ok (.getfield 55, 3) := by decide +kernel
theorem dX6_addToken_63 : decode cX6_addToken 63 = .ok (.iconst 1, 1) := by decide +kernel
theorem dX6_addToken_64 : decode cX6_addToken 64 = .ok (.iadd, 1) := by decide +kernel
theorem dX6_addToken_65 : decode cX6_addToken 65 = .ok (.putfield 55, 3) := by decide +kernel
theorem dX6_addToken_68 : decode cX6_addToken 68 = .ok (.return_, 1) := by decide +kernel
set_option maxRecDepth 20000 in
theorem ggX6_enterStem_X6_slotOf : GoodIn wsX6_enterStem wsX6_slotOf := goodIn_r _ [9, 10, 11, 12, 13, 8, 14, 15, 16, 17, 18, 19, 20, 21, 30, 31, 32, 33, 34, 35, 36, 37, 38, 39, 40, 41, 42, 43, 44] (by decide +kernel) (by decide +kernel)
set_option maxRecDepth 20000 in
theorem gX6_enterStem_X6_slotOf : GoodIn wsX6_enterStem (wsV RX6 156 RX6 yX6_slotOf wsX6_slotOf) := goodIn_app (goodIn_of _ (by decide +kernel)) ggX6_enterStem_X6_slotOf
set_option maxRecDepth 20000 in
theorem ggX6_enterStem_X6_exists : GoodIn wsX6_enterStem wsX6_exists := goodIn_r _ [25, 2, 30, 31, 32, 33, 34, 35, 36, 37, 38, 39, 40, 41, 42, 43, 44] (by decide +kernel) (by decide +kernel)
set_option maxRecDepth 20000 in
theorem gX6_enterStem_X6_exists : GoodIn wsX6_enterStem (wsV RX6 110 RX6 yX6_exists wsX6_exists) := goodIn_app (goodIn_of _ (by decide +kernel)) ggX6_enterStem_X6_exists
set_option maxRecDepth 20000 in
theorem ggX6_enterStem_X6_haveSameStem : GoodIn wsX6_enterStem wsX6_haveSameStem := goodIn_r _ [29, 10, 11, 12, 13, 8, 14, 15, 16, 17, 18, 19, 20, 21, 30, 31, 32, 33, 34, 35, 36, 37, 38, 39, 40, 41, 42, 43, 44] (by decide +kernel) (by decide +kernel)
set_option maxRecDepth 20000 in
theorem gX6_enterStem_X6_haveSameStem : GoodIn wsX6_enterStem (wsV RX6 122 RX6 yX6_haveSameStem wsX6_haveSameStem) := goodIn_app (goodIn_of _ (by decide +kernel)) ggX6_enterStem_X6_haveSameStem
theorem dX6_enterStem_0 : decode cX6_enterStem 0 = .ok (.aload_n 0, 1) := by decide +kernel
theorem dX6_enterStem_1 : decode cX6_enterStem 1 = .ok (.iload_n 1, 1) := by decide +kernel
theorem dX6_enterStem_2 : decode cX6_enterStem 2 = .ok (.invokevirtual 156, 3) := by decide +kernel
theorem dX6_enterStem_5 : decode cX6_enterStem 5 = .ok (.istore_n 2, 1) := by decide +kernel
theorem dX6_enterStem_6 : decode cX6_enterStem 6 = .ok (.aload_n 0, 1) := by decide +kernel
theorem dX6_enterStem_7 : decode cX6_enterStem 7 = .ok (.getfield 41, 3) := by decide +kernel
theorem dX6_enterStem_10 : decode cX6_enterStem 10 = .ok (.iload_n 2, 1) := by decide +kernel
theorem dX6_enterStem_11 : decode cX6_enterStem 11 = .ok (.iaload, 1) := by decide +kernel
theorem dX6_enterStem_12 : decode cX6_enterStem 12 = .ok (.istore_n 3, 1) := by decide +kernel
theorem dX6_enterStem_13 : decode cX6_enterStem 13 = .ok (.iconst 0, 1) := by decide +kernel
theorem dX6_enterStem_14 : decode cX6_enterStem 14 = .ok (.istore 4, 2) := by decide +kernel
theorem dX6_enterStem_16 : decode cX6_enterStem 16 = .ok (.iload 4, 2) := by decide +kernel
theorem dX6_enterStem_18 : decode cX6_enterStem 18 = .ok (.aload_n 0, 1) := by decide +kernel
theorem dX6_enterStem_19 : decode cX6_enterStem 19 = .ok (.getfield 55, 3) := by decide +kernel
theorem dX6_enterStem_22 : decode cX6_enterStem 22 = .ok (.if_icmp .ge 34, 3) := by decide +kernel
theorem dX6_enterStem_25 : decode cX6_enterStem 25 = .ok (.aload_n 0, 1) := by decide +kernel
theorem dX6_enterStem_26 : decode cX6_enterStem 26 = .ok (.iload_n 3, 1) := by decide +kernel
theorem dX6_enterStem_27 : decode cX6_enterStem 27 = .ok (.invokevirtual 110, 3) := by decide +kernel
theorem dX6_enterStem_30 : decode cX6_enterStem 30 = .ok (.ifCond .eq 26, 3) := by decide +kernel
theorem dX6_enterStem_33 : decode cX6_enterStem 33 = .ok (.aload_n 0, 1) := by decide +kernel
theorem dX6_enterStem_34 : decode cX6_enterStem 34 = .ok (.iload_n 1, 1) := by decide +kernel
theorem dX6_enterStem_35 : decode cX6_enterStem 35 = .ok (.iload_n 3, 1) := by decide +kernel
theorem dX6_enterStem_36 : decode cX6_enterStem 36 = .ok (.invokevirtual 122, 3) := by decide +kernel
theorem dX6_enterStem_39 : decode cX6_enterStem 39 = .ok (.ifCond .eq 4, 3) := by decide +kernel
theorem dX6_enterStem_42 : decode cX6_enterStem 42 = .ok (.return_, 1) := by decide +kernel
theorem dX6_enterStem_43 : decode cX6_enterStem 43 = .ok (.aload_n 0, 1) := by decide +kernel
theorem dX6_enterStem_44 : decode cX6_enterStem 44 = .ok (.getfield 44, 3) := by decide +kernel
theorem dX6_enterStem_47 : decode cX6_enterStem 47 = .ok (.iload_n 3, 1) := by decide +kernel
theorem dX6_enterStem_48 : decode cX6_enterStem 48 = .ok (.iaload, 1) := by decide +kernel
theorem dX6_enterStem_49 : decode cX6_enterStem 49 = .ok (.istore_n 3, 1) := by decide +kernel
theorem dX6_enterStem_50 : decode cX6_enterStem 50 = .ok (.iinc 4 1, 3) := by decide +kernel
theorem dX6_enterStem_53 : decode cX6_enterStem 53 = .ok (.goto (-37), 3) := by decide +kernel
theorem dX6_enterStem_56 : decode cX6_enterStem 56 = .ok (.aload_n 0, 1) := by decide +kernel
theorem dX6_enterStem_57 : decode cX6_enterStem 57 = .ok (.getfield 44, 3) := by decide +kernel
theorem dX6_enterStem_60 : decode cX6_enterStem 60 = .ok (.iload_n 1, 1) := by decide +kernel
theorem dX6_enterStem_61 : decode cX6_enterStem 61 = .ok (.aload_n 0, 1) := by decide +kernel
theorem dX6_enterStem_62 : decode cX6_enterStem 62 = .ok (.getfield 41, 3) := by decide +kernel
theorem dX6_enterStem_65 : decode cX6_enterStem 65 = .ok (.iload_n 2, 1) := by decide +kernel
theorem dX6_enterStem_66 : decode cX6_enterStem 66 = .ok (.iaload, 1) := by decide +kernel
theorem dX6_enterStem_67 : decode cX6_enterStem 67 = .ok (.iastore, 1) := by decide +kernel
theorem dX6_enterStem_68 : decode cX6_enterStem 68 = .ok (.aload_n 0, 1) := by decide +kernel
theorem dX6_enterStem_69 : decode cX6_enterStem 69 = .ok (.getfield 41, 3) := by decide +kernel
theorem dX6_enterStem_72 : decode cX6_enterStem 72 = .ok (.iload_n 2, 1) := by decide +kernel
theorem dX6_enterStem_73 : decode cX6_enterStem 73 = .ok (.iload_n 1, 1) := by decide +kernel
theorem dX6_enterStem_74 : decode cX6_enterStem 74 = .ok (.iastore, 1) := by decide +kernel
theorem dX6_enterStem_75 : decode cX6_enterStem 75 = .ok (.aload_n 0, 1) := by decide +kernel
theorem dX6_enterStem_76 : decode cX6_enterStem 76 = .ok (.dup, 1) := by decide +kernel
theorem dX6_enterStem_77 : decode cX6_enterStem 77 = .ok (.getfield 99, 3) := by decide +kernel
theorem dX6_enterStem_80 : decode cX6_enterStem 80 = .ok (.iconst 1, 1) := by decide +kernel
theorem dX6_enterStem_81 : decode cX6_enterStem 81 = .ok (.iadd, 1) := by decide +kernel
theorem dX6_enterStem_82 : decode cX6_enterStem 82 = .ok (.putfield 99, 3) := by decide +kernel
theorem dX6_enterStem_85 : decode cX6_enterStem 85 = .ok (.return_, 1) := by decide +kernel
set_option maxRecDepth 20000 in
theorem ggX6_slotOf_X6_stemCharacter : GoodIn wsX6_slotOf wsX6_stemCharacter := goodIn_r _ [6, 7, 8, 9, 10, 11, 12, 5, 13, 14, 15, 16, 17, 18, 19, 20, 21, 22, 23, 24, 25, 26, 27, 28] (by decide +kernel) (by decide +kernel)
set_option maxRecDepth 20000 in
theorem gX6_slotOf_X6_stemCharacter : GoodIn wsX6_slotOf (wsV RX6 114 RX6 yX6_stemCharacter wsX6_stemCharacter) := goodIn_app (goodIn_of _ (by decide +kernel)) ggX6_slotOf_X6_stemCharacter
theorem dX6_slotOf_0 : decode cX6_slotOf 0 = .ok (.iconst 0, 1) := by decide +kernel
theorem dX6_slotOf_1 : decode cX6_slotOf 1 = .ok (.istore_n 2, 1) := by decide +kernel
theorem dX6_slotOf_2 : decode cX6_slotOf 2 = .ok (.iconst 0, 1) := by decide +kernel
theorem dX6_slotOf_3 : decode cX6_slotOf 3 = .ok (.istore_n 3, 1) := by decide +kernel
theorem dX6_slotOf_4 : decode cX6_slotOf 4 = .ok (.iload_n 3, 1) := by decide +kernel
theorem dX6_slotOf_5 : decode cX6_slotOf 5 = .ok (.aload_n 0, 1) := by decide +kernel
theorem dX6_slotOf_6 : decode cX6_slotOf 6 = .ok (.getfield 25, 3) := by decide +kernel
theorem dX6_slotOf_9 : decode cX6_slotOf 9 = .ok (.iload_n 1, 1) := by decide +kernel
theorem dX6_slotOf_10 : decode cX6_slotOf 10 = .ok (.iaload, 1) := by decide +kernel
theorem dX6_slotOf_11 : decode cX6_slotOf 11 = .ok (.if_icmp .ge 21, 3) := by decide +kernel
theorem dX6_slotOf_14 : decode cX6_slotOf 14 = .ok (.iload_n 2, 1) := by decide +kernel
theorem dX6_slotOf_15 : decode cX6_slotOf 15 = .ok (.bipush 31, 2) := by decide +kernel
theorem dX6_slotOf_17 : decode cX6_slotOf 17 = .ok (.imul, 1) := by decide +kernel
theorem dX6_slotOf_18 : decode cX6_slotOf 18 = .ok (.aload_n 0, 1) := by decide +kernel
theorem dX6_slotOf_19 : decode cX6_slotOf 19 = .ok (.iload_n 1, 1) := by decide +kernel
theorem dX6_slotOf_20 : decode cX6_slotOf 20 = .ok (.iload_n 3, 1) := by decide +kernel
theorem dX6_slotOf_21 : decode cX6_slotOf 21 = .ok (.invokevirtual 114, 3) := by decide +kernel
theorem dX6_slotOf_24 : decode cX6_slotOf 24 = .ok (.iadd, 1) := by decide +kernel
theorem dX6_slotOf_25 : decode cX6_slotOf 25 = .ok (.istore_n 2, 1) := by decide +kernel
theorem dX6_slotOf_26 : decode cX6_slotOf 26 = .ok (.iinc 3 1, 3) := by decide +kernel
theorem dX6_slotOf_29 : decode cX6_slotOf 29 = .ok (.goto (-25), 3) := by decide +kernel
theorem dX6_slotOf_32 : decode cX6_slotOf 32 = .ok (.iload_n 2, 1) := by decide +kernel
theorem dX6_slotOf_33 : decode cX6_slotOf 33 = .ok (.bipush 127, 2) := by decide +kernel
theorem dX6_slotOf_35 : decode cX6_slotOf 35 = .ok (.iand, 1) := by decide +kernel
theorem dX6_slotOf_36 : decode cX6_slotOf 36 = .ok (.ireturn, 1) := by decide +kernel
set_option maxRecDepth 20000 in
theorem ggX6_haveSameStem_X6_stemCharacter : GoodIn wsX6_haveSameStem wsX6_stemCharacter := goodIn_r _ [6, 7, 8, 9, 10, 11, 12, 5, 13, 14, 15, 16, 17, 18, 19, 20, 21, 22, 23, 24, 25, 26, 27, 28] (by decide +kernel) (by decide +kernel)
set_option maxRecDepth 20000 in
theorem gX6_haveSameStem_X6_stemCharacter : GoodIn wsX6_haveSameStem (wsV RX6 114 RX6 yX6_stemCharacter wsX6_stemCharacter) := goodIn_app (goodIn_of _ (by decide +kernel)) ggX6_haveSameStem_X6_stemCharacter
theorem dX6_haveSameStem_0 : decode cX6_haveSameStem 0 = .ok (.aload_n 0, 1) := by decide +kernel
theorem dX6_haveSameStem_1 : decode cX6_haveSameStem 1 = .ok (.getfield 25, 3) := by decide +kernel
theorem dX6_haveSameStem_4 : decode cX6_haveSameStem 4 = .ok (.iload_n 1, 1) := by decide +kernel
theorem dX6_haveSameStem_5 : decode cX6_haveSameStem 5 = .ok (.iaload, 1) := by decide +kernel
theorem dX6_haveSameStem_6 : decode cX6_haveSameStem 6 = .ok (.aload_n 0, 1) := by decide +kernel
theorem dX6_haveSameStem_7 : decode cX6_haveSameStem 7 = .ok (.getfield 25, 3) := by decide +kernel
theorem dX6_haveSameStem_10 : decode cX6_haveSameStem 10 = .ok (.iload_n 2, 1) := by decide +kernel
theorem dX6_haveSameStem_11 : decode cX6_haveSameStem 11 = .ok (.iaload, 1) := by decide +kernel
theorem dX6_haveSameStem_12 : decode cX6_haveSameStem 12 = .ok (.if_icmp .eq 5, 3) := by decide +kernel
theorem dX6_haveSameStem_15 : decode cX6_haveSameStem 15 = .ok (.iconst 0, 1) := by decide +kernel
theorem dX6_haveSameStem_16 : decode cX6_haveSameStem 16 = .ok (.ireturn, 1) := by decide +kernel
theorem dX6_haveSameStem_17 : decode cX6_haveSameStem 17 = .ok (.iconst 0, 1) := by decide +kernel
theorem dX6_haveSameStem_18 : decode cX6_haveSameStem 18 = .ok (.istore_n 3, 1) := by decide +kernel
theorem dX6_haveSameStem_19 : decode cX6_haveSameStem 19 = .ok (.iload_n 3, 1) := by decide +kernel
theorem dX6_haveSameStem_20 : decode cX6_haveSameStem 20 = .ok (.aload_n 0, 1) := by decide +kernel
theorem dX6_haveSameStem_21 : decode cX6_haveSameStem 21 = .ok (.getfield 25, 3) := by decide +kernel
theorem dX6_haveSameStem_24 : decode cX6_haveSameStem 24 = .ok (.iload_n 1, 1) := by decide +kernel
theorem dX6_haveSameStem_25 : decode cX6_haveSameStem 25 = .ok (.iaload, 1) := by decide +kernel
theorem dX6_haveSameStem_26 : decode cX6_haveSameStem 26 = .ok (.if_icmp .ge 26, 3) := by decide +kernel
theorem dX6_haveSameStem_29 : decode cX6_haveSameStem 29 = .ok (.aload_n 0, 1) := by decide +kernel
theorem dX6_haveSameStem_30 : decode cX6_haveSameStem 30 = .ok (.iload_n 1, 1) := by decide +kernel
theorem dX6_haveSameStem_31 : decode cX6_haveSameStem 31 = .ok (.iload_n 3, 1) := by decide +kernel
theorem dX6_haveSameStem_32 : decode cX6_haveSameStem 32 = .ok (.invokevirtual 114, 3) := by decide +kernel
theorem dX6_haveSameStem_35 : decode cX6_haveSameStem 35 = .ok (.aload_n 0, 1) := by decide +kernel
theorem dX6_haveSameStem_36 : decode cX6_haveSameStem 36 = .ok (.iload_n 2, 1) := by decide +kernel
theorem dX6_haveSameStem_37 : decode cX6_haveSameStem 37 = .ok (.iload_n 3, 1) := by decide +kernel
theorem dX6_haveSameStem_38 : decode cX6_haveSameStem 38 = .ok (.invokevirtual 114, 3) := by decide +kernel
theorem dX6_haveSameStem_41 : decode cX6_haveSameStem 41 = .ok (.if_icmp .eq 5, 3) := by decide +kernel
theorem dX6_haveSameStem_44 : decode cX6_haveSameStem 44 = .ok (.iconst 0, 1) := by decide +kernel
theorem dX6_haveSameStem_45 : decode cX6_haveSameStem 45 = .ok (.ireturn, 1) := by decide +kernel
theorem dX6_haveSameStem_46 : decode cX6_haveSameStem 46 = .ok (.iinc 3 1, 3) := by decide +kernel
theorem dX6_haveSameStem_49 : decode cX6_haveSameStem 49 = .ok (.goto (-30), 3) := by decide +kernel
theorem dX6_haveSameStem_52 : decode cX6_haveSameStem 52 = .ok (.iconst 1, 1) := by decide +kernel
theorem dX6_haveSameStem_53 : decode cX6_haveSameStem 53 = .ok (.ireturn, 1) := by decide +kernel
set_option maxRecDepth 20000 in
theorem ggX7_init_X5_init : GoodIn wsX7_init wsX5_init := goodIn_r _ [24, 25, 2, 3, 26, 27, 70, 71] (by decide +kernel) (by decide +kernel)
set_option maxRecDepth 20000 in
theorem gX7_init_X5_init_n9 : GoodIn wsX7_init (wsX5_init) := ggX7_init_X5_init
set_option maxRecDepth 20000 in
theorem ggX7_init_X3_init : GoodIn wsX7_init wsX3_init := goodIn_r _ [30, 31, 2, 3, 32, 76, 77, 78] (by decide +kernel) (by decide +kernel)
set_option maxRecDepth 20000 in
theorem gX7_init_X3_init : GoodIn wsX7_init (wsX3_init) := ggX7_init_X3_init
set_option maxRecDepth 20000 in
theorem ggX7_init_X2_init : GoodIn wsX7_init wsX2_init := goodIn_r _ [35, 36, 2, 3, 37, 79, 80, 81, 82, 83, 84] (by decide +kernel) (by decide +kernel)
set_option maxRecDepth 20000 in
theorem gX7_init_X2_init : GoodIn wsX7_init (wsX2_init) := ggX7_init_X2_init
set_option maxRecDepth 20000 in
theorem ggX7_init_X1_init : GoodIn wsX7_init wsX1_init := goodIn_r _ [40, 41, 2, 3, 26, 42, 43, 44, 85, 86, 87, 88] (by decide +kernel) (by decide +kernel)
set_option maxRecDepth 20000 in
theorem gX7_init_X1_init : GoodIn wsX7_init (wsX1_init) := ggX7_init_X1_init
set_option maxRecDepth 20000 in
theorem ggX7_init_X6_init : GoodIn wsX7_init wsX6_init := goodIn_r _ [47, 48, 2, 3, 49, 50, 51, 52, 26, 53, 54, 55, 56, 57, 58, 59, 60, 61, 62, 63, 64, 65, 66, 67, 68, 69, 104, 105, 106, 89, 90, 91, 92, 93, 94, 95, 96, 97, 98, 99, 100, 101, 102, 103] (by decide +kernel) (by decide +kernel)
set_option maxRecDepth 20000 in
theorem gX7_init_X6_init : GoodIn wsX7_init (wsX6_init) := ggX7_init_X6_init
theorem dX7_init_0 : decode cX7_init 0 = .ok (.aload_n 0, 1) := by decide +kernel
theorem dX7_init_1 : decode cX7_init 1 = .ok (.invokespecial 1, 3) := by decide +kernel
theorem dX7_init_4 : decode cX7_init 4 = .ok (.aload_n 0, 1) := by decide +kernel
theorem dX7_init_5 : decode cX7_init 5 = .ok (.new 7, 3) := by decide +kernel
theorem dX7_init_8 : decode cX7_init 8 = .ok (.dup, 1) := by decide +kernel
theorem dX7_init_9 : decode cX7_init 9 = .ok (.invokespecial 9, 3) := by decide +kernel
theorem dX7_init_12 : decode cX7_init 12 = .ok (.putfield 10, 3) := by decide +kernel
theorem dX7_init_15 : decode cX7_init 15 = .ok (.aload_n 0, 1) := by decide +kernel
theorem dX7_init_16 : decode cX7_init 16 = .ok (.new 16, 3) := by decide +kernel
theorem dX7_init_19 : decode cX7_init 19 = .ok (.dup, 1) := by decide +kernel
theorem dX7_init_20 : decode cX7_init 20 = .ok (.aload_n 0, 1) := by decide +kernel
theorem dX7_init_21 : decode cX7_init 21 = .ok (.getfield 10, 3) := by decide +kernel
theorem dX7_init_24 : decode cX7_init 24 = .ok (.invokespecial 18, 3) := by decide +kernel
theorem dX7_init_27 : decode cX7_init 27 = .ok (.putfield 21, 3) := by decide +kernel
theorem dX7_init_30 : decode cX7_init 30 = .ok (.new 25, 3) := by decide +kernel
theorem dX7_init_33 : decode cX7_init 33 = .ok (.dup, 1) := by decide +kernel
theorem dX7_init_34 : decode cX7_init 34 = .ok (.aload_n 0, 1) := by decide +kernel
theorem dX7_init_35 : decode cX7_init 35 = .ok (.getfield 10, 3) := by decide +kernel
theorem dX7_init_38 : decode cX7_init 38 = .ok (.invokespecial 27, 3) := by decide +kernel
theorem dX7_init_41 : decode cX7_init 41 = .ok (.astore_n 1, 1) := by decide +kernel
theorem dX7_init_42 : decode cX7_init 42 = .ok (.aload_n 0, 1) := by decide +kernel
theorem dX7_init_43 : decode cX7_init 43 = .ok (.new 28, 3) := by decide +kernel
theorem dX7_init_46 : decode cX7_init 46 = .ok (.dup, 1) := by decide +kernel
theorem dX7_init_47 : decode cX7_init 47 = .ok (.aload_n 1, 1) := by decide +kernel
theorem dX7_init_48 : decode cX7_init 48 = .ok (.invokespecial 30, 3) := by decide +kernel
theorem dX7_init_51 : decode cX7_init 51 = .ok (.putfield 33, 3) := by decide +kernel
theorem dX7_init_54 : decode cX7_init 54 = .ok (.aload_n 0, 1) := by decide +kernel
theorem dX7_init_55 : decode cX7_init 55 = .ok (.new 37, 3) := by decide +kernel
theorem dX7_init_58 : decode cX7_init 58 = .ok (.dup, 1) := by decide +kernel
theorem dX7_init_59 : decode cX7_init 59 = .ok (.aload_n 0, 1) := by decide +kernel
theorem dX7_init_60 : decode cX7_init 60 = .ok (.getfield 10, 3) := by decide +kernel
theorem dX7_init_63 : decode cX7_init 63 = .ok (.aload_n 1, 1) := by decide +kernel
theorem dX7_init_64 : decode cX7_init 64 = .ok (.invokespecial 39, 3) := by decide +kernel
theorem dX7_init_67 : decode cX7_init 67 = .ok (.putfield 42, 3) := by decide +kernel
theorem dX7_init_70 : decode cX7_init 70 = .ok (.return_, 1) := by decide +kernel
set_option maxRecDepth 20000 in
theorem ggX7_put_X5_add : GoodIn wsX7_put wsX5_add := goodIn_r _ [7, 8, 9, 18, 19] (by decide +kernel) (by decide +kernel)
set_option maxRecDepth 20000 in
theorem gX7_put_X5_add : GoodIn wsX7_put (wsV RX7 47 RX5 yX5_add wsX5_add) := goodIn_app (goodIn_of _ (by decide +kernel)) ggX7_put_X5_add
set_option maxRecDepth 20000 in
theorem ggX7_put_X5_size : GoodIn wsX7_put wsX5_size := goodIn_r _ [13, 8, 18, 19] (by decide +kernel) (by decide +kernel)
set_option maxRecDepth 20000 in
theorem gX7_put_X5_size : GoodIn wsX7_put (wsV RX7 51 RX5 yX5_size wsX5_size) := goodIn_app (goodIn_of _ (by decide +kernel)) ggX7_put_X5_size
theorem dX7_put_0 : decode cX7_put 0 = .ok (.iload_n 1, 1) := by decide +kernel
theorem dX7_put_1 : decode cX7_put 1 = .ok (.ifCond .lt 9, 3) := by decide +kernel
theorem dX7_put_4 : decode cX7_put 4 = .ok (.iload_n 1, 1) := by decide +kernel
theorem dX7_put_5 : decode cX7_put 5 = .ok (.bipush 8, 2) := by decide +kernel
theorem dX7_put_7 : decode cX7_put 7 = .ok (.if_icmp .le 5, 3) := by decide +kernel
theorem dX7_put_10 : decode cX7_put 10 = .ok (.iconst (-1), 1) := by decide +kernel
theorem dX7_put_11 : decode cX7_put 11 = .ok (.ireturn, 1) := by decide +kernel
theorem dX7_put_12 : decode cX7_put 12 = .ok (.iconst 0, 1) := by decide +kernel
theorem dX7_put_13 : decode cX7_put 13 = .ok (.istore 6, 2) := by decide +kernel
theorem dX7_put_15 : decode cX7_put 15 = .ok (.iload 6, 2) := by decide +kernel
theorem dX7_put_17 : decode cX7_put 17 = .ok (.iload_n 1, 1) := by decide +kernel
theorem dX7_put_18 : decode cX7_put 18 = .ok (.if_icmp .ge 72, 3) := by decide +kernel
theorem dX7_put_21 : decode cX7_put 21 = .ok (.iload 6, 2) := by decide +kernel
theorem dX7_put_23 : decode cX7_put 23 = .ok (.iconst 2, 1) := by decide +kernel
theorem dX7_put_24 : decode cX7_put 24 = .ok (.if_icmp .ge 7, 3) := by decide +kernel
theorem dX7_put_27 : decode cX7_put 27 = .ok (.iload_n 2, 1) := by decide +kernel
theorem dX7_put_28 : decode cX7_put 28 = .ok (.goto 27, 3) := by decide +kernel
theorem dX7_put_31 : decode cX7_put 31 = .ok (.iload 6, 2) := by decide +kernel
theorem dX7_put_33 : decode cX7_put 33 = .ok (.iconst 4, 1) := by decide +kernel
theorem dX7_put_34 : decode cX7_put 34 = .ok (.if_icmp .ge 7, 3) := by decide +kernel
theorem dX7_put_37 : decode cX7_put 37 = .ok (.iload_n 3, 1) := by decide +kernel
theorem dX7_put_38 : decode cX7_put 38 = .ok (.goto 17, 3) := by decide +kernel
theorem dX7_put_41 : decode cX7_put 41 = .ok (.iload 6, 2) := by decide +kernel
theorem dX7_put_43 : decode cX7_put 43 = .ok (.bipush 6, 2) := by decide +kernel
theorem dX7_put_45 : decode cX7_put 45 = .ok (.if_icmp .ge 8, 3) := by decide +kernel
theorem dX7_put_48 : decode cX7_put 48 = .ok (.iload 4, 2) := by decide +kernel
theorem dX7_put_50 : decode cX7_put 50 = .ok (.goto 5, 3) := by decide +kernel
theorem dX7_put_53 : decode cX7_put 53 = .ok (.iload 5, 2) := by decide +kernel
theorem dX7_put_55 : decode cX7_put 55 = .ok (.istore 7, 2) := by decide +kernel
theorem dX7_put_57 : decode cX7_put 57 = .ok (.aload_n 0, 1) := by decide +kernel
theorem dX7_put_58 : decode cX7_put 58 = .ok (.getfield 10, 3) := by decide +kernel
theorem dX7_put_61 : decode cX7_put 61 = .ok (.iload 6, 2) := by decide +kernel
theorem dX7_put_63 : decode cX7_put 63 = .ok (.iconst 1, 1) := by decide +kernel
theorem dX7_put_64 : decode cX7_put 64 = .ok (.iand, 1) := by decide +kernel
theorem dX7_put_65 : decode cX7_put 65 = .ok (.ifCond .ne 11, 3) := by decide +kernel
theorem dX7_put_68 : decode cX7_put 68 = .ok (.iload 7, 2) := by decide +kernel
theorem dX7_put_70 : decode cX7_put 70 = .ok (.bipush 16, 2) := by decide +kernel
theorem dX7_put_72 : decode cX7_put 72 = .ok (.iushr, 1) := by decide +kernel
theorem dX7_put_73 : decode cX7_put 73 = .ok (.goto 8, 3) := by decide +kernel
theorem dX7_put_76 : decode cX7_put 76 = .ok (.iload 7, 2) := by decide +kernel
theorem dX7_put_78 : decode cX7_put 78 = .ok (.ldc 46, 2) := by decide +kernel
theorem dX7_put_80 : decode cX7_put 80 = .ok (.iand, 1) := by decide +kernel
theorem dX7_put_81 : decode cX7_put 81 = .ok (.invokevirtual 47, 3) := by decide +kernel
theorem dX7_put_84 : decode cX7_put 84 = .ok (.iinc 6 1, 3) := by decide +kernel
theorem dX7_put_87 : decode cX7_put 87 = .ok (.goto (-72), 3) := by decide +kernel
theorem dX7_put_90 : decode cX7_put 90 = .ok (.aload_n 0, 1) := by decide +kernel
theorem dX7_put_91 : decode cX7_put 91 = .ok (.getfield 10, 3) := by decide +kernel
theorem dX7_put_94 : decode cX7_put 94 = .ok (.invokevirtual 51, 3) := by decide +kernel
theorem dX7_put_97 : decode cX7_put 97 = .ok (.ireturn, 1) := by decide +kernel
set_option maxRecDepth 20000 in
theorem ggX7_clear_X5_shorten : GoodIn wsX7_clear wsX5_shorten := goodIn_r _ [6, 7, 12, 13] (by decide +kernel) (by decide +kernel)
set_option maxRecDepth 20000 in
theorem gX7_clear_X5_shorten : GoodIn wsX7_clear (wsV RX7 55 RX5 yX5_shorten wsX5_shorten) := goodIn_app (goodIn_of _ (by decide +kernel)) ggX7_clear_X5_shorten
theorem dX7_clear_0 : decode cX7_clear 0 = .ok (.aload_n 0, 1) := by decide +kernel
theorem dX7_clear_1 : decode cX7_clear 1 = .ok (.getfield 10, 3) := by decide +kernel
theorem dX7_clear_4 : decode cX7_clear 4 = .ok (.iconst 0, 1) := by decide +kernel
theorem dX7_clear_5 : decode cX7_clear 5 = .ok (.invokevirtual 55, 3) := by decide +kernel
theorem dX7_clear_8 : decode cX7_clear 8 = .ok (.return_, 1) := by decide +kernel
set_option maxRecDepth 20000 in
theorem ggX7_page_X3_read : GoodIn wsX7_page wsX3_read := goodIn_r _ [7, 8, 9, 10, 11, 12, 13, 14, 15, 16, 17, 18, 19, 20, 21, 22, 23, 24, 25, 26, 27, 28, 29, 30, 31, 32, 6, 33, 34, 35, 36, 37, 38, 39, 40, 41, 42, 43, 44, 45, 46, 47, 48, 49, 50, 51, 52, 53, 54, 55, 56, 57, 58, 59, 60, 61, 62, 63, 64, 65, 66, 67, 68, 69, 70, 71, 72, 73, 74, 75, 76, 77, 78, 79, 80, 81, 82, 83, 84, 85, 86, 87, 88, 89, 90, 91, 92, 93, 94, 95, 96, 97, 98, 99, 100, 101, 102, 103, 104, 105, 106, 107, 108, 109, 110, 111, 112, 113, 114, 115, 116, 117, 118, 119, 120, 121, 122, 123, 124, 125, 126, 127, 128, 129, 130, 131, 132, 133, 134, 135, 136, 137, 138, 139, 140, 141, 142, 143, 144, 145, 146, 147, 148, 149, 150, 151, 152, 153, 154, 155, 156, 157, 158, 159, 160, 161, 162, 163, 164, 165, 166, 167, 168, 169, 170, 171, 172, 173, 174, 175, 176, 177, 178, 179, 180, 181, 182, 183, 184, 185, 186, 187, 188, 194, 195, 196, 197, 198] (by decide +kernel) (by decide +kernel)
set_option maxRecDepth 20000 in
theorem gX7_page_X3_read : GoodIn wsX7_page (wsV RX7 58 RX3 yX3_read wsX3_read) := goodIn_app (goodIn_of _ (by decide +kernel)) ggX7_page_X3_read
set_option maxRecDepth 20000 in
theorem ggX7_page_X5_size : GoodIn wsX7_page wsX5_size := goodIn_r _ [19, 20, 197, 198] (by decide +kernel) (by decide +kernel)
set_option maxRecDepth 20000 in
theorem gX7_page_X5_size : GoodIn wsX7_page (wsV RX7 51 RX5 yX5_size wsX5_size) := goodIn_app (goodIn_of _ (by decide +kernel)) ggX7_page_X5_size
theorem dX7_page_0 : decode cX7_page 0 = .ok (.aload_n 0, 1) := by decide +kernel
theorem dX7_page_1 : decode cX7_page 1 = .ok (.getfield 21, 3) := by decide +kernel
theorem dX7_page_4 : decode cX7_page 4 = .ok (.invokevirtual 58, 3) := by decide +kernel
theorem dX7_page_7 : decode cX7_page 7 = .ok (.aload_n 0, 1) := by decide +kernel
theorem dX7_page_8 : decode cX7_page 8 = .ok (.getfield 10, 3) := by decide +kernel
theorem dX7_page_11 : decode cX7_page 11 = .ok (.invokevirtual 51, 3) := by decide +kernel
theorem dX7_page_14 : decode cX7_page 14 = .ok (.ireturn, 1) := by decide +kernel
set_option maxRecDepth 20000 in
theorem ggX7_at_X5_get : GoodIn wsX7_at wsX5_get := goodIn_r _ [6, 7, 8, 13, 14] (by decide +kernel) (by decide +kernel)
set_option maxRecDepth 20000 in
theorem gX7_at_X5_get : GoodIn wsX7_at (wsV RX7 61 RX5 yX5_get wsX5_get) := goodIn_app (goodIn_of _ (by decide +kernel)) ggX7_at_X5_get
theorem dX7_at_0 : decode cX7_at 0 = .ok (.aload_n 0, 1) := by decide +kernel
theorem dX7_at_1 : decode cX7_at 1 = .ok (.getfield 10, 3) := by decide +kernel
theorem dX7_at_4 : decode cX7_at 4 = .ok (.iload_n 1, 1) := by decide +kernel
theorem dX7_at_5 : decode cX7_at 5 = .ok (.invokevirtual 61, 3) := by decide +kernel
theorem dX7_at_8 : decode cX7_at 8 = .ok (.ireturn, 1) := by decide +kernel
set_option maxRecDepth 20000 in
theorem ggX7_lines_X1_look : GoodIn wsX7_lines wsX1_look := goodIn_r _ [6, 7, 8, 9, 10, 11, 12, 13, 14, 15, 16, 17, 18, 19, 20, 21, 22, 23, 24, 25, 26, 27, 28, 29, 30, 31, 32, 33, 34, 35, 36, 37, 38, 39, 40, 41, 42, 43, 44, 45, 46, 47, 48, 49, 50, 51, 52, 53, 54, 55, 56, 57, 58, 59, 60, 61, 62, 63, 64, 65, 66, 67, 68, 69, 70, 71, 72, 73, 74, 75, 76, 77, 78, 79, 80, 81, 82, 83, 84, 85, 86, 87, 88, 89, 90, 91, 92, 93, 94, 95, 96, 97, 98, 99, 100, 101, 102, 103, 104, 105, 106, 107, 108, 109, 110, 111, 112, 113, 114, 115, 116, 117, 118, 119, 120, 121, 122, 123, 124, 125, 126, 127, 128, 129, 130, 131, 132, 133, 134, 135, 136, 137, 138, 139, 140, 141, 146, 147, 148, 149, 150, 151, 152, 153, 154, 155, 156, 157] (by decide +kernel) (by decide +kernel)
set_option maxRecDepth 20000 in
theorem gX7_lines_X1_look : GoodIn wsX7_lines (wsV RX7 65 RX1 yX1_look wsX1_look) := goodIn_app (goodIn_of _ (by decide +kernel)) ggX7_lines_X1_look
theorem dX7_lines_0 : decode cX7_lines 0 = .ok (.aload_n 0, 1) := by decide +kernel
theorem dX7_lines_1 : decode cX7_lines 1 = .ok (.getfield 33, 3) := by decide +kernel
theorem dX7_lines_4 : decode cX7_lines 4 = .ok (.invokevirtual 65, 3) := by decide +kernel
theorem dX7_lines_7 : decode cX7_lines 7 = .ok (.ireturn, 1) := by decide +kernel
set_option maxRecDepth 20000 in
theorem ggX7_line_X1_tell : GoodIn wsX7_line wsX1_tell := goodIn_r _ [6, 7, 8, 9, 14, 15, 16, 17] (by decide +kernel) (by decide +kernel)
set_option maxRecDepth 20000 in
theorem gX7_line_X1_tell : GoodIn wsX7_line (wsV RX7 68 RX1 yX1_tell wsX1_tell) := goodIn_app (goodIn_of _ (by decide +kernel)) ggX7_line_X1_tell
theorem dX7_line_0 : decode cX7_line 0 = .ok (.aload_n 0, 1) := by decide +kernel
theorem dX7_line_1 : decode cX7_line 1 = .ok (.getfield 33, 3) := by decide +kernel
theorem dX7_line_4 : decode cX7_line 4 = .ok (.iload_n 1, 1) := by decide +kernel
theorem dX7_line_5 : decode cX7_line 5 = .ok (.iload_n 2, 1) := by decide +kernel
theorem dX7_line_6 : decode cX7_line 6 = .ok (.invokevirtual 68, 3) := by decide +kernel
theorem dX7_line_9 : decode cX7_line 9 = .ok (.ireturn, 1) := by decide +kernel
set_option maxRecDepth 20000 in
theorem ggX7_cut_X6_fill : GoodIn wsX7_cut wsX6_fill := goodIn_r _ [6, 7, 8, 9, 10, 11, 12, 13, 14, 15, 16, 17, 18, 19, 20, 21, 22, 23, 24, 25, 26, 27, 28, 29, 30, 31, 32, 33, 34, 35, 36, 37, 38, 5, 39, 40, 41, 42, 43, 44, 45, 46, 47, 48, 49, 50, 51, 52, 53, 54, 55, 56, 57, 58, 59, 60, 61, 62, 63, 64, 65, 66, 67, 68, 69, 70, 71, 72, 73, 74, 75, 76, 77, 78, 79, 80, 81, 82, 83, 84, 85, 86, 87, 88, 89, 90, 91, 92, 93, 94, 95, 96, 97, 98, 99, 100, 101, 102, 103, 104, 105, 106, 107, 108, 109, 110, 111, 112, 113, 114, 115, 116, 117, 118, 119, 120, 121, 122, 123, 124, 125, 126, 127, 128, 129, 130, 131, 132, 133, 134, 135, 136, 137, 138, 139, 140, 141, 142, 143, 144, 145, 146, 147, 148, 149, 150, 151, 152, 153, 154, 155, 156, 157, 158, 159, 160, 161, 162, 163, 164, 165, 166, 167, 168, 169, 170, 171, 172, 173, 174, 175, 176, 177, 178, 179, 180, 181, 182, 183, 184, 306, 307, 308, 309, 310, 311, 312, 313, 314, 315, 316, 317, 318, 319, 320, 321, 322, 323, 324, 325, 326, 327, 328] (by decide +kernel) (by decide +kernel)
set_option maxRecDepth 20000 in
theorem gX7_cut_X6_fill : GoodIn wsX7_cut (wsV RX7 72 RX6 yX6_fill wsX6_fill) := goodIn_app (goodIn_of _ (by decide +kernel)) ggX7_cut_X6_fill
set_option maxRecDepth 20000 in
theorem ggX7_cut_X6_findStems : GoodIn wsX7_cut wsX6_findStems := goodIn_r _ [188, 189, 190, 7, 79, 191, 74, 192, 10, 193, 73, 194, 195, 196, 197, 198, 199, 200, 201, 202, 203, 204, 205, 206, 207, 208, 209, 210, 211, 212, 213, 214, 110, 111, 112, 113, 114, 115, 116, 117, 118, 119, 120, 215, 123, 124, 125, 126, 127, 128, 129, 130, 131, 132, 133, 134, 135, 136, 137, 138, 139, 140, 141, 142, 143, 144, 145, 146, 147, 148, 149, 150, 151, 152, 153, 154, 155, 156, 157, 158, 216, 217, 218, 219, 220, 76, 42, 77, 221, 41, 43, 222, 223, 224, 225, 226, 227, 228, 229, 230, 231, 232, 233, 234, 235, 236, 237, 238, 239, 240, 241, 242, 243, 244, 245, 246, 247, 248, 249, 250, 251, 252, 253, 254, 255, 256, 257, 258, 259, 260, 261, 262, 263, 264, 265, 266, 267, 268, 269, 270, 271, 272, 273, 274, 275, 276, 5, 277, 278, 279, 280, 281, 282, 283, 284, 285, 286, 287, 288, 289, 290, 291, 292, 293, 294, 295, 296, 297, 306, 307, 308, 309, 310, 311, 312, 313, 314, 315, 316, 317, 318, 319, 320, 329, 330, 331] (by decide +kernel) (by decide +kernel)
set_option maxRecDepth 20000 in
theorem gX7_cut_X6_findStems : GoodIn wsX7_cut (wsV RX7 76 RX6 yX6_findStems wsX6_findStems) := goodIn_app (goodIn_of _ (by decide +kernel)) ggX7_cut_X6_findStems
set_option maxRecDepth 20000 in
theorem ggX7_cut_X6_count : GoodIn wsX7_cut wsX6_count := goodIn_r _ [301, 7, 306, 307, 308, 309, 310, 311, 312, 313, 314, 315, 316, 317, 318, 319, 320] (by decide +kernel) (by decide +kernel)
set_option maxRecDepth 20000 in
theorem gX7_cut_X6_count : GoodIn wsX7_cut (wsV RX7 79 RX6 yX6_count wsX6_count) := goodIn_app (goodIn_of _ (by decide +kernel)) ggX7_cut_X6_count
theorem dX7_cut_0 : decode cX7_cut 0 = .ok (.aload_n 0, 1) := by decide +kernel
theorem dX7_cut_1 : decode cX7_cut 1 = .ok (.getfield 42, 3) := by decide +kernel
theorem dX7_cut_4 : decode cX7_cut 4 = .ok (.iload_n 1, 1) := by decide +kernel
theorem dX7_cut_5 : decode cX7_cut 5 = .ok (.invokevirtual 72, 3) := by decide +kernel
theorem dX7_cut_8 : decode cX7_cut 8 = .ok (.aload_n 0, 1) := by decide +kernel
theorem dX7_cut_9 : decode cX7_cut 9 = .ok (.getfield 42, 3) := by decide +kernel
theorem dX7_cut_12 : decode cX7_cut 12 = .ok (.invokevirtual 76, 3) := by decide +kernel
theorem dX7_cut_15 : decode cX7_cut 15 = .ok (.aload_n 0, 1) := by decide +kernel
theorem dX7_cut_16 : decode cX7_cut 16 = .ok (.getfield 42, 3) := by decide +kernel
theorem dX7_cut_19 : decode cX7_cut 19 = .ok (.invokevirtual 79, 3) := by decide +kernel
theorem dX7_cut_22 : decode cX7_cut 22 = .ok (.ireturn, 1) := by decide +kernel
set_option maxRecDepth 20000 in
theorem ggX7_token_X6_tell : GoodIn wsX7_token wsX6_tell := goodIn_r _ [6, 7, 8, 9, 10, 11, 12, 13, 14, 5, 15, 16, 21, 22, 23, 24, 25, 26, 27, 28, 29, 30, 31, 32, 33, 34, 35] (by decide +kernel) (by decide +kernel)
set_option maxRecDepth 20000 in
theorem gX7_token_X6_tell : GoodIn wsX7_token (wsV RX7 82 RX6 yX6_tell wsX6_tell) := goodIn_app (goodIn_of _ (by decide +kernel)) ggX7_token_X6_tell
theorem dX7_token_0 : decode cX7_token 0 = .ok (.aload_n 0, 1) := by decide +kernel
theorem dX7_token_1 : decode cX7_token 1 = .ok (.getfield 42, 3) := by decide +kernel
theorem dX7_token_4 : decode cX7_token 4 = .ok (.iload_n 1, 1) := by decide +kernel
theorem dX7_token_5 : decode cX7_token 5 = .ok (.iload_n 2, 1) := by decide +kernel
theorem dX7_token_6 : decode cX7_token 6 = .ok (.invokevirtual 82, 3) := by decide +kernel
theorem dX7_token_9 : decode cX7_token 9 = .ok (.ireturn, 1) := by decide +kernel
set_option maxRecDepth 20000 in
theorem ggX7_letter_X6_character : GoodIn wsX7_letter wsX6_character := goodIn_r _ [6, 7, 8, 9, 10, 11, 12, 13, 5, 14, 15, 16, 17, 18, 19, 20, 21, 22, 23, 24, 29, 30, 31, 32, 33, 34, 35, 36, 37, 38, 39, 40, 41, 42, 43] (by decide +kernel) (by decide +kernel)
set_option maxRecDepth 20000 in
theorem gX7_letter_X6_character : GoodIn wsX7_letter (wsV RX7 83 RX6 yX6_character wsX6_character) := goodIn_app (goodIn_of _ (by decide +kernel)) ggX7_letter_X6_character
theorem dX7_letter_0 : decode cX7_letter 0 = .ok (.aload_n 0, 1) := by decide +kernel
theorem dX7_letter_1 : decode cX7_letter 1 = .ok (.getfield 42, 3) := by decide +kernel
theorem dX7_letter_4 : decode cX7_letter 4 = .ok (.iload_n 1, 1) := by decide +kernel
theorem dX7_letter_5 : decode cX7_letter 5 = .ok (.iload_n 2, 1) := by decide +kernel
theorem dX7_letter_6 : decode cX7_letter 6 = .ok (.iload_n 3, 1) := by decide +kernel
theorem dX7_letter_7 : decode cX7_letter 7 = .ok (.invokevirtual 83, 3) := by decide +kernel
theorem dX7_letter_10 : decode cX7_letter 10 = .ok (.ireturn, 1) := by decide +kernel
set_option maxRecDepth 20000 in
theorem ggX7_different_X6_stemKinds : GoodIn wsX7_different wsX6_stemKinds := goodIn_r _ [6, 7, 12, 13, 14, 15, 16, 17, 18, 19, 20, 21, 22, 23, 24, 25, 26] (by decide +kernel) (by decide +kernel)
set_option maxRecDepth 20000 in
theorem gX7_different_X6_stemKinds : GoodIn wsX7_different (wsV RX7 87 RX6 yX6_stemKinds wsX6_stemKinds) := goodIn_app (goodIn_of _ (by decide +kernel)) ggX7_different_X6_stemKinds
theorem dX7_different_0 : decode cX7_different 0 = .ok (.aload_n 0, 1) := by decide +kernel
theorem dX7_different_1 : decode cX7_different 1 = .ok (.getfield 42, 3) := by decide +kernel
theorem dX7_different_4 : decode cX7_different 4 = .ok (.invokevirtual 87, 3) := by decide +kernel
theorem dX7_different_7 : decode cX7_different 7 = .ok (.ireturn, 1) := by decide +kernel
set_option maxRecDepth 20000 in
theorem ggX7_often_X6_timesOfStem : GoodIn wsX7_often wsX6_timesOfStem := goodIn_r _ [6, 7, 8, 9, 10, 11, 5, 12, 13, 14, 15, 16, 17, 18, 19, 20, 21, 22, 23, 24, 25, 26, 27, 32, 33, 34, 35, 36, 37, 38, 39, 40, 41, 42, 43, 44, 45, 46] (by decide +kernel) (by decide +kernel)
set_option maxRecDepth 20000 in
theorem gX7_often_X6_timesOfStem : GoodIn wsX7_often (wsV RX7 90 RX6 yX6_timesOfStem wsX6_timesOfStem) := goodIn_app (goodIn_of _ (by decide +kernel)) ggX7_often_X6_timesOfStem
theorem dX7_often_0 : decode cX7_often 0 = .ok (.aload_n 0, 1) := by decide +kernel
theorem dX7_often_1 : decode cX7_often 1 = .ok (.getfield 42, 3) := by decide +kernel
theorem dX7_often_4 : decode cX7_often 4 = .ok (.iload_n 1, 1) := by decide +kernel
theorem dX7_often_5 : decode cX7_often 5 = .ok (.invokevirtual 90, 3) := by decide +kernel
theorem dX7_often_8 : decode cX7_often 8 = .ok (.ireturn, 1) := by decide +kernel
